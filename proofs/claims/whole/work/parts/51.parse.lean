section RD
variable {P : XP} {S : XS} {T : MS} {c : Nat → Int32} {sz : Nat} {fu : Nat}
def pOK (c : Nat → Int32) (j : Nat) : Prop := ¬ f_X3_kindOf (c (4 * j)) = -1 ∧ (48 ≤ c (4 * j + 1) ∧ c (4 * j + 1) ≤ 52) ∧ ¬ f_X3_fitsSecondDigit (c (4 * j + 1)) (c (4 * j + 2)) 52 = 0
theorem pOK59 {j : Nat} (h : pOK c j) : ¬ c (4 * j) = 59 ∧ ¬ c (4 * j + 1) = 59 ∧ ¬ c (4 * j + 2) = 59 := by
  obtain ⟨h1, h2, h3⟩ := h
  have := fsd_rng h3
  exact ⟨kind59 h1, by grind, by grind⟩
theorem rt_eq (h : mI T 18 = nI sz) (hs : sz ≤ 21) (hc : ∀ j, mA T 19 j = c j) {k : Nat} (hk : k < 100) {M hi : Int32} (hM : (M = 40 ∧ hi = 52) ∨ (M = 60 ∧ hi = 54)) : f_X10_readTwo T (nI k) M = some (nI (if k < sz ∧ 48 ≤ c k ∧ c k ≤ hi then (if k + 1 < sz ∧ ¬ f_X3_fitsSecondDigit (c k) (c (k + 1)) hi = 0 then k + 2 else k + 1) else k)) := by
  have hd : M / 10 = hi - 48 := by rcases hM with ⟨rfl, rfl⟩ | ⟨rfl, rfl⟩ <;> decide
  have hr : hi = 52 ∨ hi = 54 := by rcases hM with ⟨_, h⟩ | ⟨_, h⟩ <;> simp [h]
  have hm : M = 10 * (hi - 48) := by rcases hM with ⟨rfl, rfl⟩ | ⟨rfl, rfl⟩ <;> decide
  have n1 : nI k + 1 = nI (k + 1) := nI_1 k
  have n2 : nI k + 2 = nI (k + 2) := nI_add k 2
  unfold f_X10_readTwo
  rw [n1, n2, hd]
  by_cases q : k < sz
  · rw [fig_in h hs hc q, Option.bind_some]
    by_cases q1 : 48 ≤ c k ∧ c k ≤ 57
    · rw [if_pos q1, if_neg (by grind)]
      by_cases q2 : c k ≤ hi
      · rw [if_pos (show c k - 48 ≤ hi - 48 by grind), if_pos (show k < sz ∧ 48 ≤ c k ∧ c k ≤ hi from ⟨q, q1.1, q2⟩)]
        by_cases q3 : k + 1 < sz
        · rw [fig_in h hs hc q3, Option.bind_some]
          by_cases q4 : 48 ≤ c (k + 1) ∧ c (k + 1) ≤ 57
          · rw [if_pos q4, if_neg (by grind)]
            by_cases q5 : f_X3_fitsSecondDigit (c k) (c (k + 1)) hi = 0
            · rw [if_neg (show ¬ (k + 1 < sz ∧ ¬ f_X3_fitsSecondDigit (c k) (c (k + 1)) hi = 0) from fun z => z.2 q5)]
              unfold f_X3_fitsSecondDigit at q5
              by_cases q6 : 10 * (c k - 48) + (c (k + 1) - 48) < 1
              · rw [if_pos q6]
              · rw [if_neg q6]
                have : M < 10 * (c k - 48) + (c (k + 1) - 48) := by
                  rcases hr with rfl | rfl
                  · rw [hm]
                    split at q5
                    · split at q5
                      · grind
                      · grind
                    · split at q5
                      · split at q5
                        · grind
                        · split at q5 <;> grind
                      · split at q5
                        · grind
                        · split at q5 <;> grind
                  · rw [hm]
                    split at q5
                    · split at q5
                      · grind
                      · grind
                    · split at q5
                      · split at q5
                        · grind
                        · split at q5 <;> grind
                      · split at q5
                        · grind
                        · split at q5 <;> grind
                rw [if_pos this]
            · rw [if_pos (show k + 1 < sz ∧ ¬ f_X3_fitsSecondDigit (c k) (c (k + 1)) hi = 0 from ⟨q3, q5⟩)]
              unfold f_X3_fitsSecondDigit at q5
              have a1 : ¬ 10 * (c k - 48) + (c (k + 1) - 48) < 1 := by
                rcases hr with rfl | rfl
                · split at q5
                  · grind
                  · split at q5
                    · split at q5
                      · grind
                      · grind
                    · grind
                · split at q5
                  · grind
                  · split at q5
                    · split at q5
                      · grind
                      · grind
                    · grind
              have a2 : ¬ M < 10 * (c k - 48) + (c (k + 1) - 48) := by
                rcases hr with rfl | rfl
                · rw [hm]
                  split at q5
                  · split at q5 <;> grind
                  · grind
                · rw [hm]
                  split at q5
                  · split at q5 <;> grind
                  · grind
              rw [if_neg a1, if_neg a2]
          · rw [if_neg q4, if_pos rfl, if_neg (show ¬ (k + 1 < sz ∧ ¬ f_X3_fitsSecondDigit (c k) (c (k + 1)) hi = 0) from fun z => q4 (fsd_rng z.2))]
        · rw [fig_out h hs (by omega) (by omega), Option.bind_some, if_pos rfl, if_neg (show ¬ (k + 1 < sz ∧ ¬ f_X3_fitsSecondDigit (c k) (c (k + 1)) hi = 0) from fun z => q3 z.1)]
      · rw [if_neg (show ¬ c k - 48 ≤ hi - 48 by grind), if_neg (show ¬ (k < sz ∧ 48 ≤ c k ∧ c k ≤ hi) from fun z => q2 z.2.2)]
    · rw [if_neg q1, if_pos rfl, if_neg (show ¬ (k < sz ∧ 48 ≤ c k ∧ c k ≤ hi) from by rcases hr with rfl | rfl <;> grind)]
  · rw [fig_out h hs (by omega) (by omega), Option.bind_some, if_pos rfl, if_neg (show ¬ (k < sz ∧ 48 ≤ c k ∧ c k ≤ hi) from fun z => q z.1)]
end RD
