/-! ===== the page: c its codes, sz how many ===== -/
def Pg (P : XP) (S : XS) (T : MS) (c : Nat → Int32) (sz : Nat) : Prop := sz ≤ 21 ∧ xI S 20 = nI sz ∧ mI T 18 = nI sz ∧ (∀ j, xA S 2 j = c j) ∧ (∀ j, mA T 19 j = c j) ∧ ∀ j, 0 ≤ c j ∧ c j ≤ 126
theorem code_in {P : XP} {S : XS} {T : MS} {c : Nat → Int32} {sz : Nat} (h : Pg P S T c sz) {j : Nat} (hj : j < sz) : f_X3_codeAt P S (nI j) = some (c j) := by
  obtain ⟨h1, h2, h3, h4, h5, h6⟩ := h
  unfold f_X3_codeAt
  rw [h2, if_neg (nI_pos (by omega)), if_neg (nI_ge hj (by omega)), if_neg (show ¬ (21 : Int32) ≤ nI j from nI_ge (b := 21) (by omega) (by omega)), gd_in (vp_in_nI (by omega) (by decide)), nI_clamp (by omega), h4]
theorem rem4 {p : Nat} (hp : p < 1000) : nI p - nI p / 4 * 4 = nI (p % 4) := pk_rem (a := p) (d := 4) (by omega) (by decide) (by decide)
theorem nI_dec {a b : Nat} (ha : a < 2 ^ 31) (hb : b < 2 ^ 31) (h : a ≠ b) : ¬ nI a = nI b := fun e => h ((nI_eq ha hb).mp e)
theorem kind59 {x : Int32} (h : ¬ f_X3_kindOf x = -1) : ¬ x = 59 := by
  intro e
  subst e
  exact h (by decide)
theorem fsd_rng {a b hi : Int32} (h : ¬ f_X3_fitsSecondDigit a b hi = 0) : 48 ≤ b ∧ b ≤ 57 := by
  unfold f_X3_fitsSecondDigit at h
  split at h
  · split at h
    · grind
    · exact absurd rfl h
  · split at h
    · split at h
      · exact absurd rfl h
      · split at h
        · exact absurd rfl h
        · grind
    · split at h
      · exact absurd rfl h
      · split at h
        · exact absurd rfl h
        · grind
section XF
variable {P : XP} {S : XS} {T : MS} {c : Nat → Int32} {sz : Nat} {fu n : Nat}
theorem xf_out (h : Pg P S T c sz) {p : Nat} (hp : sz ≤ p) (hp2 : p < 1000) (e : Int32) : f_X3_faultPlace_L4 fu P (n + 1) e (nI p) S = some (nI sz) := by
  rw [f_X3_faultPlace_L4, h.2.1, if_pos (nI_le hp (by omega))]
theorem xf_0 (h : Pg P S T c sz) {m : Nat} (hm : m < 6) (hp : 4 * m < sz) : f_X3_faultPlace_L4 fu P (n + 1) (-1) (nI (4 * m)) S = if f_X3_kindOf (c (4 * m)) = -1 then some (nI (4 * m)) else f_X3_faultPlace_L4 fu P n (-1) (nI (4 * m + 1)) S := by
  rw [f_X3_faultPlace_L4, h.2.1, if_neg (nI_ge hp (by have := h.1; omega)), if_pos rfl]
  unfold f_X3_fitsPots
  rw [code_in h hp, Option.bind_some, Option.bind_some, rem4 (by omega), show 4 * m % 4 = 0 by omega, if_pos (show nI 0 = 0 from rfl)]
  by_cases q : f_X3_kindOf (c (4 * m)) = -1
  · rw [if_pos q, if_pos q]
    rfl
  · rw [if_neg q, if_neg q, Option.bind_some, if_neg (by decide), if_neg (kind59 q), nI_1]
theorem xf_1 (h : Pg P S T c sz) {m : Nat} (hm : m < 6) (hp : 4 * m + 1 < sz) : f_X3_faultPlace_L4 fu P (n + 1) (-1) (nI (4 * m + 1)) S = if 48 ≤ c (4 * m + 1) ∧ c (4 * m + 1) ≤ 52 then f_X3_faultPlace_L4 fu P n (-1) (nI (4 * m + 2)) S else some (nI (4 * m + 1)) := by
  rw [f_X3_faultPlace_L4, h.2.1, if_neg (nI_ge hp (by have := h.1; omega)), if_pos rfl]
  unfold f_X3_fitsPots
  rw [code_in h hp, Option.bind_some, Option.bind_some, rem4 (by omega), show (4 * m + 1) % 4 = 1 by omega, if_neg (show ¬ nI 1 = 0 by decide), if_pos (show nI 1 = 1 from rfl)]
  by_cases q : 48 ≤ c (4 * m + 1) ∧ c (4 * m + 1) ≤ 52
  · rw [if_pos q, if_neg (by grind), if_neg (by grind), Option.bind_some, if_neg (by decide), if_neg (by grind), nI_1]
  · rw [if_neg q]
    by_cases q2 : c (4 * m + 1) < 48
    · rw [if_pos q2]
      rfl
    · rw [if_neg q2, if_pos (by grind)]
      rfl
theorem xf_2 (h : Pg P S T c sz) {m : Nat} (hm : m < 6) (hp : 4 * m + 2 < sz) : f_X3_faultPlace_L4 fu P (n + 1) (-1) (nI (4 * m + 2)) S = if f_X3_fitsSecondDigit (c (4 * m + 1)) (c (4 * m + 2)) 52 = 0 then some (nI (4 * m + 2)) else f_X3_faultPlace_L4 fu P n (-1) (nI (4 * m + 3)) S := by
  have e1 : nI (4 * m + 2) - 1 = nI (4 * m + 1) := nI_pred (4 * m + 1)
  rw [f_X3_faultPlace_L4, h.2.1, if_neg (nI_ge hp (by have := h.1; omega)), if_pos rfl]
  unfold f_X3_fitsPots
  rw [code_in h hp, Option.bind_some, Option.bind_some, rem4 (by omega), show (4 * m + 2) % 4 = 2 by omega, if_neg (show ¬ nI 2 = 0 by decide), if_neg (show ¬ nI 2 = 1 by decide), if_pos (show nI 2 = 2 from rfl), e1, code_in h (by omega), Option.bind_some, Option.bind_some]
  by_cases q : f_X3_fitsSecondDigit (c (4 * m + 1)) (c (4 * m + 2)) 52 = 0
  · rw [if_pos q, if_pos q]
  · have := fsd_rng q
    rw [if_neg q, if_neg q, if_neg (by grind), nI_1]
theorem xf_3 (h : Pg P S T c sz) {m : Nat} (hm : m < 4) (hp : 4 * m + 3 < sz) : f_X3_faultPlace_L4 fu P (n + 1) (-1) (nI (4 * m + 3)) S = if c (4 * m + 3) = 44 ∧ m < 3 then f_X3_faultPlace_L4 fu P n (-1) (nI (4 * m + 4)) S else if c (4 * m + 3) = 59 ∧ 1 ≤ m then f_X3_faultPlace_L4 fu P n (nI (4 * m + 3)) (nI (4 * m + 4)) S else some (nI (4 * m + 3)) := by
  have a1 : nI (4 * m + 3) < 15 ↔ m < 3 := by
    rw [show (15 : Int32) = nI 15 from rfl, nI_ltI (by omega) (by decide)]
    omega
  have a2 : nI (4 * m + 3) < 7 ↔ ¬ 1 ≤ m := by
    rw [show (7 : Int32) = nI 7 from rfl, nI_ltI (by omega) (by decide)]
    omega
  rw [f_X3_faultPlace_L4, h.2.1, if_neg (nI_ge hp (by have := h.1; omega)), if_pos rfl]
  unfold f_X3_fitsPots
  rw [code_in h hp, Option.bind_some, Option.bind_some, rem4 (by omega), show (4 * m + 3) % 4 = 3 by omega, if_neg (by decide), if_neg (by decide), if_neg (by decide), nI_1]
  by_cases q : c (4 * m + 3) = 44
  · have q0 : ¬ c (4 * m + 3) = 59 := by rw [q]; decide
    by_cases q2 : m < 3
    · have q3 : nI (4 * m + 3) < 15 := a1.mpr q2
      simp only [q, q2, q3, if_true, and_self, Option.bind_some]
      rfl
    · have q3 : ¬ nI (4 * m + 3) < 15 := fun z => q2 (a1.mp z)
      simp only [q, q2, q3, if_true, if_false, and_false, Option.bind_some]
      rfl
  · by_cases q3 : c (4 * m + 3) = 59
    · by_cases q4 : 1 ≤ m
      · have q5 : ¬ nI (4 * m + 3) < 7 := fun z => a2.mp z q4
        simp only [q3, q4, q5, if_true, if_false, and_self, Option.bind_some]
        rfl
      · have q5 : nI (4 * m + 3) < 7 := a2.mpr q4
        simp only [q3, q4, q5, if_true, if_false, and_false, Option.bind_some]
        rfl
    · simp only [q, q3, if_false, false_and, Option.bind_some, if_true]
theorem xe_n (h : Pg P S T c sz) {e b : Nat} (he : e < 100) (hb : b < 100) (hp : e + b < sz) : f_X3_faultPlace_L4 fu P (n + 1) (nI e) (nI (e + b)) S = (f_X3_fitsEnd P S (nI (e + b)) (nI b)).bind fun r4 => if r4 = 0 then some (nI (e + b)) else if c (e + b) = 59 then f_X3_faultPlace_L4 fu P n (nI (e + b)) (nI (e + b + 1)) S else f_X3_faultPlace_L4 fu P n (nI e) (nI (e + b + 1)) S := by
  have e1 : nI (e + b) - nI e = nI b := by
    rw [pk_sub (by omega)]
    congr 1
    omega
  have e2 : ¬ nI e = -1 := by
    intro z
    have := nI_pos' (n := e) (by omega)
    grind
  rw [f_X3_faultPlace_L4, h.2.1, if_neg (nI_ge hp (by have := h.1; omega)), if_neg e2, e1, code_in h hp, nI_1]
  simp only [Option.bind_some]
theorem xe_1 (h : Pg P S T c sz) {e : Nat} (he : e < 20) (hp : e + 1 < sz) : f_X3_faultPlace_L4 fu P (n + 1) (nI e) (nI (e + 1)) S = if 48 ≤ c (e + 1) ∧ c (e + 1) ≤ 54 then f_X3_faultPlace_L4 fu P n (nI e) (nI (e + 2)) S else some (nI (e + 1)) := by
  rw [xe_n h (by omega) (by omega) hp]
  unfold f_X3_fitsEnd
  rw [code_in h hp, Option.bind_some, if_pos (show nI 1 = 1 from rfl)]
  by_cases q : 48 ≤ c (e + 1) ∧ c (e + 1) ≤ 54
  · rw [if_pos q, if_neg (by grind), if_neg (by grind), Option.bind_some, if_neg (by decide), if_neg (by grind)]
  · rw [if_neg q]
    by_cases q2 : c (e + 1) < 48
    · rw [if_pos q2]
      rfl
    · rw [if_neg q2, if_pos (by grind)]
      rfl
theorem xe_2 (h : Pg P S T c sz) {e : Nat} (he : e < 20) (hp : e + 2 < sz) : f_X3_faultPlace_L4 fu P (n + 1) (nI e) (nI (e + 2)) S = if f_X3_fitsSecondDigit (c (e + 1)) (c (e + 2)) 54 = 0 then some (nI (e + 2)) else f_X3_faultPlace_L4 fu P n (nI e) (nI (e + 3)) S := by
  have e1 : nI (e + 2) - 1 = nI (e + 1) := nI_pred (e + 1)
  rw [xe_n h (by omega) (by omega) hp]
  unfold f_X3_fitsEnd
  rw [code_in h hp, Option.bind_some, if_neg (show ¬ nI 2 = 1 by decide), if_pos (show nI 2 = 2 from rfl), e1, code_in h (by omega), Option.bind_some, Option.bind_some]
  by_cases q : f_X3_fitsSecondDigit (c (e + 1)) (c (e + 2)) 54 = 0
  · rw [if_pos q, if_pos q]
  · have := fsd_rng q
    rw [if_neg q, if_neg q, if_neg (by grind)]
theorem xe_3 (h : Pg P S T c sz) {e : Nat} (he : e < 20) (hp : e + 3 < sz) : f_X3_faultPlace_L4 fu P (n + 1) (nI e) (nI (e + 3)) S = if 49 ≤ c (e + 3) ∧ c (e + 3) ≤ 52 then f_X3_faultPlace_L4 fu P n (nI e) (nI (e + 4)) S else some (nI (e + 3)) := by
  rw [xe_n h (by omega) (by omega) hp]
  unfold f_X3_fitsEnd
  rw [code_in h hp, Option.bind_some, if_neg (show ¬ nI 3 = 1 by decide), if_neg (show ¬ nI 3 = 2 by decide), if_pos (show nI 3 = 3 from rfl)]
  by_cases q : 49 ≤ c (e + 3) ∧ c (e + 3) ≤ 52
  · rw [if_pos q, if_neg (by grind), if_neg (by grind), Option.bind_some, if_neg (by decide), if_neg (by grind)]
  · rw [if_neg q]
    by_cases q2 : c (e + 3) < 49
    · rw [if_pos q2]
      rfl
    · rw [if_neg q2, if_pos (by grind)]
      rfl
theorem xe_4 (h : Pg P S T c sz) {e : Nat} (he : e < 20) (hp : e + 4 < sz) : f_X3_faultPlace_L4 fu P (n + 1) (nI e) (nI (e + 4)) S = some (nI (e + 4)) := by
  rw [xe_n h (by omega) (by omega) hp]
  unfold f_X3_fitsEnd
  rw [code_in h hp, Option.bind_some, if_neg (show ¬ nI 4 = 1 by decide), if_neg (show ¬ nI 4 = 2 by decide), if_neg (show ¬ nI 4 = 3 by decide)]
  rfl
/-! the reference -/
theorem fig_out (h : mI T 18 = nI sz) (hs : sz ≤ 21) {k : Nat} (hk : sz ≤ k) (hk2 : k < 1000) : f_X10_figure T (nI k) = some (-1) := by
  unfold f_X10_figure
  rw [h, if_pos (nI_le hk (by omega))]
theorem fig_in (h : mI T 18 = nI sz) (hs : sz ≤ 21) (hc : ∀ j, mA T 19 j = c j) {k : Nat} (hk : k < sz) : f_X10_figure T (nI k) = some (if 48 ≤ c k ∧ c k ≤ 57 then c k - 48 else -1) := by
  unfold f_X10_figure
  have hin : vp_in (nI k) 21 := vp_in_nI (by omega) (by decide)
  rw [h, if_neg (nI_ge hk (by omega)), gd_in hin, gd_in hin, nI_clamp (by omega), hc]
  by_cases q : 48 ≤ c k ∧ c k ≤ 57
  · rw [if_pos q, if_neg (fun z => within_0.mp z (by grind))]
  · have hh : -1000 ≤ c k → c k ≤ 1000 → f_X10_within (c k - 48) 0 9 = 0 := fun _ _ => within_0.mpr (by grind)
    rw [if_neg q]
    by_cases q1 : f_X10_within (c k - 48) 0 9 = 0
    · rw [if_pos q1]
    · exfalso
      have z : 0 ≤ c k - 48 ∧ c k - 48 ≤ 9 := by
        have := within_0 (a := c k - 48) (lo := 0) (hi := 9)
        grind
      exact q (by grind)
end XF
