theorem op_as {c : Nat} {P : XP} {S : XS} {T : MS} (h : RR c P S T) (a b : Int32) : f_X10_as T a b = some (f_X9_as P S a b) := by
  obtain ⟨hok, hk, hm, hg, ht, hi, hc, hp⟩ := id h
  unfold f_X10_as f_X9_as
  rcases pot_cases hk a with ⟨e1, e2⟩ | ⟨j, hj, h4, rfl, e1, e2⟩
  · rw [e1, if_pos e2]
    rfl
  rw [e1, if_neg e2]
  obtain ⟨p1, -⟩ := hp j hj
  unfold pm
  dsimp only
  rw [gd4 h4, nIc h4, ← p1]
  unfold f_X9_isOfKind
  by_cases hb : 0 ≤ b ∧ b ≤ 4
  · obtain ⟨hb1, hb2⟩ := hb
    rcases hok.1 j hj with k | k | k | k | k <;> rw [k] <;> rcases (show b = 0 ∨ b = 1 ∨ b = 2 ∨ b = 3 ∨ b = 4 by grind) with rfl | rfl | rfl | rfl | rfl <;> rfl
  rw [if_pos (within_0.mpr hb)]
  by_cases q : b < 0
  · rw [if_pos q]
  · rw [if_neg q, if_neg (by grind)]
theorem op_boil {c : Nat} {P : XP} {S : XS} {T : MS} (h : RR c P S T) (a : Int32) : ∃ r S' T', f_X9_boil P S a = (r, S') ∧ f_X10_boil T a = some (r, T') ∧ RR (c + 1) P S' T' := by
  obtain ⟨hok, hk, hm, hg, ht, hi, hc, hp⟩ := id h
  unfold f_X10_boil f_X9_boil
  rcases pot_cases hk a with ⟨e1, e2⟩ | ⟨j, hj, h4, rfl, e1, e2⟩
  · rw [e1, if_pos e2]
    exact ⟨_, _, _, rfl, rfl, h.mono (by omega)⟩
  rw [e1, if_neg e2, mp_boils h4]
  unfold pm
  dsimp only
  rw [xb_eq hp hj]
  obtain ⟨p1, p2, p3, p4, p5, p6, p7⟩ := hp j hj
  by_cases q : mA T 9 j = -1
  · rw [if_pos q, if_pos q, Option.bind_some, if_pos rfl, if_pos rfl, gd4 h4, nIc h4, mp_due h4]
    refine ⟨mI T 6 + mA T 5 j, xsR S j 1 (xI S 9), msA T 9 j (mI T 6), ?_, ?_, hok, hk, hm, hg, ht, hi, hc.mono (by omega), ?_⟩
    · unfold f_X5_due
      simp [xR_xsR, hm.1, p2]
    · simp [mA_msA, upd_at]
    · intro i hi2
      obtain ⟨r1, r2, r3, r4, r5, r6, r7⟩ := hp i hi2
      refine ⟨r1, r2, r3, ?_, ?_, r6, r7⟩
      · simp only [xR_xsR, mA_msA, upd_at, true_and, if_true]
        split
        · exact hm.1
        · exact r4
      · simp only [mA_msA, upd_at, if_true]
        have hm1 := hm.2.1
        split
        · exact ⟨by grind, hm1.2⟩
        · exact r5
  · rw [if_neg q, if_neg q, Option.bind_some, if_neg (by decide), if_neg (by decide)]
    exact ⟨_, _, _, rfl, rfl, h.mono (by omega)⟩
theorem hasK {P : XP} {S : XS} {T : MS} (hk : Rk P S T) : (f_X9_hasKitchen P S = 0 ↔ P.1 = 0) ∧ (mI T 1 = 0 ↔ P.1 = 0) ∧ (mI T 1 ≤ 0 ↔ P.1 = 0) := by
  obtain ⟨h4, h6, h1, -⟩ := hk
  unfold f_X9_hasKitchen
  rw [h6, h1]
  have e : nI P.1 ≤ 0 ↔ P.1 = 0 := by
    rw [← nI_0, nI_leI (by omega) (by omega)]
    omega
  have e2 : nI P.1 = 0 ↔ P.1 = 0 := by
    rw [← nI_0, nI_eq (by omega) (by omega)]
  refine ⟨?_, e2, e⟩
  by_cases q : P.1 = 0
  · rw [if_pos (e.mpr q)]
    simp [q]
  · rw [if_neg (fun z => q (e.mp z))]
    simp [q]
theorem op_wind {c : Nat} {P : XP} {S : XS} {T : MS} (h : RR c P S T) (a : Int32) : (f_X9_wind P S a).1 = (f_X10_wind T a).1 ∧ RR (c + 1) P (f_X9_wind P S a).2 (f_X10_wind T a).2 := by
  obtain ⟨hok, hk, hm, hg, ht, hi, hc, hp⟩ := id h
  obtain ⟨q1, q2, q3⟩ := hasK hk
  unfold f_X9_wind f_X10_wind
  have hsame := h.mono (show c ≤ c + 1 by omega)
  by_cases n0 : P.1 = 0
  · rw [if_pos (q2.mpr n0)]
    simp only [if_pos (q1.mpr n0), if_pos (q2.mpr n0)]
    by_cases c1 : a < 1
    · rw [if_pos c1, if_pos (within_0.mpr (by grind))]
      exact ⟨rfl, hsame⟩
    · rw [if_neg c1]
      by_cases c2 : a ≤ 60
      · rw [if_pos c2, if_neg (fun z => within_0.mp z (by grind))]
        exact ⟨rfl, hsame⟩
      · rw [if_neg c2, if_pos (within_0.mpr (by grind))]
        exact ⟨rfl, hsame⟩
  · rw [if_neg (fun z => n0 (q2.mp z))]
    simp only [if_neg (fun z => n0 (q1.mp z)), if_neg (fun z => n0 (q2.mp z))]
    by_cases c1 : a < 1
    · rw [if_pos c1, if_pos (within_0.mpr (by grind))]
      exact ⟨rfl, hsame⟩
    · rw [if_neg c1]
      have e7 := hk.2.2.2.1
      have e8 := hk.2.2.2.2.1
      by_cases c2 : a ≤ mI T 2
      · rw [e7, if_pos c2, if_neg (fun z => within_0.mp z (by grind)), hm.1]
        by_cases c3 : mI T 6 + a ≤ 999
        · rw [if_pos c3, if_pos c3]
          have hh := hk.2.2.2.2.2.2.1
          have hs := hk.2.2.2.2.2.1
          have hm1 := hm.2.1
          refine ⟨rfl, hok, hk, ⟨rfl, ⟨?_, ?_⟩, ?_, ?_, ?_⟩, hg, ht, hi, hc.mono (by omega), hp⟩
          · simp only [mI_msI]
            grind
          · simp only [mI_msI]
            grind
          · simp only [xI_xsI, mI_msI]
            exact e8
          · simp only [mI_msI]
            exact hh
          · simp only [xI_xsI, mI_msI]
            simp [hm.2.2.2.2]
        · rw [if_neg c3, if_neg c3]
          exact ⟨rfl, hsame⟩
      · rw [e7, if_neg c2, if_pos (within_0.mpr (by grind))]
        exact ⟨rfl, hsame⟩
theorem op_together {c : Nat} {P : XP} {S : XS} {T : MS} (h : RR c P S T) (a b : Int32) : f_X10_together T a b = some (f_X9_together P S a b) := by
  obtain ⟨hok, hk, hm, hg, ht, hi, hc, hp⟩ := id h
  unfold f_X10_together f_X9_together f_X10_togetherNow
  rcases pot_cases hk a with ⟨e1, e2⟩ | ⟨j, hj, h4, rfl, e1, e2⟩
  · rw [e1, if_pos e2]
    rfl
  rw [e1, if_neg e2]
  obtain ⟨p1, p2, -⟩ := hp j hj
  unfold pm
  dsimp only
  rw [gd4 h4, gd4 h4, nIc h4, p2, hm.1]
  by_cases c1 : b < 0
  · rw [if_pos c1, if_pos (within_0.mpr (by grind))]
  rw [if_neg c1]
  by_cases c2 : b ≤ 1200
  · rw [if_pos c2, if_neg (fun z => within_0.mp z (by grind))]
    by_cases c3 : b - mA T 5 j < mI T 6
    · rw [if_pos c3, if_neg (by grind)]
      rfl
    · rw [if_neg c3, if_pos (by grind)]
      rfl
  · rw [if_neg c2, if_pos (within_0.mpr (by grind))]
