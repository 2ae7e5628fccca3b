theorem op_take {c : Nat} {P : XP} {S : XS} {T : MS} (h : RR c P S T) (a : Int32) : ∃ r S' T', f_X9_take P S a = (r, S') ∧ f_X10_take T a = some (r, T') ∧ RR (c + 1) P S' T' := by
  obtain ⟨hok, hk, hm, hg, ht, hi, hc, hp⟩ := id h
  unfold f_X10_take f_X9_take
  rcases pot_cases hk a with ⟨e1, e2⟩ | ⟨j, hj, h4, rfl, e1, e2⟩
  · rw [e1, if_pos e2]
    exact ⟨_, _, _, rfl, rfl, h.mono (by omega)⟩
  rw [e1, if_neg e2, mp_boils h4]
  unfold pm
  dsimp only
  rw [xb_eq hp hj, hm.2.2.1]
  have hf := hm.2.2.2.1
  by_cases q : mA T 9 j = -1
  · rw [if_pos q, if_pos q, Option.bind_some, if_pos rfl, if_pos rfl]
    exact ⟨_, _, _, rfl, rfl, h.mono (by omega)⟩
  · rw [if_neg q, if_neg q, Option.bind_some]
    simp only [eq_false (show ¬ (1 : Int32) = 0 by decide), if_false]
    by_cases q2 : mI T 7 = 0
    · rw [if_pos q2, if_neg (by grind)]
      exact ⟨_, _, _, rfl, rfl, h.mono (by omega)⟩
    · have hm1 := hm.2.1
      rw [if_neg q2, if_pos (by grind), mp_out hok hp hj h4 (t := mI T 6) (by grind) (by grind) q, Option.bind_some, gd4 h4, gd4 h4, gd4 h4, gd4 h4, gd4 h4, nIc h4]
      refine ⟨f_X5_outAt P S j (mI T 6), f_X5_comeOut P (xsI S 10 (mI T 7 - 1)) j (mI T 6), msI (msA (msA (msA T 11 j (f_X5_outAt P S j (mI T 6))) 9 j (-1)) 10 j (mA T 10 j + 1)) 7 (mI T 7 - 1), ?_, ?_, hok, hk, ⟨hm.1, hm1, rfl, ⟨?_, ?_⟩, hm.2.2.2.2⟩, hg, ht, hi, hc.mono (by omega), ?_⟩
      · rw [xI_xsI, if_neg (by decide), hm.1]
        simp [f_X5_comeOut, xR_xsR, f_X5_outAt, f_X5_due, xR_xsI]
      · simp [mA_msA, mA_msI, mI_msA, upd_at]
      · simp only [mI_msI, mI_msA, if_true]
        grind
      · simp only [mI_msI, mI_msA, if_true]
        grind
      · intro i hi2
        obtain ⟨r1, r2, r3, r4, r5, r6, r7⟩ := hp i hi2
        refine ⟨r1, r2, r3, ?_, ?_, ?_, ?_⟩
        · show (if 1 = 1 ∧ i = j then (-1 : Int32) else xR S i 1) = (if i = j then -1 else mA T 9 i)
          simp only [true_and]
          split
          · rfl
          · exact r4
        · show -1 ≤ (if i = j then (-1 : Int32) else mA T 9 i) ∧ (if i = j then (-1 : Int32) else mA T 9 i) ≤ 999
          split
          · exact ⟨by decide, by decide⟩
          · exact r5
        · show (if 2 = 2 ∧ i = j then xR S j 2 + 1 else xR S i 2) = (if i = j then mA T 10 j + 1 else mA T 10 i)
          simp only [true_and]
          split
          · rename_i e
            subst e
            rw [r6]
          · exact r6
        · show (if 3 = 3 ∧ i = j then f_X5_outAt P (xsI S 10 (mI T 7 - 1)) j (mI T 6) else xR S i 3) = (if i = j then f_X5_outAt P S j (mI T 6) else mA T 11 i)
          simp only [true_and]
          split
          · rfl
          · exact r7
theorem op_tell {c : Nat} {P : XP} {S : XS} {T : MS} (h : RR c P S T) (a b : Int32) : ∃ r S' T', f_X9_tell P S a b = some (r, S') ∧ f_X10_tell T a b = some (r, T') ∧ RR (c + 1) P S' T' := by
  obtain ⟨hok, hk, hm, hg, ht, hi, hc, hp⟩ := id h
  unfold f_X10_tell f_X9_tell
  rcases pot_cases hk a with ⟨e1, e2⟩ | ⟨j, hj, h4, rfl, e1, e2⟩
  · rw [e1, if_pos e2]
    exact ⟨_, _, _, rfl, rfl, h.mono (by omega)⟩
  rw [e1, if_neg e2, mp_boils h4]
  unfold pm
  dsimp only
  rw [xb_eq hp hj]
  by_cases c1 : b < 50
  · rw [if_pos c1, if_pos (within_0.mpr (by grind))]
    exact ⟨_, _, _, rfl, rfl, h.mono (by omega)⟩
  rw [if_neg c1]
  by_cases c2 : b ≤ 199
  · rw [if_pos c2, if_neg (fun z => within_0.mp z (by grind))]
    by_cases q : mA T 9 j = -1
    · rw [if_pos q, if_pos q, Option.bind_some, if_pos rfl, if_pos rfl]
      exact ⟨_, _, _, rfl, rfl, h.mono (by omega)⟩
    rw [if_neg q, if_neg q, Option.bind_some, if_neg (by decide), if_neg (by decide)]
    unfold f_X8_add
    obtain ⟨t1, ⟨t2, t3⟩, t4⟩ := id ht
    simp only [xI_xsA, mI_msA]
    rw [t1]
    by_cases c3 : mI T 12 = 6
    · rw [if_pos c3, if_neg (by grind), if_neg (by grind)]
      exact ⟨_, _, _, rfl, rfl, h.mono (by omega)⟩
    · have hin : vp_in (mI T 12) 6 := in_of_lt (c := 6) (by grind) (by grind) rfl
      obtain ⟨p1, p2, p3, p4, p5, p6, p7⟩ := hp j hj
      rw [if_neg c3, if_neg (by grind), if_pos (by grind)]
      simp only [gd_in hin, Option.bind_some]
      rw [if_neg (by decide), mp_due h4, Option.bind_some, mp_keeps hok hj h4 (T := msA (msA T 13 (mI T 12).toNatClampNeg (mI T 6)) 14 (mI T 12).toNatClampNeg _) p1, Option.bind_some]
      have hkp := (kd_kp _ (hok.1 j hj)).2.1
      have hm1 := hm.2.1
      refine ⟨_, _, _, rfl, rfl, hok, hk, hm, hg, ⟨?_, ⟨?_, ?_⟩, ?_⟩, hi, hc.mono (by omega), hp⟩
      · simp only [xI_xsI, xI_xsA, mI_msI, mI_msA, if_true]
      · simp only [mI_msI, mI_msA, if_true]
        grind
      · simp only [mI_msI, mI_msA, if_true]
        grind
      · intro k
        obtain ⟨u1, u2, u3, u4, u5, u6⟩ := t4 k
        refine ⟨?_, ?_, ?_, ?_, ?_, ?_⟩
        · show (if k = (mI T 12).toNatClampNeg then f_X5_due P S j - xI S 9 else xA S 5 k) = (if k = (mI T 12).toNatClampNeg then _ else mA T 14 k) - (if k = (mI T 12).toNatClampNeg then mI T 6 else mA T 13 k)
          split
          · unfold f_X5_due
            rw [p4, p2, hm.1]
            rfl
          · exact u1
        · show (if k = (mI T 12).toNatClampNeg then kp (P.2.2.1 j) else xA S 6 k) = (if k = (mI T 12).toNatClampNeg then kp (P.2.2.1 j) else mA T 15 k)
          split
          · rfl
          · exact u2
        · show (if k = (mI T 12).toNatClampNeg then b else xA S 7 k) = (if k = (mI T 12).toNatClampNeg then b else mA T 16 k)
          split
          · rfl
          · exact u3
        · show 0 ≤ (if k = (mI T 12).toNatClampNeg then mI T 6 else mA T 13 k) ∧ (if k = (mI T 12).toNatClampNeg then mI T 6 else mA T 13 k) ≤ 999
          split
          · exact hm1
          · exact u4
        · show 0 ≤ (if k = (mI T 12).toNatClampNeg then mA T 9 j + mA T 5 j else mA T 14 k) ∧ (if k = (mI T 12).toNatClampNeg then mA T 9 j + mA T 5 j else mA T 14 k) ≤ 1039
          split
          · grind
          · exact u5
        · show 0 ≤ (if k = (mI T 12).toNatClampNeg then kp (P.2.2.1 j) else mA T 15 k) ∧ (if k = (mI T 12).toNatClampNeg then kp (P.2.2.1 j) else mA T 15 k) ≤ 9
          split
          · exact hkp
          · exact u6
  · rw [if_neg c2, if_pos (within_0.mpr (by grind))]
    exact ⟨_, _, _, rfl, rfl, h.mono (by omega)⟩
theorem sure_eq {P : XP} {S : XS} {T : MS} (hok : xOK P) (hm : Rm S T) (hp : Rp P S T) {j : Nat} (hj : j < P.1) (h4 : j < 4) (q : ¬ mA T 9 j = -1) {m : Int32} (m0 : 1 ≤ m) (m1 : m ≤ 60) (fu : Nat) (hfu : 4 ≤ fu) : f_X10_sureNow fu T (nI j) m = some (f_X5_sureAt P S j (xI S 9 + m)) := by
  obtain ⟨k, rfl⟩ : ∃ k, fu = k + 4 := ⟨fu - 4, by omega⟩
  have hm1 := hm.2.1
  have o1 := mp_out hok hp hj h4 (t := mI T 6 + (m - 1)) (by grind) (by grind) q
  have o2 := mp_out hok hp hj h4 (t := mI T 6 + m) (by grind) (by grind) q
  have o3 := mp_out hok hp hj h4 (t := mI T 6 + (m + 1)) (by grind) (by grind) q
  have a1 : m - 1 + 1 = m := by grind
  have a2 : mI T 6 + m - 1 = mI T 6 + (m - 1) := by grind
  have a3 : mI T 6 + m + 1 = mI T 6 + (m + 1) := by grind
  unfold f_X10_sureNow
  rw [f_X10_sureNow_L7, if_neg (by grind), o1, Option.bind_some]
  unfold f_X5_sureAt
  rw [hm.1, a2, a3]
  by_cases w1 : f_X5_outAt P S j (mI T 6 + (m - 1)) = 100 <;> by_cases w2 : f_X5_outAt P S j (mI T 6 + m) = 100 <;> by_cases w3 : f_X5_outAt P S j (mI T 6 + (m + 1)) = 100 <;>
    simp only [w1, w2, w3, if_true, if_false] <;>
    (try rw [if_neg (show ¬ m - 1 = m by grind)]) <;>
    rw [f_X10_sureNow_L7, if_neg (by grind), a1, o2, Option.bind_some] <;> simp only [w2, if_true, if_false] <;>
    rw [f_X10_sureNow_L7, if_neg (by grind), o3, Option.bind_some] <;> simp only [w3, if_true, if_false] <;>
    (try rw [if_neg (show ¬ m + 1 = m by grind)]) <;>
    rw [f_X10_sureNow_L7, if_pos (by grind)] <;> rfl
theorem op_sure {c : Nat} {P : XP} {S : XS} {T : MS} (h : RR c P S T) (a b : Int32) (fu : Nat) (hfu : 4 ≤ fu) : f_X10_sure fu T a b = some (f_X9_sure P S a b) := by
  obtain ⟨hok, hk, hm, hg, ht, hi, hc, hp⟩ := id h
  unfold f_X10_sure f_X9_sure
  rcases pot_cases hk a with ⟨e1, e2⟩ | ⟨j, hj, h4, rfl, e1, e2⟩
  · rw [e1, if_pos e2]
    rfl
  rw [e1, if_neg e2, mp_boils h4]
  unfold pm
  dsimp only
  rw [xb_eq hp hj, hk.2.2.2.1]
  have hs := hk.2.2.2.2.2.1
  by_cases c1 : b < 1
  · rw [if_pos c1, if_pos (within_0.mpr (by grind))]
  rw [if_neg c1]
  by_cases c2 : b ≤ mI T 2
  · rw [if_pos c2, if_neg (fun z => within_0.mp z (by grind))]
    by_cases q : mA T 9 j = -1
    · rw [if_pos q, if_pos q, Option.bind_some, if_pos rfl, if_pos rfl]
    · rw [if_neg q, if_neg q, Option.bind_some, if_neg (by decide), if_neg (by decide), sure_eq hok hm hp hj h4 q (by grind) (by grind) fu hfu]
      rfl
  · rw [if_neg c2, if_pos (within_0.mpr (by grind))]
