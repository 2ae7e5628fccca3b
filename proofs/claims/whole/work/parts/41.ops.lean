theorem by_id {x : Int32} (h1 : -128 ≤ x) (h2 : x ≤ 127) : x.toInt8.toInt32 = x := by
  have a := Int32.le_iff_toInt_le.mp h1
  have b := Int32.le_iff_toInt_le.mp h2
  have a2 : (-128 : Int32).toInt = -128 := rfl
  have b2 : (127 : Int32).toInt = 127 := rfl
  rw [← Int32.toInt_inj, Int8.toInt_toInt32, Int32.toInt_toInt8]
  rw [a2] at a
  rw [b2] at b
  show x.toInt.bmod 256 = x.toInt
  rw [Int.bmod_def]
  split <;> omega
theorem op_letter {c : Nat} {P : XP} {S : XS} {T : MS} (h : RR c P S T) (a : Int32) : ∃ r S' T', f_X9_letter P S a = some (r, S') ∧ f_X10_letter T a = some (r, T') ∧ RR (c + 1) P S' T' := by
  obtain ⟨hok, hk, hm, hg, ht, hi, hc, hp⟩ := id h
  obtain ⟨g1, ⟨g2, g3⟩, g4⟩ := id hg
  unfold f_X9_letter f_X10_letter f_X3_write
  rw [g1]
  by_cases c1 : a < 32
  · rw [if_pos c1, if_pos (within_0.mpr (by grind))]
    exact ⟨_, _, _, rfl, rfl, h.mono (by omega)⟩
  rw [if_neg c1]
  by_cases c2 : a ≤ 126
  · rw [if_pos c2, if_neg (fun q => within_0.mp q (by grind)), if_neg (by grind)]
    by_cases c3 : mI T 18 = 21
    · rw [if_neg (by grind), if_pos c3]
      exact ⟨_, _, _, rfl, rfl, h.mono (by omega)⟩
    · rw [if_pos (by grind), if_neg c3]
      have hin : vp_in (mI T 18) 21 := in_of_lt (c := 21) (by grind) (by grind) rfl
      rw [gd_in hin, gd_in hin]
      have e1 : a.toInt8.toInt32 = a := by_id (by grind) (by grind)
      rw [e1, e1]
      refine ⟨mI T 18 + 1, xsI (xsA S 2 (mI T 18).toNatClampNeg a) 20 (mI T 18 + 1), msI (msA T 19 (mI T 18).toNatClampNeg a) 18 (mI T 18 + 1), ?_, rfl, ?_⟩
      · rw [Option.bind_some, if_neg (show ¬ (1 : Int32) = 0 by decide)]
        simp only [xI_xsI, xI_xsA, if_true, g1]
      refine ⟨hok, hk, hm, ⟨rfl, ⟨?_, ?_⟩, ?_⟩, ht, hi, hc.mono (by omega), hp⟩
      · simp only [mI_msI, mI_msA, if_true]
        grind
      · simp only [mI_msI, mI_msA, if_true]
        grind
      · intro j
        simp only [xA_xsI, xA_xsA, mA_msI, mA_msA, upd_at, if_true]
        have := g4 j
        split
        · exact ⟨rfl, by grind, by grind⟩
        · exact this
  · rw [if_neg c2, if_pos (within_0.mpr (by grind))]
    exact ⟨_, _, _, rfl, rfl, h.mono (by omega)⟩
theorem op_blank {c : Nat} {P : XP} {S : XS} {T : MS} (h : RR c P S T) : (f_X9_blank P S).1 = (f_X10_blank T).1 ∧ RR (c + 1) P (f_X9_blank P S).2 (f_X10_blank T).2 := by
  obtain ⟨hok, hk, hm, hg, ht, hi, hc, hp⟩ := id h
  refine ⟨hg.1, hok, hk, hm, ⟨rfl, ⟨show (0 : Int32) ≤ 0 by decide, show (0 : Int32) ≤ 21 by decide⟩, hg.2.2⟩, ht, hi, hc.mono (by omega), hp⟩
theorem op_forget {c : Nat} {P : XP} {S : XS} {T : MS} (h : RR c P S T) : (f_X9_forget P S).1 = (f_X10_forget T).1 ∧ RR (c + 1) P (f_X9_forget P S).2 (f_X10_forget T).2 := by
  obtain ⟨hok, hk, hm, hg, ht, hi, hc, hp⟩ := id h
  refine ⟨ht.1, hok, hk, hm, hg, ⟨rfl, ⟨show (0 : Int32) ≤ 0 by decide, show (0 : Int32) ≤ 6 by decide⟩, ht.2.2⟩, hi, hc.mono (by omega), hp⟩
/-! ===== a pot's numbers on both sides ===== -/
theorem mp_boils {T : MS} {j : Nat} (h4 : j < 4) : f_X10_boils T (nI j) = if mA T 9 j = -1 then some 0 else some 1 := by
  unfold f_X10_boils
  rw [gd4 h4, nIc h4]
theorem mp_due {T : MS} {j : Nat} (h4 : j < 4) : f_X10_dueOf T (nI j) = some (mA T 9 j + mA T 5 j) := by
  unfold f_X10_dueOf
  rw [gd4 h4, gd4 h4, nIc h4]
theorem mp_keeps {P : XP} {T : MS} {j : Nat} (hok : xOK P) (hj : j < P.1) (h4 : j < 4) (e : kd (P.2.2.1 j) = mA T 4 j) : f_X10_keepsOf T (nI j) = some (kp (P.2.2.1 j)) := by
  unfold f_X10_keepsOf
  rw [gd4 h4, nIc h4, ← e]
  exact (kd_kp _ (hok.1 j hj)).1
theorem mp_out {P : XP} {S : XS} {T : MS} {j : Nat} (hok : xOK P) (hp : Rp P S T) (hj : j < P.1) (h4 : j < 4) {t : Int32} (t0 : -4 ≤ t) (t1 : t ≤ 5000) (hb : ¬ mA T 9 j = -1) : f_X10_outAt T (nI j) t = some (f_X5_outAt P S j t) := by
  obtain ⟨e1, e2, ⟨e3, e4⟩, e5, ⟨e6, e7⟩, -⟩ := hp j hj
  unfold f_X10_outAt f_X5_outAt f_X5_due
  rw [mp_due h4, mp_keeps hok hj h4 e1]
  have k := (kd_kp _ (hok.1 j hj)).2.1
  rw [Option.bind_some, Option.bind_some, out_eq t0 t1 (by grind) (by grind) k.1 k.2, e5, e2]
theorem xb_eq {P : XP} {S : XS} {T : MS} {j : Nat} (hp : Rp P S T) (hj : j < P.1) : f_X5_boils P S j = if mA T 9 j = -1 then 0 else 1 := by
  unfold f_X5_boils
  rw [(hp j hj).2.2.2.1]
theorem op_about {c : Nat} {P : XP} {S : XS} {T : MS} (h : RR c P S T) (a b : Int32) : f_X10_about T a b = some (f_X9_about P S a b) := by
  obtain ⟨hok, hk, hm, hg, ht, hi, hc, hp⟩ := id h
  unfold f_X10_about f_X9_about
  rcases pot_cases hk a with ⟨e1, e2⟩ | ⟨j, hj, h4, rfl, e1, e2⟩
  · rw [e1, if_pos e2]
    rfl
  rw [e1, if_neg e2]
  obtain ⟨p1, p2, p3, p4, p5, p6, p7⟩ := hp j hj
  show (if f_X10_within b 0 7 = 0 then some (-102) else _) = some _
  unfold pm f_X10_potNow
  dsimp only
  simp only [gd4 h4, nIc h4, mp_boils h4, mp_due h4, mp_keeps hok hj h4 p1, xb_eq hp hj, Option.bind_some, p1, p2, p4, p6, p7, f_X5_due]
  by_cases b0 : b = 0
  · subst b0
    rfl
  by_cases b1 : b = 1
  · subst b1
    rfl
  by_cases b2 : b = 2
  · subst b2
    rfl
  by_cases b3 : b = 3
  · subst b3
    rfl
  by_cases b4 : b = 4
  · subst b4
    rw [if_neg (by decide)]
    by_cases q : mA T 9 j = -1
    · simp [q]
    · simp [q]
  by_cases b5 : b = 5
  · subst b5
    rw [if_neg (by decide)]
    by_cases q : mA T 9 j = -1
    · simp [q]
    · have hm1 := hm.2.1
      have := mp_out hok hp hj h4 (t := mI T 6) (by grind) (by grind) q
      simp [q, this, hm.1]
  by_cases b6 : b = 6
  · subst b6
    rfl
  by_cases b7 : b = 7
  · subst b7
    rfl
  simp only [b0, b1, b2, b3, b4, b5, b6, b7, if_false]
  rw [if_pos (within_0.mpr (by grind))]
