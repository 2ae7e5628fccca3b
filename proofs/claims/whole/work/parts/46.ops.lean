theorem op_image {c : Nat} {P : XP} {S : XS} {T : MS} (h : RR c P S T) {fu : Nat} (hfu : 2000 ≤ fu) : ∃ r S' T', f_X9_image fu P S = some (r, S') ∧ f_X10_image fu T = some (r, T') ∧ RR (c + 1) P S' T' := by
  obtain ⟨hok, hk, hm, hg, ht, hi, hc, hp⟩ := id h
  obtain ⟨q1, q2, q3⟩ := hasK hk
  unfold f_X9_image f_X10_image
  by_cases n0 : P.1 = 0
  · rw [if_pos (q1.mpr n0), if_pos (q2.mpr n0)]
    exact ⟨_, _, _, rfl, rfl, h.mono (by omega)⟩
  rw [if_neg (fun z => n0 (q1.mp z)), if_neg (fun z => n0 (q2.mp z))]
  generalize eS : xsI (xsI (xsI (xsI S 12 1) 13 _) 14 _) 15 _ = S1
  generalize eT : msI (msI (msI (msI (msI (msI T 25 1) 26 _) 27 _) 28 _) 29 _) 30 _ = T1
  have eS1 : ∀ k, xI S1 k = if k = 15 then xI S 11 else if k = 14 then xI S 10 else if k = 13 then xI S 9 else if k = 12 then 1 else xI S k := fun k => by rw [← eS]; rfl
  have eS2 : ∀ k, xA S1 k = xA S k := fun k => by rw [← eS]; rfl
  have eS3 : ∀ a b, xR S1 a b = xR S a b := fun a b => by rw [← eS]; rfl
  have eT1 : ∀ k, mI T1 k = if k = 30 then mI T 12 else if k = 29 then mI T 8 else if k = 28 then mI T 7 else if k = 27 then mI T 6 else if k = 26 then mI T 0 else if k = 25 then 1 else mI T k := fun k => by rw [← eT]; rfl
  have eT2 : ∀ k, mA T1 k = mA T k := fun k => by rw [← eT]; rfl
  obtain ⟨S2, a0, a1, a2, a3, a4, a5, a6⟩ := cp_X8_copyFrom_KD_L2 (P := P) (fu := fu) 6 0 fu (by omega) (by omega) S1
  obtain ⟨S3, b0, b1, b2, b3, b4, b5, b6⟩ := cp_X9_image_L52 hok hk.1 (fu := fu) P.1 0 fu (by omega) (by have := hk.1; omega) (xsI S2 22 (xI S2 21)) (by
    rw [xI_xsI, if_neg (by decide), a1, eS1]
    exact hk.2.1)
  obtain ⟨T2, t0, t1, t2, t4, t5, t6⟩ := cp_X10_image_L57 (fu := fu) 4 0 fu (by omega) (by omega) T1
  obtain ⟨T3, u0, u1, u2, u4, u5, u6, u7⟩ := cp_X10_image_L106 (fu := fu) 6 0 fu (by omega) (by omega) T2
  have kx : f_X8_copyFrom_KD fu P S1 = some (xsI S2 22 (xI S2 21)) := by
    unfold f_X8_copyFrom_KD
    rw [show f_X8_copyFrom_KD_L2 fu P fu 0 S1 = _ from a0]
    rfl
  rw [kx, Option.bind_some, show f_X9_image_L52 fu P fu 0 _ = _ from b0, Option.bind_some, show f_X10_image_L57 fu fu 0 T1 = _ from t0, Option.bind_some, show f_X10_image_L106 fu fu 0 T2 = _ from u0, Option.bind_some]
  have xs : ∀ k, xI S3 k = if k = 22 then xI S 21 else if k = 15 then xI S 11 else if k = 14 then xI S 10 else if k = 13 then xI S 9 else if k = 12 then 1 else xI S k := fun k => by
    rw [b1, xI_xsI]
    by_cases z : k = 22
    · rw [if_pos z, if_pos z, a1, eS1]
      rfl
    · rw [if_neg z, if_neg z, a1, eS1]
  have ms : ∀ k, mI T3 k = if k = 30 then mI T 12 else if k = 29 then mI T 8 else if k = 28 then mI T 7 else if k = 27 then mI T 6 else if k = 26 then mI T 0 else if k = 25 then 1 else mI T k := fun k => by rw [u1, t1, eT1]
  have xa : ∀ k, k ≠ 9 → k ≠ 10 → k ≠ 11 → xA S3 k = xA S k := fun k z1 z2 z3 => by rw [b2, xA_xsI, a2 k z1 z2 z3, eS2]
  have ma : ∀ k, k ≠ 31 → k ≠ 32 → k ≠ 33 → k ≠ 34 → k ≠ 35 → k ≠ 36 → k ≠ 37 → mA T3 k = mA T k := fun k z1 z2 z3 z4 z5 z6 z7 => by rw [u2 k z4 z5 z6 z7, t2 k z1 z2 z3, eT2]
  refine ⟨mI T 6, S3, T3, ?_, ?_, hok, ?_, ?_, ?_, ?_, ?_, ?_, ?_⟩
  · rw [xs]
    exact congrArg some (Prod.ext hm.1 rfl)
  · rw [ms]
    rfl
  · unfold Rk
    simp only [xs, ms]
    exact hk
  · unfold Rm
    simp only [xs, ms]
    exact hm
  · unfold Rg
    simp only [xs, ms, xa 2 (by decide) (by decide) (by decide), ma 19 (by decide) (by decide) (by decide) (by decide) (by decide) (by decide) (by decide)]
    exact hg
  · unfold Rt
    simp only [xs, ms, xa 5 (by decide) (by decide) (by decide), xa 6 (by decide) (by decide) (by decide), xa 7 (by decide) (by decide) (by decide), ma 13 (by decide) (by decide) (by decide) (by decide) (by decide) (by decide) (by decide), ma 14 (by decide) (by decide) (by decide) (by decide) (by decide) (by decide) (by decide), ma 15 (by decide) (by decide) (by decide) (by decide) (by decide) (by decide) (by decide), ma 16 (by decide) (by decide) (by decide) (by decide) (by decide) (by decide) (by decide)]
    exact ht
  · unfold Ri
    simp only [xs, ms]
    refine ⟨Or.inr rfl, Or.inr rfl, ⟨fun _ => ⟨rfl, rfl⟩, fun _ => rfl⟩, hm.1, hm.2.1, hm.2.2.1, hm.2.2.2.1, hm.2.2.2.2, ht.1, ht.2.1, ?_, ?_⟩
    · intro j
      rw [b2, b2, b2, xA_xsI, xA_xsI, xA_xsI, a4, a5, a6, u4, u5, u6, u7, eS2, eS2, eS2, eS2, eS2, eS2]
      rw [t2 13 (by decide) (by decide) (by decide), t2 14 (by decide) (by decide) (by decide), t2 15 (by decide) (by decide) (by decide), t2 16 (by decide) (by decide) (by decide), t2 34 (by decide) (by decide) (by decide), t2 35 (by decide) (by decide) (by decide), t2 36 (by decide) (by decide) (by decide), t2 37 (by decide) (by decide) (by decide), eT2, eT2, eT2, eT2, eT2, eT2, eT2, eT2]
      by_cases z : 0 ≤ j ∧ j < 6
      · simp only [if_pos z]
        exact ht.2.2 j
      · simp only [if_neg z]
        exact hi.2.2.2.2.2.2.2.2.2.2.1 j
    · intro i hi1 _
      obtain ⟨r1, r2, r3, r4, r5, r6, r7⟩ := hp i hi1
      have hi4 : i < 4 := by have := hk.1; omega
      rw [b4, b5, b6, u2 31 (by decide) (by decide) (by decide) (by decide), u2 32 (by decide) (by decide) (by decide) (by decide), u2 33 (by decide) (by decide) (by decide) (by decide), t4, t5, t6]
      simp only [eT2]
      simp only [if_pos (show 0 ≤ i ∧ i < P.1 by omega), if_pos (show 0 ≤ i ∧ i < 4 by omega)]
      simp only [xR_xsI, a3, eS3]
      exact ⟨r4, r5, r6, r7⟩
  · unfold Rc
    simp only [xs, ms]
    exact ⟨hc.1, hc.2.1, hc.2.2.1, ⟨hc.2.2.2.1.1, by have := hc.2.2.2.1.2; push_cast; omega⟩, by show mI T 0 ≤ mI T 0; grind⟩
  · intro i hi1
    obtain ⟨r1, r2, r3, r4, r5, r6, r7⟩ := hp i hi1
    simp only [ma 4 (by decide) (by decide) (by decide) (by decide) (by decide) (by decide) (by decide), ma 5 (by decide) (by decide) (by decide) (by decide) (by decide) (by decide) (by decide), ma 9 (by decide) (by decide) (by decide) (by decide) (by decide) (by decide) (by decide), ma 10 (by decide) (by decide) (by decide) (by decide) (by decide) (by decide) (by decide), ma 11 (by decide) (by decide) (by decide) (by decide) (by decide) (by decide) (by decide)]
    rw [b3 i 0 (by decide) (by decide) (by decide), b3 i 1 (by decide) (by decide) (by decide), b3 i 2 (by decide) (by decide) (by decide), b3 i 3 (by decide) (by decide) (by decide)]
    simp only [xR_xsI, a3, eS3]
    exact ⟨r1, r2, r3, r4, r5, r6, r7⟩
theorem op_restore {c : Nat} {P : XP} {S : XS} {T : MS} (h : RR c P S T) {fu : Nat} (hfu : 2000 ≤ fu) : ∃ r S' T', f_X9_restore fu P S = some (r, S') ∧ f_X10_restore fu T = some (r, T') ∧ RR (c + 1) P S' T' := by
  obtain ⟨hok, hk, hm, hg, ht, hi, hc, hp⟩ := id h
  obtain ⟨i1, i2, i3, i4, i5, i6, i7, i8, i9, i10, i11, i12⟩ := id hi
  unfold f_X9_restore f_X10_restore
  by_cases n1 : ¬ xI S 12 = 1
  · have n0 : xI S 12 = 0 := by grind
    rw [if_pos n0]
    by_cases m1 : mI T 25 = 0
    · rw [if_pos m1]
      exact ⟨_, _, _, rfl, rfl, h.mono (by omega)⟩
    · rw [if_neg m1, if_neg (by grind)]
      exact ⟨_, _, _, rfl, rfl, h.mono (by omega)⟩
  replace n1 : xI S 12 = 1 := Decidable.not_not.mp n1
  have im := i3.mp n1
  rw [if_neg (by rw [n1]; decide), if_neg (by rw [im.1]; decide), if_pos im.2]
  generalize eS : xsI (xsI (xsI S 9 _) 10 _) 11 _ = S1
  generalize eT : msI (msI (msI (msI T 6 _) 7 _) 8 _) 12 _ = T1
  have eS1 : ∀ k, xI S1 k = if k = 11 then xI S 15 else if k = 10 then xI S 14 else if k = 9 then xI S 13 else xI S k := fun k => by rw [← eS]; rfl
  have eS2 : ∀ k, xA S1 k = xA S k := fun k => by rw [← eS]; rfl
  have eS3 : ∀ a b, xR S1 a b = xR S a b := fun a b => by rw [← eS]; rfl
  have eT1 : ∀ k, mI T1 k = if k = 12 then mI T 30 else if k = 8 then mI T 29 else if k = 7 then mI T 28 else if k = 6 then mI T 27 else mI T k := fun k => by rw [← eT]; rfl
  have eT2 : ∀ k, mA T1 k = mA T k := fun k => by rw [← eT]; rfl
  obtain ⟨S2, a0, a1, a2, a3, a4, a5, a6⟩ := cp_X8_copyFrom_DK_L2 (P := P) (fu := fu) 6 0 fu (by omega) (by omega) S1
  obtain ⟨S3, b0, b1, b2, b3, b4, b5, b6⟩ := cp_X9_restore_L47 hok hk.1 (fu := fu) P.1 0 fu (by omega) (by have := hk.1; omega) (xsI S2 21 (xI S2 22)) (by
    rw [xI_xsI, if_neg (by decide), a1, eS1]
    exact hk.2.1)
  obtain ⟨T2, t0, t1, t2, t4, t5, t6⟩ := cp_X10_restore_L55 (fu := fu) 4 0 fu (by omega) (by omega) T1
  obtain ⟨T3, u0, u1, u2, u4, u5, u6, u7⟩ := cp_X10_restore_L104 (fu := fu) 6 0 fu (by omega) (by omega) T2
  have kx : f_X8_copyFrom_DK fu P S1 = some (xsI S2 21 (xI S2 22)) := by
    unfold f_X8_copyFrom_DK
    rw [show f_X8_copyFrom_DK_L2 fu P fu 0 S1 = _ from a0]
    rfl
  rw [kx, Option.bind_some, show f_X9_restore_L47 fu P fu 0 _ = _ from b0, Option.bind_some, show f_X10_restore_L55 fu fu 0 T1 = _ from t0, Option.bind_some, show f_X10_restore_L104 fu fu 0 T2 = _ from u0, Option.bind_some]
  have xs : ∀ k, xI S3 k = if k = 21 then xI S 22 else if k = 11 then xI S 15 else if k = 10 then xI S 14 else if k = 9 then xI S 13 else xI S k := fun k => by
    rw [b1, xI_xsI]
    by_cases z : k = 21
    · rw [if_pos z, if_pos z, a1, eS1]
      rfl
    · rw [if_neg z, if_neg z, a1, eS1]
  have ms : ∀ k, mI T3 k = if k = 12 then mI T 30 else if k = 8 then mI T 29 else if k = 7 then mI T 28 else if k = 6 then mI T 27 else mI T k := fun k => by rw [u1, t1, eT1]
  have xa : ∀ k, k ≠ 5 → k ≠ 6 → k ≠ 7 → xA S3 k = xA S k := fun k z1 z2 z3 => by rw [b2, xA_xsI, a2 k z1 z2 z3, eS2]
  have ma : ∀ k, k ≠ 9 → k ≠ 10 → k ≠ 11 → k ≠ 13 → k ≠ 14 → k ≠ 15 → k ≠ 16 → mA T3 k = mA T k := fun k z1 z2 z3 z4 z5 z6 z7 => by rw [u2 k z4 z5 z6 z7, t2 k z1 z2 z3, eT2]
  refine ⟨mI T 27, S3, T3, ?_, ?_, hok, ?_, ?_, ?_, ?_, ?_, ?_, ?_⟩
  · rw [xs]
    exact congrArg some (Prod.ext i4 rfl)
  · rw [ms]
    rfl
  · unfold Rk
    simp only [xs, ms]
    exact hk
  · unfold Rm
    simp only [xs, ms]
    exact ⟨i4, i5, i6, i7, i8⟩
  · unfold Rg
    simp only [xs, ms, xa 2 (by decide) (by decide) (by decide), ma 19 (by decide) (by decide) (by decide) (by decide) (by decide) (by decide) (by decide)]
    exact hg
  · unfold Rt
    simp only [xs, ms]
    refine ⟨i9, i10, ?_⟩
    intro j
    rw [b2, b2, b2, xA_xsI, xA_xsI, xA_xsI, a4, a5, a6, u4, u5, u6, u7, eS2, eS2, eS2, eS2, eS2, eS2]
    rw [t2 13 (by decide) (by decide) (by decide), t2 14 (by decide) (by decide) (by decide), t2 15 (by decide) (by decide) (by decide), t2 16 (by decide) (by decide) (by decide), t2 34 (by decide) (by decide) (by decide), t2 35 (by decide) (by decide) (by decide), t2 36 (by decide) (by decide) (by decide), t2 37 (by decide) (by decide) (by decide), eT2, eT2, eT2, eT2, eT2, eT2, eT2, eT2]
    by_cases z : 0 ≤ j ∧ j < 6
    · simp only [if_pos z]
      exact i11 j
    · simp only [if_neg z]
      exact ht.2.2 j
  · unfold Ri
    simp only [xs, ms, xa 9 (by decide) (by decide) (by decide), xa 10 (by decide) (by decide) (by decide), xa 11 (by decide) (by decide) (by decide), ma 34 (by decide) (by decide) (by decide) (by decide) (by decide) (by decide) (by decide), ma 35 (by decide) (by decide) (by decide) (by decide) (by decide) (by decide) (by decide), ma 36 (by decide) (by decide) (by decide) (by decide) (by decide) (by decide) (by decide), ma 37 (by decide) (by decide) (by decide) (by decide) (by decide) (by decide) (by decide), ma 31 (by decide) (by decide) (by decide) (by decide) (by decide) (by decide) (by decide), ma 32 (by decide) (by decide) (by decide) (by decide) (by decide) (by decide) (by decide), ma 33 (by decide) (by decide) (by decide) (by decide) (by decide) (by decide) (by decide)]
    refine ⟨i1, i2, i3, i4, i5, i6, i7, i8, i9, i10, i11, fun i z1 z2 => ?_⟩
    rw [b3 i 4 (by decide) (by decide) (by decide), b3 i 5 (by decide) (by decide) (by decide), b3 i 6 (by decide) (by decide) (by decide)]
    simp only [xR_xsI, a3, eS3]
    exact i12 i z1 z2
  · unfold Rc
    simp only [xs, ms]
    exact hc.mono (by omega)
  · intro i hi1
    obtain ⟨r1, r2, r3, r4, r5, r6, r7⟩ := hp i hi1
    obtain ⟨w1, w2, w3, w4⟩ := i12 i hi1 n1
    have hi4 : i < 4 := by have := hk.1; omega
    simp only [ma 4 (by decide) (by decide) (by decide) (by decide) (by decide) (by decide) (by decide), ma 5 (by decide) (by decide) (by decide) (by decide) (by decide) (by decide) (by decide)]
    rw [b3 i 0 (by decide) (by decide) (by decide), b4, b5, b6, u2 9 (by decide) (by decide) (by decide) (by decide), u2 10 (by decide) (by decide) (by decide) (by decide), u2 11 (by decide) (by decide) (by decide) (by decide), t4, t5, t6]
    simp only [eT2]
    simp only [if_pos (show 0 ≤ i ∧ i < P.1 by omega), if_pos (show 0 ≤ i ∧ i < 4 by omega)]
    simp only [xR_xsI, a3, eS3]
    exact ⟨r1, r2, r3, w1, w2, w3, w4⟩
