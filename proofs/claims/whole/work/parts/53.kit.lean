section KT
variable {P : XP} {S S2 : XS} {T T2 : MS} {c : Nat}
theorem RR.frame (h : RR c P S T) (hx : ∀ j, j < 23 → xI S2 j = xI S j) (hxa : ∀ j, j < 13 → xA S2 j = xA S j) (hxr : ∀ i j, xR S2 i j = xR S i j) (hI : ∀ j, j ≠ 20 → j ≠ 21 → mI T2 j = mI T j) (hA : ∀ j, j ≠ 22 → j ≠ 23 → mA T2 j = mA T j) : RR c P S2 T2 := by
  unfold RR Rk Rm Rg Rt Ri Rc Rp at h ⊢
  simp only [hx 6 (by decide), hx 7 (by decide), hx 8 (by decide), hx 9 (by decide), hx 10 (by decide), hx 11 (by decide), hx 12 (by decide), hx 13 (by decide), hx 14 (by decide), hx 15 (by decide), hx 16 (by decide), hx 17 (by decide), hx 20 (by decide), hx 21 (by decide), hx 22 (by decide), hxa 2 (by decide), hxa 5 (by decide), hxa 6 (by decide), hxa 7 (by decide), hxa 9 (by decide), hxa 10 (by decide), hxa 11 (by decide), hxr, hI 0 (by decide) (by decide), hI 1 (by decide) (by decide), hI 2 (by decide) (by decide), hI 3 (by decide) (by decide), hI 6 (by decide) (by decide), hI 7 (by decide) (by decide), hI 8 (by decide) (by decide), hI 12 (by decide) (by decide), hI 17 (by decide) (by decide), hI 18 (by decide) (by decide), hI 25 (by decide) (by decide), hI 26 (by decide) (by decide), hI 27 (by decide) (by decide), hI 28 (by decide) (by decide), hI 29 (by decide) (by decide), hI 30 (by decide) (by decide), hA 4 (by decide) (by decide), hA 5 (by decide) (by decide), hA 9 (by decide) (by decide), hA 10 (by decide) (by decide), hA 11 (by decide) (by decide), hA 13 (by decide) (by decide), hA 14 (by decide) (by decide), hA 15 (by decide) (by decide), hA 16 (by decide) (by decide), hA 19 (by decide) (by decide), hA 31 (by decide) (by decide), hA 32 (by decide) (by decide), hA 33 (by decide) (by decide), hA 34 (by decide) (by decide), hA 35 (by decide) (by decide), hA 36 (by decide) (by decide), hA 37 (by decide) (by decide)]
  exact h
theorem rng_nI {x : Int32} {n : Nat} (hn : n < 2 ^ 30) (h0 : 0 ≤ x) (h1 : x ≤ nI n) : ∃ k, k ≤ n ∧ x = nI k := by
  rcases pk_ix x (n := n + 1) (by omega) with h | h | ⟨j, hj, e⟩
  · grind
  · have e1 := nI_toInt (n := n) (by omega)
    have e2 := nI_toInt (n := n + 1) (by omega)
    have := Int32.le_iff_toInt_le.mp h
    have := Int32.le_iff_toInt_le.mp h1
    omega
  · exact ⟨j, by omega, e⟩
theorem RR.pg (h : RR c P S T) : ∃ sz, Pg P S T (mA T 19) sz := by
  obtain ⟨-, -, -, ⟨g1, ⟨g2, g3⟩, g4⟩, -⟩ := h
  obtain ⟨k, hk, e⟩ := rng_nI (n := 21) (by decide) g2 g3
  exact ⟨k, hk, by rw [g1, e], e, fun j => (g4 j).1, fun j => rfl, fun j => (g4 j).2⟩
theorem rd_all {sz fu : Nat} (hp : Pg P S T (mA T 19) sz) (hf : 100 ≤ fu) : ∃ r T2, f_X10_read fu T = some (nI r, T2) ∧ f_X3_faultPlace fu P S = some (nI r) ∧ RdR (mA T 19) sz T r T2 := by
  obtain ⟨p1, p2, p3, p4, p5, p6⟩ := hp
  obtain ⟨r, T2, w1, w2, w3⟩ := rd_loop (P := P) (S := S) (c := mA T 19) (sz := sz) (fu := fu) 3 0 (fu - 4) (fu - 22) (msI (msI T 20 0) 21 0) rfl ⟨p1, p2, p3, p4, p5, p6⟩ rfl rfl (fun j hj => absurd hj (Nat.not_lt_zero j)) (by omega)
  rw [show fu - 4 + 3 + 1 = fu by omega] at w1
  rw [show fu - 22 + 4 * 3 + 10 = fu by omega] at w2
  refine ⟨r, T2, w1, w2, w3.1, fun j a b => ?_, w3.2.2.1, w3.2.2.2⟩
  rw [w3.2.1 j a b, mI_msI, if_neg b, mI_msI, if_neg a]
theorem op_fault (h : RR c P S T) {fu : Nat} (hf : 2000 ≤ fu) : ∃ r T', f_X9_fault fu P S = some r ∧ f_X10_fault fu T = some (r, T') ∧ RR (c + 1) P S T' := by
  obtain ⟨sz, hp⟩ := h.pg
  obtain ⟨r, T2, w1, w2, w3⟩ := rd_all (fu := fu) hp (by omega)
  refine ⟨nI r, T2, ?_, ?_, (h.frame (fun _ _ => rfl) (fun _ _ => rfl) (fun _ _ => rfl) w3.2.1 (fun j _ _ => w3.2.2.1 j)).mono (by omega)⟩
  · unfold f_X9_fault
    rw [w2]
    rfl
  · unfold f_X10_fault
    rw [w1]
    rfl
theorem is_kit {fu sz r : Nat} (hp : Pg P S T (mA T 19) sz) (hw : f_X3_faultPlace fu P S = some (nI r)) (hr : RdR (mA T 19) sz T r T2) : ∃ r0, f_X3_isKitchen fu P S = some r0 ∧ ((r0 = 0 ∧ mI T2 20 = 0) ∨ (r0 = 1 ∧ mI T2 20 = 1 ∧ r = sz ∧ ∃ n, mI T2 21 = nI n ∧ RdW (mA T 19) sz n)) := by
  have h2 := hp.2.1
  have h1 := hp.1
  unfold f_X3_isKitchen
  rw [h2]
  by_cases q : sz < 4
  · have : f_X3_codeAt P S (nI sz - 4) = some (-1) := by
      unfold f_X3_codeAt
      have e : (nI sz - 4).toInt = (sz : Int) - 4 := pk_sub_toInt (a := sz) (b := 4) (by omega) (by omega)
      rw [if_pos (Int32.lt_iff_toInt_lt.mpr (by rw [e]; show (sz : Int) - 4 < 0; omega))]
    rw [this, Option.bind_some, if_neg (by decide)]
    refine ⟨0, rfl, Or.inl ⟨rfl, ?_⟩⟩
    rcases hr.2.2.2 with z | ⟨-, -, n, -, z⟩
    · exact z.1
    · have := z.1
      have := z.2.2.1
      omega
  · have e : nI sz - 4 = nI (sz - 4) := pk_sub (a := sz) (b := 4) (by omega)
    rw [e, code_in hp (by omega), Option.bind_some]
    rcases hr.2.2.2 with z | ⟨z1, z2, n, z3, z4⟩
    · by_cases q2 : mA T 19 (sz - 4) = 59
      · have := z.2 (sz - 4) (by omega) q2
        rw [if_pos q2, hw, Option.bind_some, if_neg (nI_dec (by have := hr.1; omega) (by omega) this)]
        exact ⟨0, rfl, Or.inl ⟨rfl, z.1⟩⟩
      · rw [if_neg q2]
        exact ⟨0, rfl, Or.inl ⟨rfl, z.1⟩⟩
    · have := z4.2.2.2.2.1
      rw [show 4 * n - 1 = sz - 4 by have := z4.2.2.1; omega] at this
      rw [if_pos this, hw, Option.bind_some, z2, if_pos rfl]
      exact ⟨1, rfl, Or.inr ⟨rfl, z1, rfl, n, z3, z4⟩⟩
theorem two_in {k : Nat} (hk : k < 20) : f_X10_two T (nI k) = some (10 * (mA T 19 k - 48) + mA T 19 (k + 1) - 48) := by
  unfold f_X10_two
  rw [nI_1, gd_in (vp_in_nI (by omega) (by decide)), gd_in (vp_in_nI (by omega) (by decide)), nI_clamp (by omega), nI_clamp (by omega)]
theorem kit_loop {fu n : Nat} {v1 : Int32} (hn : n ≤ 4) : ∀ (d j k : Nat) (T : MS), j + d = n → mI T 1 = nI n → ∃ T2, f_X10_kitchen_L51 fu v1 (k + d + 1) (nI j) T = some (nI n, T2) ∧ (∀ i, mI T2 i = mI T i) ∧ (∀ a, a ≠ 4 → a ≠ 5 → a ≠ 9 → a ≠ 10 → a ≠ 11 → mA T2 a = mA T a) ∧ (∀ i, i < j → mA T2 4 i = mA T 4 i ∧ mA T2 5 i = mA T 5 i ∧ mA T2 9 i = mA T 9 i ∧ mA T2 10 i = mA T 10 i ∧ mA T2 11 i = mA T 11 i) ∧ ∀ i, j ≤ i → i < n → mA T2 4 i = f_X3_kindOf (mA T 19 (4 * i)) ∧ mA T2 5 i = 10 * (mA T 19 (4 * i + 1) - 48) + mA T 19 (4 * i + 2) - 48 ∧ mA T2 9 i = -1 ∧ mA T2 10 i = 0 ∧ mA T2 11 i = -1 := by
  intro d
  induction d with
  | zero =>
    intro j k T hj h1
    rw [f_X10_kitchen_L51, h1, if_pos (nI_le (by omega) (by omega)), show j = n by omega]
    exact ⟨T, rfl, fun _ => rfl, fun _ _ _ _ _ _ => rfl, fun _ _ => ⟨rfl, rfl, rfl, rfl, rfl⟩, fun i a b => by omega⟩
  | succ d ih =>
    intro j k T hj h1
    have e4 : 4 * nI j = nI (4 * j) := pk_mul 4 j
    have g4 : ∀ {α : Type} (o : Option α), gd (nI j) 4 o = o := fun o => gd4 (by omega) o
    rw [f_X10_kitchen_L51, h1, if_neg (nI_ge (by omega) (by omega)), e4, gd_in (vp_in_nI (by omega) (by decide)), g4, nI_1, nI_clamp (show j < 2 ^ 31 by omega), nI_clamp (show 4 * j < 2 ^ 31 by omega), two_in (by omega), Option.bind_some, g4, g4, g4, g4, nI_1]
    obtain ⟨T2, w1, w2, w3, w4, w5⟩ := ih (j + 1) k (msA (msA (msA (msA (msA T 4 j (f_X10_kindBy (mA T 19 (4 * j)))) 5 j (10 * (mA (msA T 4 j (f_X10_kindBy (mA T 19 (4 * j)))) 19 (4 * j + 1) - 48) + mA (msA T 4 j (f_X10_kindBy (mA T 19 (4 * j)))) 19 (4 * j + 1 + 1) - 48)) 9 j (-1)) 10 j 0) 11 j (-1)) (by omega) h1
    refine ⟨T2, w1, fun i => w2 i, fun a a4 a5 a9 a10 a11 => ?_, fun i hi => ?_, fun i hi hn => ?_⟩
    · rw [w3 a a4 a5 a9 a10 a11]
      simp only [mA_msA, if_neg a4, if_neg a5, if_neg a9, if_neg a10, if_neg a11]
    · obtain ⟨z1, z2, z3, z4, z5⟩ := w4 i (by omega)
      have ne : ¬ i = j := by omega
      rw [z1, z2, z3, z4, z5]
      simp [mA_msA, upd_at, ne]
    · by_cases q : i = j
      · obtain ⟨z1, z2, z3, z4, z5⟩ := w4 i (by omega)
        rw [z1, z2, z3, z4, z5, q]
        simp [mA_msA, upd_at]
        rfl
      · obtain ⟨z1, z2, z3, z4, z5⟩ := w5 i (by omega) hn
        rw [z1, z2, z3, z4, z5]
        simp [mA_msA]
theorem kd_kcl {x : Int32} (h : ¬ f_X3_kindOf x = -1) : kd (kcl (f_X3_kindOf x)) = f_X3_kindOf x := by
  unfold f_X3_kindOf at h ⊢
  repeat' split
  all_goals first | rfl | decide | simp_all
theorem two_rng {a b hi : Int32} (hh : hi = 52 ∨ hi = 54) (h1 : 48 ≤ a ∧ a ≤ hi) (h2 : ¬ f_X3_fitsSecondDigit a b hi = 0) : 1 ≤ 10 * (a - 48) + b - 48 ∧ 10 * (a - 48) + b - 48 ≤ 10 * (hi - 48) := by
  unfold f_X3_fitsSecondDigit at h2
  rcases hh with rfl | rfl
  · split at h2
    · split at h2 <;> grind
    · split at h2
      · split at h2
        · grind
        · split at h2 <;> grind
      · split at h2
        · grind
        · split at h2 <;> grind
  · split at h2
    · split at h2 <;> grind
    · split at h2
      · split at h2
        · grind
        · split at h2 <;> grind
      · split at h2
        · grind
        · split at h2 <;> grind
theorem op_kitchen (h : RR c P S T) (hc : c < 2 ^ 29) {fu : Nat} (hf : 2000 ≤ fu) : ∃ (r0 : Int32) (n : Nat) (kf wf : Nat → Int32) (sp hd r : Int32) (T' : MS), f_X3_isKitchen fu P S = some r0 ∧ n ≤ 4 ∧ (¬ r0 = 0 → (if (4 : Int32) < xI S 20 / 4 then 4 else xI S 20 / 4) = nI n ∧ (∀ (P : XP) (j : Nat), j < n → f_X3_kindTold P (xsI S 6 (nI n)) (nI j) = some (kf j)) ∧ (∀ (P : XP) (j : Nat), j < n → f_X3_wantsTold P (xsI S 6 (nI n)) (nI j) = some (wf j)) ∧ (∀ P : XP, f_X3_springTold P (xNew S n wf) = some sp) ∧ (∀ P : XP, f_X3_handsTold P (xsI (xNew S n wf) 7 sp) = some hd)) ∧ f_X10_kitchen fu T = some (r, T') ∧ (r0 = 0 → r = -103 ∧ RR (c + 1) P S T') ∧ (¬ r0 = 0 → r = nI n ∧ ∀ (pa : Nat → Nat) (f : Nat → Option Nat), (∀ j, j < 4 → f j = if j < n then some (pa j) else none) → RR (c + 1) (xPnew n kf pa f) (xKit S n wf sp hd) T') := by
  obtain ⟨sz, hp⟩ := h.pg
  obtain ⟨r, T2, w1, w2, w3⟩ := rd_all (fu := fu) hp (by omega)
  obtain ⟨r0, z1, z2⟩ := is_kit hp w2 w3
  rcases z2 with ⟨z2, z3⟩ | ⟨z2, z3, rfl, n, z4, z5⟩
  · refine ⟨r0, 0, fun _ => 0, fun _ => 0, 0, 0, -103, T2, z1, by omega, fun q => absurd z2 q, ?_, fun _ => ⟨rfl, (h.frame (fun _ _ => rfl) (fun _ _ => rfl) (fun _ _ => rfl) w3.2.1 (fun j _ _ => w3.2.2.1 j)).mono (by omega)⟩, fun q => absurd z2 q⟩
    unfold f_X10_kitchen
    rw [w1, Option.bind_some, if_pos z3]
  · obtain ⟨n2, n4, rfl, pok, c59, d1, d2, d3⟩ := z5
    have e19 : mA T2 19 = mA T 19 := w3.2.2.1 19
    obtain ⟨T3, k1, k2, k3, k4, k5⟩ := kit_loop (fu := fu) (v1 := nI (4 * n + 3)) n4 n 0 (fu - n - 1) (msI (msI (msI T2 1 (nI n)) 2 (10 * (mA T 19 (4 * n) - 48) + mA T 19 (4 * n + 1) - 48)) 3 (mA T 19 (4 * n + 2) - 48)) (by omega) rfl
    rw [show fu - n - 1 + n + 1 = fu by omega, show nI 0 = 0 from rfl] at k1
    have s2 := two_rng (Or.inr rfl) d1 d2
    have s1 := fun j (hj : j < n) => two_rng (Or.inl rfl) (pok j hj).2.1 (pok j hj).2.2
    have e5 := hp.2.2.2.1
    have m3 : nI (4 * n + 3) - 3 = nI (4 * n) := pk_sub (a := 4 * n + 3) (b := 3) (by omega)
    have m1 : nI (4 * n + 3) - 1 = nI (4 * n + 2) := nI_pred _
    have ca : ∀ (P' : XP) (S' : XS), xI S' 20 = xI S 20 → xA S' 2 = xA S 2 → ∀ j, j < 4 * n + 3 → f_X3_codeAt P' S' (nI j) = some (mA T 19 j) := by
      intro P' S' a b j hj
      exact code_in (T := T) ⟨hp.1, by rw [a]; exact hp.2.1, hp.2.2.1, by rw [b]; exact e5, hp.2.2.2.2.1, hp.2.2.2.2.2⟩ hj
    have td : ∀ (P' : XP) (S' : XS), xI S' 20 = xI S 20 → xA S' 2 = xA S 2 → ∀ j, j + 1 < 4 * n + 3 → f_X3_twoDigits P' S' (nI j) = some (10 * (mA T 19 j - 48) + mA T 19 (j + 1) - 48) := by
      intro P' S' a b j hj
      unfold f_X3_twoDigits
      rw [ca P' S' a b j (by omega), Option.bind_some, nI_1, ca P' S' a b (j + 1) hj, Option.bind_some]
    have hh := hp.2.1
    refine ⟨r0, n, fun j => f_X3_kindOf (mA T 19 (4 * j)), fun j => 10 * (mA T 19 (4 * j + 1) - 48) + mA T 19 (4 * j + 2) - 48, 10 * (mA T 19 (4 * n) - 48) + mA T 19 (4 * n + 1) - 48, mA T 19 (4 * n + 2) - 48, nI n, msI (msI (msI (msI (msI (msI T3 0 (mI T3 0 + 1)) 6 0) 7 (mI T3 3)) 8 0) 12 0) 18 0, z1, n4, fun _ => ⟨?_, ?_, ?_, ?_, ?_⟩, ?_, fun q => absurd (z2 ▸ q) (by decide), fun _ => ⟨rfl, fun pa f hpf => ?_⟩⟩
    · rw [hh, show nI (4 * n + 3) / 4 = nI n from (pk_div (d := 4) (by omega) (by omega) (by omega)).trans (by congr 1; omega), if_neg (show ¬ (4 : Int32) < nI n from nI_nlt (a := 4) (by omega) (by omega))]
    · intro P' j hj
      unfold f_X3_kindTold
      rw [show nI j * 4 = nI (4 * j) from (pk_mul j 4).trans (by congr 1; omega), ca P' (xsI S 6 (nI n)) rfl rfl _ (by omega)]
      rfl
    · intro P' j hj
      unfold f_X3_wantsTold
      rw [show nI j * 4 = nI (4 * j) from (pk_mul j 4).trans (by congr 1; omega), nI_1, td P' (xsI S 6 (nI n)) rfl rfl _ (by omega)]
      rfl
    · intro P'
      unfold f_X3_springTold
      rw [show xI (xNew S n fun j => 10 * (mA T 19 (4 * j + 1) - 48) + mA T 19 (4 * j + 2) - 48) 20 = xI S 20 from rfl, hh, m3, td P' (xNew S n fun j => 10 * (mA T 19 (4 * j + 1) - 48) + mA T 19 (4 * j + 2) - 48) rfl rfl _ (by omega)]
      rfl
    · intro P'
      unfold f_X3_handsTold
      rw [show ∀ v, xI (xsI (xNew S n fun j => 10 * (mA T 19 (4 * j + 1) - 48) + mA T 19 (4 * j + 2) - 48) 7 v) 20 = xI S 20 from fun _ => rfl, hh, m1, ca P' (xsI (xNew S n fun j => 10 * (mA T 19 (4 * j + 1) - 48) + mA T 19 (4 * j + 2) - 48) 7 (10 * (mA T 19 (4 * n) - 48) + mA T 19 (4 * n + 1) - 48)) rfl rfl _ (by omega)]
      rfl
    · unfold f_X10_kitchen
      rw [w1, Option.bind_some, z3, if_neg (by decide), z4]
      simp only []
      rw [m3, m1, two_in (by omega), Option.bind_some, gd_in (vp_in_nI (by omega) (by decide)), nI_clamp (by omega)]
      simp only [mA_msI, e19]
      rw [k1, Option.bind_some]
      simp only [mI_msI]
      have : mI T3 1 = nI n := by rw [k2]; rfl
      simp [this]
    · obtain ⟨hok, hk, hm, hg, ht, hi, ⟨q1, q2, q3, ⟨q4, q4b⟩, q5⟩, hpp⟩ := h
      have t0 : mI T3 0 = mI T 0 := by rw [k2]; exact w3.2.1 0 (by decide) (by decide)
      obtain ⟨k, hk2, ek⟩ := rng_nI (x := mI T 0) (n := c) (by omega) q4 (Int32.le_iff_toInt_le.mpr (by rw [nI_toInt (by omega)]; exact q4b))
      have ti : ∀ j, j ≠ 20 → j ≠ 21 → j ≠ 1 → j ≠ 2 → j ≠ 3 → mI T3 j = mI T j := by
        intro j a b c1 c2 c3
        rw [k2]
        simp only [mI_msI, if_neg c1, if_neg c2, if_neg c3]
        exact w3.2.1 j a b
      have ta : ∀ a, a ≠ 4 → a ≠ 5 → a ≠ 9 → a ≠ 10 → a ≠ 11 → mA T3 a = mA T a := by
        intro a a1 a2 a3 a4 a5
        rw [k3 a a1 a2 a3 a4 a5]
        exact w3.2.2.1 a
      have t3 : mI T3 3 = mA T 19 (4 * n + 2) - 48 := by rw [k2]; rfl
      have t2 : mI T3 2 = 10 * (mA T 19 (4 * n) - 48) + mA T 19 (4 * n + 1) - 48 := by rw [k2]; rfl
      have t1 : mI T3 1 = nI n := by rw [k2]; rfl
      have l0 : (0 : Int32) ≤ 0 := by decide
      refine ⟨xPnew_ok hpf, ?_, ?_, ?_, ?_, ?_, ?_, ?_⟩
      · refine ⟨n4, rfl, t1, t2.symm, t3.symm, ?_, ?_, ?_⟩
        · rw [show ∀ a b d e f g, mI (msI (msI (msI (msI (msI (msI T3 0 a) 6 b) 7 d) 8 e) 12 f) 18 g) 2 = mI T3 2 from fun _ _ _ _ _ _ => rfl, t2]
          exact ⟨by grind, by grind⟩
        · rw [show ∀ a b d e f g, mI (msI (msI (msI (msI (msI (msI T3 0 a) 6 b) 7 d) 8 e) 12 f) 18 g) 3 = mI T3 3 from fun _ _ _ _ _ _ => rfl, t3]
          exact ⟨by grind, by grind⟩
        · rw [show ∀ a b d e f g, mI (msI (msI (msI (msI (msI (msI T3 0 a) 6 b) 7 d) 8 e) 12 f) 18 g) 2 = mI T3 2 from fun _ _ _ _ _ _ => rfl, t2]
          exact fun _ => s2.1
      · refine ⟨rfl, ⟨l0, show (0 : Int32) ≤ 999 by decide⟩, t3.symm, ?_, rfl⟩
        rw [show ∀ a b d e f g, mI (msI (msI (msI (msI (msI (msI T3 0 a) 6 b) 7 d) 8 e) 12 f) 18 g) 7 = d from fun _ _ _ _ _ _ => rfl, t3]
        exact ⟨by grind, by grind⟩
      · refine ⟨rfl, ⟨l0, show (0 : Int32) ≤ 21 by decide⟩, fun j => ?_⟩
        have : mA T3 19 = mA T 19 := ta 19 (by decide) (by decide) (by decide) (by decide) (by decide)
        show xA S 2 j = mA T3 19 j ∧ 0 ≤ mA T3 19 j ∧ mA T3 19 j ≤ 126
        rw [this]
        exact hg.2.2 j
      · refine ⟨rfl, ⟨l0, show (0 : Int32) ≤ 6 by decide⟩, ?_⟩
        show Rtl (xA S 5) (xA S 6) (xA S 7) (mA T3 13) (mA T3 14) (mA T3 15) (mA T3 16)
        rw [ta 13 (by decide) (by decide) (by decide) (by decide) (by decide), ta 14 (by decide) (by decide) (by decide) (by decide) (by decide), ta 15 (by decide) (by decide) (by decide) (by decide) (by decide), ta 16 (by decide) (by decide) (by decide) (by decide) (by decide)]
        exact ht.2.2
      · obtain ⟨i1, i2, i3, i4, i5, i6, i7, i8, i9, i10, i11, i12⟩ := hi
        have u : ∀ j, j ≠ 0 → j ≠ 6 → j ≠ 7 → j ≠ 8 → j ≠ 12 → j ≠ 18 → j ≠ 20 → j ≠ 21 → j ≠ 1 → j ≠ 2 → j ≠ 3 → mI (msI (msI (msI (msI (msI (msI T3 0 (mI T3 0 + 1)) 6 0) 7 (mI T3 3)) 8 0) 12 0) 18 0) j = mI T j := by
          intro j a1 a2 a3 a4 a5 a6 a7 a8 a9 a10 a11
          simp only [mI_msI, if_neg a1, if_neg a2, if_neg a3, if_neg a4, if_neg a5, if_neg a6]
          exact ti j a7 a8 a9 a10 a11
        have x0 : mI (msI (msI (msI (msI (msI (msI T3 0 (mI T3 0 + 1)) 6 0) 7 (mI T3 3)) 8 0) 12 0) 18 0) 0 = mI T 0 + 1 := by rw [← t0]; rfl
        unfold Ri
        rw [u 25 (by decide) (by decide) (by decide) (by decide) (by decide) (by decide) (by decide) (by decide) (by decide) (by decide) (by decide), u 26 (by decide) (by decide) (by decide) (by decide) (by decide) (by decide) (by decide) (by decide) (by decide) (by decide) (by decide), u 27 (by decide) (by decide) (by decide) (by decide) (by decide) (by decide) (by decide) (by decide) (by decide) (by decide) (by decide), u 28 (by decide) (by decide) (by decide) (by decide) (by decide) (by decide) (by decide) (by decide) (by decide) (by decide) (by decide), u 29 (by decide) (by decide) (by decide) (by decide) (by decide) (by decide) (by decide) (by decide) (by decide) (by decide) (by decide), u 30 (by decide) (by decide) (by decide) (by decide) (by decide) (by decide) (by decide) (by decide) (by decide) (by decide) (by decide), x0]
        refine ⟨Or.inl rfl, i2, ⟨fun z => absurd z (show ¬ (0 : Int32) = 1 by decide), fun z => ?_⟩, i4, i5, i6, i7, i8, i9, i10, ?_, fun i _ z => absurd z (show ¬ (0 : Int32) = 1 by decide)⟩
        · exfalso
          have := z.2
          rw [this, ek, nI_1] at q5
          have := (nI_leI (by omega) (by omega)).mp q5
          omega
        · show Rtl (xA S 9) (xA S 10) (xA S 11) (mA T3 34) (mA T3 35) (mA T3 36) (mA T3 37)
          rw [ta 34 (by decide) (by decide) (by decide) (by decide) (by decide), ta 35 (by decide) (by decide) (by decide) (by decide) (by decide), ta 36 (by decide) (by decide) (by decide) (by decide) (by decide), ta 37 (by decide) (by decide) (by decide) (by decide) (by decide)]
          exact i11
      · have a17 : mI T3 17 = mI T 17 := ti 17 (by decide) (by decide) (by decide) (by decide) (by decide)
        have a26 : mI T3 26 = mI T 26 := ti 26 (by decide) (by decide) (by decide) (by decide) (by decide)
        have x0 : mI (msI (msI (msI (msI (msI (msI T3 0 (mI T3 0 + 1)) 6 0) 7 (mI T3 3)) 8 0) 12 0) 18 0) 0 = mI T 0 + 1 := by rw [← t0]; rfl
        have x17 : mI (msI (msI (msI (msI (msI (msI T3 0 (mI T3 0 + 1)) 6 0) 7 (mI T3 3)) 8 0) 12 0) 18 0) 17 = mI T 17 := a17
        have x26 : mI (msI (msI (msI (msI (msI (msI T3 0 (mI T3 0 + 1)) 6 0) 7 (mI T3 3)) 8 0) 12 0) 18 0) 26 = mI T 26 := a26
        unfold Rc
        rw [x0, x17, x26]
        refine ⟨?_, q2, q3, ?_, ?_⟩
        · show xI S 16 + 1 = mI T 0 + 1
          rw [q1]
        · rw [ek, nI_1, nI_toInt (by omega)]
          exact ⟨nI_pos' (by omega), by omega⟩
        · rw [ek, nI_1]
          rw [ek] at q5
          have e1 := nI_toInt (n := k) (by omega)
          have e2 := nI_toInt (n := k + 1) (by omega)
          have := Int32.le_iff_toInt_le.mp q5
          exact Int32.le_iff_toInt_le.mpr (by omega)
      · intro i hi
        obtain ⟨v1, v2, v3, v4, v5⟩ := k5 i (by omega) hi
        have e19' : mA (msI (msI (msI T2 1 (nI n)) 2 (10 * (mA T 19 (4 * n) - 48) + mA T 19 (4 * n + 1) - 48)) 3 (mA T 19 (4 * n + 2) - 48)) 19 = mA T 19 := e19
        rw [e19'] at v1 v2
        have s1' := s1 i hi
        refine ⟨?_, v2.symm, ?_, v3.symm, ?_, v4.symm, v5.symm⟩
        · show kd (kcl (f_X3_kindOf (mA T 19 (4 * i)))) = mA T3 4 i
          rw [v1]
          exact kd_kcl (pok i hi).1
        · show 1 ≤ mA T3 5 i ∧ mA T3 5 i ≤ 40
          rw [v2]
          exact ⟨s1'.1, s1'.2⟩
        · show -1 ≤ mA T3 9 i ∧ mA T3 9 i ≤ 999
          rw [v3]
          decide
end KT
