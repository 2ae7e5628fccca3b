theorem potAt_j {P : XP} {S : XS} {T : MS} (hk : Rk P S T) {j : Nat} (hj : j < P.1) : f_X9_potAt P S (nI j) = some j ∧ ¬ f_X10_isPot T (nI j) = 0 ∧ j < 4 := by
  have h4 := hk.1
  rcases pot_cases hk (nI j) with ⟨e1, e2⟩ | ⟨i, hi, hi4, e, e1, e2⟩
  · exfalso
    unfold f_X9_potAt at e1
    have l4 : nI j < 4 := nI_lt (b := 4) (by omega) (by decide)
    have cl : (nI j).toNatClampNeg = j := nI_clamp (by omega)
    rw [hk.2.1, if_neg (nI_pos (by omega)), if_neg (nI_ge hj (by omega)), if_pos l4, cl, if_pos hj] at e1
    cases e1
  · have : j = i := (nI_eq (by omega) (by omega)).mp e
    subst this
    exact ⟨e1, e2, hi4⟩
theorem boil_loop {P : XP} {S : XS} {T : MS} (hk : Rk P S T) (hp : Rp P S T) {fu : Nat} : ∀ (d j n : Nat) (v : Int32), j + d = P.1 → d < n → ∃ r z, f_X9_potsThatBoil_L4 fu P n v (nI j) S = some (r, z) ∧ f_X10_boiling_L4 fu n v (nI j) T = some (r, z) := by
  have h4 := hk.1
  intro d
  induction d with
  | zero =>
    intro j n v h1 h2
    obtain ⟨k, rfl⟩ : ∃ k, n = k + 1 := ⟨n - 1, by omega⟩
    rw [f_X9_potsThatBoil_L4, f_X10_boiling_L4, hk.2.1, hk.2.2.1, if_pos (nI_le (by omega) (by omega)), if_pos (nI_le (by omega) (by omega))]
    exact ⟨_, _, rfl, rfl⟩
  | succ d ih =>
    intro j n v h1 h2
    obtain ⟨k, rfl⟩ : ∃ k, n = k + 1 := ⟨n - 1, by omega⟩
    obtain ⟨e1, e2, hj4⟩ := potAt_j hk (j := j) (by omega)
    rw [f_X9_potsThatBoil_L4, f_X10_boiling_L4, hk.2.1, hk.2.2.1, if_neg (nI_ge (by omega) (by omega)), if_neg (nI_ge (by omega) (by omega)), e1, mp_boils hj4]
    unfold pm
    dsimp only
    rw [xb_eq hp (by omega), nI_1]
    by_cases q : mA T 9 j = -1
    · rw [if_pos q, if_pos q, Option.bind_some, if_pos rfl, if_pos rfl, show v + 0 = v by grind]
      exact ih (j + 1) k v (by omega) (by omega)
    · rw [if_neg q, if_neg q, Option.bind_some, if_neg (by decide), if_neg (by decide)]
      exact ih (j + 1) k (v + 1) (by omega) (by omega)
theorem op_count {c : Nat} {P : XP} {S : XS} {T : MS} (h : RR c P S T) (a : Int32) {fu : Nat} (hfu : 2000 ≤ fu) : ∃ r, f_X9_count fu P S a = some r ∧ f_X10_howMany fu T a = some r := by
  obtain ⟨hok, hk, hm, hg, ht, hi, hc, hp⟩ := id h
  have h4 := hk.1
  obtain ⟨r, z, e1, e2⟩ := boil_loop hk hp (fu := fu) P.1 0 fu 0 (by omega) (by omega)
  have e3 : f_X9_potsThatBoil fu P S = some r := by
    unfold f_X9_potsThatBoil
    rw [show f_X9_potsThatBoil_L4 fu P fu 0 0 S = _ from e1]
    rfl
  have e4 : f_X10_boiling fu T = some r := by
    unfold f_X10_boiling
    rw [show f_X10_boiling_L4 fu fu 0 0 T = _ from e2]
    rfl
  unfold f_X9_count f_X10_howMany
  rw [e3, e4, hk.2.1, hk.2.2.1, hk.2.2.2.1, hk.2.2.2.2.1, hm.1, hm.2.2.1, hm.2.2.2.2, ht.1, hg.1, hc.1, hc.2.1]
  repeat' split
  all_goals exact ⟨_, rfl, rfl⟩
theorem op_count2 {c : Nat} {P : XP} {S : XS} {T : MS} (h : RR c P S T) (a : Int32) {fu : Nat} (hfu : 2000 ≤ fu) : ∃ r, f_X9_count fu P S a = some r ∧ f_X10_count fu T a = some r := by
  obtain ⟨r, e1, e2⟩ := op_count h a hfu
  refine ⟨r, e1, ?_⟩
  unfold f_X10_count
  rw [e2]
  rfl
/-! ===== digest ===== -/
/-- the reference with other longs: nothing but digest and evenings looks at them -/
def Tl (T : MS) (lg : Nat → Int64) : MS := (T.1, lg, T.2.2)
def mx (lg : Nat → Int64) (v : Int64) : Nat → Int64 := fun j => if j = 38 then 31 * lg 38 + v else lg j
theorem Tl_mix (T : MS) (lg : Nat → Int64) (v : Int64) : f_X10_mix (Tl T lg) v = Tl T (mx lg v) := rfl
theorem mx38 (lg : Nat → Int64) (v : Int64) : mx lg v 38 = 31 * lg 38 + v := rfl
theorem Tl_self (T : MS) : Tl T T.2.1 = T := rfl
theorem RR.tl {c : Nat} {P : XP} {S : XS} {T : MS} (h : RR c P S T) (lg : Nat → Int64) : RR c P S (Tl T lg) := h
theorem potNow_eq {c : Nat} {P : XP} {S : XS} {T : MS} (h : RR c P S T) {j : Nat} (hj : j < P.1) {b : Int32} (b0 : 0 ≤ b) (b1 : b ≤ 7) : f_X10_potNow T (nI j) b = some (f_X9_about P S (nI j) b) := by
  have e := op_about h (nI j) b
  obtain ⟨-, e2, -⟩ := potAt_j h.2.1 hj
  unfold f_X10_about at e
  rw [if_neg e2, if_neg (fun z => within_0.mp z ⟨b0, b1⟩)] at e
  obtain ⟨r, h1, h2⟩ := bd_some e
  rw [h1]
  exact h2
theorem togNow_eq {c : Nat} {P : XP} {S : XS} {T : MS} (h : RR c P S T) {j : Nat} (hj : j < P.1) {b : Int32} (b0 : 0 ≤ b) (b1 : b ≤ 1200) : f_X10_togetherNow T (nI j) b = some (f_X9_together P S (nI j) b) := by
  have e := op_together h (nI j) b
  obtain ⟨-, e2, -⟩ := potAt_j h.2.1 hj
  unfold f_X10_together at e
  rw [if_neg e2, if_neg (fun z => within_0.mp z ⟨b0, b1⟩)] at e
  obtain ⟨r, h1, h2⟩ := bd_some e
  rw [h1]
  exact h2
theorem dig_pot {c : Nat} {P : XP} {S : XS} {T : MS} (h : RR c P S T) {j : Nat} (hj : j < P.1) {fu : Nat} (w : Int64) : ∀ (d k n : Nat) (lg : Nat → Int64), k + d = 8 → d < n → ∃ lg2 z1 z2, f_X9_digestOfPot_L6 fu P w (nI j) n (lg 38) (nI k) S = some (lg2 38, z1) ∧ f_X10_digest_L19 fu (nI j) n (nI k) (Tl T lg) = some (z2, Tl T lg2) := by
  intro d
  induction d with
  | zero =>
    intro k n lg h1 h2
    obtain ⟨m, rfl⟩ : ∃ k, n = k + 1 := ⟨n - 1, by omega⟩
    rw [f_X9_digestOfPot_L6, f_X10_digest_L19, if_pos (show (7 : Int32) < nI k from nI_lt (a := 7) (by omega) (by omega)), if_pos (show (8 : Int32) ≤ nI k from nI_le (a := 8) (by omega) (by omega))]
    exact ⟨lg, _, _, rfl, rfl⟩
  | succ d ih =>
    intro k n lg h1 h2
    obtain ⟨m, rfl⟩ : ∃ k, n = k + 1 := ⟨n - 1, by omega⟩
    rw [f_X9_digestOfPot_L6, f_X10_digest_L19, if_neg (show ¬ (7 : Int32) < nI k from nI_nlt (a := 7) (by omega) (by omega)), if_neg (show ¬ (8 : Int32) ≤ nI k from nI_ge (b := 8) (by omega) (by omega)), potNow_eq (h.tl lg) hj (nI_pos' (by omega)) (show nI k ≤ 7 from nI_le (b := 7) (by omega) (by omega)), Option.bind_some, nI_1, Tl_mix]
    obtain ⟨lg2, z1, z2, e1, e2⟩ := ih (k + 1) m (mx lg (f_X9_about P S (nI j) (nI k)).toInt64) (by omega) (by omega)
    exact ⟨lg2, z1, z2, e1, e2⟩
theorem dig_pots {c : Nat} {P : XP} {S : XS} {T : MS} (h : RR c P S T) {fu : Nat} (hfu : 2000 ≤ fu) : ∀ (d j n : Nat) (lg : Nat → Int64), j + d = P.1 → d < n → ∃ lg2 z1 z2, f_X9_digest_L6 fu P n (lg 38) (nI j) S = some (lg2 38, z1) ∧ f_X10_digest_L9 fu n (nI j) (Tl T lg) = some (z2, Tl T lg2) := by
  have h4 := h.2.1.1
  intro d
  induction d with
  | zero =>
    intro j n lg h1 h2
    obtain ⟨m, rfl⟩ : ∃ k, n = k + 1 := ⟨n - 1, by omega⟩
    rw [f_X9_digest_L6, f_X10_digest_L9, h.2.1.2.1, show mI (Tl T lg) 1 = nI P.1 from h.2.1.2.2.1, if_pos (nI_le (by omega) (by omega)), if_pos (nI_le (by omega) (by omega))]
    exact ⟨lg, _, _, rfl, rfl⟩
  | succ d ih =>
    intro j n lg h1 h2
    obtain ⟨m, rfl⟩ : ∃ k, n = k + 1 := ⟨n - 1, by omega⟩
    obtain ⟨e1, e2, hj4⟩ := potAt_j h.2.1 (j := j) (by omega)
    obtain ⟨lg2, z1, z2, e3, e4⟩ := dig_pot h (j := j) (by omega) (fu := fu) (lg 38) 8 0 fu lg (by omega) (by omega)
    rw [f_X9_digest_L6, f_X10_digest_L9, h.2.1.2.1, show mI (Tl T lg) 1 = nI P.1 from h.2.1.2.2.1, if_neg (nI_ge (by omega) (by omega)), if_neg (nI_ge (by omega) (by omega)), show f_X10_digest_L19 fu (nI j) fu 0 (Tl T lg) = _ from e4, Option.bind_some]
    unfold f_X9_digestOfPot
    rw [show f_X9_digestOfPot_L6 fu P (lg 38) (nI j) fu (lg 38) 0 S = _ from e3, Option.bind_some, e1, mp_boils hj4]
    unfold pm
    dsimp only
    rw [xb_eq h.2.2.2.2.2.2.2 (show j < P.1 by omega), nI_1]
    by_cases q : mA T 9 j = -1
    · rw [if_pos q, if_pos (show mA (Tl T lg2) 9 j = -1 from q), Option.bind_some, if_pos rfl, if_pos rfl, Tl_mix, togNow_eq (h.tl _) (by omega) (by decide) (by decide), Option.bind_some, Option.bind_some, Tl_mix]
      exact ih (j + 1) m (mx (mx lg2 0) (f_X9_together P S (nI j) 60).toInt64) (by omega) (by omega)
    · obtain ⟨r, e5, e6⟩ := best_eq h.1 (h.tl lg2).2.1 (h.tl lg2).2.2.1 (h.tl lg2).2.2.2.2.2.2.2 (j := j) (by omega) hj4 q hfu
      rw [if_neg q, if_neg (show ¬ mA (Tl T lg2) 9 j = -1 from q), Option.bind_some, if_neg (by decide), if_neg (by decide), e5, e6]
      simp only [Option.bind_some, Tl_mix]
      rw [togNow_eq (h.tl _) (by omega) (by decide) (by decide)]
      simp only [Option.bind_some, Tl_mix]
      exact ih (j + 1) m (mx (mx lg2 r.toInt64) (f_X9_together P S (nI j) 60).toInt64) (by omega) (by omega)
theorem dig_page {c : Nat} {P : XP} {S : XS} {T : MS} (h : RR c P S T) {sz : Nat} (hsz : sz ≤ 21) (es : mI T 18 = nI sz) {fu : Nat} : ∀ (d j n : Nat) (lg : Nat → Int64), j + d = sz → d < n → ∃ lg2 z1 z2, f_X9_digest_L62 fu P n (lg 38) (nI j) S = some (lg2 38, z1) ∧ f_X10_digest_L111 fu n (nI j) (Tl T lg) = some (z2, Tl T lg2) := by
  intro d
  have hg := h.2.2.2.1
  induction d with
  | zero =>
    intro j n lg h1 h2
    obtain ⟨m, rfl⟩ : ∃ k, n = k + 1 := ⟨n - 1, by omega⟩
    rw [f_X9_digest_L62, f_X10_digest_L111, hg.1, show mI (Tl T lg) 18 = nI sz from es, es, if_pos (nI_le (by omega) (by omega)), if_pos (nI_le (by omega) (by omega))]
    exact ⟨lg, _, _, rfl, rfl⟩
  | succ d ih =>
    intro j n lg h1 h2
    obtain ⟨m, rfl⟩ : ∃ k, n = k + 1 := ⟨n - 1, by omega⟩
    have cl : (nI j).toNatClampNeg = j := nI_clamp (by omega)
    have hin : vp_in (nI j) 21 := vp_in_nI (by omega) (by omega)
    have ec : f_X3_codeAt P S (nI j) = some (xA S 2 j) := by
      unfold f_X3_codeAt
      rw [hg.1, es, if_neg (nI_pos (by omega)), if_neg (nI_ge (by omega) (by omega)), if_neg (show ¬ (21 : Int32) ≤ nI j from nI_ge (b := 21) (by omega) (by omega)), gd_in hin, cl]
    rw [f_X9_digest_L62, f_X10_digest_L111, hg.1, show mI (Tl T lg) 18 = nI sz from es, es, if_neg (nI_ge (by omega) (by omega)), if_neg (nI_ge (by omega) (by omega)), ec, gd_in hin, Option.bind_some, cl, nI_1, Tl_mix, (hg.2.2 j).1]
    exact ih (j + 1) m (mx lg (mA T 19 j).toInt64) (by omega) (by omega)
theorem dig_count {c : Nat} {P : XP} {S : XS} {T : MS} (h : RR c P S T) {fu : Nat} (hfu : 2000 ≤ fu) : ∀ (d k n : Nat) (lg : Nat → Int64), k + d = 11 → d < n → ∃ lg2 z1 z2, f_X9_digest_L97 fu P n (lg 38) (nI k) S = some (lg2 38, z1) ∧ f_X10_digest_L138 fu n (nI k) (Tl T lg) = some (z2, Tl T lg2) := by
  intro d
  induction d with
  | zero =>
    intro k n lg h1 h2
    obtain ⟨m, rfl⟩ : ∃ k, n = k + 1 := ⟨n - 1, by omega⟩
    rw [f_X9_digest_L97, f_X10_digest_L138, if_pos (show (10 : Int32) < nI k from nI_lt (a := 10) (by omega) (by omega)), if_pos (show (11 : Int32) ≤ nI k from nI_le (a := 11) (by omega) (by omega))]
    exact ⟨lg, _, _, rfl, rfl⟩
  | succ d ih =>
    intro k n lg h1 h2
    obtain ⟨m, rfl⟩ : ∃ k, n = k + 1 := ⟨n - 1, by omega⟩
    obtain ⟨r, e1, e2⟩ := op_count (h.tl lg) (nI k) hfu
    rw [f_X9_digest_L97, f_X10_digest_L138, if_neg (show ¬ (10 : Int32) < nI k from nI_nlt (a := 10) (by omega) (by omega)), if_neg (show ¬ (11 : Int32) ≤ nI k from nI_ge (b := 11) (by omega) (by omega)), e1, e2, Option.bind_some, Option.bind_some, nI_1, Tl_mix]
    exact ih (k + 1) m (mx lg r.toInt64) (by omega) (by omega)
theorem op_digest {c : Nat} {P : XP} {S : XS} {T : MS} (h : RR c P S T) {fu : Nat} (hfu : 2000 ≤ fu) : ∃ r T', f_X9_digest fu P S = some r ∧ f_X10_digest fu T = some (r, T') ∧ RR (c + 1) P S T' := by
  have h4 := h.2.1.1
  obtain ⟨q1, q2, q3⟩ := hasK h.2.1
  obtain ⟨sz, hsz, es⟩ := nI_of2 (x := mI T 18) (M := 21) (n := 21) rfl (by have := h.2.2.2.1.2.1.1; grind) h.2.2.2.1.2.1.2
  obtain ⟨lg1, z1, z2, e1, e2⟩ := dig_pots h hfu P.1 0 fu (fun j => if j = 38 then 929 else T.2.1 j) (by omega) (by omega)
  unfold f_X9_digest f_X10_digest
  rw [show f_X9_digest_L6 fu P fu 929 0 S = _ from e1, show f_X10_digest_L9 fu fu 0 (msL T 38 929) = _ from e2, Option.bind_some, Option.bind_some]
  dsimp only
  by_cases n0 : P.1 = 0
  · rw [if_pos (q1.mpr n0), if_pos (show mI (Tl T lg1) 1 ≤ 0 from q3.mpr n0)]
    obtain ⟨lg2, z3, z4, e3, e4⟩ := dig_page h hsz es (fu := fu) sz 0 fu lg1 (by omega) (by omega)
    obtain ⟨lg3, z5, z6, e5, e6⟩ := dig_count h hfu 11 0 fu lg2 (by omega) (by omega)
    rw [show f_X9_digest_L62 fu P fu (lg1 38) 0 S = _ from e3, show f_X10_digest_L111 fu fu 0 (Tl T lg1) = _ from e4, Option.bind_some, Option.bind_some]
    dsimp only
    rw [show f_X9_digest_L97 fu P fu (lg2 38) 0 S = _ from e5, show f_X10_digest_L138 fu fu 0 (Tl T lg2) = _ from e6]
    exact ⟨lg3 38, Tl T lg3, rfl, rfl, (h.tl lg3).mono (by omega)⟩
  · rw [if_neg (fun z => n0 (q1.mp z)), if_neg (show ¬ mI (Tl T lg1) 1 ≤ 0 from fun z => n0 (q3.mp z))]
    obtain ⟨r0, r1, w0, w1, w2⟩ := woundNow_eq h.2.1 h.2.2.2.2.1 hfu
    have x0 : f_X9_wound fu P S 0 = some r0 := by
      unfold f_X9_wound
      rw [w0, w1, if_neg (by decide), if_pos (by decide), if_neg (fun z => n0 (q1.mp z)), if_pos rfl]
      rfl
    have x1 : f_X9_wound fu P S 1 = some r1 := by
      unfold f_X9_wound
      rw [w0, w1, if_neg (by decide), if_pos (by decide), if_neg (fun z => n0 (q1.mp z)), if_neg (by decide)]
      rfl
    have y0 : ∀ lg w, f_X10_woundNow fu (Tl T lg) w = some (if w = 0 then r0 else r1) := fun lg w => by
      obtain ⟨s0, s1, v0, v1, v2⟩ := woundNow_eq (h.tl lg).2.1 (h.tl lg).2.2.2.2.1 hfu
      rw [v2, ← Option.some.inj (v0.symm.trans w0), ← Option.some.inj (v1.symm.trans w1)]
    rw [x0, x1, y0, Option.bind_some, Option.bind_some, Option.bind_some, Tl_mix, y0, Option.bind_some, Tl_mix, if_pos rfl, if_neg (by decide)]
    obtain ⟨lg2, z3, z4, e3, e4⟩ := dig_page h hsz es (fu := fu) sz 0 fu (mx (mx lg1 r0.toInt64) r1.toInt64) (by omega) (by omega)
    obtain ⟨lg3, z5, z6, e5, e6⟩ := dig_count h hfu 11 0 fu lg2 (by omega) (by omega)
    rw [show f_X9_digest_L62 fu P fu (31 * (31 * lg1 38 + r0.toInt64) + r1.toInt64) 0 S = _ from e3, show f_X10_digest_L111 fu fu 0 (Tl T (mx (mx lg1 r0.toInt64) r1.toInt64)) = _ from e4, Option.bind_some, Option.bind_some]
    dsimp only
    rw [show f_X9_digest_L97 fu P fu (lg2 38) 0 S = _ from e5, show f_X10_digest_L138 fu fu 0 (Tl T lg2) = _ from e6]
    exact ⟨lg3 38, Tl T lg3, rfl, rfl, (h.tl lg3).mono (by omega)⟩
