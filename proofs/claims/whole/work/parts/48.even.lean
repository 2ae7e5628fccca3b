theorem ev_andL (a b : Nat) : lN a &&& lN b = lN (a &&& b) := by
  apply Int64.toBitVec_inj.1
  show BitVec.ofNat 64 a &&& BitVec.ofNat 64 b = BitVec.ofNat 64 (a &&& b)
  apply BitVec.eq_of_getLsbD_eq
  intro i hi
  simp [hi]
theorem ev_of (x : Int64) : ∃ n : Nat, x = lN n := ⟨x.toBitVec.toNat, Int64.toBitVec_inj.mp (by show _ = BitVec.ofNat 64 _; simp)⟩
theorem mask31 (x : Int64) : ∃ k : Nat, k < 2 ^ 31 ∧ x &&& 2147483647 = lN k := by
  obtain ⟨n, rfl⟩ := ev_of x
  refine ⟨n % 2 ^ 31, Nat.mod_lt _ (by decide), ?_⟩
  rw [show (2147483647 : Int64) = lN (2 ^ 31 - 1) from rfl, ev_andL, Nat.and_two_pow_sub_one_eq_mod]
theorem xs30 (S : XS) (v w : Int32) : xsI (xsI S 30 v) 30 w = xsI S 30 w := by
  unfold xsI
  refine Prod.ext ?_ rfl
  funext j
  by_cases h : j = 30
  · simp [h]
  · simp [h]
theorem draw_eq {P : XP} {S : XS} {T : MS} {lg : Nat → Int64} {s d : Nat} (hs : s < 2 ^ 31) (d0 : 0 < d) (d1 : d ≤ 60) (el : lg 24 = lN s) : ∃ k : Nat, k < 2 ^ 31 ∧ f_X1_next P (xsI S 30 (nI s)) (nI d) = some (nI (k / 65536 % d), xsI S 30 (nI k)) ∧ f_X10_draw (Tl T lg) (nI d) = some (nI (k / 65536 % d), Tl T (fun j => if j = 24 then lN k else lg j)) := by
  obtain ⟨k, hk, ek⟩ := mask31 (1103515245 * lN s + 12345)
  have e1 : (nI s).toInt64 = lN s := nI_l hs
  have e2 : (nI d).toInt64 = lN d := nI_l (by omega)
  have e3 : (lN k).toInt32 = nI k := lN_i k
  have q1 : nI k / 65536 = nI (k / 65536) := pk_div (d := 65536) hk (by decide) (by decide)
  have q2 : lN k / 65536 = lN (k / 65536) := pk_lDiv (b := 65536) (by omega) (by decide) (by decide)
  have kl : k / 65536 < 2 ^ 31 := Nat.lt_of_le_of_lt (Nat.div_le_self _ _) hk
  have q3 := pk_rem (a := k / 65536) (d := d) kl d0 (by omega)
  have q4 := pk_lRem (a := k / 65536) (b := d) (by omega) d0 (by omega)
  refine ⟨k, hk, ?_, ?_⟩
  · unfold f_X1_next
    rw [if_neg (nI_nle d0 (by omega)), gz_of (nI_ne0 d0 (by omega))]
    simp only [xI_xsI, if_true]
    rw [e1, ek, e3, q1, q3, xs30]
  · unfold f_X10_draw
    have z : ¬ (nI d).toInt64 = 0 := by
      rw [e2, show (0 : Int64) = lN 0 from rfl, pk_lEQ (by omega) (by omega)]
      omega
    rw [gzl_of z]
    have m1 : mL (Tl T lg) 24 = lN s := el
    rw [m1, ek, show mL (msL (Tl T lg) 24 (lN k)) 24 = lN k from rfl, q2, e2, q4, lN_i]
    rfl
theorem bits16 : ∀ k, k < 16 → ∀ j, j < 4 → ((nI k &&& (1 <<< (nI j &&& 31))) = 0 ↔ ((nI k >>> (nI j &&& 31)) &&& 1) = 0) ∧ (¬ ((nI k >>> (nI j &&& 31)) &&& 1) = 0 → nI k ||| (1 <<< (nI j &&& 31)) = nI k) ∧ nI k ||| (1 <<< (nI j &&& 31)) = nI (k ||| 2 ^ j) ∧ k ||| 2 ^ j < 16 := by decide +kernel
theorem even_loop {c : Nat} {P : XP} {S : XS} {T : MS} (h : RR c P S T) (n1 : 0 < P.1) {sp : Nat} (sp1 : sp ≤ 60) (es : mI T 2 = nI sp) (es2 : xI S 7 = nI sp) {tm : Nat} (htm : tm ≤ 30) (v2 v3 : Int32) {fu : Nat} : ∀ (d k n g kt s : Nat) (good ru : Int32) (lg : Nat → Int64), k + d = tm → d < n → g ≤ 60 * k → kt < 16 → s < 2 ^ 31 → lg 24 = lN s → ∃ (gd2 ru2 z1 z2 z3 z4 z5 z6 : Int32) (s2 : Nat) (lg2 : Nat → Int64), f_X9_evenings_L60 fu P (nI tm) v2 v3 n good ru (nI g) (nI kt) (nI k) (xsI S 30 (nI s)) = some (gd2, ru2, z1, z2, z3, xsI S 30 (nI s2)) ∧ f_X10_eveningsNow_L21 fu (nI tm) v2 v3 n (nI g) (nI kt) good ru (nI k) (Tl T lg) = some (z4, z5, gd2, ru2, z6, Tl T lg2) ∧ lg2 24 = lN s2 ∧ s2 < 2 ^ 31 := by
  obtain ⟨hok, hk, hm, hg, ht, hi, hc, hp⟩ := id h
  have h4 := hk.1
  have sp0 : 0 < sp := by
    have := hk.2.2.2.2.2.2.2 n1
    rw [es] at this
    have := (nI_leI (a := 1) (by omega) (by omega)).mp this
    omega
  intro d
  induction d with
  | zero =>
    intro k n g kt s good ru lg a1 a2 a3 a4 a5 a6
    obtain ⟨m, rfl⟩ : ∃ k, n = k + 1 := ⟨n - 1, by omega⟩
    rw [f_X9_evenings_L60, f_X10_eveningsNow_L21, if_pos (nI_le (by omega) (by omega)), if_pos (nI_le (by omega) (by omega))]
    exact ⟨_, _, _, _, _, _, _, _, s, lg, rfl, rfl, a6, a5⟩
  | succ d ih =>
    intro k n g kt s good ru lg a1 a2 a3 a4 a5 a6
    obtain ⟨m, rfl⟩ : ∃ k, n = k + 1 := ⟨n - 1, by omega⟩
    obtain ⟨k1, b1, b2, b3⟩ := draw_eq (P := P) (S := S) (T := T) a5 sp0 sp1 a6
    obtain ⟨k2, b4, b5, b6⟩ := draw_eq (P := P) (S := S) (T := T) (lg := fun j => if j = 24 then lN k1 else lg j) (s := k1) (d := P.1) b1 n1 (by omega) rfl
    have x0 : xI (xsI S 30 (nI s)) 7 = nI sp := es2
    have x1 : xI (xsI S 30 (nI k1)) 6 = nI P.1 := hk.2.1
    have y0 : mI (Tl T lg) 2 = nI sp := es
    have y1 : mI (Tl T (fun j => if j = 24 then lN k1 else lg j)) 1 = nI P.1 := hk.2.2.1
    rw [f_X9_evenings_L60, f_X10_eveningsNow_L21, if_neg (nI_ge (by omega) (by omega)), if_neg (nI_ge (by omega) (by omega)), x0, y0, b2, b3]
    simp only [Option.bind_some]
    rw [x1, y1, b5, b6]
    simp only [Option.bind_some]
    generalize ej : k2 / 65536 % P.1 = j
    have hj : j < P.1 := by rw [← ej]; exact Nat.mod_lt _ n1
    generalize ex : k1 / 65536 % sp = x
    have hx : x < sp := by rw [← ex]; exact Nat.mod_lt _ sp0
    obtain ⟨e1, -, hj4⟩ := potAt_j (S := xsI S 30 (nI k2)) (T := T) hk hj
    obtain ⟨p1, p2, p3, -⟩ := hp j hj
    have hkp := (kd_kp _ (hok.1 j hj)).2.1
    have ekp : f_X10_keepsOf (Tl T (fun j => if j = 24 then lN k2 else if j = 24 then lN k1 else lg j)) (nI j) = some (kp (P.2.2.1 j)) := mp_keeps (T := T) hok hj hj4 p1
    rw [e1, gd4 hj4, ekp, nIc hj4, Option.bind_some]
    have eg : nI g + (1 + nI x) = nI (g + 1 + x) := by
      rw [show (1 : Int32) = nI 1 from rfl, nI_add, nI_add]
      congr 1
      omega
    rw [eg, nI_1]
    have l0 : (0 : Int32) ≤ nI (g + 1 + x) := nI_pos' (by omega)
    have l1 : nI (g + 1 + x) ≤ 5000 := nI_le (b := 5000) (by omega) (by decide)
    have eo : f_X10_out (nI (g + 1 + x)) (mA T 5 j) (kp (P.2.2.1 j)) = f_X9_outBy (nI (g + 1 + x) - mA T 5 j) (kp (P.2.2.1 j)) := out_eq (by grind) l1 (by grind) (by grind) hkp.1 hkp.2
    have em : mA (Tl T (fun j => if j = 24 then lN k2 else if j = 24 then lN k1 else lg j)) 5 j = mA T 5 j := rfl
    have er : xR (xsI S 30 (nI k2)) j 0 = mA T 5 j := p2
    obtain ⟨w1, w2, w3, w4⟩ := bits16 kt a4 j hj4
    unfold pm
    dsimp only
    rw [em, eo, er]
    have i1 := fun (go r2 : Int32) (kt2 : Nat) (hkt : kt2 < 16) => ih (k + 1) m (g + 1 + x) kt2 k2 go r2 (fun j => if j = 24 then lN k2 else if j = 24 then lN k1 else lg j) (by omega) (by omega) (by omega) hkt b4 rfl
    by_cases c1 : ((nI kt >>> (nI j &&& 31)) &&& 1) = 0
    · rw [if_pos c1, if_pos (w1.mpr c1), w3]
      by_cases c2 : f_X9_outBy (nI (g + 1 + x) - mA T 5 j) (kp (P.2.2.1 j)) = 100
      · rw [if_pos c2, if_pos c2]
        by_cases c3 : f_X9_outBy (nI (g + 1 + x) - mA T 5 j) (kp (P.2.2.1 j)) ≤ 100
        · rw [if_pos c3, if_pos c3]
          exact i1 _ _ _ w4
        · rw [if_neg c3, if_neg c3]
          exact i1 _ _ _ w4
      · rw [if_neg c2, if_neg c2]
        by_cases c3 : f_X9_outBy (nI (g + 1 + x) - mA T 5 j) (kp (P.2.2.1 j)) ≤ 100
        · rw [if_pos c3, if_pos c3]
          exact i1 _ _ _ w4
        · rw [if_neg c3, if_neg c3]
          exact i1 _ _ _ w4
    · rw [if_neg c1, if_neg (fun z => c1 (w1.mp z)), w2 c1, show good + 0 = good by grind, show ru + 0 = ru by grind]
      exact i1 _ _ _ a4
theorem op_evenings {c : Nat} {P : XP} {S : XS} {T : MS} (h : RR c P S T) (a b d : Int32) {fu : Nat} (hfu : 2000 ≤ fu) : ∃ r S' T', f_X9_evenings fu P S a b d = some (r, S') ∧ f_X10_evenings fu T a b d = some (r, T') ∧ RR (c + 1) P S' T' := by
  obtain ⟨hok, hk, hm, hg, ht, hi, hc, hp⟩ := id h
  obtain ⟨q1, q2, q3⟩ := hasK hk
  unfold f_X9_evenings f_X10_evenings
  have same := h.mono (show c ≤ c + 1 by omega)
  by_cases c1 : a < 1
  · rw [if_pos c1, if_pos (within_0.mpr (by grind))]
    exact ⟨_, _, _, rfl, rfl, same⟩
  rw [if_neg c1]
  by_cases c2 : 30 < a
  · rw [if_pos c2, if_pos (within_0.mpr (by grind))]
    exact ⟨_, _, _, rfl, rfl, same⟩
  rw [if_neg c2, if_neg (fun z => within_0.mp z (by grind))]
  by_cases c3 : b < 0
  · rw [if_pos c3, if_pos c3]
    exact ⟨_, _, _, rfl, rfl, same⟩
  rw [if_neg c3, if_neg c3]
  by_cases c4 : d < 0
  · rw [if_pos c4, if_pos (within_0.mpr (by grind))]
    exact ⟨_, _, _, rfl, rfl, same⟩
  rw [if_neg c4]
  by_cases c5 : d ≤ 2
  · rw [if_pos c5, if_neg (fun z => within_0.mp z (by grind))]
    by_cases n0 : P.1 = 0
    · rw [if_pos (q1.mpr n0), if_pos (q2.mpr n0)]
      exact ⟨_, _, _, rfl, rfl, same⟩
    · rw [if_neg (fun z => n0 (q1.mp z)), if_neg (fun z => n0 (q2.mp z))]
      obtain ⟨sp, h1, h2, h3⟩ := spr hk
      obtain ⟨tm, t1, rfl⟩ := nI_of2 (x := a) (M := 30) (n := 30) rfl (by grind) (by grind)
      obtain ⟨s, s1, rfl⟩ := nI_of c3
      obtain ⟨gd2, ru2, z1, z2, z3, z4, z5, z6, s2, lg2, e1, e2, e3, e4⟩ := even_loop h (by omega) h1 h2 h3 t1 (nI s) d (fu := fu) tm 0 fu 0 0 s 0 0 (fun j => if j = 24 then lN s else T.2.1 j) (by omega) (by omega) (by omega) (by omega) s1 rfl
      unfold f_X10_eveningsNow
      rw [show f_X9_evenings_L60 fu P (nI tm) (nI s) d fu 0 0 0 0 0 (xsI S 30 (nI s)) = _ from e1, nI_l s1, show f_X10_eveningsNow_L21 fu (nI tm) (nI s) d fu 0 0 0 0 0 (msL T 24 (lN s)) = _ from e2]
      simp only [Option.bind_some]
      have fin : RR (c + 1) P (xsI S 30 (nI s2)) (Tl T lg2) := same
      by_cases d0 : d = 0
      · rw [if_pos d0, if_pos d0]
        exact ⟨_, _, _, rfl, rfl, fin⟩
      · rw [if_neg d0, if_neg d0]
        by_cases d1 : d = 1
        · rw [if_pos d1, if_pos d1]
          exact ⟨_, _, _, rfl, rfl, fin⟩
        · rw [if_neg d1, if_neg d1, show mL (Tl T lg2) 24 = lN s2 from e3, lN_i]
          exact ⟨_, _, _, rfl, rfl, fin⟩
  · rw [if_neg c5, if_pos (within_0.mpr (by grind))]
    exact ⟨_, _, _, rfl, rfl, same⟩
