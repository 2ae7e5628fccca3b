def gm (p : Nat → Bool) : Nat → Nat
  | 0 => 0
  | j + 1 => gm p j ||| (if p j = true then 2 ^ j else 0)
def rk (p : Nat → Bool) : Nat → Nat
  | 0 => 0
  | j + 1 => rk p j + (if p j = true then 1 else 0)
theorem gm_lt (p : Nat → Bool) : ∀ j, gm p j < 2 ^ j := by
  intro j
  induction j with
  | zero => exact Nat.one_pos
  | succ j ih =>
    rw [gm]
    refine Nat.or_lt_two_pow (Nat.lt_trans ih (Nat.pow_lt_pow_right (by decide) (by omega))) ?_
    split
    · exact Nat.pow_lt_pow_right (by decide) (by omega)
    · exact Nat.two_pow_pos _
theorem gm_16 (p : Nat → Bool) {j : Nat} (h : j ≤ 4) : gm p j < 16 := Nat.lt_of_lt_of_le (gm_lt p j) (p16 h)
theorem gm_congr {p q : Nat → Bool} : ∀ n, (∀ i, i < n → p i = q i) → gm p n = gm q n := by
  intro n
  induction n with
  | zero => exact fun _ => rfl
  | succ n ih =>
    intro h
    rw [gm, gm, ih (fun i hi => h i (by omega)), h n (by omega)]
theorem gm_up {p : Nat → Bool} {n : Nat} (h : ∀ i, n ≤ i → p i = false) : ∀ d, gm p (n + d) = gm p n := by
  intro d
  induction d with
  | zero => rfl
  | succ d ih =>
    rw [show n + (d + 1) = (n + d) + 1 by omega, gm, ih, h (n + d) (by omega)]
    simp
theorem rk_up {p : Nat → Bool} {n : Nat} (h : ∀ i, n ≤ i → p i = false) : ∀ d, rk p (n + d) = rk p n := by
  intro d
  induction d with
  | zero => rfl
  | succ d ih =>
    rw [show n + (d + 1) = (n + d) + 1 by omega, rk, ih, h (n + d) (by omega)]
    simp
theorem gm_0 {p : Nat → Bool} : ∀ n, (∀ i, i < n → p i = false) → gm p n = 0 := by
  intro n
  induction n with
  | zero => exact fun _ => rfl
  | succ n ih =>
    intro h
    rw [gm, ih (fun i hi => h i (by omega)), h n (by omega)]
    simp
theorem rk_le (p : Nat → Bool) : ∀ n, rk p n ≤ n := by
  intro n
  induction n with
  | zero => exact Nat.le_refl _
  | succ n ih =>
    rw [rk]
    split <;> omega
theorem rk_mono (p : Nat → Bool) {i : Nat} : ∀ d, rk p i ≤ rk p (i + d) := by
  intro d
  induction d with
  | zero => exact Nat.le_refl _
  | succ d ih =>
    rw [show i + (d + 1) = (i + d) + 1 by omega, rk]
    omega
theorem rk_lt {p : Nat → Bool} {i n : Nat} (h : i < n) (hp : p i = true) : rk p i < rk p n := by
  have := rk_mono p (i := i + 1) (n - i - 1)
  rw [show i + 1 + (n - i - 1) = n by omega, rk, if_pos hp] at this
  omega
theorem e6 (B X : Nat → Bool) : pdep (gm B 4) (gm X (rk B 4)) = gm (fun i => B i && X (rk B i)) 4 ∧ sz4 (gm B 4) = rk B 4 := by
  cases h0 : B 0 <;> cases h1 : B 1 <;> cases h2 : B 2 <;> cases h3 : B 3 <;> simp [gm, rk, h0, h1, h2, h3] <;> cases X 0 <;> cases X 1 <;> cases X 2 <;> cases X 3 <;> decide
section OP
variable {P : XP} {S S1 : XS} {T : MS} {c fu : Nat}
theorem add_eq {q : Nat} (hq : q < 4) (e : xI S 24 = nI q) (a k : Int32) : f_X4_add P S a k = some (xsI (xsI (xsA (xsA S 15 q a) 16 q (a + k)) 28 (if (if xI S 28 < a + k then a + k else xI S 28) < 120 then (if xI S 28 < a + k then a + k else xI S 28) else 120)) 24 (nI (q + 1))) := by
  unfold f_X4_add
  have e1 : ∀ (v : Int32) i, xI (xsA S 15 i v) 24 = nI q := fun v i => e
  have e2 : ∀ (v w : Int32) i j, xI (xsA (xsA S 15 i v) 16 j w) 24 = nI q := fun v w i j => e
  have e3 : ∀ (v w : Int32) i j, xI (xsA (xsA S 15 i v) 16 j w) 28 = xI S 28 := fun v w i j => rfl
  have e4 : ∀ (v w u : Int32) i j, xI (xsI (xsA (xsA S 15 i v) 16 j w) 28 u) 24 = nI q := fun v w u i j => e
  have e5 : ∀ (v w : Int32) i j, xA (xsA (xsA S 15 i v) 16 j w) 16 j = w := fun v w i j => by
    show (if j = j then w else _) = w
    rw [if_pos rfl]
  simp only [e, e1, e2, e3, e4, nI_clamp (show q < 2 ^ 31 by omega), e5, nI_1]
  rw [if_neg (show ¬ nI q < 0 from nI_pos (by omega)), if_pos (show nI q < 4 from nI_lt (b := 4) hq (by decide)), gd_in (vp_in_nI hq (by decide)), gd_in (vp_in_nI hq (by decide)), gd_in (vp_in_nI hq (by decide))]
def bl (P : XP) (T : MS) (i : Nat) : Bool := decide (i < P.1) && !decide (mA T 9 i = -1)
def gq (P : XP) (T : MS) (mn t i : Nat) : Bool := decide (f_X10_out (nI (mn + t)) (mA T 9 i + mA T 5 i) (kp (P.2.2.1 i)) = 100)
def gt (S : XS) (t j : Nat) : Bool := !decide (nI t < xA S 15 j) && !decide (xA S 16 j < nI t)
theorem bl_t {i : Nat} (hi : i < P.1) : bl P T i = !decide (mA T 9 i = -1) := by
  unfold bl
  rw [decide_eq_true hi, Bool.true_and]
theorem bl_out {i : Nat} (hi : P.1 ≤ i) : bl P T i = false := by
  unfold bl
  rw [decide_eq_false (by omega), Bool.false_and]
/-- the reference's masks -/
theorem mg_loop (h4 : P.1 ≤ 4) (h1 : mI T 1 = nI P.1) {T2 : MS} (f : MFr T T2) (hok : xOK P) (hkd : ∀ i, i < P.1 → kd (P.2.2.1 i) = mA T 4 i) {mn t : Nat} : ∀ (d j n : Nat), j + d = P.1 → f_X10_goodAt_L4 fu (nI (mn + t)) (n + d + 1) (nI (gm (fun i => bl P T i && gq P T mn t i) j)) (nI j) T2 = some (nI (gm (fun i => bl P T i && gq P T mn t i) P.1), nI P.1) := by
  intro d
  induction d with
  | zero =>
    intro j n hj
    rw [f_X10_goodAt_L4, f.1 1, h1, if_pos (nI_le (by omega) (by omega)), show j = P.1 by omega]
  | succ d ih =>
    intro j n hj
    have hjn : j < P.1 := by omega
    have j4 : j < 4 := by omega
    have b6 := bw_6 _ (gm_16 (fun i => bl P T i && gq P T mn t i) (show j ≤ 4 by omega)) j j4
    have e9 : mA T2 9 = mA T 9 := f.2 9 (by decide) (by decide)
    have e5 : mA T2 5 = mA T 5 := f.2 5 (by decide) (by decide)
    have e4 : mA T2 4 = mA T 4 := f.2 4 (by decide) (by decide)
    have step := ih (j + 1) n (by omega)
    rw [gm] at step
    rw [show n + (d + 1) + 1 = (n + d + 1) + 1 by omega, f_X10_goodAt_L4, f.1 1, h1, if_neg (nI_ge (by omega) (by omega)), mp_boils j4, e9, nI_1]
    by_cases q : mA T 9 j = -1
    · rw [if_pos q, Option.bind_some, if_pos rfl, b6.2.2]
      have : (bl P T j && gq P T mn t j) = false := by rw [bl_t hjn, decide_eq_true q]; rfl
      rw [this] at step
      simp at step
      exact step
    · rw [if_neg q, Option.bind_some, if_neg (by decide)]
      unfold f_X10_outAt
      rw [mp_due j4, mp_keeps hok hjn j4 (by rw [e4]; exact hkd j hjn), Option.bind_some, Option.bind_some, Option.bind_some, e9, e5]
      have b0 : bl P T j = true := by rw [bl_t hjn, decide_eq_false q]; rfl
      by_cases q2 : f_X10_out (nI (mn + t)) (mA T 9 j + mA T 5 j) (kp (P.2.2.1 j)) = 100
      · rw [if_pos q2, b6.1]
        have : (bl P T j && gq P T mn t j) = true := by rw [b0]; unfold gq; rw [decide_eq_true q2]; rfl
        rw [this, if_pos rfl] at step
        exact step
      · rw [if_neg q2, b6.2.2]
        have : (bl P T j && gq P T mn t j) = false := by rw [b0]; unfold gq; rw [decide_eq_false q2]; rfl
        rw [this] at step
        simp at step
        exact step
theorem mb_loop (h4 : P.1 ≤ 4) (h1 : mI T 1 = nI P.1) {v1 : Int32} : ∀ (d j n : Nat), j + d = P.1 → f_X10_planNow_L4 fu v1 (n + d + 1) (nI (gm (bl P T) j)) (nI j) T = some (nI (gm (bl P T) P.1), nI P.1) := by
  intro d
  induction d with
  | zero =>
    intro j n hj
    rw [f_X10_planNow_L4, h1, if_pos (nI_le (by omega) (by omega)), show j = P.1 by omega]
  | succ d ih =>
    intro j n hj
    have hjn : j < P.1 := by omega
    have j4 : j < 4 := by omega
    have b6 := bw_6 _ (gm_16 (bl P T) (show j ≤ 4 by omega)) j j4
    have step := ih (j + 1) n (by omega)
    rw [gm] at step
    rw [show n + (d + 1) + 1 = (n + d + 1) + 1 by omega, f_X10_planNow_L4, h1, if_neg (nI_ge (by omega) (by omega)), mp_boils j4, nI_1]
    by_cases q : mA T 9 j = -1
    · rw [if_pos q, Option.bind_some, if_pos rfl, b6.2.2]
      have : bl P T j = false := by rw [bl_t hjn, decide_eq_true q]; rfl
      rw [this] at step
      simp at step
      exact step
    · rw [if_neg q, Option.bind_some, if_neg (by decide), b6.1]
      have : bl P T j = true := by rw [bl_t hjn, decide_eq_false q]; rfl
      rw [this, if_pos rfl] at step
      exact step
/-- the class's mask -/
theorem xg_loop {b : Nat} (hb : b ≤ 4) (h24 : xI S 24 = nI b) {S2 : XS} (f : XFr S S2) {t : Nat} (ht : t ≤ 120) : ∀ (d j n : Nat), j + d = b → f_X4_goodAt_L4 fu P (nI t) (n + d + 1) (nI (gm (gt S t) j)) (nI j) S2 = some (nI (gm (gt S t) b), nI b) := by
  intro d
  induction d with
  | zero =>
    intro j n hj
    rw [f_X4_goodAt_L4, f.1 24, h24, if_pos (nI_le (by omega) (by omega)), show j = b by omega]
  | succ d ih =>
    intro j n hj
    have j4 : j < 4 := by omega
    have b6 := bw_6 _ (gm_16 (gt S t) (show j ≤ 4 by omega)) j j4
    have e15 : xA S2 15 = xA S 15 := f.2.1 15 (by decide) (by decide)
    have e16 : xA S2 16 = xA S 16 := f.2.1 16 (by decide) (by decide)
    have step := ih (j + 1) n (by omega)
    rw [gm] at step
    rw [show n + (d + 1) + 1 = (n + d + 1) + 1 by omega, f_X4_goodAt_L4, f.1 24, h24, if_neg (nI_ge (by omega) (by omega)), if_neg (show ¬ (4 : Int32) ≤ nI j from nI_ge (b := 4) (by omega) (by omega)), gd_in (vp_in_nI j4 (by decide)), gd_in (vp_in_nI j4 (by decide)), nI_clamp (by omega), e15, e16, nI_1]
    by_cases q : nI t < xA S 15 j
    · rw [if_pos q]
      have : gt S t j = false := by unfold gt; rw [decide_eq_true q]; rfl
      rw [this] at step
      simp at step
      exact step
    · rw [if_neg q]
      by_cases q2 : xA S 16 j < nI t
      · rw [if_pos q2]
        have : gt S t j = false := by unfold gt; rw [decide_eq_true q2, Bool.not_true, Bool.and_false]
        rw [this] at step
        simp at step
        exact step
      · rw [if_neg q2, b6.1]
        have : gt S t j = true := by unfold gt; rw [decide_eq_false q, decide_eq_false q2]; rfl
        rw [this, if_pos rfl] at step
        exact step
def XFq (S S2 : XS) : Prop := (∀ j, j ≠ 24 → j ≠ 28 → xI S2 j = xI S j) ∧ (∀ j, j ≠ 15 → j ≠ 16 → xA S2 j = xA S j) ∧ ∀ i j, xR S2 i j = xR S i j
theorem add_la {la : Nat} (hla : la ≤ 120) {x : Int32} (x0 : -2000 ≤ x) (x1 : x ≤ 2000) : ∃ l2, l2 ≤ 120 ∧ la ≤ l2 ∧ (if (if nI la < x then x else nI la) < 120 then (if nI la < x then x else nI la) else 120) = nI l2 ∧ ∀ t, t ≤ 120 → nI t ≤ x → t ≤ l2 := by
  have l0 : (0 : Int32) ≤ nI la := nI_pos' (by omega)
  have l1 : nI la ≤ 120 := nI_le (b := 120) hla (by decide)
  have c0 : (0 : Int32) ≤ (if (if nI la < x then x else nI la) < 120 then (if nI la < x then x else nI la) else 120) := by
    repeat' split
    all_goals grind
  have c1 : (if (if nI la < x then x else nI la) < 120 then (if nI la < x then x else nI la) else 120) ≤ (120 : Int32) := by
    repeat' split
    all_goals grind
  obtain ⟨l2, a, b⟩ := rng_nI (n := 120) (by decide) c0 c1
  refine ⟨l2, a, (nI_leI (by omega) (by omega)).mp ?_, b, fun t ht hx => (nI_leI (by omega) (by omega)).mp ?_⟩
  · rw [← b]
    repeat' split
    all_goals grind
  · rw [← b]
    have t1 : nI t ≤ 120 := nI_le (b := 120) ht (by decide)
    repeat' split
    all_goals grind
theorem pl_loop (h : RR c P S T) {mn : Nat} (hmn : mI T 6 = nI mn) (mn9 : mn ≤ 999) {v1 : Int32} : ∀ (d i n : Nat) (S1 : XS) (la : Nat), i + d = P.1 → XFq S S1 → xI S1 24 = nI (rk (bl P T) i) → la ≤ 120 → xI S1 28 = nI la → (∀ j, j < i → bl P T j = true → xA S1 15 (rk (bl P T) j) = mA T 9 j + mA T 5 j - nI mn ∧ xA S1 16 (rk (bl P T) j) = mA T 9 j + mA T 5 j - nI mn + kp (P.2.2.1 j) ∧ ∀ t, t ≤ 120 → nI t ≤ xA S1 16 (rk (bl P T) j) → t ≤ la) → ∃ z S2 l2, f_X9_plan_L62 fu P v1 (n + d + 1) (nI i) S1 = some (z, S2) ∧ XFq S S2 ∧ xI S2 24 = nI (rk (bl P T) P.1) ∧ l2 ≤ 120 ∧ xI S2 28 = nI l2 ∧ ∀ j, j < P.1 → bl P T j = true → xA S2 15 (rk (bl P T) j) = mA T 9 j + mA T 5 j - nI mn ∧ xA S2 16 (rk (bl P T) j) = mA T 9 j + mA T 5 j - nI mn + kp (P.2.2.1 j) ∧ ∀ t, t ≤ 120 → nI t ≤ xA S2 16 (rk (bl P T) j) → t ≤ l2 := by
  obtain ⟨hok, hk, hm, hg, ht, hi, hc, hp⟩ := h
  have h4 := hk.1
  intro d
  induction d with
  | zero =>
    intro i n S1 la hi hx h24 hla h28 hv
    rw [f_X9_plan_L62, hx.1 6 (by decide) (by decide), hk.2.1, if_pos (nI_le (by omega) (by omega))]
    rw [show i = P.1 by omega] at h24 hv
    exact ⟨_, S1, la, rfl, hx, h24, hla, h28, hv⟩
  | succ d ih =>
    intro i n S1 la hi hx h24 hla h28 hv
    have hin : i < P.1 := by omega
    have pa : f_X9_potAt P S1 (nI i) = some i := by
      have := (potAt_j hk hin).1
      unfold f_X9_potAt at this ⊢
      rw [hx.1 6 (by decide) (by decide)]
      exact this
    have xb : f_X5_boils P S1 i = f_X5_boils P S i := by
      unfold f_X5_boils
      rw [hx.2.2]
    rw [show n + (d + 1) + 1 = (n + d + 1) + 1 by omega, f_X9_plan_L62, hx.1 6 (by decide) (by decide), hk.2.1, if_neg (nI_ge (by omega) (by omega)), pa, nI_1]
    unfold pm
    simp only []
    rw [xb, xb_eq hp hin]
    by_cases q : mA T 9 i = -1
    · rw [if_pos q, if_pos rfl]
      have b0 : bl P T i = false := by rw [bl_t hin, decide_eq_true q]; rfl
      refine ih (i + 1) n S1 la (by omega) hx (by rw [rk, b0]; exact h24) hla h28 (fun j hj hb => ?_)
      by_cases e : j = i
      · rw [e, b0] at hb
        exact absurd hb (by decide)
      · exact hv j (by omega) hb
    · have b0 : bl P T i = true := by rw [bl_t hin, decide_eq_false q]; rfl
      have r4 : rk (bl P T) i < 4 := by have := rk_le (bl P T) i; omega
      obtain ⟨e1, e2, ⟨e3, e4⟩, e5, ⟨e6, e7⟩, -⟩ := hp i hin
      have kq := (kd_kp _ (hok.1 i hin)).2.1
      have due : f_X5_due P S1 i - xI S1 9 = mA T 9 i + mA T 5 i - nI mn := by
        unfold f_X5_due
        rw [hx.2.2, hx.2.2, e5, e2, hx.1 9 (by decide) (by decide), hm.1, hmn]
      have m0 : (0 : Int32) ≤ nI mn := nI_pos' (by omega)
      have m1 : nI mn ≤ 999 := nI_le (b := 999) mn9 (by decide)
      rw [if_neg q, if_neg (by decide), due, add_eq r4 h24, Option.bind_some, h28]
      obtain ⟨l2, l3, l4, l5, l6⟩ := add_la hla (x := mA T 9 i + mA T 5 i - nI mn + kp (P.2.2.1 i)) (by grind) (by grind)
      rw [l5]
      refine ih (i + 1) n _ l2 (by omega) ⟨fun j a b => ?_, fun j a b => ?_, hx.2.2⟩ ?_ l3 rfl (fun j hj hb => ?_)
      · rw [xI_xsI, if_neg a, xI_xsI, if_neg b]
        exact hx.1 j a b
      · show xA (xsA (xsA S1 15 _ _) 16 _ _) j = xA S j
        rw [xA_xsA, if_neg b, xA_xsA, if_neg a]
        exact hx.2.1 j a b
      · rw [rk, b0]
        rfl
      · have w15 : ∀ (v w u z : Int32) (k : Nat), xA (xsI (xsI (xsA (xsA S1 15 (rk (bl P T) i) v) 16 (rk (bl P T) i) w) 28 u) 24 z) 15 k = if k = rk (bl P T) i then v else xA S1 15 k := fun _ _ _ _ _ => rfl
        have w16 : ∀ (v w u z : Int32) (k : Nat), xA (xsI (xsI (xsA (xsA S1 15 (rk (bl P T) i) v) 16 (rk (bl P T) i) w) 28 u) 24 z) 16 k = if k = rk (bl P T) i then w else xA S1 16 k := fun _ _ _ _ _ => rfl
        rw [w15, w16]
        by_cases e : j = i
        · subst e
          rw [if_pos rfl, if_pos rfl]
          exact ⟨rfl, rfl, l6⟩
        · have := rk_lt (p := bl P T) (show j < i by omega) hb
          rw [if_neg (by omega), if_neg (by omega)]
          obtain ⟨y1, y2, y3⟩ := hv j (by omega) hb
          exact ⟨y1, y2, fun t ht hq => Nat.le_trans (y3 t ht hq) l4⟩
theorem out_100 {a d k : Int32} (a0 : 0 ≤ a) (a1 : a ≤ 5000) (d0 : -5 ≤ d) (d1 : d ≤ 5000) (k0 : 0 ≤ k) (k1 : k ≤ 9) : f_X10_out a d k = 100 ↔ d ≤ a ∧ a ≤ d + k := by
  unfold f_X10_out
  split
  · split
    · grind
    · grind
  · grind
theorem op_plan (h : RR c P S T) (hf : 2000 ≤ fu) (a1 : Int32) : ∃ r S' T', f_X9_plan fu P S a1 = some (r, S') ∧ f_X10_plan fu T a1 = some (r, T') ∧ RR (c + 1) P S' T' := by
  obtain ⟨hok, hk, hm, hg, ht, hi, hc, hp⟩ := id h
  have h4 := hk.1
  unfold f_X9_plan f_X10_plan
  by_cases q0 : a1 < 0
  · rw [if_pos q0, if_pos (within_0.mpr (by grind))]
    exact ⟨_, S, T, rfl, rfl, h.mono (by omega)⟩
  · rw [if_neg q0]
    by_cases q1 : a1 ≤ 1
    · rw [if_pos q1, if_neg (fun z => within_0.mp z ⟨by grind, q1⟩)]
      obtain ⟨k1, k2, -⟩ := hasK hk
      by_cases q2 : P.1 = 0
      · rw [if_pos (k1.mpr q2), if_pos (k2.mpr q2)]
        exact ⟨_, S, T, rfl, rfl, h.mono (by omega)⟩
      · rw [if_neg (fun z => q2 (k1.mp z)), if_neg (fun z => q2 (k2.mp z)), hc.2.1]
        by_cases q3 : mI T 17 = 20
        · rw [if_neg (show ¬ mI T 17 < 20 by rw [q3]; decide), if_pos q3]
          exact ⟨_, S, T, rfl, rfl, h.mono (by omega)⟩
        · rw [if_pos (show mI T 17 < 20 by have := hc.2.2.1; grind), if_neg q3]
          obtain ⟨mn, mn9, emn⟩ := rng_nI (x := mI T 6) (n := 999) (by decide) hm.2.1.1 hm.2.1.2
          obtain ⟨sp, sp6, esp⟩ := rng_nI (x := mI T 2) (n := 60) (by decide) hk.2.2.2.2.2.1.1 hk.2.2.2.2.2.1.2
          obtain ⟨hd, hd4, ehd⟩ := rng_nI (x := mI T 3) (n := 4) (by decide) hk.2.2.2.2.2.2.1.1 hk.2.2.2.2.2.2.1.2
          obtain ⟨fr, fr4, efr⟩ := rng_nI (x := mI T 7) (n := 4) (by decide) hm.2.2.2.1.1 hm.2.2.2.1.2
          have sp0 : 0 < sp := by
            have := hk.2.2.2.2.2.2.2 (by omega)
            rw [esp] at this
            have := (nI_leI (a := 1) (by omega) (by omega)).mp this
            omega
          have hR : RR (c + 1) P (xsI S 17 (mI T 17 + 1)) (msI T 17 (mI T 17 + 1)) := by
            refine ⟨hok, hk, hm, hg, ht, hi, ⟨hc.1, rfl, ?_, ⟨hc.2.2.2.1.1, by have := hc.2.2.2.1.2; show (mI T 0).toInt ≤ _; omega⟩, hc.2.2.2.2⟩, hp⟩
            show 0 ≤ mI T 17 + 1 ∧ mI T 17 + 1 ≤ 20
            have := hc.2.2.1
            grind
          have mm : mI (msI T 17 (mI T 17 + 1)) 6 = nI mn := emn

          obtain ⟨z, S2, la, y1, y2, y3, y4, y5, y6⟩ := pl_loop (fu := fu) (S := f_X4_begin P (xsI S 17 (mI T 17 + 1)) (mI T 2) (mI T 3) (mI T 7)) (v1 := a1) (c := c + 1) (T := msI T 17 (mI T 17 + 1)) (P := P) (hR.frame (fun j hj => by
            unfold f_X4_begin
            rw [xI_xsI, if_neg (by omega), xI_xsI, if_neg (by omega), xI_xsI, if_neg (by omega), xI_xsI, if_neg (by omega), xI_xsI, if_neg (by omega)]) (fun j hj => rfl) (fun i j => rfl) (fun j _ _ => rfl) (fun j _ _ => rfl)) mm mn9 P.1 0 (fu - P.1 - 1) (f_X4_begin P (xsI S 17 (mI T 17 + 1)) (mI T 2) (mI T 3) (mI T 7)) 0 (by omega) ⟨fun _ _ _ => rfl, fun _ _ _ => rfl, fun _ _ => rfl⟩ rfl (by omega) rfl (fun j hj => absurd hj (Nat.not_lt_zero j))
          rw [show fu - P.1 - 1 + P.1 + 1 = fu by omega] at y1
          have b7 : ∀ v, xI (xsI S 17 v) 7 = mI T 2 := fun v => hk.2.2.2.1
          have b8 : ∀ v, xI (xsI S 17 v) 8 = mI T 3 := fun v => hk.2.2.2.2.1
          have b10 : ∀ v, xI (xsI S 17 v) 10 = mI T 7 := fun v => hm.2.2.1
          have up : ∀ i, P.1 ≤ i → bl P (msI T 17 (mI T 17 + 1)) i = false := fun i => bl_out
          have upg : ∀ t i, P.1 ≤ i → (bl P (msI T 17 (mI T 17 + 1)) i && gq P (msI T 17 (mI T 17 + 1)) mn t i) = false := fun t i hh => by rw [up i hh]; rfl
          have g4 : ∀ t, gm (fun i => bl P (msI T 17 (mI T 17 + 1)) i && gq P (msI T 17 (mI T 17 + 1)) mn t i) 4 = gm (fun i => bl P (msI T 17 (mI T 17 + 1)) i && gq P (msI T 17 (mI T 17 + 1)) mn t i) P.1 := fun t => by
            have := gm_up (upg t) (4 - P.1)
            rw [show P.1 + (4 - P.1) = 4 by omega] at this
            exact this
          have a4 : gm (bl P (msI T 17 (mI T 17 + 1))) 4 = gm (bl P (msI T 17 (mI T 17 + 1))) P.1 := by
            have := gm_up up (4 - P.1)
            rw [show P.1 + (4 - P.1) = 4 by omega] at this
            exact this
          have r4 : rk (bl P (msI T 17 (mI T 17 + 1))) 4 = rk (bl P (msI T 17 (mI T 17 + 1))) P.1 := by
            have := rk_up up (4 - P.1)
            rw [show P.1 + (4 - P.1) = 4 by omega] at this
            exact this
          have rle := rk_le (bl P (msI T 17 (mI T 17 + 1))) P.1
          have hPS : PS (rk (bl P (msI T 17 (mI T 17 + 1))) P.1) sp hd fr la (fun t => gm (gt S2 t) (rk (bl P (msI T 17 (mI T 17 + 1))) P.1)) S2 := by
            refine ⟨by omega, sp6, hd4, fr4, y4, y3, ?_, ?_, ?_, y5, fun t => gm_lt _ _, fun S3 P' fu' t f f10 ht => ?_⟩
            · rw [y2.1 25 (by decide) (by decide), ← esp]
              rfl
            · rw [y2.1 26 (by decide) (by decide), ← ehd]
              rfl
            · rw [y2.1 27 (by decide) (by decide), ← efr]
              rfl
            · have := xg_loop (fu := fu') (P := P') (show rk (bl P (msI T 17 (mI T 17 + 1))) P.1 ≤ 4 by omega) y3 f ht (rk (bl P (msI T 17 (mI T 17 + 1))) P.1) 0 (fu' - rk (bl P (msI T 17 (mI T 17 + 1))) P.1 - 1) (by omega)
              rw [show fu' - rk (bl P (msI T 17 (mI T 17 + 1))) P.1 - 1 + rk (bl P (msI T 17 (mI T 17 + 1))) P.1 + 1 = fu' by omega] at this
              unfold f_X4_goodAt
              rw [show (0 : Int32) = nI (gm (gt S2 t) 0) from rfl, show nI (gm (gt S2 t) 0) = nI 0 from rfl] 
              rw [show nI (gm (gt S2 t) 0) = nI 0 from rfl] at this
              rw [this]
              rfl

          have hPM : PMs sp hd fr mn (fun t => gm (fun i => bl P (msI T 17 (mI T 17 + 1)) i && gq P (msI T 17 (mI T 17 + 1)) mn t i) P.1) (msI T 17 (mI T 17 + 1)) := by
            refine ⟨sp6, hd4, fr4, mn9, esp, ehd, efr, emn, fun t => gm_16 _ h4, fun T3 fu' t f f10 ht => ?_⟩
            have := mg_loop (fu := fu') (P := P) (T := msI T 17 (mI T 17 + 1)) (mn := mn) (t := t) h4 hk.2.2.1 f hok (fun i hi => (hp i hi).1) P.1 0 (fu' - P.1 - 1) (by omega)
            rw [show fu' - P.1 - 1 + P.1 + 1 = fu' by omega, show nI (gm (fun i => bl P (msI T 17 (mI T 17 + 1)) i && gq P (msI T 17 (mI T 17 + 1)) mn t i) 0) = 0 from rfl, show nI 0 = 0 from rfl] at this
            unfold f_X10_goodAt
            rw [this]
            rfl
          have mb := mb_loop (fu := fu) (P := P) (T := msI T 17 (mI T 17 + 1)) (v1 := a1) h4 hk.2.2.1 P.1 0 (fu - P.1 - 1) (by omega)
          rw [show fu - P.1 - 1 + P.1 + 1 = fu by omega, show nI (gm (bl P (msI T 17 (mI T 17 + 1))) 0) = 0 from rfl, show nI 0 = 0 from rfl] at mb
          obtain ⟨x0, x1, T2, w1, w2, w3⟩ := m_ans (fu := fu) hPM hf sp0 (gm_16 _ h4) mb

          have same : ∀ t, t ≤ 120 → ∀ i, i < P.1 → bl P (msI T 17 (mI T 17 + 1)) i = true → gt S2 t (rk (bl P (msI T 17 (mI T 17 + 1))) i) = gq P (msI T 17 (mI T 17 + 1)) mn t i ∧ (gq P (msI T 17 (mI T 17 + 1)) mn t i = true → t ≤ la) := by
            intro t ht i hi hb
            obtain ⟨v1, v2, v3⟩ := y6 i hi hb
            obtain ⟨e1, e2, ⟨e3, e4⟩, e5, ⟨e6, e7⟩, -⟩ := hp i hi
            have kq := (kd_kp _ (hok.1 i hi)).2.1
            have v1' : xA S2 15 (rk (bl P (msI T 17 (mI T 17 + 1))) i) = mA T 9 i + mA T 5 i - nI mn := v1
            have v2' : xA S2 16 (rk (bl P (msI T 17 (mI T 17 + 1))) i) = mA T 9 i + mA T 5 i - nI mn + kp (P.2.2.1 i) := v2
            have m0 : (0 : Int32) ≤ nI mn := nI_pos' (by omega)
            have m1 : nI mn ≤ 999 := nI_le (b := 999) mn9 (by decide)
            have t0 : (0 : Int32) ≤ nI t := nI_pos' (by omega)
            have t1 : nI t ≤ 120 := nI_le (b := 120) ht (by decide)
            have o := out_100 (a := nI (mn + t)) (d := mA T 9 i + mA T 5 i) (k := kp (P.2.2.1 i)) (by rw [← nI_add]; grind) (by rw [← nI_add]; grind) (by grind) (by grind) kq.1 kq.2
            rw [← nI_add] at o
            have eq : (¬ nI t < xA S2 15 (rk (bl P (msI T 17 (mI T 17 + 1))) i) ∧ ¬ xA S2 16 (rk (bl P (msI T 17 (mI T 17 + 1))) i) < nI t) ↔ f_X10_out (nI mn + nI t) (mA T 9 i + mA T 5 i) (kp (P.2.2.1 i)) = 100 := by
              rw [o, v1', v2']
              constructor
              · rintro ⟨a, b⟩
                exact ⟨by grind, by grind⟩
              · rintro ⟨a, b⟩
                exact ⟨by grind, by grind⟩
            refine ⟨?_, fun z => ?_⟩
            · unfold gt gq
              rw [← nI_add]
              show _ = decide (f_X10_out (nI mn + nI t) (mA T 9 i + mA T 5 i) (kp (P.2.2.1 i)) = 100)
              by_cases q : f_X10_out (nI mn + nI t) (mA T 9 i + mA T 5 i) (kp (P.2.2.1 i)) = 100
              · have := eq.mpr q
                rw [decide_eq_true q, decide_eq_false this.1, decide_eq_false this.2]
                rfl
              · rw [decide_eq_false q]
                by_cases z1 : nI t < xA S2 15 (rk (bl P (msI T 17 (mI T 17 + 1))) i)
                · rw [decide_eq_true z1]
                  rfl
                · by_cases z2 : xA S2 16 (rk (bl P (msI T 17 (mI T 17 + 1))) i) < nI t
                  · rw [decide_eq_true z2, Bool.not_true, Bool.and_false]
                  · exact absurd (eq.mp ⟨z1, z2⟩) q
            · unfold gq at z
              rw [← nI_add] at z
              have z := eq.mpr (of_decide_eq_true z)
              exact v3 t ht (by grind)
          have hGG : GG (fun t => gm (fun i => bl P (msI T 17 (mI T 17 + 1)) i && gq P (msI T 17 (mI T 17 + 1)) mn t i) P.1) (fun t => gm (gt S2 t) (rk (bl P (msI T 17 (mI T 17 + 1))) P.1)) (gm (bl P (msI T 17 (mI T 17 + 1))) P.1) la := by
            refine ⟨gm_16 _ h4, y4, fun t ht => ⟨?_, ?_⟩, fun r hr hr2 => ?_⟩
            · have := (e6 (bl P (msI T 17 (mI T 17 + 1))) (gt S2 t)).2
              rw [a4, r4] at this
              rw [this]
              exact gm_lt _ _
            · have := (e6 (bl P (msI T 17 (mI T 17 + 1))) (gt S2 t)).1
              rw [a4, r4] at this
              rw [this]
              have u2 : ∀ i, P.1 ≤ i → (bl P (msI T 17 (mI T 17 + 1)) i && gt S2 t (rk (bl P (msI T 17 (mI T 17 + 1))) i)) = false := fun i hh => by rw [up i hh]; rfl
              have u3 := gm_up u2 (4 - P.1)
              rw [show P.1 + (4 - P.1) = 4 by omega] at u3
              rw [u3]
              refine gm_congr P.1 (fun i hi => ?_)
              by_cases hb : bl P (msI T 17 (mI T 17 + 1)) i = true
              · rw [(same t ht i hi hb).1]
              · rw [Bool.eq_false_iff.mpr hb]
                rfl
            · refine gm_0 P.1 (fun i hi => ?_)
              by_cases hb : bl P (msI T 17 (mI T 17 + 1)) i = true
              · by_cases hq : gq P (msI T 17 (mI T 17 + 1)) mn r i = true
                · have := (same r hr2 i hi hb).2 hq
                  omega
                · rw [Bool.eq_false_iff.mpr hq, Bool.and_false]
              · rw [Bool.eq_false_iff.mpr hb]
                rfl
          have hb : rk (bl P (msI T 17 (mI T 17 + 1))) P.1 = sz4 (gm (bl P (msI T 17 (mI T 17 + 1))) P.1) := by
            have := (e6 (bl P (msI T 17 (mI T 17 + 1))) (fun _ => true)).2
            rw [a4, r4] at this
            exact this.symm
          obtain ⟨S3, u1, u2, u3⟩ := fl_eq (fu := fu) (P := P) hPS (by omega)
          obtain ⟨an0, an1⟩ := x_ans (fu := fu) (P := P) (hPS.go u2) hGG hb (by omega) u3 w1
          rw [show nI 0 = 0 from rfl] at y1
          simp only [b7, b8, b10]
          rw [y1, Option.bind_some]
          simp only []
          rw [u1, Option.bind_some, w2, Option.bind_some]
          refine ⟨if a1 = 0 then x0 else x1, S3, T2, ?_, rfl, hR.frame (fun j hj => ?_) (fun j hj => ?_) (fun i j => ?_) (fun j _ _ => w3.1 j) (fun j a b => w3.2 j a b)⟩
          · rw [an0, an1, Option.bind_some, Option.bind_some]
            by_cases q : a1 = 0
            · rw [if_pos q, if_pos q]
            · rw [if_neg q, if_neg q]
          · rw [u2.1, y2.1 j (by omega) (by omega)]
            unfold f_X4_begin
            rw [xI_xsI, if_neg (by omega), xI_xsI, if_neg (by omega), xI_xsI, if_neg (by omega), xI_xsI, if_neg (by omega), xI_xsI, if_neg (by omega)]
          · rw [u2.2.1 j (by omega) (by omega), y2.2.1 j (by omega) (by omega)]
            rfl
          · rw [u2.2.2, y2.2.2]
            rfl
    · rw [if_neg q1, if_pos (within_0.mpr (by grind))]
      exact ⟨_, S, T, rfl, rfl, h.mono (by omega)⟩
end OP
