theorem bw_1 : ∀ a, a < 16 → ∀ b, b < 16 → ((nI a &&& (nI b ^^^ -1)) = 0 ↔ a &&& b = a) := by decide +kernel
theorem bw_2 : ∀ a, a < 16 → ∀ b, b < 16 → b &&& a = b → nI a &&& (nI b ^^^ -1) = nI (a ^^^ b) := by decide +kernel
theorem bw_3 : ∀ a, a < 16 → ∀ b, b < 16 → nI a &&& nI b = nI (a &&& b) ∧ nI a ||| nI b = nI (a ||| b) := by decide +kernel
theorem bw_4 : ∀ a, a < 16 → f_J6_bitCount_0f7a4 (nI a) = nI (sz4 a) ∧ f_X10_size (nI a) = nI (sz4 a) ∧ sz4 a ≤ 4 := by decide +kernel
theorem bw_5 : ∀ b, b < 5 → (1 <<< (nI b &&& 31)) - 1 = nI (2 ^ b - 1) ∧ 2 ^ b - 1 < 16 ∧ 0 < 2 ^ b := by decide +kernel
theorem bw_6 : ∀ k, k < 16 → ∀ j, j < 4 → nI k ||| (1 <<< (nI j &&& 31)) = nI (k ||| 2 ^ j) ∧ k ||| 2 ^ j < 16 ∧ nI k ||| 0 = nI k := by decide +kernel
theorem can_eq {T G h : Nat} (hT : T < 16) (hG : G < 16) (hh : h ≤ 4) : f_X4_canTake (nI T) (nI G) (nI h) = 0 ↔ ¬ (T &&& G = T ∧ sz4 T ≤ h) := by
  unfold f_X4_canTake
  obtain ⟨e1, -, e2⟩ := bw_4 T hT
  rw [e1]
  by_cases q : T &&& G = T
  · rw [if_pos ((bw_1 T hT G hG).mpr q)]
    by_cases q2 : sz4 T ≤ h
    · rw [if_neg (nI_nlt q2 (by omega))]
      exact ⟨fun z => absurd z (by decide), fun z => absurd ⟨q, q2⟩ z⟩
    · rw [if_pos (nI_lt (by omega) (by omega))]
      exact ⟨fun _ z => q2 z.2, fun _ => rfl⟩
  · rw [if_neg (fun z => q ((bw_1 T hT G hG).mp z))]
    exact ⟨fun _ z => q z.1, fun _ => rfl⟩
/-! ===== a value and what it says ===== -/
def Val (x : Int32) (Q : Nat → Prop) : Prop := ∃ v, v ≤ 1000 ∧ x = nI v ∧ ∀ n, n < 1000 → (v ≤ n ↔ Q n)
theorem Val.top : Val 1000 (fun _ => False) := ⟨1000, Nat.le_refl _, rfl, fun n hn => ⟨fun h => by omega, fun h => h.elim⟩⟩
theorem Val.iff {x : Int32} {Q R : Nat → Prop} (h : Val x Q) (e : ∀ n, n < 1000 → (Q n ↔ R n)) : Val x R := by
  obtain ⟨v, h1, h2, h3⟩ := h
  exact ⟨v, h1, h2, fun n hn => (h3 n hn).trans (e n hn)⟩
theorem Val.min {x y : Int32} {Q R : Nat → Prop} (h : Val x Q) (k : Val y R) : Val (if x < y then x else y) (fun n => R n ∨ Q n) := by
  obtain ⟨v, h1, rfl, h3⟩ := h
  obtain ⟨w, k1, rfl, k3⟩ := k
  by_cases q : v < w
  · rw [if_pos (nI_lt q (by omega))]
    exact ⟨v, h1, rfl, fun n hn => ⟨fun z => Or.inr ((h3 n hn).mp z), fun z => z.elim (fun z => by have := (k3 n hn).mpr z; omega) (fun z => (h3 n hn).mpr z)⟩⟩
  · rw [if_neg (nI_nlt (by omega) (by omega))]
    exact ⟨w, k1, rfl, fun n hn => ⟨fun z => Or.inl ((k3 n hn).mp z), fun z => z.elim (fun z => (k3 n hn).mpr z) (fun z => by have := (h3 n hn).mpr z; omega)⟩⟩
def XFr (S S2 : XS) : Prop := (∀ j, xI S2 j = xI S j) ∧ (∀ j, j ≠ 13 → j ≠ 14 → xA S2 j = xA S j) ∧ ∀ i j, xR S2 i j = xR S i j
theorem XFr.rfl' {S : XS} : XFr S S := ⟨fun _ => rfl, fun _ _ _ => rfl, fun _ _ => rfl⟩
theorem XFr.trans {S S2 S3 : XS} (h : XFr S S2) (k : XFr S2 S3) : XFr S S3 := ⟨fun j => (k.1 j).trans (h.1 j), fun j a b => (k.2.1 j a b).trans (h.2.1 j a b), fun i j => (k.2.2 i j).trans (h.2.2 i j)⟩
/-- the planner's numbers, and which pots come out good at a minute -/
def PS (b sp hd fr la : Nat) (gx : Nat → Nat) (S : XS) : Prop := b ≤ 4 ∧ sp ≤ 60 ∧ hd ≤ 4 ∧ fr ≤ 4 ∧ la ≤ 120 ∧ xI S 24 = nI b ∧ xI S 25 = nI sp ∧ xI S 26 = nI hd ∧ xI S 27 = nI fr ∧ xI S 28 = nI la ∧ (∀ t, gx t < 2 ^ b) ∧ ∀ (S2 : XS) (P : XP) (fu t : Nat), XFr S S2 → 10 ≤ fu → t ≤ 120 → f_X4_goodAt fu P S2 (nI t) = some (nI (gx t))
section PX
variable {b sp hd fr la : Nat} {gx : Nat → Nat} {S S2 : XS} {P : XP} {fu : Nat}
theorem PS.go (h : PS b sp hd fr la gx S) (f : XFr S S2) : PS b sp hd fr la gx S2 := by
  obtain ⟨h1, h2, h3, h4, h5, h6, h7, h8, h9, h10, h11, h12⟩ := h
  exact ⟨h1, h2, h3, h4, h5, (f.1 _).trans h6, (f.1 _).trans h7, (f.1 _).trans h8, (f.1 _).trans h9, (f.1 _).trans h10, h11, fun S3 P fu t k => h12 S3 P fu t (f.trans k)⟩
theorem p16 (h : b ≤ 4) : 2 ^ b ≤ 16 := Nat.pow_le_pow_right (by decide) (show b ≤ 4 from h)
def TQ (gx : Nat → Nat) (sp hd fr la t L n : Nat) : Prop := ∃ T, T &&& L = T ∧ kT gx (if t = 0 then fr else hd) t T ∧ Hx gx sp hd la n t (L ^^^ T)
theorem ix_t {t L : Nat} : nI t * 16 + nI L = nI (16 * t + L) := by
  rw [show (16 : Int32) = nI 16 from rfl, pk_mul, nI_add, Nat.mul_comm]
theorem set_in : ∀ L, L < 16 → ¬ f_X4_isSet (nI L) = 0 := by decide +kernel
theorem row_t : ∀ t, t < 121 → ¬ nI t < 0 ∧ ¬ 120 < nI t := by decide +kernel
theorem row_in {t L : Nat} (ht : t ≤ 120) (hL : L < 16) : ¬ f_X4_isInRow (nI t) (nI L) = 0 := by
  have a := row_t t (by omega)
  unfold f_X4_isInRow
  rw [if_neg a.1, if_neg a.2, if_neg (set_in L hL)]
  decide
theorem few_at {t L : Nat} (ht : t ≤ 120) (hL : L < 16) : f_X4_fewestAt P S (nI t) (nI L) = some (xA S 13 (16 * t + L)) := by
  unfold f_X4_fewestAt
  rw [if_neg (row_in ht hL), ix_t, gd_in (vp_in_nI (by omega) (by decide)), nI_clamp (by omega)]
theorem few_af {L : Nat} (hL : L < 16) : f_X4_fewestAfterTaking P S (nI L) = some (xA S 14 L) := by
  unfold f_X4_fewestAfterTaking
  rw [if_neg (set_in L hL), gd_in (vp_in_nI hL (by decide)), nI_clamp (by omega)]
theorem bw_loop (h : PS b sp hd fr la gx S) {t L : Nat} (ht : t ≤ 120) (hL : L < 16) (hT : ∀ r, t < r → r ≤ la → Val (xA S 13 (16 * r + L)) (TQ gx sp hd fr la r L)) : ∀ (d r n : Nat) (v : Int32) (Q : Nat → Prop), r + d = 122 → t < r → Val v Q → ∃ v2 z, f_X4_byWinding_L15 fu P (nI t) (nI L) (n + d + 1) v (nI r) S = some (v2, z) ∧ Val v2 (fun m => Q m ∨ ∃ k, r ≤ k ∧ k ≤ t + sp ∧ k ≤ la ∧ TQ gx sp hd fr la k L m) := by
  obtain ⟨h1, h2, h3, h4, h5, h6, h7, h8, h9, h10, h11, h12⟩ := h
  intro d
  induction d with
  | zero =>
    intro r n v Q hr htr hv
    rw [f_X4_byWinding_L15, h7, h10, nI_add]
    by_cases q : t + sp < r
    · rw [if_pos (nI_lt q (by omega))]
      exact ⟨v, _, rfl, hv.iff (fun m _ => ⟨Or.inl, fun z => z.elim id (fun ⟨k, a, b, c, _⟩ => by omega)⟩)⟩
    · rw [if_neg (nI_nlt (by omega) (by omega)), if_pos (nI_lt (by omega) (by omega))]
      exact ⟨v, _, rfl, hv.iff (fun m _ => ⟨Or.inl, fun z => z.elim id (fun ⟨k, a, b, c, _⟩ => by omega)⟩)⟩
  | succ d ih =>
    intro r n v Q hr htr hv
    rw [show n + (d + 1) + 1 = (n + d + 1) + 1 by omega, f_X4_byWinding_L15, h7, h10, nI_add]
    by_cases q : t + sp < r
    · rw [if_pos (nI_lt q (by omega))]
      exact ⟨v, _, rfl, hv.iff (fun m _ => ⟨Or.inl, fun z => z.elim id (fun ⟨k, a, b, c, _⟩ => by omega)⟩)⟩
    · rw [if_neg (nI_nlt (by omega) (by omega))]
      by_cases q2 : la < r
      · rw [if_pos (nI_lt q2 (by omega))]
        exact ⟨v, _, rfl, hv.iff (fun m _ => ⟨Or.inl, fun z => z.elim id (fun ⟨k, a, b, c, _⟩ => by omega)⟩)⟩
      · rw [if_neg (nI_nlt (by omega) (by omega)), few_at (by omega) hL, Option.bind_some, nI_1]
        obtain ⟨v2, z, w1, w2⟩ := ih (r + 1) n _ _ (by omega) (by omega) ((hT r htr (by omega)).min hv)
        refine ⟨v2, z, w1, w2.iff (fun m _ => ⟨?_, ?_⟩)⟩
        · rintro ((z | z) | ⟨k, a, b, c, e⟩)
          · exact Or.inl z
          · exact Or.inr ⟨r, Nat.le_refl _, by omega, by omega, z⟩
          · exact Or.inr ⟨k, by omega, b, c, e⟩
        · rintro (z | ⟨k, a, b, c, e⟩)
          · exact Or.inl (Or.inl z)
          · by_cases hk : k = r
            · rw [hk] at e
              exact Or.inl (Or.inr e)
            · exact Or.inr ⟨k, by omega, b, c, e⟩
theorem bw_eq (h : PS b sp hd fr la gx S) (hf : 200 ≤ fu) {t L : Nat} (ht : t ≤ 120) (hL : L < 16) (hT : ∀ r, t < r → r ≤ la → Val (xA S 13 (16 * r + L)) (TQ gx sp hd fr la r L)) : ∃ v, f_X4_byWinding fu P S (nI t) (nI L) = some v ∧ Val v (fun n => Hx gx sp hd la n t L) := by
  unfold f_X4_byWinding
  by_cases q : L = 0
  · subst q
    rw [if_pos (show nI 0 = 0 from rfl)]
    exact ⟨0, rfl, 0, by omega, rfl, fun n _ => ⟨fun _ => Hx_0 n t, fun _ => by omega⟩⟩
  · obtain ⟨v2, z, w1, v, w2, rfl, w3⟩ := bw_loop (fu := fu) (P := P) h ht hL hT (121 - t) (t + 1) (fu - 122 + t) 1000 _ (by omega) (by omega) Val.top
    rw [show fu - 122 + t + (121 - t) + 1 = fu by omega] at w1
    rw [if_neg (show ¬ nI L = 0 from fun z => q ((nI_eq (b := 0) (by omega) (by omega)).mp z)), nI_1, w1, Option.bind_some]
    have step : ∀ n, Hx gx sp hd la (n + 1) t L ↔ ∃ k, t + 1 ≤ k ∧ k ≤ t + sp ∧ k ≤ la ∧ TQ gx sp hd fr la k L n := by
      intro n
      constructor
      · rintro (z | ⟨r, T, a, b, c, d, e, f⟩)
        · exact absurd z q
        · exact ⟨r, a, b, c, T, d, by rw [if_neg (by omega)]; exact e, f⟩
      · rintro ⟨r, a, b, c, T, d, e, f⟩
        rw [if_neg (by omega)] at e
        exact Or.inr ⟨r, T, a, b, c, d, e, f⟩
    by_cases q2 : v = 1000
    · subst q2
      rw [if_pos (show nI 1000 = 1000 from rfl)]
      refine ⟨1000, rfl, 1000, by omega, rfl, fun n hn => ⟨fun z => by omega, fun z => ?_⟩⟩
      cases n with
      | zero => exact absurd z q
      | succ n =>
        have := (w3 n (by omega)).mpr (Or.inr ((step n).mp z))
        omega
    · rw [if_neg (show ¬ nI v = 1000 from fun z => q2 ((nI_eq (b := 1000) (by omega) (by omega)).mp z)), nI_1]
      refine ⟨nI (v + 1), rfl, v + 1, by omega, rfl, fun n hn => ?_⟩
      cases n with
      | zero => exact ⟨fun z => by omega, fun z => absurd z q⟩
      | succ n =>
        have := w3 n (by omega)
        refine ⟨fun z => (step n).mpr ((this.mp (by omega)).elim (fun z => z.elim) id), fun z => ?_⟩
        have := this.mpr (Or.inr ((step n).mp z))
        omega
theorem bt_loop {L G hh : Nat} (hL : L < 16) (hG : G < 16) (hGL : G &&& L = G) (h4 : hh ≤ 4) {AQ : Nat → Nat → Prop} (hA : ∀ M, M ≤ L → Val (xA S 14 M) (AQ M)) : ∀ (d k n : Nat) (v : Int32) (Q : Nat → Prop), k + d = 16 → Val v Q → ∃ v2 z, f_X4_byTaking_L8 fu P (nI L) (nI G) (nI hh) (n + d + 1) v (nI k) S = some (v2, z) ∧ Val v2 (fun m => Q m ∨ ∃ T, k ≤ T ∧ T &&& G = T ∧ sz4 T ≤ hh ∧ AQ (L ^^^ T) m) := by
  have tle : ∀ T, T &&& G = T → T ≤ G := fun T e => by rw [← e]; exact Nat.and_le_right
  intro d
  induction d with
  | zero =>
    intro k n v Q hk hv
    rw [f_X4_byTaking_L8, if_pos (nI_lt (by omega) (by omega))]
    exact ⟨v, _, rfl, hv.iff (fun m _ => ⟨Or.inl, fun z => z.elim id (fun ⟨T, a, b, _⟩ => by have := tle T b; omega)⟩)⟩
  | succ d ih =>
    intro k n v Q hk hv
    rw [show n + (d + 1) + 1 = (n + d + 1) + 1 by omega, f_X4_byTaking_L8]
    by_cases q : G < k
    · rw [if_pos (nI_lt q (by omega))]
      exact ⟨v, _, rfl, hv.iff (fun m _ => ⟨Or.inl, fun z => z.elim id (fun ⟨T, a, b, _⟩ => by have := tle T b; omega)⟩)⟩
    · rw [if_neg (nI_nlt (by omega) (by omega)), nI_1]
      by_cases q2 : f_X4_canTake (nI k) (nI G) (nI hh) = 0
      · rw [if_pos q2]
        obtain ⟨v2, z, w1, w2⟩ := ih (k + 1) n v Q (by omega) hv
        refine ⟨v2, z, w1, w2.iff (fun m _ => ⟨?_, ?_⟩)⟩
        · rintro (z | ⟨T, a, b⟩)
          · exact Or.inl z
          · exact Or.inr ⟨T, by omega, b⟩
        · rintro (z | ⟨T, a, b⟩)
          · exact Or.inl z
          · by_cases e : T = k
            · rw [e] at b
              exact absurd ⟨b.1, b.2.1⟩ ((can_eq (by omega) hG h4).mp q2)
            · exact Or.inr ⟨T, by omega, b⟩
      · have c := Classical.byContradiction (fun z => q2 ((can_eq (by omega) hG h4).mpr z))
        have kL : k &&& L = k := by rw [← c.1, Nat.and_assoc, hGL]
        have kl : L ^^^ k ≤ L ∧ L ^^^ k < 16 := by
          have : ∀ L, L < 16 → ∀ k, k < 16 → k &&& L = k → L ^^^ k ≤ L := by decide +kernel
          have := this L hL k (by omega) kL
          omega
        rw [if_neg q2, bw_2 L hL k (by omega) kL, few_af kl.2, Option.bind_some]
        obtain ⟨v2, z, w1, w2⟩ := ih (k + 1) n _ _ (by omega) ((hA (L ^^^ k) kl.1).min hv)
        refine ⟨v2, z, w1, w2.iff (fun m _ => ⟨?_, ?_⟩)⟩
        · rintro ((z | z) | ⟨T, a, b⟩)
          · exact Or.inl z
          · exact Or.inr ⟨k, Nat.le_refl _, c.1, c.2, z⟩
          · exact Or.inr ⟨T, by omega, b⟩
        · rintro (z | ⟨T, a, b⟩)
          · exact Or.inl (Or.inl z)
          · by_cases e : T = k
            · rw [e] at b
              exact Or.inl (Or.inr b.2.2)
            · exact Or.inr ⟨T, by omega, b⟩
theorem bt_eq (hf : 200 ≤ fu) {L G hh : Nat} (hL : L < 16) (hG : G < 16) (hGL : G &&& L = G) (h4 : hh ≤ 4) {AQ : Nat → Nat → Prop} (hA : ∀ M, M ≤ L → Val (xA S 14 M) (AQ M)) : ∃ v, f_X4_byTaking fu P S (nI L) (nI G) (nI hh) = some v ∧ Val v (fun m => ∃ T, T &&& G = T ∧ sz4 T ≤ hh ∧ AQ (L ^^^ T) m) := by
  obtain ⟨v2, z, w1, w2⟩ := bt_loop (fu := fu) (P := P) (S := S) hL hG hGL h4 hA 16 0 (fu - 17) 1000 _ rfl Val.top
  rw [show fu - 17 + 16 + 1 = fu by omega] at w1
  unfold f_X4_byTaking
  refine ⟨v2, ?_, w2.iff (fun m _ => ⟨?_, ?_⟩)⟩
  · rw [show (0 : Int32) = nI 0 from rfl, w1, Option.bind_some]
  · rintro (z | ⟨T, -, b⟩)
    · exact z.elim
    · exact ⟨T, b⟩
  · rintro ⟨T, b⟩
    exact Or.inr ⟨T, by omega, b⟩
theorem fm_loop1 (h : PS b sp hd fr la gx S) (hf : 200 ≤ fu) {t F : Nat} {v3 : Int32} (ht : t ≤ 120) (hF : F < 16) (hT : ∀ r, t < r → r ≤ la → ∀ L, L ≤ F → Val (xA S 13 (16 * r + L)) (TQ gx sp hd fr la r L)) : ∀ (d k n : Nat) (S1 : XS), k + d = F + 1 → XFr S S1 → xA S1 13 = xA S 13 → (∀ L, L < k → Val (xA S1 14 L) (fun n => Hx gx sp hd la n t L)) → ∃ z S2, f_X4_fillMinute_L14 fu P (nI t) (nI F) v3 (n + d + 1) (nI k) S1 = some (z, S2) ∧ XFr S S2 ∧ xA S2 13 = xA S 13 ∧ ∀ L, L ≤ F → Val (xA S2 14 L) (fun n => Hx gx sp hd la n t L) := by
  intro d
  induction d with
  | zero =>
    intro k n S1 hk hx h13 hv
    rw [f_X4_fillMinute_L14, if_pos (nI_lt (by omega) (by omega))]
    exact ⟨_, S1, rfl, hx, h13, fun L hL => hv L (by omega)⟩
  | succ d ih =>
    intro k n S1 hk hx h13 hv
    obtain ⟨v, w1, w2⟩ := bw_eq (fu := fu) (P := P) (h.go hx) hf ht (show k < 16 by omega) (fun r a b => by rw [h13]; exact hT r a b k (by omega))
    rw [show n + (d + 1) + 1 = (n + d + 1) + 1 by omega, f_X4_fillMinute_L14, if_neg (nI_nlt (by omega) (by omega)), if_neg (set_in k (by omega)), w1, Option.bind_some, gd_in (vp_in_nI (by omega) (by decide)), nI_clamp (by omega), nI_1]
    refine ih (k + 1) n (xsA S1 14 k v) (by omega) (hx.trans ⟨fun _ => rfl, fun j a b => by rw [xA_xsA, if_neg b], fun _ _ => rfl⟩) h13 (fun L hL => ?_)
    rw [xA_xsA, if_pos rfl, upd_at]
    by_cases e : L = k
    · rw [if_pos e, e]
      exact w2
    · rw [if_neg e]
      exact hv L (by omega)
theorem fm_loop2 (h : PS b sp hd fr la gx S) (hf : 200 ≤ fu) {t F : Nat} (ht : t ≤ 120) (hF : F < 16) (hG : gx t < 16) {S0 : XS} (h14 : ∀ L, L ≤ F → Val (xA S0 14 L) (fun n => Hx gx sp hd la n t L)) : ∀ (d k n : Nat) (S1 : XS), k + d = F + 1 → XFr S S1 → xA S1 14 = xA S0 14 → (∀ i, i < 16 * t ∨ 16 * t + F < i → xA S1 13 i = xA S0 13 i) → (∀ L, L < k → Val (xA S1 13 (16 * t + L)) (TQ gx sp hd fr la t L)) → ∃ z S2, f_X4_fillMinute_L51 fu P (nI t) (nI F) (nI (gx t)) (n + d + 1) (nI k) S1 = some (z, S2) ∧ XFr S S2 ∧ (∀ i, i < 16 * t ∨ 16 * t + F < i → xA S2 13 i = xA S0 13 i) ∧ ∀ L, L ≤ F → Val (xA S2 13 (16 * t + L)) (TQ gx sp hd fr la t L) := by
  intro d
  induction d with
  | zero =>
    intro k n S1 hk hx h14' h13 hv
    rw [f_X4_fillMinute_L51, if_pos (nI_lt (by omega) (by omega))]
    exact ⟨_, S1, rfl, hx, h13, fun L hL => hv L (by omega)⟩
  | succ d ih =>
    intro k n S1 hk hx h14' h13 hv
    obtain ⟨h1, h2, h3, h4, h5, h6, h7, h8, h9, h10, h11, h12⟩ := h.go hx
    have kg : k &&& gx t < 16 := Nat.lt_of_le_of_lt Nat.and_le_left (show k < 16 by omega)
    have bt := fun (hh : Nat) (h4 : hh ≤ 4) => bt_eq (fu := fu) (P := P) (S := S1) hf (show k < 16 by omega) kg (by rw [Nat.and_comm k, Nat.and_assoc, Nat.and_self]) h4 (AQ := fun L n => Hx gx sp hd la n t L) (fun M hM => by rw [h14']; exact h14 M (by omega))
    have cv : ∀ (hh : Nat) (v : Int32), hh = (if t = 0 then fr else hd) → Val v (fun m => ∃ T, T &&& (k &&& gx t) = T ∧ sz4 T ≤ hh ∧ Hx gx sp hd la m t (k ^^^ T)) → Val v (TQ gx sp hd fr la t k) := by
      intro hh v e hv
      refine hv.iff (fun m _ => ⟨?_, ?_⟩)
      · rintro ⟨T, a, b, c⟩
        have t1 : T &&& k = T := by rw [← a, Nat.and_assoc, Nat.and_comm (k &&& gx t) k, ← Nat.and_assoc k, Nat.and_self]
        have t2 : T &&& gx t = T := by rw [← a, Nat.and_assoc, Nat.and_assoc, Nat.and_self]
        exact ⟨T, t1, ⟨by rw [← a]; exact Nat.lt_of_le_of_lt Nat.and_le_right kg, t2, by rw [← e]; exact b⟩, c⟩
      · rintro ⟨T, a, b, c⟩
        exact ⟨T, by rw [← Nat.and_assoc, a, b.2.1], by rw [e]; exact b.2.2, c⟩
    have fin : ∀ v, Val v (TQ gx sp hd fr la t k) → ∃ z S2, f_X4_fillMinute_L51 fu P (nI t) (nI F) (nI (gx t)) (n + d + 1) (nI (k + 1)) (xsA S1 13 (16 * t + k) v) = some (z, S2) ∧ XFr S S2 ∧ (∀ i, i < 16 * t ∨ 16 * t + F < i → xA S2 13 i = xA S0 13 i) ∧ ∀ L, L ≤ F → Val (xA S2 13 (16 * t + L)) (TQ gx sp hd fr la t L) := by
      intro v w2
      refine ih (k + 1) n (xsA S1 13 (16 * t + k) v) (by omega) (hx.trans ⟨fun _ => rfl, fun j a b => by rw [xA_xsA, if_neg a], fun _ _ => rfl⟩) h14' (fun i hi => ?_) (fun L hL => ?_)
      · rw [xA_xsA, if_pos rfl, upd_at, if_neg (by omega)]
        exact h13 i hi
      · rw [xA_xsA, if_pos rfl, upd_at]
        by_cases e : L = k
        · rw [if_pos (by omega), e]
          exact w2
        · rw [if_neg (by omega)]
          exact hv L (by omega)
    rw [show n + (d + 1) + 1 = (n + d + 1) + 1 by omega, f_X4_fillMinute_L51, if_neg (nI_nlt (by omega) (by omega)), if_neg (row_in ht (show k < 16 by omega)), (bw_3 k (by omega) (gx t) hG).1, h8, h9, ix_t, nI_1]
    by_cases q : t = 0
    · obtain ⟨v, w1, w2⟩ := bt fr h4
      rw [if_pos (show nI t = 0 by rw [q]; rfl), w1, Option.bind_some, gd_in (vp_in_nI (by omega) (by decide)), nI_clamp (by omega)]
      exact fin v (cv fr v (by rw [if_pos q]) w2)
    · obtain ⟨v, w1, w2⟩ := bt hd h3
      rw [if_neg (show ¬ nI t = 0 from fun z => q ((nI_eq (b := 0) (by omega) (by omega)).mp z)), w1, Option.bind_some, gd_in (vp_in_nI (by omega) (by decide)), nI_clamp (by omega)]
      exact fin v (cv hd v (by rw [if_neg q]) w2)
theorem fm_eq (h : PS b sp hd fr la gx S) (hf : 200 ≤ fu) {t : Nat} (ht : t ≤ 120) (hT : ∀ r, t < r → r ≤ la → ∀ L, L < 2 ^ b → Val (xA S 13 (16 * r + L)) (TQ gx sp hd fr la r L)) : ∃ S2, f_X4_fillMinute fu P S (nI t) = some S2 ∧ XFr S S2 ∧ ∀ r, t ≤ r → r ≤ la ∨ r = t → ∀ L, L < 2 ^ b → Val (xA S2 13 (16 * r + L)) (TQ gx sp hd fr la r L) := by
  have h0 := h
  obtain ⟨h1, h2, h3, h4, h5, h6, h7, h8, h9, h10, h11, h12⟩ := h
  obtain ⟨e1, e2, e3⟩ := bw_5 b (by omega)
  have p := p16 h1
  unfold f_X4_fillMinute f_X4_allPots
  rw [h12 S P fu t XFr.rfl' (by omega) ht, Option.bind_some, h6, e1]
  obtain ⟨z, S1, w1, w2, w3, w4⟩ := fm_loop1 (fu := fu) (P := P) (v3 := nI (gx t)) h0 hf ht e2 (fun r a b L hL => hT r a b L (by omega)) (2 ^ b - 1 + 1) 0 (fu - (2 ^ b - 1 + 1) - 1) S (by omega) XFr.rfl' rfl (fun L hL => absurd hL (Nat.not_lt_zero L))
  rw [show fu - (2 ^ b - 1 + 1) - 1 + (2 ^ b - 1 + 1) + 1 = fu by omega] at w1
  rw [show (0 : Int32) = nI 0 from rfl, w1, Option.bind_some]
  obtain ⟨z, S2, y1, y2, y3, y4⟩ := fm_loop2 (fu := fu) (P := P) h0 hf ht e2 (show gx t < 16 by have := h11 t; omega) w4 (2 ^ b - 1 + 1) 0 (fu - (2 ^ b - 1 + 1) - 1) S1 (by omega) w2 rfl (fun _ _ => rfl) (fun L hL => absurd hL (Nat.not_lt_zero L))
  rw [show fu - (2 ^ b - 1 + 1) - 1 + (2 ^ b - 1 + 1) + 1 = fu by omega] at y1
  simp only []
  rw [y1, Option.bind_some]
  refine ⟨S2, rfl, y2, fun r a c L hL => ?_⟩
  by_cases e : r = t
  · rw [e]
    exact y4 L (by omega)
  · rw [y3 (16 * r + L) (by omega), w3]
    exact hT r (by omega) (by omega) L hL
theorem fl_loop (h : PS b sp hd fr la gx S) (hf : 200 ≤ fu) : ∀ (t n : Nat) (S1 : XS), t ≤ la + 1 → XFr S S1 → (∀ r, t ≤ r → r ≤ la → ∀ L, L < 2 ^ b → Val (xA S1 13 (16 * r + L)) (TQ gx sp hd fr la r L)) → ∃ z S2, f_X4_fill_L5 fu P (n + t + 1) (nI t - 1) S1 = some (z, S2) ∧ XFr S S2 ∧ ∀ r, r ≤ la → ∀ L, L < 2 ^ b → Val (xA S2 13 (16 * r + L)) (TQ gx sp hd fr la r L) := by
  intro t
  induction t with
  | zero =>
    intro n S1 ht hx hv
    rw [f_X4_fill_L5, if_pos (by decide)]
    exact ⟨_, S1, rfl, hx, fun r a => hv r (by omega) a⟩
  | succ t ih =>
    intro n S1 ht hx hv
    have l5 := h.2.2.2.2.1
    obtain ⟨S2, w1, w2, w3⟩ := fm_eq (fu := fu) (P := P) (h.go hx) hf (show t ≤ 120 by omega) (fun r a c => hv r (by omega) c)
    rw [show n + (t + 1) + 1 = (n + t + 1) + 1 by omega, nI_pred, f_X4_fill_L5, if_neg (nI_pos (by omega)), w1, Option.bind_some, show nI t + -1 = nI t - 1 from (Int32.sub_eq_add_neg ..).symm]
    exact ih n S2 (by omega) (hx.trans w2) (fun r a c L hL => w3 r a (Or.inl c) L hL)
theorem fl_eq (h : PS b sp hd fr la gx S) (hf : 200 ≤ fu) : ∃ S2, f_X4_fill fu P S = some S2 ∧ XFr S S2 ∧ ∀ r, r ≤ la → ∀ L, L < 2 ^ b → Val (xA S2 13 (16 * r + L)) (TQ gx sp hd fr la r L) := by
  have l5 := h.2.2.2.2.1
  have l10 := h.2.2.2.2.2.2.2.2.2.1
  obtain ⟨z, S2, w1, w2, w3⟩ := fl_loop (fu := fu) (P := P) h hf (la + 1) (fu - la - 2) S (Nat.le_refl _) XFr.rfl' (fun r a c => by omega)
  rw [show fu - la - 2 + (la + 1) + 1 = fu by omega, nI_pred] at w1
  unfold f_X4_fill
  rw [l10, w1, Option.bind_some]
  exact ⟨S2, rfl, w2, w3⟩
end PX
