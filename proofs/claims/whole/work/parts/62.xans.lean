def MR (g : Nat → Nat) (sp hd fr al : Nat) (x0 x1 : Int32) : Prop := (x0 = -1 ∧ x1 = -1 ∧ ∀ m t f, ¬ Fw g sp hd fr m t al f) ∨ ∃ k t f, x0 = nI k ∧ x1 = f ∧ Fw g sp hd fr k t al f ∧ ∀ m t2 f2, Fw g sp hd fr m t2 al f2 → k < m ∨ (k = m ∧ f ≤ f2)
def LW (g : Nat → Nat) (al sp hd fr n w : Nat) : Prop := ∃ T, kT g fr 0 T ∧ ∃ T2, kT g hd w T2 ∧ Ha g al sp hd n w (T ||| T2)
section XN
variable {g gx : Nat → Nat} {al sp hd fr la b fu : Nat} {S : XS} {P : XP}
theorem Ha_al (n t : Nat) : Ha g al sp hd n t al := by
  cases n with
  | zero => rfl
  | succ n => exact Or.inl rfl
theorem AN {n : Nat} : (∃ T, kT g fr 0 T ∧ Ha g al sp hd n 0 T) ↔ ∃ m t f, m ≤ n ∧ Fw g sp hd fr m t al f := by
  constructor
  · rintro ⟨T, a, b⟩
    obtain ⟨m, t, f, c, d⟩ := HF1 n 0 0 T (-1) b ⟨rfl, a, rfl⟩
    exact ⟨m, t, f, by omega, d⟩
  · rintro ⟨m, t, f, a, b⟩
    obtain ⟨T, c, d⟩ := FH1 m (n - m) t al f b (Ha_al _ _)
    exact ⟨T, c, by rw [show m + (n - m) = n by omega] at d; exact d⟩
theorem W1 {n w : Nat} (h : LW g al sp hd fr n w) (h0 : 0 < w) (h1 : w ≤ sp) (h2 : w ≤ 120) : ∃ m t, m ≤ n ∧ Fw g sp hd fr (m + 1) t al (nI w) := by
  obtain ⟨T, a, T2, b, c⟩ := h
  obtain ⟨m, t, d, e⟩ := HF2 n 0 w (T ||| T2) (nI w) c ⟨0, T, -1, T2, ⟨rfl, a, rfl⟩, h0, by omega, h2, b, rfl, rfl⟩
  exact ⟨m, t, by omega, e⟩
theorem W2 {m t : Nat} {f : Int32} (h : Fw g sp hd fr (m + 1) t al f) : ∃ w, f = nI w ∧ 0 < w ∧ w ≤ sp ∧ w ≤ 120 ∧ LW g al sp hd fr m w := by
  obtain ⟨w, T, T2, a, b, c, d, e, f, k⟩ := FH2 m 0 t al f h (Ha_al _ _)
  exact ⟨w, a, b, c, d, T, e, T2, f, k⟩
theorem F_al (G : GG g gx al la) (hb : b = sz4 al) : 2 ^ b - 1 < 2 ^ sz4 al ∧ al ^^^ pdep al (2 ^ b - 1) = 0 ∧ pdep al (2 ^ b - 1) = al := by
  subst hb
  have := pd_0 al G.1
  refine ⟨Nat.sub_lt (Nat.two_pow_pos _) (by decide), by rw [this.2.1, this.2.2.1], this.2.1⟩
theorem pk_T (G : GG g gx al la) {T h t : Nat} (ht : t ≤ 120) (k : kT gx h t T) : T < 2 ^ sz4 al ∧ kT g h t (pdep al T) := by
  have gr := G.2.2.1 t ht
  have hT : T < 2 ^ sz4 al := Nat.lt_of_le_of_lt (by have := k.2.1; rw [← this]; exact Nat.and_le_right) gr.1
  have q1 := pd_1 al G.1 T k.1 hT
  refine ⟨hT, q1.2.1, ?_, by rw [q1.2.2.1]; exact k.2.2⟩
  rw [← gr.2]
  exact (pd_3 al G.1 (gx t) (lt16 G.1 gr.1) T k.1 gr.1 hT).mp k.2.1
theorem pk_U (G : GG g gx al la) {T h t : Nat} (ht : t ≤ 120) (k : kT g h t T) : ∃ T0, kT gx h t T0 ∧ pdep al T0 = T := by
  have gr := G.2.2.1 t ht
  have p := pd_1 al G.1 (gx t) (lt16 G.1 gr.1) gr.1
  have hTa : T &&& al = T := by
    have e2 := k.2.1
    rw [← gr.2, ← p.1, ← Nat.and_assoc] at e2
    have e3 : (T &&& pdep al (gx t)) &&& al &&& al = T &&& pdep al (gx t) &&& al := by rw [Nat.and_assoc, Nat.and_self]
    rw [e2] at e3
    exact e3
  have ff := F_al G rfl
  have q := pd_4 al G.1 (2 ^ sz4 al - 1) (lt16 G.1 ff.1) T k.1 ff.1 hTa
  rw [ff.2.2, hTa] at q
  refine ⟨pext al T, ⟨q.2.1, ?_, Nat.le_trans q.2.2.2.2.1 k.2.2⟩, q.2.2.2.1⟩
  refine (pd_3 al G.1 (gx t) (lt16 G.1 gr.1) _ q.2.1 gr.1 q.2.2.1).mpr ?_
  rw [q.2.2.2.1, gr.2]
  exact k.2.1
theorem F_sub : ∀ a, a < 16 → ∀ T, T < 2 ^ sz4 a → T &&& (2 ^ sz4 a - 1) = T := by decide +kernel
theorem TQ0 (G : GG g gx al la) (hb : b = sz4 al) {n : Nat} : TQ gx sp hd fr la 0 (2 ^ b - 1) n ↔ ∃ m t f, m ≤ n ∧ Fw g sp hd fr m t al f := by
  have ff := F_al G hb
  have := HxT (sp := sp) (hd := hd) (n := n) (h := fr) G (show 0 ≤ 120 by omega) ff.1
  rw [ff.2.1] at this
  rw [← AN]
  unfold TQ
  rw [if_pos rfl, this]
  exact ⟨fun ⟨T, a, b⟩ => ⟨T, a, by rw [Nat.zero_or] at b; exact b⟩, fun ⟨T, a, b⟩ => ⟨T, a, by rw [Nat.zero_or]; exact b⟩⟩
theorem TQw (G : GG g gx al la) (hb : b = sz4 al) {n w T : Nat} (h0 : 0 < w) (hw : w ≤ 120) (k : kT gx fr 0 T) : TQ gx sp hd fr la w (2 ^ b - 1 ^^^ T) n ↔ ∃ T2, kT g hd w T2 ∧ Ha g al sp hd n w (pdep al T ||| T2) := by
  have ff := F_al G hb
  have kk := pk_T G (by omega) k
  have fs : T &&& (2 ^ b - 1) = T := by rw [hb]; exact F_sub al G.1 T kk.1
  have q := pd_2 al G.1 (2 ^ b - 1) (lt16 G.1 ff.1) T k.1 ff.1 kk.1 fs
  have := HxT (sp := sp) (hd := hd) (n := n) (h := hd) G hw q.2.1
  rw [q.1, ff.2.1, Nat.zero_or] at this
  unfold TQ
  rw [if_neg (by omega)]
  exact this
theorem ld_loop (h : PS b sp hd fr la gx S) {w j : Nat} (hw : w ≤ 120) : ∀ (d k n : Nat), k + d = 16 → ∃ r, f_X4_leadsOn_L9 fu P (nI w) (nI j) (nI (gx 0)) (n + d + 1) (nI k) S = some r ∧ (¬ r = 0 ↔ ∃ T, k ≤ T ∧ kT gx fr 0 T ∧ xA S 13 (16 * w + (2 ^ b - 1 ^^^ T)) = nI j) := by
  obtain ⟨h1, h2, h3, h4, h5, h6, h7, h8, h9, h10, h11, h12⟩ := h
  have p := p16 h1
  obtain ⟨e1, e2, e3⟩ := bw_5 b (by omega)
  have g16 : gx 0 < 16 := by have := h11 0; omega
  have tle : ∀ T, T &&& gx 0 = T → T ≤ gx 0 := fun T e => by rw [← e]; exact Nat.and_le_right
  have fs : ∀ b, b < 5 → ∀ T, T < 2 ^ b → T &&& (2 ^ b - 1) = T ∧ 2 ^ b - 1 ^^^ T < 16 := by decide +kernel
  intro d
  induction d with
  | zero =>
    intro k n hk
    rw [f_X4_leadsOn_L9, if_pos (nI_lt (by omega) (by omega))]
    exact ⟨0, rfl, fun z => absurd rfl z, fun ⟨T, a, b, _⟩ => by have := tle T b.2.1; omega⟩
  | succ d ih =>
    intro k n hk
    rw [show n + (d + 1) + 1 = (n + d + 1) + 1 by omega, f_X4_leadsOn_L9]
    by_cases q : gx 0 < k
    · rw [if_pos (nI_lt q (by omega))]
      exact ⟨0, rfl, fun z => absurd rfl z, fun ⟨T, a, b, _⟩ => by have := tle T b.2.1; omega⟩
    · rw [if_neg (nI_nlt (by omega) (by omega)), nI_1, h9]
      obtain ⟨r, w1, w2⟩ := ih (k + 1) n (by omega)
      by_cases q2 : f_X4_canTake (nI k) (nI (gx 0)) (nI fr) = 0
      · rw [if_pos q2]
        refine ⟨r, w1, w2.trans ⟨fun ⟨T, a, b⟩ => ⟨T, by omega, b⟩, fun ⟨T, a, b⟩ => ?_⟩⟩
        by_cases e : T = k
        · rw [e] at b
          exact absurd ⟨b.1.2.1, b.1.2.2⟩ ((can_eq (by omega) g16 h4).mp q2)
        · exact ⟨T, by omega, b⟩
      · have c := Classical.byContradiction (fun z => q2 ((can_eq (by omega) g16 h4).mpr z))
        have kb : k < 2 ^ b := by have := tle k c.1; have := h11 0; omega
        have ks := fs b (by omega) k kb
        have ea : f_X4_allPots P S = nI (2 ^ b - 1) := by
          unfold f_X4_allPots
          rw [h6, e1]
        rw [if_neg q2, ea, bw_2 _ e2 k (by omega) ks.1, few_at hw ks.2, Option.bind_some]
        by_cases q3 : xA S 13 (16 * w + (2 ^ b - 1 ^^^ k)) = nI j
        · rw [if_pos q3]
          exact ⟨1, rfl, fun _ => ⟨k, Nat.le_refl _, ⟨by omega, c.1, c.2⟩, q3⟩, fun _ => by decide⟩
        · rw [if_neg q3]
          refine ⟨r, w1, w2.trans ⟨fun ⟨T, a, b⟩ => ⟨T, by omega, b⟩, fun ⟨T, a, b⟩ => ?_⟩⟩
          by_cases e : T = k
          · rw [e] at b
            exact absurd b.2 q3
          · exact ⟨T, by omega, b⟩
theorem ld_eq (h : PS b sp hd fr la gx S) (hf : 200 ≤ fu) {w j : Nat} (hw : w ≤ 120) : ∃ r, f_X4_leadsOn fu P S (nI w) (nI j) = some r ∧ (¬ r = 0 ↔ ∃ T, kT gx fr 0 T ∧ xA S 13 (16 * w + (2 ^ b - 1 ^^^ T)) = nI j) := by
  obtain ⟨r, w1, w2⟩ := ld_loop (fu := fu) (P := P) h (w := w) (j := j) hw 16 0 (fu - 17) rfl
  rw [show fu - 17 + 16 + 1 = fu by omega] at w1
  refine ⟨r, ?_, w2.trans ⟨fun ⟨T, _, b⟩ => ⟨T, b⟩, fun ⟨T, b⟩ => ⟨T, by omega, b⟩⟩⟩
  unfold f_X4_leadsOn
  rw [show (0 : Int32) = nI 0 from rfl, h.2.2.2.2.2.2.2.2.2.2.2 S P fu 0 XFr.rfl' (by omega) (by omega), Option.bind_some, w1]
theorem fs_loop (h : PS b sp hd fr la gx S) (hf : 200 ≤ fu) {j : Nat} {LD : Nat → Prop} (hl : ∀ w, 0 < w → w ≤ sp → w ≤ la → ∃ r, f_X4_leadsOn fu P S (nI w) (nI j) = some r ∧ (¬ r = 0 ↔ LD w)) {w : Nat} (w1 : w ≤ sp) (w2 : w ≤ la) (w3 : LD w) : ∀ (d v n : Nat), v + d = w → 0 < v → (∃ w0, f_X4_first_L13 fu P (nI (j + 1)) (n + d + 1) (nI v) S = some (nI w0) ∧ 0 < w0 ∧ w0 ≤ w ∧ LD w0) := by
  obtain ⟨h1, h2, h3, h4, h5, h6, h7, h8, h9, h10, h11, h12⟩ := h
  intro d
  induction d with
  | zero =>
    intro v n hv h0
    obtain ⟨r, y1, y2⟩ := hl v h0 (by omega) (by omega)
    rw [f_X4_first_L13, h7, h10, if_neg (nI_nlt (by omega) (by omega)), if_neg (nI_nlt (by omega) (by omega)), nI_pred, y1, Option.bind_some, if_neg (y2.mpr (by rw [show v = w by omega]; exact w3))]
    exact ⟨v, rfl, h0, by omega, by rw [show v = w by omega]; exact w3⟩
  | succ d ih =>
    intro v n hv h0
    obtain ⟨r, y1, y2⟩ := hl v h0 (by omega) (by omega)
    rw [show n + (d + 1) + 1 = (n + d + 1) + 1 by omega, f_X4_first_L13, h7, h10, if_neg (nI_nlt (by omega) (by omega)), if_neg (nI_nlt (by omega) (by omega)), nI_pred, y1, Option.bind_some, nI_1]
    by_cases q : r = 0
    · rw [if_pos q]
      exact ih (v + 1) n (by omega) (by omega)
    · rw [if_neg q]
      exact ⟨v, rfl, h0, by omega, y2.mp q⟩
theorem x_ans (h : PS b sp hd fr la gx S) (G : GG g gx al la) (hb : b = sz4 al) (hf : 200 ≤ fu) (hv : ∀ r, r ≤ la → ∀ L, L < 2 ^ b → Val (xA S 13 (16 * r + L)) (TQ gx sp hd fr la r L)) {x0 x1 : Int32} (hm : MR g sp hd fr al x0 x1) : f_X4_howFew P S = some x0 ∧ f_X4_first fu P S = some x1 := by
  have hh := h
  obtain ⟨h1, h2, h3, h4, h5, h6, h7, h8, h9, h10, h11, h12⟩ := h
  have p := p16 h1
  obtain ⟨e1, e2, e3⟩ := bw_5 b (by omega)
  obtain ⟨v, v1, v2, v3⟩ := hv 0 (by omega) (2 ^ b - 1) (by omega)
  rw [show 16 * 0 + (2 ^ b - 1) = 2 ^ b - 1 by omega] at v2
  have v4 : ∀ n, n < 1000 → (v ≤ n ↔ ∃ m t f, m ≤ n ∧ Fw g sp hd fr m t al f) := fun n hn => (v3 n hn).trans (TQ0 G hb)
  have hf0 : f_X4_howFew P S = if v = 1000 then some (-1) else some (nI v) := by
    unfold f_X4_howFew f_X4_allPots
    rw [h6, e1, show (0 : Int32) = nI 0 from rfl, few_at (by omega) e2, Option.bind_some, show 16 * 0 + (2 ^ b - 1) = 2 ^ b - 1 by omega, v2]
    by_cases q : v = 1000
    · rw [if_pos q, if_pos (show nI v = 1000 by rw [q]; rfl)]
    · rw [if_neg q, if_neg (show ¬ nI v = 1000 from fun z => q ((nI_eq (b := 1000) (by omega) (by omega)).mp z))]
  rcases hm with ⟨rfl, rfl, hm⟩ | ⟨k, t, f, rfl, rfl, hm, hmin⟩
  · have : v = 1000 := by
      by_cases q : v = 1000
      · exact q
      · obtain ⟨m, t, f, -, z⟩ := (v4 v (by omega)).mp (Nat.le_refl _)
        exact absurd z (hm m t f)
    rw [if_pos this] at hf0
    refine ⟨hf0, ?_⟩
    unfold f_X4_first
    rw [hf0, Option.bind_some, if_neg (by decide)]
  · have kb := Fw_b k t al x1 hm
    have a1 : v ≤ k := (v4 k (by omega)).mpr ⟨k, t, x1, Nat.le_refl _, hm⟩
    have a2 : k ≤ v := by
      obtain ⟨m, t2, f2, z1, z2⟩ := (v4 v (by omega)).mp (Nat.le_refl _)
      rcases hmin m t2 f2 z2 with z | z <;> omega
    have ev : v = k := by omega
    rw [if_neg (by omega), ev] at hf0
    refine ⟨hf0, ?_⟩
    unfold f_X4_first
    rw [hf0, Option.bind_some]
    cases k with
    | zero =>
      rw [if_neg (by decide), hm.2.2]
    | succ j =>
      rw [if_pos (show (0 : Int32) < nI (j + 1) from nI_lt (a := 0) (by omega) (by omega))]
      have key : ∀ w, 0 < w → w ≤ sp → w ≤ la → ((∃ T, kT gx fr 0 T ∧ xA S 13 (16 * w + (2 ^ b - 1 ^^^ T)) = nI j) ↔ LW g al sp hd fr j w) := by
        intro w w0 w1 w2
        have xl : ∀ T, kT gx fr 0 T → 2 ^ b - 1 ^^^ T < 2 ^ b := by
          intro T k
          have := (pk_T G (by omega) k).1
          have fs : ∀ b, b < 5 → ∀ T, T < 2 ^ b → 2 ^ b - 1 ^^^ T < 2 ^ b := by decide +kernel
          exact fs b (by omega) T (by rw [hb]; exact this)
        constructor
        · rintro ⟨T, k, e⟩
          obtain ⟨u, u1, u2, u3⟩ := hv w w2 _ (xl T k)
          rw [u2] at e
          have e := (nI_eq (by omega) (by omega)).mp e
          have := (u3 j (by omega)).mp (by omega)
          obtain ⟨T2, z1, z2⟩ := (TQw G hb w0 (by omega) k).mp this
          exact ⟨pdep al T, (pk_T G (by omega) k).2, T2, z1, z2⟩
        · rintro ⟨T, k, T2, z1, z2⟩
          obtain ⟨T0, k0, rfl⟩ := pk_U G (by omega) k
          refine ⟨T0, k0, ?_⟩
          obtain ⟨u, u1, u2, u3⟩ := hv w w2 _ (xl T0 k0)
          have u4 := (u3 j (by omega)).mpr ((TQw G hb w0 (by omega) k0).mpr ⟨T2, z1, z2⟩)
          rw [u2]
          congr 1
          by_cases q : u = j
          · exact q
          · exfalso
            have := (u3 u (by omega)).mp (Nat.le_refl _)
            obtain ⟨T3, y1, y2⟩ := (TQw G hb w0 (by omega) k0).mp this
            obtain ⟨m, t2, y3, y4⟩ := W1 ⟨pdep al T0, k, T3, y1, y2⟩ w0 w1 (by omega)
            rcases hmin _ _ _ y4 with z | z <;> omega
      obtain ⟨w, rfl, w0, w1, w2, w3⟩ := W2 hm
      have wla : w ≤ la := by
        by_cases q : w ≤ la
        · exact q
        · exfalso
          obtain ⟨T, k, T2, k2, z⟩ := w3
          have e2 := k2.2.1
          rw [G.2.2.2 w (by omega) w2, Nat.and_zero] at e2
          rw [← e2, Nat.or_zero] at z
          have := Ha_out G.2.2.2 j w T (by omega) z
          rw [this] at k
          rcases hmin 0 0 (-1) ⟨rfl, k, rfl⟩ with z | z <;> omega
      obtain ⟨w', y1, y2, y3, y4⟩ := fs_loop (fu := fu) (P := P) hh hf (j := j) (LD := LW g al sp hd fr j) (fun u u0 u1 u2 => by
        obtain ⟨r, r1, r2⟩ := ld_eq (fu := fu) (P := P) hh hf (w := u) (j := j) (by omega)
        exact ⟨r, r1, r2.trans (key u u0 u1 u2)⟩) w1 wla w3 (w - 1) 1 (fu - w) (by omega) (by omega)
      rw [show fu - w + (w - 1) + 1 = fu by omega] at y1
      rw [show (1 : Int32) = nI 1 from rfl, y1]
      obtain ⟨m, t2, y5, y6⟩ := W1 y4 y2 (by omega) (by omega)
      rcases hmin _ _ _ y6 with z | ⟨z, z2⟩
      · omega
      · have := (nI_leI (by omega) (by omega)).mp z2
        rw [show w' = w by omega]
end XN
