section MA
variable {sp hd fr mn al : Nat} {g : Nat → Nat} {T : MS} {fu : Nat}
def Inv (g : Nat → Nat) (sp hd fr k : Nat) (T : MS) : Prop := (∀ i, i < 1936 → mA T 22 i = -1 ∨ ∃ m, m ≤ k ∧ mA T 22 i = nI m ∧ SndF g sp hd fr m i (mA T 23 i)) ∧ ∀ m, m ≤ k → ∀ t S f, Fw g sp hd fr m t S f → ∃ m2, m2 ≤ m ∧ mA T 22 (16 * t + S) = nI m2 ∧ (m2 = m → mA T 23 (16 * t + S) ≤ f)
def Done (g : Nat → Nat) (sp hd fr : Nat) (T : MS) : Prop := (∀ i, i < 1936 → mA T 22 i = -1 ∨ ∃ m, m ≤ 200 ∧ mA T 22 i = nI m ∧ SndF g sp hd fr m i (mA T 23 i)) ∧ ∀ m t S f, Fw g sp hd fr m t S f → ∃ m2, m2 ≤ m ∧ mA T 22 (16 * t + S) = nI m2 ∧ (m2 = m → mA T 23 (16 * t + S) ≤ f)
theorem wave_eq (h : PMs sp hd fr mn g T) (hf : 2000 ≤ fu) (hsp : 0 < sp) {k : Nat} (hk : k ≤ 121) (hI : Inv g sp hd fr k T) : ∃ v T2, f_X10_goWave fu T (nI k) = some (v, T2) ∧ MFr T T2 ∧ Inv g sp hd fr (k + 1) T2 ∧ (¬ v = 0 → k < 120) ∧ (v = 0 → Done g sp hd fr T2) := by
  obtain ⟨hS, hC⟩ := hI
  have lvl : ∀ i, i < 1936 → ∀ m, m < 1000 → mA T 22 i = nI m → m ≤ k ∧ SndF g sp hd fr m i (mA T 23 i) := by
    intro i hi m hm e
    rcases hS i hi with z | ⟨m2, z1, z2, z3⟩
    · rw [z] at e
      exact absurd e.symm (nI_m1 (by omega))
    · have := (nI_eq (by omega) (by omega)).mp (z2.symm.trans e)
      subst this
      exact ⟨z1, z3⟩
  have K0 : KK (mA T 22) (mA T 23) (k + 1) (SndF g sp hd fr (k + 1)) T := fun i hi => ⟨fun _ => ⟨rfl, rfl⟩, fun e => Or.inl e⟩
  obtain ⟨v, z, T2, y1, y2, y3, y4, y5, y6, y7, y8⟩ := wv_all (fu := fu) h hf hsp (s0 := mA T 22) (f0 := mA T 23) hk (fun i hi e => by have := (lvl i hi (k + 1) (by omega) e).1; omega) (fun i hi e => (lvl i hi k (by omega) e).2) 1936 0 (fu - 1937) 0 T rfl (Or.inl rfl) MFr.rfl' K0
  rw [show fu - 1937 + 1936 + 1 = fu by omega] at y1
  have keep : ∀ i, i < 1936 → ∀ m, m < 1000 → mA T 22 i = nI m → mA T2 22 i = nI m ∧ mA T2 23 i = mA T 23 i := by
    intro i hi m hm e
    have := (y3 i hi).1 (by rw [e]; exact nI_m1 (by omega))
    exact ⟨this.1.trans e, this.2⟩
  have S2 : ∀ i, i < 1936 → mA T2 22 i = -1 ∨ ∃ m, m ≤ k + 1 ∧ mA T2 22 i = nI m ∧ SndF g sp hd fr m i (mA T2 23 i) := by
    intro i hi
    rcases hS i hi with z | ⟨m, z1, z2, z3⟩
    · rcases (y3 i hi).2 z with q | q
      · exact Or.inl q
      · exact Or.inr ⟨k + 1, Nat.le_refl _, q⟩
    · obtain ⟨a, b⟩ := keep i hi m (by omega) z2
      exact Or.inr ⟨m, by omega, a, by rw [b]; exact z3⟩
  have ix : ∀ m t S f, Fw g sp hd fr m t S f → 16 * t + S < 1936 ∧ (16 * t + S) / 16 = t ∧ (16 * t + S) % 16 = S := by
    intro m t S f hF
    have := Fw_b m t S f hF
    omega
  have C2 : ∀ m, m ≤ k + 1 → ∀ t S f, Fw g sp hd fr m t S f → ∃ m2, m2 ≤ m ∧ mA T2 22 (16 * t + S) = nI m2 ∧ (m2 = m → mA T2 23 (16 * t + S) ≤ f) := by
    intro m hm t S f hF
    have ixx := ix m t S f hF
    by_cases q : m ≤ k
    · obtain ⟨m2, z1, z2, z3⟩ := hC m q t S f hF
      obtain ⟨a, b⟩ := keep _ ixx.1 m2 (by omega) z2
      exact ⟨m2, z1, a, fun e => by rw [b]; exact z3 e⟩
    · have em : m = k + 1 := by omega
      subst em
      obtain ⟨t0, S0, f0, A, hF0, a1, a2, a3, a4, rfl, a5⟩ := hF
      have ix0 := ix k t0 S0 f0 hF0
      obtain ⟨m2, z1, z2, z3⟩ := hC k (Nat.le_refl _) t0 S0 f0 hF0
      by_cases q2 : m2 = k
      · subst q2
        have ed := y8 (16 * t0 + S0) (by omega) ix0.1 z2 (t - t0) (by omega) (by omega) (by rw [ix0.2.1]; omega) A (by rw [ix0.2.1, show t0 + (t - t0) = t by omega]; exact a4)
        rw [ix0.2.1, ix0.2.2, show t0 + (t - t0) = t by omega] at ed
        rcases S2 (16 * t + (S0 ||| A)) ixx.1 with q | ⟨m3, q1, q2, q3⟩
        · exact absurd q ed.1
        · refine ⟨m3, q1, q2, fun e => ?_⟩
          subst e
          refine Int32.le_trans (ed.2 q2) ?_
          rw [a5]
          by_cases e0 : m2 = 0
          · rw [if_pos e0, if_pos e0]
            exact Int32.le_refl _
          · rw [if_neg e0, if_neg e0]
            exact z3 rfl
      · have sd := (lvl _ ix0.1 m2 (by omega) z2).2
        unfold SndF at sd
        rw [ix0.2.1, ix0.2.2] at sd
        obtain ⟨m3, x1, x2, x3⟩ := hC (m2 + 1) (by omega) t (S0 ||| A) _ ⟨t0, S0, _, A, sd, a1, a2, a3, a4, rfl, rfl⟩
        obtain ⟨a, b⟩ := keep _ ixx.1 m3 (by omega) x2
        exact ⟨m3, by omega, a, fun e => by omega⟩
  refine ⟨v, T2, ?_, y2, ⟨S2, C2⟩, fun e => ?_, fun e => ⟨fun i hi => ?_, ?_⟩⟩
  · unfold f_X10_goWave
    rw [show (0 : Int32) = nI 0 from rfl] at y1 ⊢
    rw [y1, Option.bind_some]
    unfold gb
    rw [if_pos y5]
  · rcases y7 (y5.elim (fun z => absurd z e) id) with q | ⟨j, j1, j2, j3⟩
    · exact absurd q (by decide)
    · have := (lvl j j1 k (by omega) j2).2
      have := (Fw_b k _ _ _ this).1
      omega
  · rcases S2 i hi with q | ⟨m, q1, q2⟩
    · exact Or.inl q
    · exact Or.inr ⟨m, by omega, q2⟩
  · have all : ∀ m t S f, Fw g sp hd fr m t S f → ∃ m2, m2 ≤ m ∧ m2 ≤ k ∧ mA T 22 (16 * t + S) = nI m2 ∧ (m2 = m → mA T 23 (16 * t + S) ≤ f) := by
      intro m
      induction m with
      | zero =>
        intro t S f hF
        obtain ⟨m2, z1, z2, z3⟩ := hC 0 (by omega) t S f hF
        exact ⟨m2, z1, by omega, z2, z3⟩
      | succ m ih =>
        intro t S f hF
        by_cases q : m + 1 ≤ k
        · obtain ⟨m2, z1, z2, z3⟩ := hC (m + 1) q t S f hF
          exact ⟨m2, z1, by omega, z2, z3⟩
        · obtain ⟨t0, S0, f0, A, hF0, a1, a2, a3, a4, rfl, a5⟩ := hF
          have ix0 := ix m t0 S0 f0 hF0
          obtain ⟨m2, z1, z2, z3, z4⟩ := ih t0 S0 f0 hF0
          by_cases q2 : m2 = k
          · subst q2
            have := (y6 e).2 (16 * t0 + S0) (by omega) ix0.1 z3
            rw [ix0.2.1] at this
            omega
          · have sd := (lvl _ ix0.1 m2 (by omega) z3).2
            unfold SndF at sd
            rw [ix0.2.1, ix0.2.2] at sd
            obtain ⟨m3, x1, x2, x3⟩ := hC (m2 + 1) (by omega) t (S0 ||| A) _ ⟨t0, S0, _, A, sd, a1, a2, a3, a4, rfl, rfl⟩
            exact ⟨m3, by omega, by omega, x2, fun e => by omega⟩
    intro m t S f hF
    obtain ⟨m2, z1, z2, z3, z4⟩ := all m t S f hF
    obtain ⟨a, b⟩ := keep _ (ix m t S f hF).1 m2 (by omega) z3
    exact ⟨m2, z1, a, fun e => by rw [b]; exact z4 e⟩
theorem waves (hf : 2000 ≤ fu) (hsp : 0 < sp) {v1 v2 : Int32} : ∀ (d k n : Nat) (T : MS), k + d = 121 → PMs sp hd fr mn g T → Inv g sp hd fr k T → ∃ z T2, f_X10_planNow_L87 fu v1 v2 (n + d + 1) (nI k) T = some (z, T2) ∧ MFr T T2 ∧ Done g sp hd fr T2 := by
  intro d
  induction d with
  | zero =>
    intro k n T hk h hI
    obtain ⟨v, T2, y1, y2, y3, y4, y5⟩ := wave_eq (fu := fu) h hf hsp (by omega) hI
    rw [f_X10_planNow_L87, y1, Option.bind_some]
    by_cases q : v = 0
    · rw [if_pos q]
      exact ⟨_, T2, rfl, y2, y5 q⟩
    · have := y4 q
      omega
  | succ d ih =>
    intro k n T hk h hI
    obtain ⟨v, T2, y1, y2, y3, y4, y5⟩ := wave_eq (fu := fu) h hf hsp (by omega) hI
    rw [show n + (d + 1) + 1 = (n + d + 1) + 1 by omega, f_X10_planNow_L87, y1, Option.bind_some]
    by_cases q : v = 0
    · rw [if_pos q]
      exact ⟨_, T2, rfl, y2, y5 q⟩
    · obtain ⟨z, T3, x1, x2, x3⟩ := ih (k + 1) n T2 (by omega) (h.go y2) y3
      rw [if_neg q, nI_1]
      exact ⟨z, T3, x1, y2.trans x2, x3⟩
theorem clear_loop {v1 v2 : Int32} : ∀ (d i n : Nat) (T : MS), i + d = 1936 → (∀ j, j < i → mA T 22 j = -1 ∧ mA T 23 j = -1) → ∃ z T2, f_X10_planNow_L38 fu v1 v2 (n + d + 1) (nI i) T = some (z, T2) ∧ MFr T T2 ∧ ∀ j, j < 1936 → mA T2 22 j = -1 ∧ mA T2 23 j = -1 := by
  intro d
  induction d with
  | zero =>
    intro i n T hi h
    rw [f_X10_planNow_L38, if_pos (show (1936 : Int32) ≤ nI i from nI_le (a := 1936) (by omega) (by omega))]
    exact ⟨_, T, rfl, MFr.rfl', fun j hj => h j (by omega)⟩
  | succ d ih =>
    intro i n T hi h
    rw [show n + (d + 1) + 1 = (n + d + 1) + 1 by omega, f_X10_planNow_L38, if_neg (show ¬ (1936 : Int32) ≤ nI i from nI_ge (b := 1936) (by omega) (by omega)), gd_in (vp_in_nI (by omega) (by decide)), gd_in (vp_in_nI (by omega) (by decide)), nI_clamp (by omega), nI_1]
    obtain ⟨z, T2, y1, y2, y3⟩ := ih (i + 1) n (msA (msA T 22 i (-1)) 23 i (-1)) (by omega) (fun j hj => by
      have e22 : mA (msA (msA T 22 i (-1)) 23 i (-1)) 22 j = if j = i then -1 else mA T 22 j := rfl
      have e23 : mA (msA (msA T 22 i (-1)) 23 i (-1)) 23 j = if j = i then -1 else mA T 23 j := rfl
      rw [e22, e23]
      by_cases e : j = i
      · rw [if_pos e, if_pos e]
        exact ⟨rfl, rfl⟩
      · rw [if_neg e, if_neg e]
        exact h j (by omega))
    have f0 : MFr T (msA (msA T 22 i (-1)) 23 i (-1)) := ⟨fun _ => rfl, fun j a b => by rw [mA_msA, if_neg b, mA_msA, if_neg a]⟩
    exact ⟨z, T2, y1, f0.trans y2, y3⟩
def Acc (al : Nat) (T : MS) (t : Nat) (v4 v5 : Int32) : Prop := (v4 = 268435456 ∧ ∀ u, u < t → mA T 22 (16 * u + al) = -1) ∨ (∃ u, u < t ∧ ¬ mA T 22 (16 * u + al) = -1 ∧ v4 = mA T 22 (16 * u + al) ∧ v5 = mA T 23 (16 * u + al) ∧ v4 < 268435456 ∧ ∀ w, w < t → mA T 22 (16 * w + al) = -1 ∨ v4 < mA T 22 (16 * w + al) ∨ (v4 = mA T 22 (16 * w + al) ∧ v5 ≤ mA T 23 (16 * w + al)))
theorem acc_loop (hal : al < 16) (hS : ∀ i, i < 1936 → mA T 22 i = -1 ∨ ∃ m, m ≤ 200 ∧ mA T 22 i = nI m) {v1 v3 : Int32} : ∀ (d t n : Nat) (v4 v5 : Int32), t + d = 121 → Acc al T t v4 v5 → ∃ x y z, f_X10_planNow_L112 fu v1 (nI al) v3 (n + d + 1) v4 v5 (nI t) T = some (x, y, z) ∧ Acc al T 121 x y := by
  intro d
  induction d with
  | zero =>
    intro t n v4 v5 ht h
    rw [f_X10_planNow_L112, if_pos (show (120 : Int32) < nI t from nI_lt (a := 120) (by omega) (by omega))]
    exact ⟨v4, v5, _, rfl, by rw [show t = 121 by omega] at h; exact h⟩
  | succ d ih =>
    intro t n v4 v5 ht h
    have eix : 16 * nI t + nI al = nI (16 * t + al) := by
      rw [show (16 : Int32) = nI 16 from rfl, pk_mul, nI_add]
    have hi : 16 * t + al < 1936 := by omega
    have hin : vp_in (nI (16 * t + al)) 1936 := vp_in_nI hi (by decide)
    have lt : ∀ {p : Nat → Prop}, (∀ u, u < t → p u) → p t → ∀ u, u < t + 1 → p u := fun a b u c => if e : u = t then e ▸ b else a u (by omega)
    rw [show n + (d + 1) + 1 = (n + d + 1) + 1 by omega, f_X10_planNow_L112, if_neg (show ¬ (120 : Int32) < nI t from nI_nlt (a := 120) (by omega) (by omega)), eix, nI_1, nI_clamp (by omega)]
    simp only [gd_in hin]
    have small : ∀ m, m ≤ 200 → mA T 22 (16 * t + al) = nI m → mA T 22 (16 * t + al) < 268435456 := fun m hm e => by
      rw [e]
      exact nI_lt (b := 268435456) (by omega) (by decide)
    have new : ¬ mA T 22 (16 * t + al) = -1 → (∀ w, w < t → mA T 22 (16 * w + al) = -1 ∨ mA T 22 (16 * t + al) < mA T 22 (16 * w + al) ∨ (mA T 22 (16 * t + al) = mA T 22 (16 * w + al) ∧ mA T 23 (16 * t + al) ≤ mA T 23 (16 * w + al))) → Acc al T (t + 1) (mA T 22 (16 * t + al)) (mA T 23 (16 * t + al)) := by
      intro q a
      refine Or.inr ⟨t, by omega, q, rfl, rfl, ?_, lt a (Or.inr (Or.inr ⟨rfl, Int32.le_refl _⟩))⟩
      rcases hS _ hi with z | ⟨m, m1, m2⟩
      · exact absurd z q
      · exact small m m1 m2
    by_cases q : mA T 22 (16 * t + al) = -1
    · rw [if_pos q]
      refine ih (t + 1) n v4 v5 (by omega) ?_
      rcases h with ⟨a, b⟩ | ⟨u, a, b, c, e, f, k⟩
      · exact Or.inl ⟨a, lt b q⟩
      · exact Or.inr ⟨u, by omega, b, c, e, f, lt k (Or.inl q)⟩
    · rw [if_neg q]
      by_cases q2 : mA T 22 (16 * t + al) < v4
      · rw [if_pos q2]
        refine ih (t + 1) n _ _ (by omega) (new q ?_)
        intro w hw
        rcases h with ⟨a, b⟩ | ⟨u, a, b, c, e, f, k⟩
        · exact Or.inl (b w hw)
        · rcases k w hw with z | z | z
          · exact Or.inl z
          · exact Or.inr (Or.inl (by grind))
          · exact Or.inr (Or.inl (by grind))
      · rw [if_neg q2]
        have ex : ∃ u, u < t ∧ ¬ mA T 22 (16 * u + al) = -1 ∧ v4 = mA T 22 (16 * u + al) ∧ v5 = mA T 23 (16 * u + al) ∧ v4 < 268435456 ∧ ∀ w, w < t → mA T 22 (16 * w + al) = -1 ∨ v4 < mA T 22 (16 * w + al) ∨ (v4 = mA T 22 (16 * w + al) ∧ v5 ≤ mA T 23 (16 * w + al)) := by
          rcases h with ⟨a, b⟩ | h
          · exfalso
            rcases hS _ hi with z | ⟨m, m1, m2⟩
            · exact q z
            · have := small m m1 m2
              rw [a] at q2
              exact q2 this
          · exact h
        obtain ⟨u, a, b, c, e, f, k⟩ := ex
        by_cases q3 : mA T 22 (16 * t + al) = v4
        · rw [if_pos q3]
          by_cases q4 : v5 ≤ mA T 23 (16 * t + al)
          · rw [if_pos q4]
            exact ih (t + 1) n v4 v5 (by omega) (Or.inr ⟨u, by omega, b, c, e, f, lt k (Or.inr (Or.inr ⟨q3.symm, q4⟩))⟩)
          · rw [if_neg q4]
            refine ih (t + 1) n _ _ (by omega) (new q ?_)
            intro w hw
            rcases k w hw with z | z | z
            · exact Or.inl z
            · exact Or.inr (Or.inl (by rw [q3]; exact z))
            · exact Or.inr (Or.inr ⟨q3.trans z.1, by grind⟩)
        · rw [if_neg q3]
          exact ih (t + 1) n v4 v5 (by omega) (Or.inr ⟨u, by omega, b, c, e, f, lt k (Or.inr (Or.inl (by grind)))⟩)
theorem m_ans (h : PMs sp hd fr mn g T) (hf : 2000 ≤ fu) (hsp : 0 < sp) (hal : al < 16) {a1 z0 : Int32} (h4 : f_X10_planNow_L4 fu a1 fu 0 0 T = some (nI al, z0)) : ∃ x0 x1 T2, MR g sp hd fr al x0 x1 ∧ f_X10_planNow fu T a1 = some (if a1 = 0 then x0 else x1, T2) ∧ MFr T T2 := by
  obtain ⟨z1, T1, c1, c2, c3⟩ := clear_loop (fu := fu) (v1 := a1) (v2 := nI al) 1936 0 (fu - 1937) T rfl (fun j hj => absurd hj (Nat.not_lt_zero j))
  rw [show fu - 1937 + 1936 + 1 = fu by omega] at c1
  have h1 := h.go c2
  obtain ⟨p1, p2, p3, p4, p5, p6, p7, p8, p9, p10⟩ := h1
  have gd := p10 T1 fu 0 MFr.rfl' (by omega) (by omega)
  have K0 : KK (mA T1 22) (mA T1 23) 0 (SndF g sp hd fr 0) T1 := fun i hi => ⟨fun _ => ⟨rfl, rfl⟩, fun e => Or.inl e⟩
  obtain ⟨T2, y1, y2, y3, y4, y5⟩ := mk_eq (fu := fu) (T := T1) (s0 := mA T1 22) (f0 := mA T1 23) (lv := 0) (Snd := SndF g sp hd fr 0) (r := 0) (S := 0) (G := g 0) (hh := fr) (lab := -1) (by omega) (by omega) (fun i hi e => by rw [(c3 i hi).1] at e; exact absurd e.symm (nI_m1 (by omega))) (by omega) (by omega) (p9 0) p3 (fun A b1 b2 b3 => by
    unfold SndF
    rw [Nat.zero_or, show (16 * 0 + A) / 16 = 0 by omega, show (16 * 0 + A) % 16 = A by omega]
    exact ⟨rfl, ⟨b1, b2, b3⟩, rfl⟩) K0
  have hI : Inv g sp hd fr 0 T2 := by
    refine ⟨fun i hi => ?_, fun m hm t S f hF => ?_⟩
    · rcases (y3 i hi).2 (c3 i hi).1 with q | q
      · exact Or.inl q
      · exact Or.inr ⟨0, by omega, q⟩
    · have : m = 0 := by omega
      subst this
      obtain ⟨rfl, ok, rfl⟩ := hF
      have gdd := y5 S ok.1 ok.2.1 ok.2.2
      rw [Nat.zero_or] at gdd
      rcases (y3 (16 * 0 + S) (by have := ok.1; omega)).2 (c3 _ (by have := ok.1; omega)).1 with q | q
      · exact absurd q gdd.1
      · exact ⟨0, by omega, q.1, fun _ => gdd.2 q.1⟩
  obtain ⟨z3, T3, w1, w2, w3⟩ := waves (fu := fu) (v1 := a1) (v2 := nI al) hf hsp 121 0 (fu - 122) T2 rfl ((h.go c2).go y2) hI
  rw [show fu - 122 + 121 + 1 = fu by omega] at w1
  obtain ⟨x, y, z, v1, v2⟩ := acc_loop (fu := fu) (T := T3) (v1 := a1) (v3 := z3) hal (fun i hi => (w3.1 i hi).imp id (fun ⟨m, a, b, _⟩ => ⟨m, a, b⟩)) 121 0 (fu - 122) 268435456 268435456 rfl (Or.inl ⟨rfl, fun u hu => absurd hu (Nat.not_lt_zero u)⟩)
  rw [show fu - 122 + 121 + 1 = fu by omega] at v1
  have run : f_X10_planNow fu T a1 = if x = 268435456 then some (-1, T3) else if a1 = 0 then some (x, T3) else some (y, T3) := by
    unfold f_X10_planNow
    rw [h4, Option.bind_some]
    simp only []
    rw [show (0 : Int32) = nI 0 from rfl, c1, Option.bind_some]
    simp only []
    rw [p8, show nI mn = nI (mn + 0) from rfl, gd, Option.bind_some, p7, y1, Option.bind_some, w1, Option.bind_some]
    simp only []
    rw [v1, Option.bind_some]
  rcases v2 with ⟨a, b⟩ | ⟨u, a, b, c, e, f, k⟩
  · refine ⟨-1, -1, T3, Or.inl ⟨rfl, rfl, fun m t f hF => ?_⟩, ?_, (c2.trans y2).trans w2⟩
    · obtain ⟨m2, q1, q2, q3⟩ := w3.2 m t al f hF
      have := Fw_b m t al f hF
      rw [b t (by omega)] at q2
      exact nI_m1 (n := m2) (by omega) q2.symm
    · rw [run, if_pos a]
      by_cases q : a1 = 0
      · rw [if_pos q]
      · rw [if_neg q]
  · have hu : 16 * u + al < 1936 := by omega
    rcases w3.1 _ hu with q | ⟨m, q1, q2, q3⟩
    · exact absurd q b
    · unfold SndF at q3
      rw [show (16 * u + al) / 16 = u by omega, show (16 * u + al) % 16 = al by omega] at q3
      refine ⟨x, y, T3, Or.inr ⟨m, u, y, c.trans q2, rfl, by rw [e]; exact q3, fun m2 t2 f2 hF => ?_⟩, ?_, (c2.trans y2).trans w2⟩
      · obtain ⟨m3, r1, r2, r3⟩ := w3.2 m2 t2 al f2 hF
        have fb := Fw_b m2 t2 al f2 hF
        rcases k t2 (by omega) with z | z | z
        · rw [z] at r2
          exact absurd r2.symm (nI_m1 (by omega))
        · rw [c, q2, r2] at z
          have := (nI_ltI (by omega) (by omega)).mp z
          exact Or.inl (by omega)
        · have z1 := z.1
          rw [c, q2, r2] at z1
          have := (nI_eq (by omega) (by omega)).mp z1
          by_cases em : m3 = m2
          · exact Or.inr ⟨by omega, Int32.le_trans z.2 (r3 em)⟩
          · exact Or.inl (by omega)
      · have : ¬ x = 268435456 := fun z => by
          rw [z] at f
          exact absurd f (by decide)
        rw [run, if_neg this]
        by_cases q : a1 = 0
        · rw [if_pos q, if_pos q]
        · rw [if_neg q, if_neg q]
end MA
