/-! ===== the plan: what both sides compute ===== -/
def sz4 (a : Nat) : Nat := a % 2 + a / 2 % 2 + a / 4 % 2 + a / 8 % 2
def kT (g : Nat → Nat) (h t T : Nat) : Prop := T < 16 ∧ T &&& g t = T ∧ sz4 T ≤ h
def Ha (g : Nat → Nat) (al sp hd : Nat) : Nat → Nat → Nat → Prop
  | 0, _, S => S = al
  | n + 1, t, S => S = al ∨ ∃ r T, t < r ∧ r ≤ t + sp ∧ r ≤ 120 ∧ kT g hd r T ∧ Ha g al sp hd n r (S ||| T)
def Fw (g : Nat → Nat) (sp hd fr : Nat) : Nat → Nat → Nat → Int32 → Prop
  | 0, t, S, f => t = 0 ∧ kT g fr 0 S ∧ f = -1
  | k + 1, r, S2, f2 => ∃ t S f T, Fw g sp hd fr k t S f ∧ t < r ∧ r ≤ t + sp ∧ r ≤ 120 ∧ kT g hd r T ∧ S2 = S ||| T ∧ f2 = (if k = 0 then nI (r - t) else f)
def Hx (g : Nat → Nat) (sp hd la : Nat) : Nat → Nat → Nat → Prop
  | 0, _, L => L = 0
  | n + 1, t, L => L = 0 ∨ ∃ r T, t < r ∧ r ≤ t + sp ∧ r ≤ la ∧ T &&& L = T ∧ kT g hd r T ∧ Hx g sp hd la n r (L ^^^ T)
section PM
variable {g gx : Nat → Nat} {al sp hd fr la : Nat}
theorem or16 {a b : Nat} (ha : a < 16) (hb : b < 16) : a ||| b < 16 := Nat.or_lt_two_pow (n := 4) ha hb
theorem Fw_b : ∀ (k t S : Nat) (f : Int32), Fw g sp hd fr k t S f → k ≤ t ∧ t ≤ 120 ∧ S < 16 := by
  intro k
  induction k with
  | zero =>
    intro t S f h
    obtain ⟨rfl, h2, -⟩ := h
    exact ⟨by omega, by omega, h2.1⟩
  | succ k ih =>
    intro t S f h
    obtain ⟨t0, S0, f0, T, h0, a, b, c, d, rfl, -⟩ := h
    obtain ⟨z1, z2, z3⟩ := ih t0 S0 f0 h0
    exact ⟨by omega, c, or16 z3 d.1⟩
theorem FH1 : ∀ (m n t S : Nat) (f : Int32), Fw g sp hd fr m t S f → Ha g al sp hd n t S → ∃ T, kT g fr 0 T ∧ Ha g al sp hd (m + n) 0 T := by
  intro m
  induction m with
  | zero =>
    intro n t S f h hn
    obtain ⟨rfl, h2, -⟩ := h
    exact ⟨S, h2, by rw [Nat.zero_add]; exact hn⟩
  | succ m ih =>
    intro n t S f h hn
    obtain ⟨t0, S0, f0, T, h0, a, b, c, d, rfl, -⟩ := h
    obtain ⟨T0, z1, z2⟩ := ih (n + 1) t0 S0 f0 h0 (Or.inr ⟨t, T, a, b, c, d, hn⟩)
    exact ⟨T0, z1, by rw [show m + 1 + n = m + (n + 1) by omega]; exact z2⟩
theorem FH2 : ∀ (m n t S : Nat) (f : Int32), Fw g sp hd fr (m + 1) t S f → Ha g al sp hd n t S → ∃ w T T2, f = nI w ∧ 0 < w ∧ w ≤ sp ∧ w ≤ 120 ∧ kT g fr 0 T ∧ kT g hd w T2 ∧ Ha g al sp hd (m + n) w (T ||| T2) := by
  intro m
  induction m with
  | zero =>
    intro n t S f h hn
    obtain ⟨t0, S0, f0, T, ⟨rfl, h0, -⟩, a, b, c, d, rfl, e⟩ := h
    exact ⟨t, S0, T, by rw [e, if_pos rfl]; rfl, a, by omega, c, h0, d, by rw [Nat.zero_add]; exact hn⟩
  | succ m ih =>
    intro n t S f h hn
    obtain ⟨t0, S0, f0, T, h0, a, b, c, d, rfl, e⟩ := h
    rw [if_neg (by omega)] at e
    subst e
    obtain ⟨w, T0, T2, z1, z2, z3, z4, z5, z6, z7⟩ := ih (n + 1) t0 S0 f h0 (Or.inr ⟨t, T, a, b, c, d, hn⟩)
    exact ⟨w, T0, T2, z1, z2, z3, z4, z5, z6, by rw [show m + 1 + n = m + (n + 1) by omega]; exact z7⟩
theorem HF1 : ∀ (n m t S : Nat) (f : Int32), Ha g al sp hd n t S → Fw g sp hd fr m t S f → ∃ m2 t2 f2, m2 ≤ m + n ∧ Fw g sp hd fr m2 t2 al f2 := by
  intro n
  induction n with
  | zero =>
    intro m t S f h hf
    rw [show S = al from h] at hf
    exact ⟨m, t, f, by omega, hf⟩
  | succ n ih =>
    intro m t S f h hf
    rcases h with h | ⟨r, T, a, b, c, d, h⟩
    · rw [h] at hf
      exact ⟨m, t, f, by omega, hf⟩
    · obtain ⟨m2, t2, f2, z1, z2⟩ := ih (m + 1) r (S ||| T) _ h ⟨t, S, f, T, hf, a, b, c, d, rfl, rfl⟩
      exact ⟨m2, t2, f2, by omega, z2⟩
theorem HF2 : ∀ (n m t S : Nat) (f : Int32), Ha g al sp hd n t S → Fw g sp hd fr (m + 1) t S f → ∃ m2 t2, m2 ≤ m + n ∧ Fw g sp hd fr (m2 + 1) t2 al f := by
  intro n
  induction n with
  | zero =>
    intro m t S f h hf
    rw [show S = al from h] at hf
    exact ⟨m, t, by omega, hf⟩
  | succ n ih =>
    intro m t S f h hf
    rcases h with h | ⟨r, T, a, b, c, d, h⟩
    · rw [h] at hf
      exact ⟨m, t, by omega, hf⟩
    · obtain ⟨m2, t2, z1, z2⟩ := ih (m + 1) r (S ||| T) f h ⟨t, S, f, T, hf, a, b, c, d, rfl, by rw [if_neg (by omega)]⟩
      exact ⟨m2, t2, by omega, z2⟩
theorem Ha_out (h0 : ∀ r, la < r → r ≤ 120 → g r = 0) : ∀ (n t S : Nat), la ≤ t → Ha g al sp hd n t S → S = al := by
  intro n
  induction n with
  | zero => exact fun t S _ h => h
  | succ n ih =>
    intro t S ht h
    rcases h with h | ⟨r, T, a, b, c, d, h⟩
    · exact h
    · have e := d.2.1
      rw [h0 r (by omega) c, Nat.and_zero] at e
      have := ih r (S ||| T) (by omega) h
      rw [← e, Nat.or_zero] at this
      exact this
theorem Hx_0 (n t : Nat) : Hx g sp hd la n t 0 := by
  cases n with
  | zero => rfl
  | succ n => exact Or.inl rfl
/-! masks: the pots that boil, close together or where they stand -/
def pdep (a L : Nat) : Nat := (if a % 2 = 1 ∧ L % 2 = 1 then 1 else 0) + (if a / 2 % 2 = 1 ∧ L / 2 ^ (a % 2) % 2 = 1 then 2 else 0) + (if a / 4 % 2 = 1 ∧ L / 2 ^ (a % 2 + a / 2 % 2) % 2 = 1 then 4 else 0) + (if a / 8 % 2 = 1 ∧ L / 2 ^ (a % 2 + a / 2 % 2 + a / 4 % 2) % 2 = 1 then 8 else 0)
def pext (a M : Nat) : Nat := (if a % 2 = 1 ∧ M % 2 = 1 then 1 else 0) + (if a / 2 % 2 = 1 ∧ M / 2 % 2 = 1 then 2 ^ (a % 2) else 0) + (if a / 4 % 2 = 1 ∧ M / 4 % 2 = 1 then 2 ^ (a % 2 + a / 2 % 2) else 0) + (if a / 8 % 2 = 1 ∧ M / 8 % 2 = 1 then 2 ^ (a % 2 + a / 2 % 2 + a / 4 % 2) else 0)
theorem pd_1 : ∀ a, a < 16 → ∀ L, L < 16 → L < 2 ^ sz4 a → pdep a L &&& a = pdep a L ∧ pdep a L < 16 ∧ sz4 (pdep a L) = sz4 L ∧ (a ^^^ pdep a L = a → L = 0) := by decide +kernel
theorem pd_0 : ∀ a, a < 16 → pdep a 0 = 0 ∧ pdep a (2 ^ sz4 a - 1) = a ∧ a ^^^ a = 0 ∧ sz4 a ≤ 4 := by decide +kernel
theorem pd_2a : ∀ a, a < 16 → ∀ L, L < 16 → ∀ T, T < 16 → decide (L < 2 ^ sz4 a → T < 2 ^ sz4 a → T &&& L = T → a ^^^ pdep a (L ^^^ T) = (a ^^^ pdep a L) ||| pdep a T ∧ L ^^^ T < 2 ^ sz4 a ∧ L ^^^ T < 16) = true := by decide +kernel
theorem pd_2 (a : Nat) (ha : a < 16) (L : Nat) (hL : L < 16) (T : Nat) (hT : T < 16) : L < 2 ^ sz4 a → T < 2 ^ sz4 a → T &&& L = T → a ^^^ pdep a (L ^^^ T) = (a ^^^ pdep a L) ||| pdep a T ∧ L ^^^ T < 2 ^ sz4 a ∧ L ^^^ T < 16 := of_decide_eq_true (pd_2a a ha L hL T hT)
theorem pd_3a : ∀ a, a < 16 → ∀ L, L < 16 → ∀ T, T < 16 → decide (L < 2 ^ sz4 a → T < 2 ^ sz4 a → (T &&& L = T ↔ pdep a T &&& pdep a L = pdep a T)) = true := by decide +kernel
theorem pd_3 (a : Nat) (ha : a < 16) (L : Nat) (hL : L < 16) (T : Nat) (hT : T < 16) : L < 2 ^ sz4 a → T < 2 ^ sz4 a → (T &&& L = T ↔ pdep a T &&& pdep a L = pdep a T) := of_decide_eq_true (pd_3a a ha L hL T hT)
theorem pd_4a : ∀ a, a < 16 → ∀ L, L < 16 → ∀ T, T < 16 → decide (L < 2 ^ sz4 a → T &&& a = T → pext a (T &&& pdep a L) &&& L = pext a (T &&& pdep a L) ∧ pext a (T &&& pdep a L) < 16 ∧ pext a (T &&& pdep a L) < 2 ^ sz4 a ∧ pdep a (pext a (T &&& pdep a L)) = T &&& pdep a L ∧ sz4 (pext a (T &&& pdep a L)) ≤ sz4 T ∧ (a ^^^ pdep a L) ||| T = a ^^^ pdep a (L ^^^ pext a (T &&& pdep a L))) = true := by decide +kernel
theorem pd_4 (a : Nat) (ha : a < 16) (L : Nat) (hL : L < 16) (T : Nat) (hT : T < 16) : L < 2 ^ sz4 a → T &&& a = T → pext a (T &&& pdep a L) &&& L = pext a (T &&& pdep a L) ∧ pext a (T &&& pdep a L) < 16 ∧ pext a (T &&& pdep a L) < 2 ^ sz4 a ∧ pdep a (pext a (T &&& pdep a L)) = T &&& pdep a L ∧ sz4 (pext a (T &&& pdep a L)) ≤ sz4 T ∧ (a ^^^ pdep a L) ||| T = a ^^^ pdep a (L ^^^ pext a (T &&& pdep a L)) := of_decide_eq_true (pd_4a a ha L hL T hT)
theorem lt16 {a L : Nat} (ha : a < 16) (h : L < 2 ^ sz4 a) : L < 16 := Nat.lt_of_lt_of_le h (Nat.pow_le_pow_right (by decide) (pd_0 a ha).2.2.2)
theorem and_mid {T G L : Nat} (h : T &&& G = T) : (T &&& L) &&& G = T &&& L := by
  rw [Nat.and_assoc, Nat.and_comm L G, ← Nat.and_assoc, h]
/-- what is needed of the two tables of good minutes -/
def GG (g gx : Nat → Nat) (al la : Nat) : Prop := al < 16 ∧ la ≤ 120 ∧ (∀ t, t ≤ 120 → gx t < 2 ^ sz4 al ∧ pdep al (gx t) = g t) ∧ ∀ r, la < r → r ≤ 120 → g r = 0
theorem HxA (G : GG g gx al la) : ∀ (n t L : Nat), L < 2 ^ sz4 al → (Hx gx sp hd la n t L ↔ Ha g al sp hd n t (al ^^^ pdep al L)) := by
  obtain ⟨g1, g2, g3, g4⟩ := G
  have z0 : al ^^^ pdep al 0 = al := by rw [(pd_0 al g1).1, Nat.xor_zero]
  intro n
  induction n with
  | zero =>
    intro t L hL
    constructor
    · intro h
      rw [show L = 0 from h]
      exact z0
    · intro h
      exact (pd_1 al g1 L (lt16 g1 hL) hL).2.2.2 h
  | succ n ih =>
    intro t L hL
    constructor
    · rintro (h | ⟨r, T, a, b, c, d, e, h⟩)
      · rw [h]
        exact Or.inl z0
      · have gr := g3 r (by omega)
        have hT : T < 2 ^ sz4 al := Nat.lt_of_le_of_lt (by have := e.2.1; rw [← this]; exact Nat.and_le_right) gr.1
        have q := pd_2 al g1 L (lt16 g1 hL) T e.1 hL hT d
        have q1 := pd_1 al g1 T e.1 hT
        refine Or.inr ⟨r, pdep al T, a, b, by omega, ⟨q1.2.1, ?_, by rw [q1.2.2.1]; exact e.2.2⟩, ?_⟩
        · rw [← gr.2]
          exact (pd_3 al g1 (gx r) (lt16 g1 gr.1) T e.1 gr.1 hT).mp e.2.1
        · rw [← q.1]
          exact (ih r (L ^^^ T) q.2.1).mp h
    · rintro (h | ⟨r, T, a, b, c, e, h⟩)
      · exact Or.inl ((pd_1 al g1 L (lt16 g1 hL) hL).2.2.2 h)
      · by_cases hr : r ≤ la
        · have gr := g3 r (by omega)
          have p := pd_1 al g1 (gx r) (lt16 g1 gr.1) gr.1
          have hTa : T &&& al = T := by
            have e2 := e.2.1
            rw [← gr.2, ← p.1, ← Nat.and_assoc] at e2
            have e3 : (T &&& pdep al (gx r)) &&& al &&& al = T &&& pdep al (gx r) &&& al := by rw [Nat.and_assoc, Nat.and_self]
            rw [e2] at e3
            exact e3
          have q := pd_4 al g1 L (lt16 g1 hL) T e.1 hL hTa
          have q2 := pd_2 al g1 L (lt16 g1 hL) _ q.2.1 hL q.2.2.1 q.1
          refine Or.inr ⟨r, pext al (T &&& pdep al L), a, b, hr, q.1, ⟨q.2.1, ?_, Nat.le_trans q.2.2.2.2.1 e.2.2⟩, (ih r _ q2.2.1).mpr ?_⟩
          · refine (pd_3 al g1 (gx r) (lt16 g1 gr.1) _ q.2.1 gr.1 q.2.2.1).mpr ?_
            rw [q.2.2.2.1, gr.2]
            exact and_mid e.2.1
          · rw [← q.2.2.2.2.2]
            exact h
        · have e2 := e.2.1
          rw [g4 r (by omega) c, Nat.and_zero] at e2
          rw [← e2, Nat.or_zero] at h
          exact Or.inl ((pd_1 al g1 L (lt16 g1 hL) hL).2.2.2 (Ha_out g4 n r _ (by omega) h))
/-- taking at a minute, close together or where they stand -/
theorem HxT (G : GG g gx al la) {t n L h : Nat} (ht : t ≤ 120) (hL : L < 2 ^ sz4 al) : (∃ T, T &&& L = T ∧ kT gx h t T ∧ Hx gx sp hd la n t (L ^^^ T)) ↔ ∃ T, kT g h t T ∧ Ha g al sp hd n t ((al ^^^ pdep al L) ||| T) := by
  have G0 := G
  obtain ⟨g1, g2, g3, g4⟩ := G
  have gr := g3 t ht
  constructor
  · rintro ⟨T, d, e, h⟩
    have hT : T < 2 ^ sz4 al := Nat.lt_of_le_of_lt (by have := e.2.1; rw [← this]; exact Nat.and_le_right) gr.1
    have q := pd_2 al g1 L (lt16 g1 hL) T e.1 hL hT d
    have q1 := pd_1 al g1 T e.1 hT
    refine ⟨pdep al T, ⟨q1.2.1, ?_, by rw [q1.2.2.1]; exact e.2.2⟩, ?_⟩
    · rw [← gr.2]
      exact (pd_3 al g1 (gx t) (lt16 g1 gr.1) T e.1 gr.1 hT).mp e.2.1
    · rw [← q.1]
      exact (HxA G0 n t (L ^^^ T) q.2.1).mp h
  · rintro ⟨T, e, h⟩
    have p := pd_1 al g1 (gx t) (lt16 g1 gr.1) gr.1
    have hTa : T &&& al = T := by
      have e2 := e.2.1
      rw [← gr.2, ← p.1, ← Nat.and_assoc] at e2
      have e3 : (T &&& pdep al (gx t)) &&& al &&& al = T &&& pdep al (gx t) &&& al := by rw [Nat.and_assoc, Nat.and_self]
      rw [e2] at e3
      exact e3
    have q := pd_4 al g1 L (lt16 g1 hL) T e.1 hL hTa
    have q2 := pd_2 al g1 L (lt16 g1 hL) _ q.2.1 hL q.2.2.1 q.1
    refine ⟨pext al (T &&& pdep al L), q.1, ⟨q.2.1, ?_, Nat.le_trans q.2.2.2.2.1 e.2.2⟩, (HxA G0 n t _ q2.2.1).mpr ?_⟩
    · refine (pd_3 al g1 (gx t) (lt16 g1 gr.1) _ q.2.1 gr.1 q.2.2.1).mpr ?_
      rw [q.2.2.2.1, gr.2]
      exact and_mid e.2.1
    · rw [← q.2.2.2.2.2]
      exact h
end PM
