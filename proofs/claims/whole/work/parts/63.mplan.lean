def MFr (T T2 : MS) : Prop := (∀ j, mI T2 j = mI T j) ∧ ∀ j, j ≠ 22 → j ≠ 23 → mA T2 j = mA T j
theorem MFr.rfl' {T : MS} : MFr T T := ⟨fun _ => rfl, fun _ _ _ => rfl⟩
theorem MFr.trans {T T2 T3 : MS} (h : MFr T T2) (k : MFr T2 T3) : MFr T T3 := ⟨fun j => (k.1 j).trans (h.1 j), fun j a b => (k.2 j a b).trans (h.2 j a b)⟩
def KK (s0 f0 : Nat → Int32) (lv : Nat) (Snd : Nat → Int32 → Prop) (T : MS) : Prop := ∀ i, i < 1936 → (¬ s0 i = -1 → mA T 22 i = s0 i ∧ mA T 23 i = f0 i) ∧ (s0 i = -1 → mA T 22 i = -1 ∨ (mA T 22 i = nI lv ∧ Snd i (mA T 23 i)))
def Mo (T T2 : MS) : Prop := ∀ i, i < 1936 → ¬ mA T 22 i = -1 → mA T2 22 i = mA T 22 i ∧ mA T2 23 i ≤ mA T 23 i
theorem Mo.rfl' {T : MS} : Mo T T := fun _ _ _ => ⟨rfl, Int32.le_refl _⟩
theorem Mo.trans {T T2 T3 : MS} (h : Mo T T2) (k : Mo T2 T3) : Mo T T3 := fun i hi q => by
  obtain ⟨a, b⟩ := h i hi q
  obtain ⟨c, d⟩ := k i hi (by rw [a]; exact q)
  exact ⟨c.trans a, Int32.le_trans d b⟩
def Gd (lv i : Nat) (lab : Int32) (T : MS) : Prop := ¬ mA T 22 i = -1 ∧ (mA T 22 i = nI lv → mA T 23 i ≤ lab)
theorem Gd.mo {lv i : Nat} {lab : Int32} {T T2 : MS} (hi : i < 1936) (h : Gd lv i lab T) (k : Mo T T2) : Gd lv i lab T2 := by
  obtain ⟨a, b⟩ := k i hi h.1
  exact ⟨by rw [a]; exact h.1, fun e => Int32.le_trans b (h.2 (by rw [← a]; exact e))⟩
theorem nI_m1 {n : Nat} (h : n < 2 ^ 31) : ¬ nI n = -1 := fun z => by
  have := nI_pos h
  rw [z] at this
  exact this (by decide)
section MM
variable {s0 f0 : Nat → Int32} {lv : Nat} {Snd : Nat → Int32 → Prop} {T : MS} {fu : Nat}
/-- one cell is marked, or left -/
theorem mk_set (hlv : lv < 2 ^ 30) (hs : ∀ i, i < 1936 → ¬ s0 i = nI lv) (h : KK s0 f0 lv Snd T) {i : Nat} (hi : i < 1936) {lab : Int32} (hn : Snd i lab) (q : mA T 22 i = -1 ∨ (mA T 22 i = nI lv ∧ lab ≤ mA T 23 i)) : MFr T (msA (msA T 22 i (nI lv)) 23 i lab) ∧ KK s0 f0 lv Snd (msA (msA T 22 i (nI lv)) 23 i lab) ∧ Mo T (msA (msA T 22 i (nI lv)) 23 i lab) ∧ Gd lv i lab (msA (msA T 22 i (nI lv)) 23 i lab) := by
  have e22 : ∀ j, mA (msA (msA T 22 i (nI lv)) 23 i lab) 22 j = if j = i then nI lv else mA T 22 j := fun j => rfl
  have e23 : ∀ j, mA (msA (msA T 22 i (nI lv)) 23 i lab) 23 j = if j = i then lab else mA T 23 j := fun j => rfl
  have s1 : s0 i = -1 := by
    by_cases z : s0 i = -1
    · exact z
    · have := ((h i hi).1 z).1
      rcases q with q | q
      · exact absurd (this.symm.trans q) z
      · exact absurd (this.symm.trans q.1) (hs i hi)
  refine ⟨⟨fun _ => rfl, fun j a b => by rw [mA_msA, if_neg b, mA_msA, if_neg a]⟩, fun j hj => ?_, fun j hj z => ?_, ?_, fun _ => ?_⟩
  · rw [e22, e23]
    by_cases e : j = i
    · rw [if_pos e, if_pos e, e]
      exact ⟨fun z => absurd s1 z, fun _ => Or.inr ⟨rfl, hn⟩⟩
    · rw [if_neg e, if_neg e]
      exact h j hj
  · rw [e22, e23]
    by_cases e : j = i
    · rw [if_pos e, if_pos e]
      rw [e] at z ⊢
      rcases q with q | q
      · exact absurd q z
      · exact ⟨q.1.symm, q.2⟩
    · rw [if_neg e, if_neg e]
      exact ⟨rfl, Int32.le_refl _⟩
  · rw [e22, if_pos rfl]
    exact nI_m1 (by omega)
  · rw [e23, if_pos rfl]
    exact Int32.le_refl _
theorem mk_keep (h : KK s0 f0 lv Snd T) {i : Nat} (hi : i < 1936) {lab : Int32} (q : ¬ mA T 22 i = -1) (q2 : mA T 22 i = nI lv → mA T 23 i ≤ lab) : MFr T (msA (msA T 22 i (mA T 22 i)) 23 i (mA (msA T 22 i (mA T 22 i)) 23 i)) ∧ KK s0 f0 lv Snd (msA (msA T 22 i (mA T 22 i)) 23 i (mA (msA T 22 i (mA T 22 i)) 23 i)) ∧ Mo T (msA (msA T 22 i (mA T 22 i)) 23 i (mA (msA T 22 i (mA T 22 i)) 23 i)) ∧ Gd lv i lab (msA (msA T 22 i (mA T 22 i)) 23 i (mA (msA T 22 i (mA T 22 i)) 23 i)) := by
  have e22 : ∀ j, mA (msA (msA T 22 i (mA T 22 i)) 23 i (mA (msA T 22 i (mA T 22 i)) 23 i)) 22 j = mA T 22 j := fun j => by
    show (if j = i then mA T 22 i else mA T 22 j) = mA T 22 j
    by_cases e : j = i
    · rw [if_pos e, e]
    · rw [if_neg e]
  have e23 : ∀ j, mA (msA (msA T 22 i (mA T 22 i)) 23 i (mA (msA T 22 i (mA T 22 i)) 23 i)) 23 j = mA T 23 j := fun j => by
    show (if j = i then mA T 23 i else mA T 23 j) = mA T 23 j
    by_cases e : j = i
    · rw [if_pos e, e]
    · rw [if_neg e]
  refine ⟨⟨fun _ => rfl, fun j a b => by rw [mA_msA, if_neg b, mA_msA, if_neg a]⟩, fun j hj => ?_, fun j hj z => ?_, ?_, fun z => ?_⟩
  · rw [e22, e23]
    exact h j hj
  · rw [e22, e23]
    exact ⟨rfl, Int32.le_refl _⟩
  · rw [e22]
    exact q
  · rw [e23]
    rw [e22] at z
    exact q2 z
theorem mk_loop (hlv : lv < 2 ^ 30) (hs : ∀ i, i < 1936 → ¬ s0 i = nI lv) {r S G hh : Nat} {lab : Int32} (hr : r ≤ 120) (hS : S < 16) (hG : G < 16) (h4 : hh ≤ 4) (hn : ∀ A, A < 16 → A &&& G = A → sz4 A ≤ hh → Snd (16 * r + (S ||| A)) lab) : ∀ (d k n : Nat) (T : MS), k + d = 16 → KK s0 f0 lv Snd T → ∃ z T2, f_X10_mark_L3 fu (nI r) (nI S) (nI G) (nI hh) (nI lv) lab (n + d + 1) (nI k) T = some (z, T2) ∧ MFr T T2 ∧ KK s0 f0 lv Snd T2 ∧ Mo T T2 ∧ ∀ A, k ≤ A → A < 16 → A &&& G = A → sz4 A ≤ hh → Gd lv (16 * r + (S ||| A)) lab T2 := by
  intro d
  induction d with
  | zero =>
    intro k n T hk h
    rw [f_X10_mark_L3, if_pos (show (16 : Int32) ≤ nI k from nI_le (a := 16) (by omega) (by omega))]
    exact ⟨_, T, rfl, MFr.rfl', h, Mo.rfl', fun A a b => by omega⟩
  | succ d ih =>
    intro k n T hk h
    have k16 : k < 16 := by omega
    have or16' := or16 hS k16
    have hi : 16 * r + (S ||| k) < 1936 := by omega
    have eix : 16 * nI r + (nI S ||| nI k) = nI (16 * r + (S ||| k)) := by
      rw [(bw_3 S hS k k16).2, show (16 : Int32) = nI 16 from rfl, pk_mul, nI_add]
    have hin : vp_in (nI (16 * r + (S ||| k))) 1936 := vp_in_nI hi (by decide)
    have fin : ∀ T1, MFr T T1 → KK s0 f0 lv Snd T1 → Mo T T1 → (k &&& G = k → sz4 k ≤ hh → Gd lv (16 * r + (S ||| k)) lab T1) → ∃ z T2, f_X10_mark_L3 fu (nI r) (nI S) (nI G) (nI hh) (nI lv) lab (n + d + 1) (nI (k + 1)) T1 = some (z, T2) ∧ MFr T T2 ∧ KK s0 f0 lv Snd T2 ∧ Mo T T2 ∧ ∀ A, k ≤ A → A < 16 → A &&& G = A → sz4 A ≤ hh → Gd lv (16 * r + (S ||| A)) lab T2 := by
      intro T1 a1 a2 a3 a4
      obtain ⟨z, T2, w1, w2, w3, w4, w5⟩ := ih (k + 1) n T1 (by omega) a2
      refine ⟨z, T2, w1, a1.trans w2, w3, a3.trans w4, fun A b1 b2 b3 b4 => ?_⟩
      by_cases e : A = k
      · subst e
        exact (a4 b3 b4).mo hi w4
      · exact w5 A (by omega) b2 b3 b4
    rw [show n + (d + 1) + 1 = (n + d + 1) + 1 by omega, f_X10_mark_L3, if_neg (show ¬ (16 : Int32) ≤ nI k from nI_ge (b := 16) (by omega) (by omega)), eix, nI_1, (bw_4 k k16).2.1]
    by_cases q1 : k &&& G = k
    · rw [if_pos ((bw_1 k k16 G hG).mpr q1)]
      by_cases q2 : sz4 k ≤ hh
      · rw [if_neg (nI_nlt q2 (by omega)), nI_clamp (by omega)]
        simp only [gd_in hin]
        by_cases q3 : mA T 22 (16 * r + (S ||| k)) = -1
        · rw [if_pos q3]
          obtain ⟨a1, a2, a3, a4⟩ := mk_set hlv hs h hi (hn k k16 q1 q2) (Or.inl q3)
          exact fin _ a1 a2 a3 (fun _ _ => a4)
        · rw [if_neg q3]
          by_cases q4 : mA T 22 (16 * r + (S ||| k)) = nI lv
          · rw [if_pos q4]
            by_cases q5 : mA T 23 (16 * r + (S ||| k)) ≤ lab
            · rw [if_pos q5]
              obtain ⟨a1, a2, a3, a4⟩ := mk_keep h hi q3 (fun _ => q5)
              exact fin _ a1 a2 a3 (fun _ _ => a4)
            · rw [if_neg q5]
              obtain ⟨a1, a2, a3, a4⟩ := mk_set hlv hs h hi (hn k k16 q1 q2) (Or.inr ⟨q4, by grind⟩)
              exact fin _ a1 a2 a3 (fun _ _ => a4)
          · rw [if_neg q4]
            obtain ⟨a1, a2, a3, a4⟩ := mk_keep (lab := lab) h hi q3 (fun z => absurd z q4)
            exact fin _ a1 a2 a3 (fun _ _ => a4)
      · rw [if_pos (nI_lt (by omega) (by have := (bw_4 k k16).2.2; omega))]
        exact fin T MFr.rfl' h Mo.rfl' (fun _ z => absurd z q2)
    · rw [if_neg (fun z => q1 ((bw_1 k k16 G hG).mp z))]
      exact fin T MFr.rfl' h Mo.rfl' (fun z => absurd z q1)
theorem mk_eq (hf : 200 ≤ fu) (hlv : lv < 2 ^ 30) (hs : ∀ i, i < 1936 → ¬ s0 i = nI lv) {r S G hh : Nat} {lab : Int32} (hr : r ≤ 120) (hS : S < 16) (hG : G < 16) (h4 : hh ≤ 4) (hn : ∀ A, A < 16 → A &&& G = A → sz4 A ≤ hh → Snd (16 * r + (S ||| A)) lab) (h : KK s0 f0 lv Snd T) : ∃ T2, f_X10_mark fu T (nI r) (nI S) (nI G) (nI hh) (nI lv) lab = some T2 ∧ MFr T T2 ∧ KK s0 f0 lv Snd T2 ∧ Mo T T2 ∧ ∀ A, A < 16 → A &&& G = A → sz4 A ≤ hh → Gd lv (16 * r + (S ||| A)) lab T2 := by
  obtain ⟨z, T2, w1, w2, w3, w4, w5⟩ := mk_loop (fu := fu) hlv hs hr hS hG h4 hn 16 0 (fu - 17) T rfl h
  rw [show fu - 17 + 16 + 1 = fu by omega] at w1
  unfold f_X10_mark
  rw [show (0 : Int32) = nI 0 from rfl, w1, Option.bind_some]
  exact ⟨T2, rfl, w2, w3, w4, fun A => w5 A (by omega)⟩
end MM
/-- the reference's numbers, and which pots come out good a while on -/
def PMs (sp hd fr mn : Nat) (g : Nat → Nat) (T : MS) : Prop := sp ≤ 60 ∧ hd ≤ 4 ∧ fr ≤ 4 ∧ mn ≤ 999 ∧ mI T 2 = nI sp ∧ mI T 3 = nI hd ∧ mI T 7 = nI fr ∧ mI T 6 = nI mn ∧ (∀ t, g t < 16) ∧ ∀ (T2 : MS) (fu t : Nat), MFr T T2 → 10 ≤ fu → t ≤ 120 → f_X10_goodAt fu T2 (nI (mn + t)) = some (nI (g t))
theorem PMs.go {sp hd fr mn : Nat} {g : Nat → Nat} {T T2 : MS} (h : PMs sp hd fr mn g T) (f : MFr T T2) : PMs sp hd fr mn g T2 := by
  obtain ⟨h1, h2, h3, h4, h5, h6, h7, h8, h9, h10⟩ := h
  exact ⟨h1, h2, h3, h4, (f.1 _).trans h5, (f.1 _).trans h6, (f.1 _).trans h7, (f.1 _).trans h8, h9, fun T3 fu t k => h10 T3 fu t (f.trans k)⟩
section MV
variable {sp hd fr mn : Nat} {g : Nat → Nat} {T : MS} {fu : Nat}
def SndF (g : Nat → Nat) (sp hd fr k i : Nat) (f : Int32) : Prop := Fw g sp hd fr k (i / 16) (i % 16) f
/-- every edge out of cell i, from a winding on, is marked -/
def Ed (g : Nat → Nat) (hd k sp : Nat) (f0 : Nat → Int32) (i w0 : Nat) (T : MS) : Prop := ∀ w, w0 ≤ w → w ≤ sp → i / 16 + w ≤ 120 → ∀ A, kT g hd (i / 16 + w) A → Gd (k + 1) (16 * (i / 16 + w) + (i % 16 ||| A)) (if k = 0 then nI w else f0 i) T
theorem Ed.mo {k i w0 : Nat} {f0 : Nat → Int32} {T T2 : MS} (hi : i < 1936) (h : Ed g hd k sp f0 i w0 T) (m : Mo T T2) : Ed g hd k sp f0 i w0 T2 := fun w a b c A d => (h w a b c A d).mo (by have := or16 (show i % 16 < 16 by omega) d.1; omega) m
theorem wv_loop (h : PMs sp hd fr mn g T) (hf : 200 ≤ fu) {s0 f0 : Nat → Int32} {k : Nat} (hk : k ≤ 121) (hs : ∀ i, i < 1936 → ¬ s0 i = nI (k + 1)) (hsd : ∀ i, i < 1936 → s0 i = nI k → SndF g sp hd fr k i (f0 i)) {i : Nat} (hi : i < 1936) : ∀ (d w n : Nat) (v2 : Int32) (T1 : MS), w + d = 61 → 0 < w → MFr T T1 → KK s0 f0 (k + 1) (SndF g sp hd fr (k + 1)) T1 → ∃ v z T2, f_X10_goWave_L14 fu (nI k) (nI i) (n + d + 1) v2 (nI w) T1 = some (v, z, T2) ∧ MFr T1 T2 ∧ KK s0 f0 (k + 1) (SndF g sp hd fr (k + 1)) T2 ∧ Mo T1 T2 ∧ (v = v2 ∨ (v = 1 ∧ s0 i = nI k ∧ i / 16 < 120)) ∧ (s0 i = nI k → w ≤ sp → i / 16 + w ≤ 120 → v = 1) ∧ (s0 i = nI k → Ed g hd k sp f0 i w T2) := by
  have h0 := h
  obtain ⟨h1, h2, h3, h4, h5, h6, h7, h8, h9, h10⟩ := h
  intro d
  induction d with
  | zero =>
    intro w n v2 T1 hw w0 hx hK
    rw [f_X10_goWave_L14, hx.1 2, h5, if_pos (nI_lt (by omega) (by omega))]
    exact ⟨v2, _, T1, rfl, MFr.rfl', hK, Mo.rfl', Or.inl rfl, fun _ _ _ => by omega, fun _ w' a b => by omega⟩
  | succ d ih =>
    intro w n v2 T1 hw w0 hx hK
    rw [show n + (d + 1) + 1 = (n + d + 1) + 1 by omega, f_X10_goWave_L14, hx.1 2, h5]
    by_cases q : sp < w
    · rw [if_pos (nI_lt q (by omega))]
      exact ⟨v2, _, T1, rfl, MFr.rfl', hK, Mo.rfl', Or.inl rfl, fun _ _ _ => by omega, fun _ w' a b => by omega⟩
    · rw [if_neg (nI_nlt (by omega) (by omega)), gd_in (vp_in_nI hi (by decide)), nI_clamp (by omega)]
      by_cases q1 : s0 i = nI k
      · have kk := (hK i hi).1 (by rw [q1]; exact nI_m1 (by omega))
        have ed : nI i / 16 = nI (i / 16) := pk_div (d := 16) (by omega) (by decide) (by decide)
        have er : nI i - nI (i / 16) * 16 = nI (i % 16) := by rw [← ed]; exact pk_rem (d := 16) (by omega) (by decide) (by decide)
        rw [if_pos (kk.1.trans q1), ed, er, nI_add, nI_1]
        by_cases q2 : 120 < i / 16 + w
        · rw [if_pos (show (120 : Int32) < nI (i / 16 + w) from nI_lt (a := 120) q2 (by omega))]
          obtain ⟨v, z, T2, y1, y2, y3, y4, y5, y6, y7⟩ := ih (w + 1) n v2 T1 (by omega) (by omega) hx hK
          exact ⟨v, z, T2, y1, y2, y3, y4, y5, fun _ _ _ => by omega, fun a w' b c e => by omega⟩
        · have sd := hsd i hi q1
          have hr : i / 16 + w ≤ 120 := by omega
          have gd := h10 T1 fu (i / 16 + w) hx (by omega) hr
          rw [if_neg (show ¬ (120 : Int32) < nI (i / 16 + w) from nI_nlt (a := 120) (by omega) (by omega)), hx.1 6, h8, nI_add, gd, Option.bind_some, hx.1 3, h6, nI_1]
          have fin : ∀ lab, lab = (if k = 0 then nI w else f0 i) → ∃ v z T2, ((f_X10_mark fu T1 (nI (i / 16 + w)) (nI (i % 16)) (nI (g (i / 16 + w))) (nI hd) (nI (k + 1)) lab).bind fun r13 => f_X10_goWave_L14 fu (nI k) (nI i) (n + d + 1) 1 (nI (w + 1)) r13) = some (v, z, T2) ∧ MFr T1 T2 ∧ KK s0 f0 (k + 1) (SndF g sp hd fr (k + 1)) T2 ∧ Mo T1 T2 ∧ (v = v2 ∨ (v = 1 ∧ s0 i = nI k ∧ i / 16 < 120)) ∧ (s0 i = nI k → w ≤ sp → i / 16 + w ≤ 120 → v = 1) ∧ (s0 i = nI k → Ed g hd k sp f0 i w T2) := by
            intro lab elb
            obtain ⟨T2, y1, y2, y3, y4, y5⟩ := mk_eq (fu := fu) (T := T1) (s0 := s0) (f0 := f0) (lv := k + 1) (Snd := SndF g sp hd fr (k + 1)) (r := i / 16 + w) (S := i % 16) (G := g (i / 16 + w)) (hh := hd) (lab := lab) hf (by omega) hs hr (by omega) (h9 _) h2 (fun A a1 a2 a3 => by
              unfold SndF
              have o := or16 (show i % 16 < 16 by omega) a1
              rw [show (16 * (i / 16 + w) + (i % 16 ||| A)) / 16 = i / 16 + w by omega, show (16 * (i / 16 + w) + (i % 16 ||| A)) % 16 = (i % 16 ||| A) by omega]
              exact ⟨i / 16, i % 16, f0 i, A, sd, by omega, by omega, hr, ⟨a1, a2, a3⟩, rfl, by rw [elb, show i / 16 + w - i / 16 = w by omega]⟩) hK
            obtain ⟨v, z, T3, x1, x2, x3, x4, x5, x6, x7⟩ := ih (w + 1) n 1 T2 (by omega) (by omega) (hx.trans y2) y3
            have v1 : v = 1 := x5.elim id (fun z => z.1)
            rw [y1, Option.bind_some]
            refine ⟨v, z, T3, x1, y2.trans x2, x3, y4.trans x4, Or.inr ⟨v1, q1, by omega⟩, fun _ _ _ => v1, fun a w' b c e A ea => ?_⟩
            by_cases ew : w' = w
            · subst ew
              rw [← elb]
              exact (y5 A ea.1 ea.2.1 ea.2.2).mo (by have := or16 (show i % 16 < 16 by omega) ea.1; omega) x4
            · exact x7 a w' (by omega) c e A ea
          by_cases q3 : k = 0
          · rw [if_pos (show nI k = 0 by rw [q3]; rfl)]
            exact fin (nI w) (by rw [if_pos q3])
          · rw [if_neg (show ¬ nI k = 0 from fun z => q3 ((nI_eq (b := 0) (by omega) (by omega)).mp z)), gd_in (vp_in_nI hi (by decide)), kk.2]
            exact fin (f0 i) (by rw [if_neg q3])
      · have : ¬ mA T1 22 i = nI k := by
          intro z
          by_cases e : s0 i = -1
          · rcases (hK i hi).2 e with y | y
            · rw [y] at z
              exact nI_m1 (n := k) (by omega) z.symm
            · rw [y.1] at z
              have := (nI_eq (by omega) (by omega)).mp z
              omega
          · exact q1 (((hK i hi).1 e).1.symm.trans z)
        rw [if_neg this]
        exact ⟨v2, _, T1, rfl, MFr.rfl', hK, Mo.rfl', Or.inl rfl, fun a => absurd a q1, fun a => absurd a q1⟩
theorem wv_all (h : PMs sp hd fr mn g T) (hf : 2000 ≤ fu) (hsp : 0 < sp) {s0 f0 : Nat → Int32} {k : Nat} (hk : k ≤ 121) (hs : ∀ i, i < 1936 → ¬ s0 i = nI (k + 1)) (hsd : ∀ i, i < 1936 → s0 i = nI k → SndF g sp hd fr k i (f0 i)) : ∀ (d i n : Nat) (v2 : Int32) (T1 : MS), i + d = 1936 → v2 = 0 ∨ v2 = 1 → MFr T T1 → KK s0 f0 (k + 1) (SndF g sp hd fr (k + 1)) T1 → ∃ v z T2, f_X10_goWave_L4 fu (nI k) (n + d + 1) v2 (nI i) T1 = some (v, z, T2) ∧ MFr T T2 ∧ KK s0 f0 (k + 1) (SndF g sp hd fr (k + 1)) T2 ∧ Mo T1 T2 ∧ (v = 0 ∨ v = 1) ∧ (v = 0 → v2 = 0 ∧ ∀ j, i ≤ j → j < 1936 → s0 j = nI k → ¬ j / 16 < 120) ∧ (v = 1 → v2 = 1 ∨ ∃ j, j < 1936 ∧ s0 j = nI k ∧ j / 16 < 120) ∧ ∀ j, i ≤ j → j < 1936 → s0 j = nI k → Ed g hd k sp f0 j 1 T2 := by
  intro d
  induction d with
  | zero =>
    intro i n v2 T1 hi hv hx hK
    rw [f_X10_goWave_L4, if_pos (show (1936 : Int32) ≤ nI i from nI_le (a := 1936) (by omega) (by omega))]
    exact ⟨v2, _, T1, rfl, hx, hK, Mo.rfl', hv, fun e => ⟨e, fun j a b => by omega⟩, fun e => Or.inl e, fun j a b => by omega⟩
  | succ d ih =>
    intro i n v2 T1 hi hv hx hK
    obtain ⟨v, z, T2, y1, y2, y3, y4, y5, y6, y7⟩ := wv_loop (fu := fu) h (by omega) hk hs hsd (show i < 1936 by omega) 60 1 (fu - 61) v2 T1 rfl (by omega) hx hK
    rw [show fu - 61 + 60 + 1 = fu by omega] at y1
    rw [show n + (d + 1) + 1 = (n + d + 1) + 1 by omega, f_X10_goWave_L4, if_neg (show ¬ (1936 : Int32) ≤ nI i from nI_ge (b := 1936) (by omega) (by omega)), show (1 : Int32) = nI 1 from rfl, y1, Option.bind_some]
    simp only []
    rw [show nI i + nI 1 = nI (i + 1) from nI_1 i]
    obtain ⟨v', z', T3, x1, x2, x3, x4, x5, x6, x7, x8⟩ := ih (i + 1) n v T2 (by omega) (y5.elim (fun e => e ▸ hv) (fun e => Or.inr e.1)) (hx.trans y2) y3
    refine ⟨v', z', T3, x1, x2, x3, y4.trans x4, x5, fun e => ?_, fun e => ?_, fun j a b c => ?_⟩
    · obtain ⟨e1, e2⟩ := x6 e
      refine ⟨?_, fun j a b c f => ?_⟩
      · rcases y5 with y | y
        · rw [← y]
          exact e1
        · rw [e1] at y
          exact absurd y.1 (by decide)
      · by_cases ej : j = i
        · subst ej
          have := y6 c (by omega) (by omega)
          rw [e1] at this
          exact absurd this (by decide)
        · exact e2 j (by omega) b c f
    · rcases x7 e with y | y
      · rcases y5 with z | z
        · exact Or.inl (z.symm.trans y)
        · exact Or.inr ⟨i, by omega, z.2.1, z.2.2⟩
      · exact Or.inr y
    · by_cases ej : j = i
      · subst ej
        exact (y7 c).mo b x4
      · exact x8 j (by omega) b c
end MV
