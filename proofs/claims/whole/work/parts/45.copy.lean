theorem cp_X10_image_L57 {fu : Nat} : ∀ (d i n : Nat), i + d = 4 → d < n → ∀ T : MS, ∃ T2, f_X10_image_L57 fu n (nI i) T = some (nI 4, T2) ∧ (∀ k, mI T2 k = mI T k) ∧ (∀ k, k ≠ 31 → k ≠ 32 → k ≠ 33 → mA T2 k = mA T k) ∧ (∀ j, mA T2 31 j = if i ≤ j ∧ j < 4 then mA T 9 j else mA T 31 j) ∧ (∀ j, mA T2 32 j = if i ≤ j ∧ j < 4 then mA T 10 j else mA T 32 j) ∧ (∀ j, mA T2 33 j = if i ≤ j ∧ j < 4 then mA T 11 j else mA T 33 j) := by
  intro d
  induction d with
  | zero =>
    intro i n h1 h2 T
    obtain ⟨k, rfl⟩ : ∃ k, n = k + 1 := ⟨n - 1, by omega⟩
    rw [f_X10_image_L57, if_pos (show (4 : Int32) ≤ nI i from nI_le (a := 4) (by omega) (by omega)), show i = 4 by omega]
    refine ⟨T, rfl, fun _ => rfl, fun _ _ _ _ => rfl, fun j => (if_neg (by omega)).symm, fun j => (if_neg (by omega)).symm, fun j => (if_neg (by omega)).symm⟩
  | succ d ih =>
    intro i n h1 h2 T
    obtain ⟨k, rfl⟩ : ∃ k, n = k + 1 := ⟨n - 1, by omega⟩
    obtain ⟨T2, e0, e1, e2, v0, v1, v2⟩ := ih (i + 1) k (by omega) (by omega) (msA (msA (msA T 31 i (mA T 9 i)) 32 i (mA T 10 i)) 33 i (mA T 11 i))
    rw [f_X10_image_L57, if_neg (show ¬ (4 : Int32) ≤ nI i from nI_ge (a := i) (b := 4) (by omega) (by omega))]
    simp only [gd4 (show i < 4 by omega), nIc (show i < 4 by omega), nI_1]
    refine ⟨T2, e0, fun k => (e1 k).trans rfl, fun k z0 z1 z2 => (e2 k z0 z1 z2).trans ?_, ?_, ?_, ?_⟩
    · simp only [mA_msA]
      rw [if_neg z2]
      rw [if_neg z1]
      rw [if_neg z0]
    · intro j
      rw [v0 j]
      show (if i + 1 ≤ j ∧ j < 4 then mA T 9 j else (if j = i then mA T 9 i else mA T 31 j)) = _
      by_cases c1 : j = i
      · subst c1
        rw [if_neg (by omega), if_pos rfl, if_pos (by omega)]
      · rw [if_neg c1]
        by_cases c2 : i + 1 ≤ j ∧ j < 4
        · rw [if_pos c2, if_pos (by omega)]
        · rw [if_neg c2, if_neg (by omega)]
    · intro j
      rw [v1 j]
      show (if i + 1 ≤ j ∧ j < 4 then mA T 10 j else (if j = i then mA T 10 i else mA T 32 j)) = _
      by_cases c1 : j = i
      · subst c1
        rw [if_neg (by omega), if_pos rfl, if_pos (by omega)]
      · rw [if_neg c1]
        by_cases c2 : i + 1 ≤ j ∧ j < 4
        · rw [if_pos c2, if_pos (by omega)]
        · rw [if_neg c2, if_neg (by omega)]
    · intro j
      rw [v2 j]
      show (if i + 1 ≤ j ∧ j < 4 then mA T 11 j else (if j = i then mA T 11 i else mA T 33 j)) = _
      by_cases c1 : j = i
      · subst c1
        rw [if_neg (by omega), if_pos rfl, if_pos (by omega)]
      · rw [if_neg c1]
        by_cases c2 : i + 1 ≤ j ∧ j < 4
        · rw [if_pos c2, if_pos (by omega)]
        · rw [if_neg c2, if_neg (by omega)]
theorem cp_X10_image_L106 {fu : Nat} : ∀ (d i n : Nat), i + d = 6 → d < n → ∀ T : MS, ∃ T2, f_X10_image_L106 fu n (nI i) T = some (nI 6, T2) ∧ (∀ k, mI T2 k = mI T k) ∧ (∀ k, k ≠ 34 → k ≠ 35 → k ≠ 36 → k ≠ 37 → mA T2 k = mA T k) ∧ (∀ j, mA T2 34 j = if i ≤ j ∧ j < 6 then mA T 13 j else mA T 34 j) ∧ (∀ j, mA T2 35 j = if i ≤ j ∧ j < 6 then mA T 14 j else mA T 35 j) ∧ (∀ j, mA T2 36 j = if i ≤ j ∧ j < 6 then mA T 15 j else mA T 36 j) ∧ (∀ j, mA T2 37 j = if i ≤ j ∧ j < 6 then mA T 16 j else mA T 37 j) := by
  intro d
  induction d with
  | zero =>
    intro i n h1 h2 T
    obtain ⟨k, rfl⟩ : ∃ k, n = k + 1 := ⟨n - 1, by omega⟩
    rw [f_X10_image_L106, if_pos (show (6 : Int32) ≤ nI i from nI_le (a := 6) (by omega) (by omega)), show i = 6 by omega]
    refine ⟨T, rfl, fun _ => rfl, fun _ _ _ _ _ => rfl, fun j => (if_neg (by omega)).symm, fun j => (if_neg (by omega)).symm, fun j => (if_neg (by omega)).symm, fun j => (if_neg (by omega)).symm⟩
  | succ d ih =>
    intro i n h1 h2 T
    obtain ⟨k, rfl⟩ : ∃ k, n = k + 1 := ⟨n - 1, by omega⟩
    obtain ⟨T2, e0, e1, e2, v0, v1, v2, v3⟩ := ih (i + 1) k (by omega) (by omega) (msA (msA (msA (msA T 34 i (mA T 13 i)) 35 i (mA T 14 i)) 36 i (mA T 15 i)) 37 i (mA T 16 i))
    rw [f_X10_image_L106, if_neg (show ¬ (6 : Int32) ≤ nI i from nI_ge (a := i) (b := 6) (by omega) (by omega))]
    simp only [gd6 (show i < 6 by omega), nIc6 (show i < 6 by omega), nI_1]
    refine ⟨T2, e0, fun k => (e1 k).trans rfl, fun k z0 z1 z2 z3 => (e2 k z0 z1 z2 z3).trans ?_, ?_, ?_, ?_, ?_⟩
    · simp only [mA_msA]
      rw [if_neg z3]
      rw [if_neg z2]
      rw [if_neg z1]
      rw [if_neg z0]
    · intro j
      rw [v0 j]
      show (if i + 1 ≤ j ∧ j < 6 then mA T 13 j else (if j = i then mA T 13 i else mA T 34 j)) = _
      by_cases c1 : j = i
      · subst c1
        rw [if_neg (by omega), if_pos rfl, if_pos (by omega)]
      · rw [if_neg c1]
        by_cases c2 : i + 1 ≤ j ∧ j < 6
        · rw [if_pos c2, if_pos (by omega)]
        · rw [if_neg c2, if_neg (by omega)]
    · intro j
      rw [v1 j]
      show (if i + 1 ≤ j ∧ j < 6 then mA T 14 j else (if j = i then mA T 14 i else mA T 35 j)) = _
      by_cases c1 : j = i
      · subst c1
        rw [if_neg (by omega), if_pos rfl, if_pos (by omega)]
      · rw [if_neg c1]
        by_cases c2 : i + 1 ≤ j ∧ j < 6
        · rw [if_pos c2, if_pos (by omega)]
        · rw [if_neg c2, if_neg (by omega)]
    · intro j
      rw [v2 j]
      show (if i + 1 ≤ j ∧ j < 6 then mA T 15 j else (if j = i then mA T 15 i else mA T 36 j)) = _
      by_cases c1 : j = i
      · subst c1
        rw [if_neg (by omega), if_pos rfl, if_pos (by omega)]
      · rw [if_neg c1]
        by_cases c2 : i + 1 ≤ j ∧ j < 6
        · rw [if_pos c2, if_pos (by omega)]
        · rw [if_neg c2, if_neg (by omega)]
    · intro j
      rw [v3 j]
      show (if i + 1 ≤ j ∧ j < 6 then mA T 16 j else (if j = i then mA T 16 i else mA T 37 j)) = _
      by_cases c1 : j = i
      · subst c1
        rw [if_neg (by omega), if_pos rfl, if_pos (by omega)]
      · rw [if_neg c1]
        by_cases c2 : i + 1 ≤ j ∧ j < 6
        · rw [if_pos c2, if_pos (by omega)]
        · rw [if_neg c2, if_neg (by omega)]
theorem cp_X10_restore_L55 {fu : Nat} : ∀ (d i n : Nat), i + d = 4 → d < n → ∀ T : MS, ∃ T2, f_X10_restore_L55 fu n (nI i) T = some (nI 4, T2) ∧ (∀ k, mI T2 k = mI T k) ∧ (∀ k, k ≠ 9 → k ≠ 10 → k ≠ 11 → mA T2 k = mA T k) ∧ (∀ j, mA T2 9 j = if i ≤ j ∧ j < 4 then mA T 31 j else mA T 9 j) ∧ (∀ j, mA T2 10 j = if i ≤ j ∧ j < 4 then mA T 32 j else mA T 10 j) ∧ (∀ j, mA T2 11 j = if i ≤ j ∧ j < 4 then mA T 33 j else mA T 11 j) := by
  intro d
  induction d with
  | zero =>
    intro i n h1 h2 T
    obtain ⟨k, rfl⟩ : ∃ k, n = k + 1 := ⟨n - 1, by omega⟩
    rw [f_X10_restore_L55, if_pos (show (4 : Int32) ≤ nI i from nI_le (a := 4) (by omega) (by omega)), show i = 4 by omega]
    refine ⟨T, rfl, fun _ => rfl, fun _ _ _ _ => rfl, fun j => (if_neg (by omega)).symm, fun j => (if_neg (by omega)).symm, fun j => (if_neg (by omega)).symm⟩
  | succ d ih =>
    intro i n h1 h2 T
    obtain ⟨k, rfl⟩ : ∃ k, n = k + 1 := ⟨n - 1, by omega⟩
    obtain ⟨T2, e0, e1, e2, v0, v1, v2⟩ := ih (i + 1) k (by omega) (by omega) (msA (msA (msA T 9 i (mA T 31 i)) 10 i (mA T 32 i)) 11 i (mA T 33 i))
    rw [f_X10_restore_L55, if_neg (show ¬ (4 : Int32) ≤ nI i from nI_ge (a := i) (b := 4) (by omega) (by omega))]
    simp only [gd4 (show i < 4 by omega), nIc (show i < 4 by omega), nI_1]
    refine ⟨T2, e0, fun k => (e1 k).trans rfl, fun k z0 z1 z2 => (e2 k z0 z1 z2).trans ?_, ?_, ?_, ?_⟩
    · simp only [mA_msA]
      rw [if_neg z2]
      rw [if_neg z1]
      rw [if_neg z0]
    · intro j
      rw [v0 j]
      show (if i + 1 ≤ j ∧ j < 4 then mA T 31 j else (if j = i then mA T 31 i else mA T 9 j)) = _
      by_cases c1 : j = i
      · subst c1
        rw [if_neg (by omega), if_pos rfl, if_pos (by omega)]
      · rw [if_neg c1]
        by_cases c2 : i + 1 ≤ j ∧ j < 4
        · rw [if_pos c2, if_pos (by omega)]
        · rw [if_neg c2, if_neg (by omega)]
    · intro j
      rw [v1 j]
      show (if i + 1 ≤ j ∧ j < 4 then mA T 32 j else (if j = i then mA T 32 i else mA T 10 j)) = _
      by_cases c1 : j = i
      · subst c1
        rw [if_neg (by omega), if_pos rfl, if_pos (by omega)]
      · rw [if_neg c1]
        by_cases c2 : i + 1 ≤ j ∧ j < 4
        · rw [if_pos c2, if_pos (by omega)]
        · rw [if_neg c2, if_neg (by omega)]
    · intro j
      rw [v2 j]
      show (if i + 1 ≤ j ∧ j < 4 then mA T 33 j else (if j = i then mA T 33 i else mA T 11 j)) = _
      by_cases c1 : j = i
      · subst c1
        rw [if_neg (by omega), if_pos rfl, if_pos (by omega)]
      · rw [if_neg c1]
        by_cases c2 : i + 1 ≤ j ∧ j < 4
        · rw [if_pos c2, if_pos (by omega)]
        · rw [if_neg c2, if_neg (by omega)]
theorem cp_X10_restore_L104 {fu : Nat} : ∀ (d i n : Nat), i + d = 6 → d < n → ∀ T : MS, ∃ T2, f_X10_restore_L104 fu n (nI i) T = some (nI 6, T2) ∧ (∀ k, mI T2 k = mI T k) ∧ (∀ k, k ≠ 13 → k ≠ 14 → k ≠ 15 → k ≠ 16 → mA T2 k = mA T k) ∧ (∀ j, mA T2 13 j = if i ≤ j ∧ j < 6 then mA T 34 j else mA T 13 j) ∧ (∀ j, mA T2 14 j = if i ≤ j ∧ j < 6 then mA T 35 j else mA T 14 j) ∧ (∀ j, mA T2 15 j = if i ≤ j ∧ j < 6 then mA T 36 j else mA T 15 j) ∧ (∀ j, mA T2 16 j = if i ≤ j ∧ j < 6 then mA T 37 j else mA T 16 j) := by
  intro d
  induction d with
  | zero =>
    intro i n h1 h2 T
    obtain ⟨k, rfl⟩ : ∃ k, n = k + 1 := ⟨n - 1, by omega⟩
    rw [f_X10_restore_L104, if_pos (show (6 : Int32) ≤ nI i from nI_le (a := 6) (by omega) (by omega)), show i = 6 by omega]
    refine ⟨T, rfl, fun _ => rfl, fun _ _ _ _ _ => rfl, fun j => (if_neg (by omega)).symm, fun j => (if_neg (by omega)).symm, fun j => (if_neg (by omega)).symm, fun j => (if_neg (by omega)).symm⟩
  | succ d ih =>
    intro i n h1 h2 T
    obtain ⟨k, rfl⟩ : ∃ k, n = k + 1 := ⟨n - 1, by omega⟩
    obtain ⟨T2, e0, e1, e2, v0, v1, v2, v3⟩ := ih (i + 1) k (by omega) (by omega) (msA (msA (msA (msA T 13 i (mA T 34 i)) 14 i (mA T 35 i)) 15 i (mA T 36 i)) 16 i (mA T 37 i))
    rw [f_X10_restore_L104, if_neg (show ¬ (6 : Int32) ≤ nI i from nI_ge (a := i) (b := 6) (by omega) (by omega))]
    simp only [gd6 (show i < 6 by omega), nIc6 (show i < 6 by omega), nI_1]
    refine ⟨T2, e0, fun k => (e1 k).trans rfl, fun k z0 z1 z2 z3 => (e2 k z0 z1 z2 z3).trans ?_, ?_, ?_, ?_, ?_⟩
    · simp only [mA_msA]
      rw [if_neg z3]
      rw [if_neg z2]
      rw [if_neg z1]
      rw [if_neg z0]
    · intro j
      rw [v0 j]
      show (if i + 1 ≤ j ∧ j < 6 then mA T 34 j else (if j = i then mA T 34 i else mA T 13 j)) = _
      by_cases c1 : j = i
      · subst c1
        rw [if_neg (by omega), if_pos rfl, if_pos (by omega)]
      · rw [if_neg c1]
        by_cases c2 : i + 1 ≤ j ∧ j < 6
        · rw [if_pos c2, if_pos (by omega)]
        · rw [if_neg c2, if_neg (by omega)]
    · intro j
      rw [v1 j]
      show (if i + 1 ≤ j ∧ j < 6 then mA T 35 j else (if j = i then mA T 35 i else mA T 14 j)) = _
      by_cases c1 : j = i
      · subst c1
        rw [if_neg (by omega), if_pos rfl, if_pos (by omega)]
      · rw [if_neg c1]
        by_cases c2 : i + 1 ≤ j ∧ j < 6
        · rw [if_pos c2, if_pos (by omega)]
        · rw [if_neg c2, if_neg (by omega)]
    · intro j
      rw [v2 j]
      show (if i + 1 ≤ j ∧ j < 6 then mA T 36 j else (if j = i then mA T 36 i else mA T 15 j)) = _
      by_cases c1 : j = i
      · subst c1
        rw [if_neg (by omega), if_pos rfl, if_pos (by omega)]
      · rw [if_neg c1]
        by_cases c2 : i + 1 ≤ j ∧ j < 6
        · rw [if_pos c2, if_pos (by omega)]
        · rw [if_neg c2, if_neg (by omega)]
    · intro j
      rw [v3 j]
      show (if i + 1 ≤ j ∧ j < 6 then mA T 37 j else (if j = i then mA T 37 i else mA T 16 j)) = _
      by_cases c1 : j = i
      · subst c1
        rw [if_neg (by omega), if_pos rfl, if_pos (by omega)]
      · rw [if_neg c1]
        by_cases c2 : i + 1 ≤ j ∧ j < 6
        · rw [if_pos c2, if_pos (by omega)]
        · rw [if_neg c2, if_neg (by omega)]
theorem cp_X8_copyFrom_DK_L2 {P : XP} {fu : Nat} : ∀ (d i n : Nat), i + d = 6 → d < n → ∀ T : XS, ∃ T2, f_X8_copyFrom_DK_L2 fu P n (nI i) T = some (nI 6, T2) ∧ (∀ k, xI T2 k = xI T k) ∧ (∀ k, k ≠ 5 → k ≠ 6 → k ≠ 7 → xA T2 k = xA T k) ∧ (∀ a b, xR T2 a b = xR T a b) ∧ (∀ j, xA T2 5 j = if i ≤ j ∧ j < 6 then xA T 9 j else xA T 5 j) ∧ (∀ j, xA T2 6 j = if i ≤ j ∧ j < 6 then xA T 10 j else xA T 6 j) ∧ (∀ j, xA T2 7 j = if i ≤ j ∧ j < 6 then xA T 11 j else xA T 7 j) := by
  intro d
  induction d with
  | zero =>
    intro i n h1 h2 T
    obtain ⟨k, rfl⟩ : ∃ k, n = k + 1 := ⟨n - 1, by omega⟩
    rw [f_X8_copyFrom_DK_L2, if_pos (show (6 : Int32) ≤ nI i from nI_le (a := 6) (by omega) (by omega)), show i = 6 by omega]
    refine ⟨T, rfl, fun _ => rfl, fun _ _ _ _ => rfl, fun _ _ => rfl, fun j => (if_neg (by omega)).symm, fun j => (if_neg (by omega)).symm, fun j => (if_neg (by omega)).symm⟩
  | succ d ih =>
    intro i n h1 h2 T
    obtain ⟨k, rfl⟩ : ∃ k, n = k + 1 := ⟨n - 1, by omega⟩
    obtain ⟨T2, e0, e1, e2, e3, v0, v1, v2⟩ := ih (i + 1) k (by omega) (by omega) (xsA (xsA (xsA T 5 i (xA T 9 i)) 6 i (xA T 10 i)) 7 i (xA T 11 i))
    rw [f_X8_copyFrom_DK_L2, if_neg (show ¬ (6 : Int32) ≤ nI i from nI_ge (a := i) (b := 6) (by omega) (by omega))]
    simp only [gd6 (show i < 6 by omega), nIc6 (show i < 6 by omega), nI_1]
    refine ⟨T2, e0, fun k => (e1 k).trans rfl, fun k z0 z1 z2 => (e2 k z0 z1 z2).trans ?_, fun a b => (e3 a b).trans rfl, ?_, ?_, ?_⟩
    · simp only [xA_xsA]
      rw [if_neg z2]
      rw [if_neg z1]
      rw [if_neg z0]
    · intro j
      rw [v0 j]
      show (if i + 1 ≤ j ∧ j < 6 then xA T 9 j else (if j = i then xA T 9 i else xA T 5 j)) = _
      by_cases c1 : j = i
      · subst c1
        rw [if_neg (by omega), if_pos rfl, if_pos (by omega)]
      · rw [if_neg c1]
        by_cases c2 : i + 1 ≤ j ∧ j < 6
        · rw [if_pos c2, if_pos (by omega)]
        · rw [if_neg c2, if_neg (by omega)]
    · intro j
      rw [v1 j]
      show (if i + 1 ≤ j ∧ j < 6 then xA T 10 j else (if j = i then xA T 10 i else xA T 6 j)) = _
      by_cases c1 : j = i
      · subst c1
        rw [if_neg (by omega), if_pos rfl, if_pos (by omega)]
      · rw [if_neg c1]
        by_cases c2 : i + 1 ≤ j ∧ j < 6
        · rw [if_pos c2, if_pos (by omega)]
        · rw [if_neg c2, if_neg (by omega)]
    · intro j
      rw [v2 j]
      show (if i + 1 ≤ j ∧ j < 6 then xA T 11 j else (if j = i then xA T 11 i else xA T 7 j)) = _
      by_cases c1 : j = i
      · subst c1
        rw [if_neg (by omega), if_pos rfl, if_pos (by omega)]
      · rw [if_neg c1]
        by_cases c2 : i + 1 ≤ j ∧ j < 6
        · rw [if_pos c2, if_pos (by omega)]
        · rw [if_neg c2, if_neg (by omega)]
theorem cp_X8_copyFrom_KD_L2 {P : XP} {fu : Nat} : ∀ (d i n : Nat), i + d = 6 → d < n → ∀ T : XS, ∃ T2, f_X8_copyFrom_KD_L2 fu P n (nI i) T = some (nI 6, T2) ∧ (∀ k, xI T2 k = xI T k) ∧ (∀ k, k ≠ 9 → k ≠ 10 → k ≠ 11 → xA T2 k = xA T k) ∧ (∀ a b, xR T2 a b = xR T a b) ∧ (∀ j, xA T2 9 j = if i ≤ j ∧ j < 6 then xA T 5 j else xA T 9 j) ∧ (∀ j, xA T2 10 j = if i ≤ j ∧ j < 6 then xA T 6 j else xA T 10 j) ∧ (∀ j, xA T2 11 j = if i ≤ j ∧ j < 6 then xA T 7 j else xA T 11 j) := by
  intro d
  induction d with
  | zero =>
    intro i n h1 h2 T
    obtain ⟨k, rfl⟩ : ∃ k, n = k + 1 := ⟨n - 1, by omega⟩
    rw [f_X8_copyFrom_KD_L2, if_pos (show (6 : Int32) ≤ nI i from nI_le (a := 6) (by omega) (by omega)), show i = 6 by omega]
    refine ⟨T, rfl, fun _ => rfl, fun _ _ _ _ => rfl, fun _ _ => rfl, fun j => (if_neg (by omega)).symm, fun j => (if_neg (by omega)).symm, fun j => (if_neg (by omega)).symm⟩
  | succ d ih =>
    intro i n h1 h2 T
    obtain ⟨k, rfl⟩ : ∃ k, n = k + 1 := ⟨n - 1, by omega⟩
    obtain ⟨T2, e0, e1, e2, e3, v0, v1, v2⟩ := ih (i + 1) k (by omega) (by omega) (xsA (xsA (xsA T 9 i (xA T 5 i)) 10 i (xA T 6 i)) 11 i (xA T 7 i))
    rw [f_X8_copyFrom_KD_L2, if_neg (show ¬ (6 : Int32) ≤ nI i from nI_ge (a := i) (b := 6) (by omega) (by omega))]
    simp only [gd6 (show i < 6 by omega), nIc6 (show i < 6 by omega), nI_1]
    refine ⟨T2, e0, fun k => (e1 k).trans rfl, fun k z0 z1 z2 => (e2 k z0 z1 z2).trans ?_, fun a b => (e3 a b).trans rfl, ?_, ?_, ?_⟩
    · simp only [xA_xsA]
      rw [if_neg z2]
      rw [if_neg z1]
      rw [if_neg z0]
    · intro j
      rw [v0 j]
      show (if i + 1 ≤ j ∧ j < 6 then xA T 5 j else (if j = i then xA T 5 i else xA T 9 j)) = _
      by_cases c1 : j = i
      · subst c1
        rw [if_neg (by omega), if_pos rfl, if_pos (by omega)]
      · rw [if_neg c1]
        by_cases c2 : i + 1 ≤ j ∧ j < 6
        · rw [if_pos c2, if_pos (by omega)]
        · rw [if_neg c2, if_neg (by omega)]
    · intro j
      rw [v1 j]
      show (if i + 1 ≤ j ∧ j < 6 then xA T 6 j else (if j = i then xA T 6 i else xA T 10 j)) = _
      by_cases c1 : j = i
      · subst c1
        rw [if_neg (by omega), if_pos rfl, if_pos (by omega)]
      · rw [if_neg c1]
        by_cases c2 : i + 1 ≤ j ∧ j < 6
        · rw [if_pos c2, if_pos (by omega)]
        · rw [if_neg c2, if_neg (by omega)]
    · intro j
      rw [v2 j]
      show (if i + 1 ≤ j ∧ j < 6 then xA T 7 j else (if j = i then xA T 7 i else xA T 11 j)) = _
      by_cases c1 : j = i
      · subst c1
        rw [if_neg (by omega), if_pos rfl, if_pos (by omega)]
      · rw [if_neg c1]
        by_cases c2 : i + 1 ≤ j ∧ j < 6
        · rw [if_pos c2, if_pos (by omega)]
        · rw [if_neg c2, if_neg (by omega)]
theorem cp_X9_image_L52 {P : XP} (hok : xOK P) (h4 : P.1 ≤ 4) {fu : Nat} : ∀ (d i n : Nat), i + d = P.1 → d < n → ∀ T : XS, xI T 6 = nI P.1 → ∃ T2, f_X9_image_L52 fu P n (nI i) T = some (nI P.1, T2) ∧ (∀ k, xI T2 k = xI T k) ∧ (∀ k, xA T2 k = xA T k) ∧ (∀ a b, b ≠ 4 → b ≠ 5 → b ≠ 6 → xR T2 a b = xR T a b) ∧ (∀ a, xR T2 a 4 = if i ≤ a ∧ a < P.1 then xR T a 1 else xR T a 4) ∧ (∀ a, xR T2 a 5 = if i ≤ a ∧ a < P.1 then xR T a 2 else xR T a 5) ∧ (∀ a, xR T2 a 6 = if i ≤ a ∧ a < P.1 then xR T a 3 else xR T a 6) := by
  intro d
  induction d with
  | zero =>
    intro i n h1 h2 T h6
    obtain ⟨k, rfl⟩ : ∃ k, n = k + 1 := ⟨n - 1, by omega⟩
    rw [f_X9_image_L52, h6, if_pos (nI_le (by omega) (by omega)), show i = P.1 by omega]
    refine ⟨T, rfl, fun _ => rfl, fun _ => rfl, fun _ _ _ _ _ => rfl, fun a => (if_neg (by omega)).symm, fun a => (if_neg (by omega)).symm, fun a => (if_neg (by omega)).symm⟩
  | succ d ih =>
    intro i n h1 h2 T h6
    obtain ⟨k, rfl⟩ : ∃ k, n = k + 1 := ⟨n - 1, by omega⟩
    have ep : f_X9_potAt P T (nI i) = some i := by
      have l4 : nI i < 4 := nI_lt (b := 4) (by omega) (by decide)
      have cl : (nI i).toNatClampNeg = i := nI_clamp (by omega)
      unfold f_X9_potAt
      rw [h6, if_neg (nI_pos (by omega)), if_neg (nI_ge (by omega) (by omega)), if_pos l4, cl, if_pos (by omega)]
    obtain ⟨T2, e0, e1, e2, e3, v0, v1, v2⟩ := ih (i + 1) k (by omega) (by omega) (f_X5_keepImage P T i) h6
    rw [f_X9_image_L52, h6, if_neg (nI_ge (by omega) (by omega)), ep]
    refine ⟨T2, ?_, fun k => (e1 k).trans rfl, fun k => (e2 k).trans rfl, fun a b z0 z1 z2 => (e3 a b z0 z1 z2).trans ?_, ?_, ?_, ?_⟩
    · rw [← e0, nI_1]
      rfl
    · unfold f_X5_keepImage
      simp only [xR_xsR]
      rw [if_neg (fun q => z2 q.1), if_neg (fun q => z1 q.1), if_neg (fun q => z0 q.1)]
    · intro a
      rw [v0 a]
      have ek : xR (f_X5_keepImage P T i) a 4 = if a = i then xR T i 1 else xR T a 4 := by
        unfold f_X5_keepImage
        simp [xR_xsR]
      have es : xR (f_X5_keepImage P T i) a 1 = xR T a 1 := rfl
      rw [ek, es]
      by_cases c1 : a = i
      · subst c1
        rw [if_neg (by omega), if_pos rfl, if_pos (by omega)]
      · rw [if_neg c1]
        by_cases c2 : i + 1 ≤ a ∧ a < P.1
        · rw [if_pos c2, if_pos (by omega)]
        · rw [if_neg c2, if_neg (by omega)]
    · intro a
      rw [v1 a]
      have ek : xR (f_X5_keepImage P T i) a 5 = if a = i then xR T i 2 else xR T a 5 := by
        unfold f_X5_keepImage
        simp [xR_xsR]
      have es : xR (f_X5_keepImage P T i) a 2 = xR T a 2 := rfl
      rw [ek, es]
      by_cases c1 : a = i
      · subst c1
        rw [if_neg (by omega), if_pos rfl, if_pos (by omega)]
      · rw [if_neg c1]
        by_cases c2 : i + 1 ≤ a ∧ a < P.1
        · rw [if_pos c2, if_pos (by omega)]
        · rw [if_neg c2, if_neg (by omega)]
    · intro a
      rw [v2 a]
      have ek : xR (f_X5_keepImage P T i) a 6 = if a = i then xR T i 3 else xR T a 6 := by
        unfold f_X5_keepImage
        simp [xR_xsR]
      have es : xR (f_X5_keepImage P T i) a 3 = xR T a 3 := rfl
      rw [ek, es]
      by_cases c1 : a = i
      · subst c1
        rw [if_neg (by omega), if_pos rfl, if_pos (by omega)]
      · rw [if_neg c1]
        by_cases c2 : i + 1 ≤ a ∧ a < P.1
        · rw [if_pos c2, if_pos (by omega)]
        · rw [if_neg c2, if_neg (by omega)]
theorem cp_X9_restore_L47 {P : XP} (hok : xOK P) (h4 : P.1 ≤ 4) {fu : Nat} : ∀ (d i n : Nat), i + d = P.1 → d < n → ∀ T : XS, xI T 6 = nI P.1 → ∃ T2, f_X9_restore_L47 fu P n (nI i) T = some (nI P.1, T2) ∧ (∀ k, xI T2 k = xI T k) ∧ (∀ k, xA T2 k = xA T k) ∧ (∀ a b, b ≠ 1 → b ≠ 2 → b ≠ 3 → xR T2 a b = xR T a b) ∧ (∀ a, xR T2 a 1 = if i ≤ a ∧ a < P.1 then xR T a 4 else xR T a 1) ∧ (∀ a, xR T2 a 2 = if i ≤ a ∧ a < P.1 then xR T a 5 else xR T a 2) ∧ (∀ a, xR T2 a 3 = if i ≤ a ∧ a < P.1 then xR T a 6 else xR T a 3) := by
  intro d
  induction d with
  | zero =>
    intro i n h1 h2 T h6
    obtain ⟨k, rfl⟩ : ∃ k, n = k + 1 := ⟨n - 1, by omega⟩
    rw [f_X9_restore_L47, h6, if_pos (nI_le (by omega) (by omega)), show i = P.1 by omega]
    refine ⟨T, rfl, fun _ => rfl, fun _ => rfl, fun _ _ _ _ _ => rfl, fun a => (if_neg (by omega)).symm, fun a => (if_neg (by omega)).symm, fun a => (if_neg (by omega)).symm⟩
  | succ d ih =>
    intro i n h1 h2 T h6
    obtain ⟨k, rfl⟩ : ∃ k, n = k + 1 := ⟨n - 1, by omega⟩
    have ep : f_X9_potAt P T (nI i) = some i := by
      have l4 : nI i < 4 := nI_lt (b := 4) (by omega) (by decide)
      have cl : (nI i).toNatClampNeg = i := nI_clamp (by omega)
      unfold f_X9_potAt
      rw [h6, if_neg (nI_pos (by omega)), if_neg (nI_ge (by omega) (by omega)), if_pos l4, cl, if_pos (by omega)]
    obtain ⟨T2, e0, e1, e2, e3, v0, v1, v2⟩ := ih (i + 1) k (by omega) (by omega) (f_X5_goBack P T i) h6
    rw [f_X9_restore_L47, h6, if_neg (nI_ge (by omega) (by omega)), ep]
    refine ⟨T2, ?_, fun k => (e1 k).trans rfl, fun k => (e2 k).trans rfl, fun a b z0 z1 z2 => (e3 a b z0 z1 z2).trans ?_, ?_, ?_, ?_⟩
    · rw [← e0, nI_1]
      rfl
    · unfold f_X5_goBack
      simp only [xR_xsR]
      rw [if_neg (fun q => z2 q.1), if_neg (fun q => z1 q.1), if_neg (fun q => z0 q.1)]
    · intro a
      rw [v0 a]
      have ek : xR (f_X5_goBack P T i) a 1 = if a = i then xR T i 4 else xR T a 1 := by
        unfold f_X5_goBack
        simp [xR_xsR]
      have es : xR (f_X5_goBack P T i) a 4 = xR T a 4 := rfl
      rw [ek, es]
      by_cases c1 : a = i
      · subst c1
        rw [if_neg (by omega), if_pos rfl, if_pos (by omega)]
      · rw [if_neg c1]
        by_cases c2 : i + 1 ≤ a ∧ a < P.1
        · rw [if_pos c2, if_pos (by omega)]
        · rw [if_neg c2, if_neg (by omega)]
    · intro a
      rw [v1 a]
      have ek : xR (f_X5_goBack P T i) a 2 = if a = i then xR T i 5 else xR T a 2 := by
        unfold f_X5_goBack
        simp [xR_xsR]
      have es : xR (f_X5_goBack P T i) a 5 = xR T a 5 := rfl
      rw [ek, es]
      by_cases c1 : a = i
      · subst c1
        rw [if_neg (by omega), if_pos rfl, if_pos (by omega)]
      · rw [if_neg c1]
        by_cases c2 : i + 1 ≤ a ∧ a < P.1
        · rw [if_pos c2, if_pos (by omega)]
        · rw [if_neg c2, if_neg (by omega)]
    · intro a
      rw [v2 a]
      have ek : xR (f_X5_goBack P T i) a 3 = if a = i then xR T i 6 else xR T a 3 := by
        unfold f_X5_goBack
        simp [xR_xsR]
      have es : xR (f_X5_goBack P T i) a 6 = xR T a 6 := rfl
      rw [ek, es]
      by_cases c1 : a = i
      · subst c1
        rw [if_neg (by omega), if_pos rfl, if_pos (by omega)]
      · rw [if_neg c1]
        by_cases c2 : i + 1 ≤ a ∧ a < P.1
        · rw [if_pos c2, if_pos (by omega)]
        · rw [if_neg c2, if_neg (by omega)]
