theorem t0 (x : Int) (h : 0 ≤ x) (h2 : x ≤ 10) : (x + 5).bmod 4294967296 = x + 5 := by omega
theorem t0b (x y : Int) (h : 0 ≤ x) (h2 : x ≤ 10) : (if x < 3 then x else 3) ≤ 3 := by omega
theorem t6 (at' due keeps : Int32) (h0 : 0 ≤ at') (h1 : at' ≤ 3000) (h2 : 0 ≤ due) (h3 : due ≤ 3000) (h4 : 0 ≤ keeps) (h5 : keeps ≤ 9) : (if due ≤ at' then (if due + keeps < at' then ((100 + at') - due) - keeps else 100) else 100 - (due - at')) = (if at' - due < 0 then 100 + (at' - due) else if at' - due ≤ keeps then 100 else (100 + (at' - due)) - keeps) := by
  simp only [Int32.le_iff_toInt_le, Int32.lt_iff_toInt_lt, ← Int32.toInt_inj, Int32.toInt_add, Int32.toInt_sub] at *
  repeat' split
  all_goals simp only [Int32.le_iff_toInt_le, Int32.lt_iff_toInt_lt, ← Int32.toInt_inj, Int32.toInt_add, Int32.toInt_sub, Int32.reduceToInt] at *
  all_goals omega
theorem t6b (at' due keeps : Int32) (h0 : 0 ≤ at') (h1 : at' ≤ 3000) (h2 : 0 ≤ due) (h3 : due ≤ 3000) (h4 : 0 ≤ keeps) (h5 : keeps ≤ 9) : (if due ≤ at' then (if due + keeps < at' then ((100 + at') - due) - keeps else 100) else 100 - (due - at')) = (if at' - due < 0 then 100 + (at' - due) else if at' - due ≤ keeps then 100 else (100 + (at' - due)) - keeps) := by
  repeat' split
  all_goals grind
theorem t7 (a : Int32) (h : ¬ a < 0) (h2 : a < 4) : vp_in a 4 := by
  rw [vp_in_iff]
  simp only [Int32.le_iff_toInt_le, Int32.lt_iff_toInt_lt, Int32.reduceToInt] at *
  omega
theorem t10 (n : Nat) (h : n ≤ 4) : 0 ≤ nI n ∧ nI n ≤ 4 := by
  simp only [Int32.le_iff_toInt_le, Int32.lt_iff_toInt_lt, nI_toInt (show n < 2 ^ 31 by omega), Int32.reduceToInt]
  omega
