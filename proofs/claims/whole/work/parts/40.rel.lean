theorem mI_msI (S : MS) (k j : Nat) (v : Int32) : mI (msI S k v) j = if j = k then v else mI S j := rfl
theorem mI_msL (S : MS) (k j : Nat) (v : Int64) : mI (msL S k v) j = mI S j := rfl
theorem mI_msA (S : MS) (k i j : Nat) (v : Int32) : mI (msA S k i v) j = mI S j := rfl
theorem mL_msI (S : MS) (k j : Nat) (v : Int32) : mL (msI S k v) j = mL S j := rfl
theorem mL_msL (S : MS) (k j : Nat) (v : Int64) : mL (msL S k v) j = if j = k then v else mL S j := rfl
theorem mL_msA (S : MS) (k i j : Nat) (v : Int32) : mL (msA S k i v) j = mL S j := rfl
theorem mA_msI (S : MS) (k j : Nat) (v : Int32) : mA (msI S k v) j = mA S j := rfl
theorem mA_msL (S : MS) (k j : Nat) (v : Int64) : mA (msL S k v) j = mA S j := rfl
theorem mA_msA (S : MS) (k i j : Nat) (v : Int32) : mA (msA S k i v) j = if j = k then upd (mA S j) i v else mA S j := rfl
theorem xI_xsI (S : XS) (k j : Nat) (v : Int32) : xI (xsI S k v) j = if j = k then v else xI S j := rfl
theorem xI_xsA (S : XS) (k i j : Nat) (v : Int32) : xI (xsA S k i v) j = xI S j := rfl
theorem xI_xsR (S : XS) (k i j : Nat) (v : Int32) : xI (xsR S k i v) j = xI S j := rfl
theorem xA_xsI (S : XS) (k j : Nat) (v : Int32) : xA (xsI S k v) j = xA S j := rfl
theorem xA_xsA (S : XS) (k i j : Nat) (v : Int32) : xA (xsA S k i v) j = if j = k then upd (xA S j) i v else xA S j := rfl
theorem xA_xsR (S : XS) (k i j : Nat) (v : Int32) : xA (xsR S k i v) j = xA S j := rfl
theorem xR_xsI (S : XS) (k i j : Nat) (v : Int32) : xR (xsI S k v) i j = xR S i j := rfl
theorem xR_xsA (S : XS) (k n i j : Nat) (v : Int32) : xR (xsA S k n v) i j = xR S i j := rfl
theorem xR_xsR (S : XS) (a b i j : Nat) (v : Int32) : xR (xsR S a b v) i j = if j = b ∧ i = a then v else xR S i j := rfl
theorem upd_at (f : Nat → Int32) (i j : Nat) (v : Int32) : upd f i v j = if j = i then v else f j := rfl
/-! ===== the relation: the class's state S, P and the reference's state T, behind c calls ===== -/
def Rk (P : XP) (S : XS) (T : MS) : Prop := P.1 ≤ 4 ∧ xI S 6 = nI P.1 ∧ mI T 1 = nI P.1 ∧ xI S 7 = mI T 2 ∧ xI S 8 = mI T 3 ∧ (0 ≤ mI T 2 ∧ mI T 2 ≤ 60) ∧ (0 ≤ mI T 3 ∧ mI T 3 ≤ 4) ∧ (0 < P.1 → 1 ≤ mI T 2)
def Rm (S : XS) (T : MS) : Prop := xI S 9 = mI T 6 ∧ (0 ≤ mI T 6 ∧ mI T 6 ≤ 999) ∧ xI S 10 = mI T 7 ∧ (0 ≤ mI T 7 ∧ mI T 7 ≤ 4) ∧ xI S 11 = mI T 8
def Rg (S : XS) (T : MS) : Prop := xI S 20 = mI T 18 ∧ (0 ≤ mI T 18 ∧ mI T 18 ≤ 21) ∧ ∀ j : Nat, xA S 2 j = mA T 19 j ∧ 0 ≤ mA T 19 j ∧ mA T 19 j ≤ 126
def Rtl (ud kp out mi du ke ou : Nat → Int32) : Prop := ∀ j : Nat, ud j = du j - mi j ∧ kp j = ke j ∧ out j = ou j ∧ (0 ≤ mi j ∧ mi j ≤ 999) ∧ (0 ≤ du j ∧ du j ≤ 1039) ∧ (0 ≤ ke j ∧ ke j ≤ 9)
def Rt (S : XS) (T : MS) : Prop := xI S 21 = mI T 12 ∧ (0 ≤ mI T 12 ∧ mI T 12 ≤ 6) ∧ Rtl (xA S 5) (xA S 6) (xA S 7) (mA T 13) (mA T 14) (mA T 15) (mA T 16)
def Ri (P : XP) (S : XS) (T : MS) : Prop := (xI S 12 = 0 ∨ xI S 12 = 1) ∧ (mI T 25 = 0 ∨ mI T 25 = 1) ∧ (xI S 12 = 1 ↔ mI T 25 = 1 ∧ mI T 26 = mI T 0) ∧ xI S 13 = mI T 27 ∧ (0 ≤ mI T 27 ∧ mI T 27 ≤ 999) ∧ xI S 14 = mI T 28 ∧ (0 ≤ mI T 28 ∧ mI T 28 ≤ 4) ∧ xI S 15 = mI T 29 ∧ xI S 22 = mI T 30 ∧ (0 ≤ mI T 30 ∧ mI T 30 ≤ 6) ∧ Rtl (xA S 9) (xA S 10) (xA S 11) (mA T 34) (mA T 35) (mA T 36) (mA T 37) ∧
  ∀ i, i < P.1 → xI S 12 = 1 → xR S i 4 = mA T 31 i ∧ (-1 ≤ mA T 31 i ∧ mA T 31 i ≤ 999) ∧ xR S i 5 = mA T 32 i ∧ xR S i 6 = mA T 33 i
def Rc (c : Nat) (S : XS) (T : MS) : Prop := xI S 16 = mI T 0 ∧ xI S 17 = mI T 17 ∧ (0 ≤ mI T 17 ∧ mI T 17 ≤ 20) ∧ (0 ≤ mI T 0 ∧ (mI T 0).toInt ≤ c) ∧ mI T 26 ≤ mI T 0
def Rp (P : XP) (S : XS) (T : MS) : Prop := ∀ i, i < P.1 → kd (P.2.2.1 i) = mA T 4 i ∧ xR S i 0 = mA T 5 i ∧ (1 ≤ mA T 5 i ∧ mA T 5 i ≤ 40) ∧ xR S i 1 = mA T 9 i ∧ (-1 ≤ mA T 9 i ∧ mA T 9 i ≤ 999) ∧ xR S i 2 = mA T 10 i ∧ xR S i 3 = mA T 11 i
def RR (c : Nat) (P : XP) (S : XS) (T : MS) : Prop := xOK P ∧ Rk P S T ∧ Rm S T ∧ Rg S T ∧ Rt S T ∧ Ri P S T ∧ Rc c S T ∧ Rp P S T
theorem Rc.mono {c d : Nat} {S : XS} {T : MS} (h : Rc c S T) (hcd : c ≤ d) : Rc d S T := ⟨h.1, h.2.1, h.2.2.1, ⟨h.2.2.2.1.1, by have := h.2.2.2.1.2; omega⟩, h.2.2.2.2⟩
theorem RR.mono {c d : Nat} {P : XP} {S : XS} {T : MS} (h : RR c P S T) (hcd : c ≤ d) : RR d P S T := ⟨h.1, h.2.1, h.2.2.1, h.2.2.2.1, h.2.2.2.2.1, h.2.2.2.2.2.1, h.2.2.2.2.2.2.1.mono hcd, h.2.2.2.2.2.2.2⟩
theorem Rtl_0 : Rtl (fun _ => 0) (fun _ => 0) (fun _ => 0) (fun _ => 0) (fun _ => 0) (fun _ => 0) (fun _ => 0) := fun _ => ⟨show (0 : Int32) = 0 - 0 by decide, rfl, rfl, ⟨show (0 : Int32) ≤ 0 by decide, show (0 : Int32) ≤ 999 by decide⟩, ⟨show (0 : Int32) ≤ 0 by decide, show (0 : Int32) ≤ 1039 by decide⟩, ⟨show (0 : Int32) ≤ 0 by decide, show (0 : Int32) ≤ 9 by decide⟩⟩
theorem RR_start : RR 0 xP0 xS0 mS0 := by
  have z : (0 : Int32) ≤ 0 := by decide
  refine ⟨⟨fun i h => absurd h (Nat.not_lt_zero i), fun i _ => rfl⟩, ?_, ?_, ?_, ?_, ?_, ?_, fun i h => absurd h (Nat.not_lt_zero i)⟩
  · exact ⟨by decide, rfl, rfl, rfl, rfl, ⟨z, by decide⟩, ⟨z, by decide⟩, fun h => absurd h (by decide)⟩
  · exact ⟨rfl, ⟨z, by decide⟩, rfl, ⟨z, by decide⟩, rfl⟩
  · exact ⟨rfl, ⟨z, by decide⟩, fun j => ⟨rfl, z, show (0 : Int32) ≤ 126 by decide⟩⟩
  · exact ⟨rfl, ⟨z, by decide⟩, Rtl_0⟩
  · exact ⟨Or.inl rfl, Or.inl rfl, ⟨fun h => absurd h (by decide), fun h => absurd h.1 (by decide)⟩, rfl, ⟨z, by decide⟩, rfl, ⟨z, by decide⟩, rfl, rfl, ⟨z, by decide⟩, Rtl_0, fun i h => absurd h (Nat.not_lt_zero i)⟩
  · exact ⟨rfl, rfl, ⟨z, by decide⟩, ⟨z, by decide⟩, z⟩
theorem within_0 {a lo hi : Int32} : f_X10_within a lo hi = 0 ↔ ¬ (lo ≤ a ∧ a ≤ hi) := by
  unfold f_X10_within
  split
  · grind
  · split
    · grind
    · grind
/-- a number names a pot on both sides, or on none -/
theorem pot_cases {P : XP} {S : XS} {T : MS} (hk : Rk P S T) (a : Int32) : (f_X9_potAt P S a = none ∧ f_X10_isPot T a = 0) ∨ ∃ j, j < P.1 ∧ j < 4 ∧ a = nI j ∧ f_X9_potAt P S a = some j ∧ ¬ f_X10_isPot T a = 0 := by
  obtain ⟨h4, h6, h1, -⟩ := hk
  unfold f_X9_potAt f_X10_isPot
  rw [within_0, h6, h1]
  rcases pk_ix a (n := P.1) (by omega) with h | h | ⟨j, hj, rfl⟩
  · left
    rw [if_pos h]
    exact ⟨rfl, by grind⟩
  · left
    refine ⟨?_, ?_⟩
    · split
      · rfl
      · rfl
    · have e := nI_toInt (n := P.1) (by omega)
      have e2 : (nI P.1 - 1).toInt = (P.1 : Int) - 1 := pk_sub_toInt (a := P.1) (b := 1) (by omega) (by omega)
      rintro ⟨q1, q2⟩
      have q3 := Int32.le_iff_toInt_le.mp q2
      have q4 := Int32.le_iff_toInt_le.mp h
      omega
  · right
    have e := nI_toInt (n := P.1) (by omega)
    have ej := nI_toInt (n := j) (by omega)
    have e2 : (nI P.1 - 1).toInt = (P.1 : Int) - 1 := pk_sub_toInt (a := P.1) (b := 1) (by omega) (by omega)
    refine ⟨j, hj, by omega, rfl, ?_, ?_⟩
    · have l4 : nI j < 4 := nI_lt (b := 4) (by omega) (by decide)
      have cl : (nI j).toNatClampNeg = j := nI_clamp (by omega)
      rw [if_neg (nI_pos (by omega)), if_neg (nI_ge hj (by omega)), if_pos l4, cl, if_pos hj]
    · exact fun h => h ⟨nI_pos' (by omega), Int32.le_iff_toInt_le.mpr (by omega)⟩
theorem nIc {j : Nat} (h : j < 4) : (nI j).toNatClampNeg = j := nI_clamp (by omega)
theorem gd4 {α : Type} {j : Nat} (h : j < 4) (k : Option α) : gd (nI j) 4 k = k := gd_in (vp_in_nI h (by decide))
theorem kd_kp (k : Nat) (h : k = 0 ∨ k = 2 ∨ k = 5 ∨ k = 6 ∨ k = 7) : (if kd k = 1 then some 1 else if kd k = 2 then some 3 else if kd k = 3 then some 9 else if kd k = 4 then some 6 else some 0) = some (kp k) ∧ (0 ≤ kp k ∧ kp k ≤ 9) ∧ (0 ≤ kd k ∧ kd k ≤ 4) := by
  rcases h with rfl | rfl | rfl | rfl | rfl <;> decide
theorem out_eq {t d k : Int32} (h0 : -4 ≤ t) (h1 : t ≤ 5000) (h2 : 0 ≤ d) (h3 : d ≤ 5000) (h4 : 0 ≤ k) (h5 : k ≤ 9) : f_X10_out t d k = f_X9_outBy (t - d) k := by
  unfold f_X10_out f_X9_outBy
  repeat' split
  all_goals grind
