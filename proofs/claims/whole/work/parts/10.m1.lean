theorem ne_toInt {x c : Int32} {n : Int} (h : ¬ x = c) (hc : c.toInt = n) : x.toInt ≠ n := fun e => h (Int32.toInt_inj.mp (e.trans hc.symm))
/-- a switch on the outcome of a look for a pot -/
def pm {α : Type} (o : Option Nat) (a : α) (b : Nat → α) : α := match o with
  | none => a
  | some i => b i
theorem pm_n {α : Type} {o : Option Nat} {a x : α} {b : Nat → α} (ho : o = none) (h : pm o a b = x) : a = x := by rw [ho] at h; exact h
theorem pm_s {α : Type} {o : Option Nat} {a x : α} {b : Nat → α} {i : Nat} (ho : o = some i) (h : pm o a b = x) : b i = x := by rw [ho] at h; exact h
/-- a truth value is one of two -/
def gb {α : Type} (v : Int32) (k : Option α) : Option α := if v = 0 ∨ v = 1 then k else none
theorem gb_some {α : Type} {v : Int32} {k : Option α} {x : α} (h : gb v k = some x) : (v = 0 ∨ v = 1) ∧ k = some x := by
  unfold gb at h
  split at h
  · rename_i hn
    exact ⟨hn, h⟩
  · cases h
theorem gb_of {α : Type} {v : Int32} {k : Option α} (h : v = 0 ∨ v = 1) : gb v k = k := by
  unfold gb
  exact if_pos h
/-- is an object of class k of class t -/
def io (t k : Nat) : Int32 := if t = k ∨ (t = 6 ∧ k = 0) then 1 else 0
theorem bio (t k : Nat) : io t k = 0 ∨ io t k = 1 := by
  unfold io
  split
  · exact Or.inr rfl
  · exact Or.inl rfl
def f_X10_within (a1 : Int32) (a2 : Int32) (a3 : Int32) : Int32 := if a1 < a2 then 0 else if a3 < a1 then 0 else 1
set_option maxHeartbeats 4000000 in
set_option maxRecDepth 100000 in
theorem c_X10_within (l : Launch) (G : zGT) (w0 : va_W) (a1 : Int32) (a2 : Int32) (a3 : Int32) : MG l yX10_within wsX10_within ({ frames := 0, cells := 0, slots := 0, locals := 0 }) G [.int a1, .int a2, .int a3] (w0) (va_Qi (fun r u => r = (f_X10_within a1 a2 a3) ∧ u = w0)) := by
  refine MG.of (cc := cX10_within) (maxL := 3) (ret := (some .boolean)) (own := RX10) (nm := "within") (by decide) rfl rfl rfl (Nat.le_of_ble_eq_true rfl) ?_
  intro p e s m args below meth c A C
  obtain ⟨res, h⟩ : ∃ z, f_X10_within a1 a2 a3 = z := ⟨_, rfl⟩
  rw [h]
  rw [f_X10_within] at h
  refine z_eq (lv2 := [(0, .int a1), (1, .int a2), (2, .int a3)]) rfl rfl rfl rfl ?_
  refine z_iload_n C 0 dX10_within_0 rfl rfl ?_
  refine z_iload_n C 1 dX10_within_1 rfl rfl ?_
  refine z_icmp_lt (tgt := 14) C dX10_within_2 (by decide) (fun c1 => ?_) (fun c1 => ?_)
  · replace h := zt c1 h
    refine z_iconst (v := 0) C dX10_within_14 (by decide) ?_
    subst h
    exact z_zret C rfl (Or.inl rfl) ⟨rfl, rfl⟩ dX10_within_15
  · replace h := zf c1 h
    refine z_iload_n C 0 dX10_within_5 rfl rfl ?_
    refine z_iload_n C 2 dX10_within_6 rfl rfl ?_
    refine z_icmp_gt (tgt := 14) C dX10_within_7 (by decide) (fun c2 => ?_) (fun c2 => ?_)
    · replace h := zt c2 h
      refine z_iconst (v := 0) C dX10_within_14 (by decide) ?_
      subst h
      exact z_zret C rfl (Or.inl rfl) ⟨rfl, rfl⟩ dX10_within_15
    · replace h := zf c2 h
      refine z_iconst (v := 1) C dX10_within_10 (by decide) ?_
      refine z_goto (tgt := 15) C dX10_within_11 (by decide) ?_
      subst h
      exact z_zret C rfl (Or.inr rfl) ⟨rfl, rfl⟩ dX10_within_15
theorem bf_X10_within (a1 : Int32) (a2 : Int32) (a3 : Int32) : f_X10_within a1 a2 a3 = 0 ∨ f_X10_within a1 a2 a3 = 1 := by
  unfold f_X10_within
  repeat' split
  all_goals first | exact Or.inl rfl | exact Or.inr rfl
def f_X10_kindBy (a1 : Int32) : Int32 := if a1 = 98 then 4 else if a1 = 101 then 1 else if a1 = 112 then 0 else if a1 = 114 then 2 else if a1 = 115 then 3 else (-1)
set_option maxHeartbeats 4000000 in
set_option maxRecDepth 100000 in
theorem c_X10_kindBy (l : Launch) (G : zGT) (w0 : va_W) (a1 : Int32) : MG l yX10_kindBy wsX10_kindBy ({ frames := 0, cells := 0, slots := 0, locals := 0 }) G [.int a1] (w0) (va_Qi (fun r u => r = (f_X10_kindBy a1) ∧ u = w0)) := by
  refine MG.of (cc := cX10_kindBy) (maxL := 1) (ret := (some .int)) (own := RX10) (nm := "kindBy") (by decide) rfl rfl rfl (Nat.le_of_ble_eq_true rfl) ?_
  intro p e s m args below meth c A C
  obtain ⟨res, h⟩ : ∃ z, f_X10_kindBy a1 = z := ⟨_, rfl⟩
  rw [h]
  rw [f_X10_kindBy] at h
  refine z_eq (lv2 := [(0, .int a1)]) rfl rfl rfl rfl ?_
  refine z_iload_n C 0 dX10_kindBy_0 rfl rfl ?_
  by_cases c1 : a1 = 98
  · replace h := zt c1 h
    refine z_lookup (off := 59) (tgt := 60) C dX10_kindBy_1 (by decide) (by rw [c1]; rfl) (by decide) ?_
    refine z_iconst (v := 4) C dX10_kindBy_60 (by decide) ?_
    subst h
    exact z_iret C rfl ⟨rfl, rfl⟩ dX10_kindBy_61
  replace h := zf c1 h
  by_cases c2 : a1 = 101
  · replace h := zt c2 h
    refine z_lookup (off := 53) (tgt := 54) C dX10_kindBy_1 (by decide) (by rw [c2]; rfl) (by decide) ?_
    refine z_iconst (v := 1) C dX10_kindBy_54 (by decide) ?_
    subst h
    exact z_iret C rfl ⟨rfl, rfl⟩ dX10_kindBy_55
  replace h := zf c2 h
  by_cases c3 : a1 = 112
  · replace h := zt c3 h
    refine z_lookup (off := 51) (tgt := 52) C dX10_kindBy_1 (by decide) (by rw [c3]; rfl) (by decide) ?_
    refine z_iconst (v := 0) C dX10_kindBy_52 (by decide) ?_
    subst h
    exact z_iret C rfl ⟨rfl, rfl⟩ dX10_kindBy_53
  replace h := zf c3 h
  by_cases c4 : a1 = 114
  · replace h := zt c4 h
    refine z_lookup (off := 55) (tgt := 56) C dX10_kindBy_1 (by decide) (by rw [c4]; rfl) (by decide) ?_
    refine z_iconst (v := 2) C dX10_kindBy_56 (by decide) ?_
    subst h
    exact z_iret C rfl ⟨rfl, rfl⟩ dX10_kindBy_57
  replace h := zf c4 h
  by_cases c5 : a1 = 115
  · replace h := zt c5 h
    refine z_lookup (off := 57) (tgt := 58) C dX10_kindBy_1 (by decide) (by rw [c5]; rfl) (by decide) ?_
    refine z_iconst (v := 3) C dX10_kindBy_58 (by decide) ?_
    subst h
    exact z_iret C rfl ⟨rfl, rfl⟩ dX10_kindBy_59
  replace h := zf c5 h
  refine z_lookup (off := 61) (tgt := 62) C dX10_kindBy_1 (by decide) (by have e0 := ne_toInt (n := 98) c1 rfl; have e1 := ne_toInt (n := 101) c2 rfl; have e2 := ne_toInt (n := 112) c3 rfl; have e3 := ne_toInt (n := 114) c4 rfl; have e4 := ne_toInt (n := 115) c5 rfl; simp [Op.lookupswitch.offset, e0, Ne.symm e0, e1, Ne.symm e1, e2, Ne.symm e2, e3, Ne.symm e3, e4, Ne.symm e4]) (by decide) ?_
  refine z_iconst (v := (-1)) C dX10_kindBy_62 (by decide) ?_
  subst h
  exact z_iret C rfl ⟨rfl, rfl⟩ dX10_kindBy_63
def f_X10_out (a1 : Int32) (a2 : Int32) (a3 : Int32) : Int32 := if a2 ≤ a1 then if (a2 + a3) < a1 then (((100 + a1) - a2) - a3) else 100 else (100 - (a2 - a1))
set_option maxHeartbeats 4000000 in
set_option maxRecDepth 100000 in
theorem c_X10_out (l : Launch) (G : zGT) (w0 : va_W) (a1 : Int32) (a2 : Int32) (a3 : Int32) : MG l yX10_out wsX10_out ({ frames := 0, cells := 0, slots := 0, locals := 0 }) G [.int a1, .int a2, .int a3] (w0) (va_Qi (fun r u => r = (f_X10_out a1 a2 a3) ∧ u = w0)) := by
  refine MG.of (cc := cX10_out) (maxL := 3) (ret := (some .int)) (own := RX10) (nm := "out") (by decide) rfl rfl rfl (Nat.le_of_ble_eq_true rfl) ?_
  intro p e s m args below meth c A C
  obtain ⟨res, h⟩ : ∃ z, f_X10_out a1 a2 a3 = z := ⟨_, rfl⟩
  rw [h]
  rw [f_X10_out] at h
  refine z_eq (lv2 := [(0, .int a1), (1, .int a2), (2, .int a3)]) rfl rfl rfl rfl ?_
  refine z_iload_n C 0 dX10_out_0 rfl rfl ?_
  refine z_iload_n C 1 dX10_out_1 rfl rfl ?_
  refine z_icmp_ge (tgt := 14) C dX10_out_2 (by decide) (fun c1 => ?_) (fun c1 => ?_)
  · replace h := zt c1 h
    refine z_iload_n C 0 dX10_out_14 rfl rfl ?_
    refine z_iload_n C 1 dX10_out_15 rfl rfl ?_
    refine z_iload_n C 2 dX10_out_16 rfl rfl ?_
    refine z_iadd C dX10_out_17 ?_
    refine z_icmp_gt (tgt := 26) C dX10_out_18 (by decide) (fun c2 => ?_) (fun c2 => ?_)
    · replace h := zt c2 h
      refine z_bipush (v := 100) C dX10_out_26 (by decide) ?_
      refine z_iload_n C 0 dX10_out_28 rfl rfl ?_
      refine z_iadd C dX10_out_29 ?_
      refine z_iload_n C 1 dX10_out_30 rfl rfl ?_
      refine z_isub C dX10_out_31 ?_
      refine z_iload_n C 2 dX10_out_32 rfl rfl ?_
      refine z_isub C dX10_out_33 ?_
      subst h
      exact z_iret C rfl ⟨rfl, rfl⟩ dX10_out_34
    · replace h := zf c2 h
      refine z_bipush (v := 100) C dX10_out_21 (by decide) ?_
      refine z_goto (tgt := 34) C dX10_out_23 (by decide) ?_
      subst h
      exact z_iret C rfl ⟨rfl, rfl⟩ dX10_out_34
  · replace h := zf c1 h
    refine z_bipush (v := 100) C dX10_out_5 (by decide) ?_
    refine z_iload_n C 1 dX10_out_7 rfl rfl ?_
    refine z_iload_n C 0 dX10_out_8 rfl rfl ?_
    refine z_isub C dX10_out_9 ?_
    refine z_isub C dX10_out_10 ?_
    refine z_goto (tgt := 34) C dX10_out_11 (by decide) ?_
    subst h
    exact z_iret C rfl ⟨rfl, rfl⟩ dX10_out_34
def f_X10_size (a1 : Int32) : Int32 := ((((a1 &&& 1) + ((a1 >>> ((1 : Int32) &&& 31)) &&& 1)) + ((a1 >>> ((2 : Int32) &&& 31)) &&& 1)) + ((a1 >>> ((3 : Int32) &&& 31)) &&& 1))
set_option maxHeartbeats 4000000 in
set_option maxRecDepth 100000 in
theorem c_X10_size (l : Launch) (G : zGT) (w0 : va_W) (a1 : Int32) : MG l yX10_size wsX10_size ({ frames := 0, cells := 0, slots := 0, locals := 0 }) G [.int a1] (w0) (va_Qi (fun r u => r = (f_X10_size a1) ∧ u = w0)) := by
  refine MG.of (cc := cX10_size) (maxL := 1) (ret := (some .int)) (own := RX10) (nm := "size") (by decide) rfl rfl rfl (Nat.le_of_ble_eq_true rfl) ?_
  intro p e s m args below meth c A C
  obtain ⟨res, h⟩ : ∃ z, f_X10_size a1 = z := ⟨_, rfl⟩
  rw [h]
  rw [f_X10_size] at h
  refine z_eq (lv2 := [(0, .int a1)]) rfl rfl rfl rfl ?_
  refine z_iload_n C 0 dX10_size_0 rfl rfl ?_
  refine z_iconst (v := 1) C dX10_size_1 (by decide) ?_
  refine z_iand C dX10_size_2 ?_
  refine z_iload_n C 0 dX10_size_3 rfl rfl ?_
  refine z_iconst (v := 1) C dX10_size_4 (by decide) ?_
  refine z_ishr C dX10_size_5 ?_
  refine z_iconst (v := 1) C dX10_size_6 (by decide) ?_
  refine z_iand C dX10_size_7 ?_
  refine z_iadd C dX10_size_8 ?_
  refine z_iload_n C 0 dX10_size_9 rfl rfl ?_
  refine z_iconst (v := 2) C dX10_size_10 (by decide) ?_
  refine z_ishr C dX10_size_11 ?_
  refine z_iconst (v := 1) C dX10_size_12 (by decide) ?_
  refine z_iand C dX10_size_13 ?_
  refine z_iadd C dX10_size_14 ?_
  refine z_iload_n C 0 dX10_size_15 rfl rfl ?_
  refine z_iconst (v := 3) C dX10_size_16 (by decide) ?_
  refine z_ishr C dX10_size_17 ?_
  refine z_iconst (v := 1) C dX10_size_18 (by decide) ?_
  refine z_iand C dX10_size_19 ?_
  refine z_iadd C dX10_size_20 ?_
  subst h
  exact z_iret C rfl ⟨rfl, rfl⟩ dX10_size_21
def f_X10_letter (S : MS) (a1 : Int32) : Option (Int32 × MS) := if (f_X10_within a1 32 126) = 0 then some ((-102), S) else if (mI S 18) = 21 then some ((-104), S) else gd (mI S 18) 21 (some ((mI (msI (msA S 19 (mI S 18).toNatClampNeg a1.toInt8.toInt32.toInt8.toInt32) 18 ((mI (msA S 19 (mI S 18).toNatClampNeg a1.toInt8.toInt32.toInt8.toInt32) 18) + 1)) 18), msI (msA S 19 (mI S 18).toNatClampNeg a1.toInt8.toInt32.toInt8.toInt32) 18 ((mI (msA S 19 (mI S 18).toNatClampNeg a1.toInt8.toInt32.toInt8.toInt32) 18) + 1)))
set_option maxHeartbeats 4000000 in
set_option maxRecDepth 100000 in
theorem c_X10_letter (l : Launch) (G : zGT) (q : Nat → Nat) (S : MS) (X : va_W) (a1 : Int32) {res : Int32 × MS} (h : f_X10_letter S a1 = some res) : MG l yX10_letter wsX10_letter ({ frames := 1, cells := 0, slots := 0, locals := 22 }) G [.ref (q 0), .int a1] (MW G q S ++ X) (va_Qi (fun r u => r = res.1 ∧ u = MW G q res.2 ++ X)) := by
  have hi10 : ∀ w ∈ u_ws RX10 TX10 39, w ∈ wsX10_letter := fun _ h => List.mem_cons_of_mem _ (List.mem_append_right _ h)
  refine MG.of (cc := cX10_letter) (maxL := 2) (ret := (some .int)) (own := RX10) (nm := "letter") (by decide) rfl rfl rfl (Nat.le_of_ble_eq_true rfl) ?_
  intro p e s m args below meth c A C
  rw [f_X10_letter] at h
  refine z_eq (lv2 := [(0, .ref (q 0)), (1, .int a1)]) rfl rfl rfl rfl ?_
  refine z_iload_n C 1 dX10_letter_0 rfl rfl ?_
  refine z_bipush (v := 32) C dX10_letter_1 (by decide) ?_
  refine z_bipush (v := 126) C dX10_letter_3 (by decide) ?_
  refine z_goti1 C (z_runS C (c_X10_within l G (MW G q S ++ X) a1 32 126) (va_cwS 3 C.hts gX10_letter_X10_within rfl rfl rfl (by decide +kernel) ⟨Nat.le_of_ble_eq_true rfl, Nat.le_of_ble_eq_true rfl⟩) rfl rfl (Nat.le_of_ble_eq_true rfl) dX10_letter_5 ⟨Nat.le_of_ble_eq_true rfl, Nat.le_of_ble_eq_true rfl⟩) rfl rfl ?_
  refine z_if_ne (tgt := 14) C dX10_letter_8 (by decide) (fun c1 => ?_) (fun c1 => ?_)
  · replace h := zf c1 h
    refine z_aload_n C 0 dX10_letter_14 rfl rfl ?_
    refine mg_18 C hi10 (List.mem_of_getElem? (i := 1) rfl) dX10_letter_15 ?_
    refine z_bipush (v := 21) C dX10_letter_18 (by decide) ?_
    refine z_icmp_ne (tgt := 26) C dX10_letter_20 (by decide) (fun c2 => ?_) (fun c2 => ?_)
    · replace h := zf c2 h
      refine z_aload_n C 0 dX10_letter_26 rfl rfl ?_
      refine mg_19 C hi10 (List.mem_of_getElem? (i := 2) rfl) dX10_letter_27 ?_
      refine z_aload_n C 0 dX10_letter_30 rfl rfl ?_
      refine mg_18 C hi10 (List.mem_of_getElem? (i := 1) rfl) dX10_letter_31 ?_
      refine z_iload_n C 1 dX10_letter_34 rfl rfl ?_
      refine z_i2b C dX10_letter_35 ?_
      obtain ⟨hg3, h⟩ := gd_some h
      refine mt_19 C hg3 dX10_letter_36 ?_
      refine z_aload_n C 0 dX10_letter_37 rfl rfl ?_
      refine z_dup C dX10_letter_38 rfl ?_
      refine mg_18 C hi10 (List.mem_of_getElem? (i := 1) rfl) dX10_letter_39 ?_
      refine z_iconst (v := 1) C dX10_letter_42 (by decide) ?_
      refine z_iadd C dX10_letter_43 ?_
      refine mp_18 C hi10 (List.mem_of_getElem? (i := 1) rfl) dX10_letter_44 ?_
      refine z_aload_n C 0 dX10_letter_47 rfl rfl ?_
      refine mg_18 C hi10 (List.mem_of_getElem? (i := 1) rfl) dX10_letter_48 ?_
      injection h with h
      subst h
      exact z_iret C rfl ⟨rfl, rfl⟩ dX10_letter_51
    · replace h := zt c2 h
      refine z_bipush (v := (-104)) C dX10_letter_23 (by decide) ?_
      injection h with h
      subst h
      exact z_iret C rfl ⟨rfl, rfl⟩ dX10_letter_25
  · replace h := zt c1 h
    refine z_bipush (v := (-102)) C dX10_letter_11 (by decide) ?_
    injection h with h
    subst h
    exact z_iret C rfl ⟨rfl, rfl⟩ dX10_letter_13
def f_X10_blank (S : MS) : Int32 × MS := ((mI S 18), msI S 18 0)
set_option maxHeartbeats 4000000 in
set_option maxRecDepth 100000 in
theorem c_X10_blank (l : Launch) (G : zGT) (q : Nat → Nat) (S : MS) (X : va_W) : MG l yX10_blank wsX10_blank ({ frames := 0, cells := 0, slots := 0, locals := 0 }) G [.ref (q 0)] (MW G q S ++ X) (va_Qi (fun r u => r = (f_X10_blank S).1 ∧ u = MW G q ((f_X10_blank S).2) ++ X)) := by
  have hi10 : ∀ w ∈ u_ws RX10 TX10 39, w ∈ wsX10_blank := fun _ h => List.mem_cons_of_mem _ (List.mem_append_right _ h)
  refine MG.of (cc := cX10_blank) (maxL := 2) (ret := (some .int)) (own := RX10) (nm := "blank") (by decide) rfl rfl rfl (Nat.le_of_ble_eq_true rfl) ?_
  intro p e s m args below meth c A C
  obtain ⟨res, h⟩ : ∃ z, f_X10_blank S = z := ⟨_, rfl⟩
  rw [h]
  rw [f_X10_blank] at h
  refine z_eq (lv2 := [(0, .ref (q 0))]) rfl rfl rfl rfl ?_
  refine z_aload_n C 0 dX10_blank_0 rfl rfl ?_
  refine mg_18 C hi10 (List.mem_of_getElem? (i := 1) rfl) dX10_blank_1 ?_
  refine z_istore_n (lv2 := [(1, .int (mI S 18)), (0, .ref (q 0))]) C dX10_blank_4 rfl (by decide) rfl ?_
  refine z_aload_n C 1 dX10_blank_5 rfl rfl ?_
  refine z_iconst (v := 0) C dX10_blank_6 (by decide) ?_
  refine mp_18 C hi10 (List.mem_of_getElem? (i := 1) rfl) dX10_blank_7 ?_
  refine z_iload_n C 0 dX10_blank_10 rfl rfl ?_
  subst h
  exact z_iret C rfl ⟨rfl, rfl⟩ dX10_blank_11
def f_X10_figure (S : MS) (a1 : Int32) : Option (Int32) := if (mI S 18) ≤ a1 then some (-1) else gd a1 21 (if (f_X10_within ((mA S 19 a1.toNatClampNeg) - 48) 0 9) = 0 then some (-1) else gd a1 21 (some ((mA S 19 a1.toNatClampNeg) - 48)))
set_option maxHeartbeats 4000000 in
set_option maxRecDepth 100000 in
theorem c_X10_figure (l : Launch) (G : zGT) (q : Nat → Nat) (S : MS) (X : va_W) (a1 : Int32) {res : Int32} (h : f_X10_figure S a1 = some res) : MG l yX10_figure wsX10_figure ({ frames := 1, cells := 0, slots := 0, locals := 22 }) G [.ref (q 0), .int a1] (MW G q S ++ X) (va_Qi (fun r u => r = res ∧ u = MW G q S ++ X)) := by
  have hi10 : ∀ w ∈ u_ws RX10 TX10 39, w ∈ wsX10_figure := fun _ h => List.mem_cons_of_mem _ (List.mem_append_right _ h)
  refine MG.of (cc := cX10_figure) (maxL := 2) (ret := (some .int)) (own := RX10) (nm := "figure") (by decide) rfl rfl rfl (Nat.le_of_ble_eq_true rfl) ?_
  intro p e s m args below meth c A C
  rw [f_X10_figure] at h
  refine z_eq (lv2 := [(0, .ref (q 0)), (1, .int a1)]) rfl rfl rfl rfl ?_
  refine z_iload_n C 1 dX10_figure_0 rfl rfl ?_
  refine z_aload_n C 0 dX10_figure_1 rfl rfl ?_
  refine mg_18 C hi10 (List.mem_of_getElem? (i := 1) rfl) dX10_figure_2 ?_
  refine z_icmp_ge (tgt := 38) C dX10_figure_5 (by decide) (fun c1 => ?_) (fun c1 => ?_)
  · replace h := zt c1 h
    refine z_iconst (v := (-1)) C dX10_figure_38 (by decide) ?_
    injection h with h
    subst h
    exact z_iret C rfl ⟨rfl, rfl⟩ dX10_figure_39
  · replace h := zf c1 h
    refine z_aload_n C 0 dX10_figure_8 rfl rfl ?_
    refine mg_19 C hi10 (List.mem_of_getElem? (i := 2) rfl) dX10_figure_9 ?_
    refine z_iload_n C 1 dX10_figure_12 rfl rfl ?_
    obtain ⟨hg2, h⟩ := gd_some h
    refine ml_19 C hg2 dX10_figure_13 ?_
    refine z_bipush (v := 48) C dX10_figure_14 (by decide) ?_
    refine z_isub C dX10_figure_16 ?_
    refine z_iconst (v := 0) C dX10_figure_17 (by decide) ?_
    refine z_bipush (v := 9) C dX10_figure_18 (by decide) ?_
    refine z_goti1 C (z_runS C (c_X10_within l G (MW G q S ++ X) ((mA S 19 a1.toNatClampNeg) - 48) 0 9) (va_cwS 3 C.hts gX10_figure_X10_within rfl rfl rfl (by decide +kernel) ⟨Nat.le_of_ble_eq_true rfl, Nat.le_of_ble_eq_true rfl⟩) rfl rfl (Nat.le_of_ble_eq_true rfl) dX10_figure_20 ⟨Nat.le_of_ble_eq_true rfl, Nat.le_of_ble_eq_true rfl⟩) rfl rfl ?_
    refine z_if_eq (tgt := 38) C dX10_figure_23 (by decide) (fun c3 => ?_) (fun c3 => ?_)
    · replace h := zt c3 h
      refine z_iconst (v := (-1)) C dX10_figure_38 (by decide) ?_
      injection h with h
      subst h
      exact z_iret C rfl ⟨rfl, rfl⟩ dX10_figure_39
    · replace h := zf c3 h
      refine z_aload_n C 0 dX10_figure_26 rfl rfl ?_
      refine mg_19 C hi10 (List.mem_of_getElem? (i := 2) rfl) dX10_figure_27 ?_
      refine z_iload_n C 1 dX10_figure_30 rfl rfl ?_
      obtain ⟨hg4, h⟩ := gd_some h
      refine ml_19 C hg4 dX10_figure_31 ?_
      refine z_bipush (v := 48) C dX10_figure_32 (by decide) ?_
      refine z_isub C dX10_figure_34 ?_
      refine z_goto (tgt := 39) C dX10_figure_35 (by decide) ?_
      injection h with h
      subst h
      exact z_iret C rfl ⟨rfl, rfl⟩ dX10_figure_39
def f_X10_readTwo (S : MS) (a1 : Int32) (a2 : Int32) : Option (Int32) := (f_X10_figure S a1).bind fun r2 => if r2 = (-1) then some a1 else if r2 ≤ (a2 / 10) then (f_X10_figure S (a1 + 1)).bind fun r6 => if r6 = (-1) then some (a1 + 1) else if ((10 * r2) + r6) < 1 then some (a1 + 1) else if a2 < ((10 * r2) + r6) then some (a1 + 1) else some (a1 + 2) else some a1
set_option maxHeartbeats 4000000 in
set_option maxRecDepth 100000 in
theorem c_X10_readTwo (l : Launch) (G : zGT) (q : Nat → Nat) (S : MS) (X : va_W) (a1 : Int32) (a2 : Int32) {res : Int32} (h : f_X10_readTwo S a1 a2 = some res) : MG l yX10_readTwo wsX10_readTwo ({ frames := 2, cells := 0, slots := 0, locals := 43 }) G [.ref (q 0), .int a1, .int a2] (MW G q S ++ X) (va_Qi (fun r u => r = res ∧ u = MW G q S ++ X)) := by
  refine MG.of (cc := cX10_readTwo) (maxL := 6) (ret := (some .int)) (own := RX10) (nm := "readTwo") (by decide) rfl rfl rfl (Nat.le_of_ble_eq_true rfl) ?_
  intro p e s m args below meth c A C
  rw [f_X10_readTwo] at h
  refine z_eq (lv2 := [(0, .ref (q 0)), (1, .int a1), (2, .int a2)]) rfl rfl rfl rfl ?_
  refine z_aload_n C 0 dX10_readTwo_0 rfl rfl ?_
  refine z_iload_n C 1 dX10_readTwo_1 rfl rfl ?_
  obtain ⟨r2, hf1, h⟩ := bd_some h
  refine z_goti1 C (z_runV C (c_X10_figure l G q S X a1 hf1) (cwV 1 C.hts gX10_readTwo_X10_figure rfl rfl rfl (by decide +kernel) ⟨Nat.le_of_ble_eq_true rfl, Nat.le_of_ble_eq_true rfl⟩) 0 rfl rfl rfl rfl (Nat.le_of_ble_eq_true rfl) dX10_readTwo_2 ⟨Nat.le_of_ble_eq_true rfl, Nat.le_of_ble_eq_true rfl⟩) rfl rfl ?_
  refine z_istore_n (lv2 := [(3, .int r2), (0, .ref (q 0)), (1, .int a1), (2, .int a2)]) C dX10_readTwo_5 rfl (by decide) rfl ?_
  refine z_iload_n C 0 dX10_readTwo_6 rfl rfl ?_
  refine z_iconst (v := (-1)) C dX10_readTwo_7 (by decide) ?_
  refine z_icmp_eq (tgt := 19) C dX10_readTwo_8 (by decide) (fun c3 => ?_) (fun c3 => ?_)
  · replace h := zt c3 h
    refine z_iload_n C 2 dX10_readTwo_19 rfl rfl ?_
    injection h with h
    subst h
    exact z_iret C rfl ⟨rfl, rfl⟩ dX10_readTwo_20
  · replace h := zf c3 h
    refine z_iload_n C 0 dX10_readTwo_11 rfl rfl ?_
    refine z_iload_n C 3 dX10_readTwo_12 rfl rfl ?_
    refine z_bipush (v := 10) C dX10_readTwo_13 (by decide) ?_
    refine z_idiv C dX10_readTwo_15 (by decide) ?_
    refine z_icmp_le (tgt := 21) C dX10_readTwo_16 (by decide) (fun c4 => ?_) (fun c4 => ?_)
    · replace h := zt c4 h
      refine z_aload_n C 1 dX10_readTwo_21 rfl rfl ?_
      refine z_iload_n C 2 dX10_readTwo_22 rfl rfl ?_
      refine z_iconst (v := 1) C dX10_readTwo_23 (by decide) ?_
      refine z_iadd C dX10_readTwo_24 ?_
      obtain ⟨r6, hf5, h⟩ := bd_some h
      refine z_goti1 C (z_runV C (c_X10_figure l G q S X (a1 + 1) hf5) (cwV 1 C.hts gX10_readTwo_X10_figure rfl rfl rfl (by decide +kernel) ⟨Nat.le_of_ble_eq_true rfl, Nat.le_of_ble_eq_true rfl⟩) 0 rfl rfl rfl rfl (Nat.le_of_ble_eq_true rfl) dX10_readTwo_25 ⟨Nat.le_of_ble_eq_true rfl, Nat.le_of_ble_eq_true rfl⟩) rfl rfl ?_
      refine z_istore (lv2 := [(4, .int r6), (3, .int r2), (0, .ref (q 0)), (1, .int a1), (2, .int a2)]) C dX10_readTwo_28 (by decide) rfl ?_
      refine z_iload C 0 dX10_readTwo_30 rfl ?_
      refine z_iconst (v := (-1)) C dX10_readTwo_32 (by decide) ?_
      refine z_icmp_eq (tgt := 62) C dX10_readTwo_33 (by decide) (fun c7 => ?_) (fun c7 => ?_)
      · replace h := zt c7 h
        refine z_iconst (v := 0) C dX10_readTwo_62 (by decide) ?_
        refine z_istore (lv2 := [(5, .int 0), (4, .int r6), (3, .int r2), (0, .ref (q 0)), (1, .int a1), (2, .int a2)]) C dX10_readTwo_63 (by decide) rfl ?_
        refine z_iload C 0 dX10_readTwo_65 rfl ?_
        refine z_if_eq (tgt := 76) C dX10_readTwo_67 (by decide) (fun _ => ?_) (fun c => absurd (by decide) c)
        refine z_iload_n C 4 dX10_readTwo_76 rfl rfl ?_
        refine z_iconst (v := 1) C dX10_readTwo_77 (by decide) ?_
        refine z_iadd C dX10_readTwo_78 ?_
        injection h with h
        subst h
        exact z_iret C rfl ⟨rfl, rfl⟩ dX10_readTwo_79
      · replace h := zf c7 h
        refine z_bipush (v := 10) C dX10_readTwo_36 (by decide) ?_
        refine z_iload_n C 1 dX10_readTwo_38 rfl rfl ?_
        refine z_imul C dX10_readTwo_39 ?_
        refine z_iload C 0 dX10_readTwo_40 rfl ?_
        refine z_iadd C dX10_readTwo_42 ?_
        refine z_iconst (v := 1) C dX10_readTwo_43 (by decide) ?_
        refine z_icmp_lt (tgt := 62) C dX10_readTwo_44 (by decide) (fun c8 => ?_) (fun c8 => ?_)
        · replace h := zt c8 h
          refine z_iconst (v := 0) C dX10_readTwo_62 (by decide) ?_
          refine z_istore (lv2 := [(5, .int 0), (4, .int r6), (3, .int r2), (0, .ref (q 0)), (1, .int a1), (2, .int a2)]) C dX10_readTwo_63 (by decide) rfl ?_
          refine z_iload C 0 dX10_readTwo_65 rfl ?_
          refine z_if_eq (tgt := 76) C dX10_readTwo_67 (by decide) (fun _ => ?_) (fun c => absurd (by decide) c)
          refine z_iload_n C 4 dX10_readTwo_76 rfl rfl ?_
          refine z_iconst (v := 1) C dX10_readTwo_77 (by decide) ?_
          refine z_iadd C dX10_readTwo_78 ?_
          injection h with h
          subst h
          exact z_iret C rfl ⟨rfl, rfl⟩ dX10_readTwo_79
        · replace h := zf c8 h
          refine z_bipush (v := 10) C dX10_readTwo_47 (by decide) ?_
          refine z_iload_n C 1 dX10_readTwo_49 rfl rfl ?_
          refine z_imul C dX10_readTwo_50 ?_
          refine z_iload C 0 dX10_readTwo_51 rfl ?_
          refine z_iadd C dX10_readTwo_53 ?_
          refine z_iload_n C 4 dX10_readTwo_54 rfl rfl ?_
          refine z_icmp_gt (tgt := 62) C dX10_readTwo_55 (by decide) (fun c9 => ?_) (fun c9 => ?_)
          · replace h := zt c9 h
            refine z_iconst (v := 0) C dX10_readTwo_62 (by decide) ?_
            refine z_istore (lv2 := [(5, .int 0), (4, .int r6), (3, .int r2), (0, .ref (q 0)), (1, .int a1), (2, .int a2)]) C dX10_readTwo_63 (by decide) rfl ?_
            refine z_iload C 0 dX10_readTwo_65 rfl ?_
            refine z_if_eq (tgt := 76) C dX10_readTwo_67 (by decide) (fun _ => ?_) (fun c => absurd (by decide) c)
            refine z_iload_n C 4 dX10_readTwo_76 rfl rfl ?_
            refine z_iconst (v := 1) C dX10_readTwo_77 (by decide) ?_
            refine z_iadd C dX10_readTwo_78 ?_
            injection h with h
            subst h
            exact z_iret C rfl ⟨rfl, rfl⟩ dX10_readTwo_79
          · replace h := zf c9 h
            refine z_iconst (v := 1) C dX10_readTwo_58 (by decide) ?_
            refine z_goto (tgt := 63) C dX10_readTwo_59 (by decide) ?_
            refine z_istore (lv2 := [(5, .int 1), (4, .int r6), (3, .int r2), (0, .ref (q 0)), (1, .int a1), (2, .int a2)]) C dX10_readTwo_63 (by decide) rfl ?_
            refine z_iload C 0 dX10_readTwo_65 rfl ?_
            refine z_if_eq (tgt := 76) C dX10_readTwo_67 (by decide) (fun c => absurd c (by decide)) (fun _ => ?_)
            refine z_iload_n C 4 dX10_readTwo_70 rfl rfl ?_
            refine z_iconst (v := 2) C dX10_readTwo_71 (by decide) ?_
            refine z_iadd C dX10_readTwo_72 ?_
            refine z_goto (tgt := 79) C dX10_readTwo_73 (by decide) ?_
            injection h with h
            subst h
            exact z_iret C rfl ⟨rfl, rfl⟩ dX10_readTwo_79
    · replace h := zf c4 h
      refine z_iload_n C 2 dX10_readTwo_19 rfl rfl ?_
      injection h with h
      subst h
      exact z_iret C rfl ⟨rfl, rfl⟩ dX10_readTwo_20
def f_X10_two (S : MS) (a1 : Int32) : Option (Int32) := gd a1 21 (gd (a1 + 1) 21 (some (((10 * ((mA S 19 a1.toNatClampNeg) - 48)) + (mA S 19 (a1 + 1).toNatClampNeg)) - 48)))
set_option maxHeartbeats 4000000 in
set_option maxRecDepth 100000 in
theorem c_X10_two (l : Launch) (G : zGT) (q : Nat → Nat) (S : MS) (X : va_W) (a1 : Int32) {res : Int32} (h : f_X10_two S a1 = some res) : MG l yX10_two wsX10_two ({ frames := 0, cells := 0, slots := 0, locals := 0 }) G [.ref (q 0), .int a1] (MW G q S ++ X) (va_Qi (fun r u => r = res ∧ u = MW G q S ++ X)) := by
  have hi10 : ∀ w ∈ u_ws RX10 TX10 39, w ∈ wsX10_two := fun _ h => List.mem_cons_of_mem _ (List.mem_append_right _ h)
  refine MG.of (cc := cX10_two) (maxL := 2) (ret := (some .int)) (own := RX10) (nm := "two") (by decide) rfl rfl rfl (Nat.le_of_ble_eq_true rfl) ?_
  intro p e s m args below meth c A C
  rw [f_X10_two] at h
  refine z_eq (lv2 := [(0, .ref (q 0)), (1, .int a1)]) rfl rfl rfl rfl ?_
  refine z_bipush (v := 10) C dX10_two_0 (by decide) ?_
  refine z_aload_n C 0 dX10_two_2 rfl rfl ?_
  refine mg_19 C hi10 (List.mem_of_getElem? (i := 1) rfl) dX10_two_3 ?_
  refine z_iload_n C 1 dX10_two_6 rfl rfl ?_
  obtain ⟨hg1, h⟩ := gd_some h
  refine ml_19 C hg1 dX10_two_7 ?_
  refine z_bipush (v := 48) C dX10_two_8 (by decide) ?_
  refine z_isub C dX10_two_10 ?_
  refine z_imul C dX10_two_11 ?_
  refine z_aload_n C 0 dX10_two_12 rfl rfl ?_
  refine mg_19 C hi10 (List.mem_of_getElem? (i := 1) rfl) dX10_two_13 ?_
  refine z_iload_n C 1 dX10_two_16 rfl rfl ?_
  refine z_iconst (v := 1) C dX10_two_17 (by decide) ?_
  refine z_iadd C dX10_two_18 ?_
  obtain ⟨hg2, h⟩ := gd_some h
  refine ml_19 C hg2 dX10_two_19 ?_
  refine z_iadd C dX10_two_20 ?_
  refine z_bipush (v := 48) C dX10_two_21 (by decide) ?_
  refine z_isub C dX10_two_23 ?_
  injection h with h
  subst h
  exact z_iret C rfl ⟨rfl, rfl⟩ dX10_two_24
def f_X10_readRest (S : MS) (a1 : Int32) : Option (Int32 × MS) := (f_X10_readTwo S a1 60).bind fun r2 => if r2 = (a1 + 2) then (f_X10_figure S r2).bind fun r5 => if r5 < 1 then some (r2, S) else (f_X10_figure S r2).bind fun r8 => if r8 ≤ 4 then if (r2 + 1) = (mI S 18) then some ((r2 + 1), msI S 20 1) else some ((r2 + 1), msI S 20 0) else some (r2, S) else some (r2, S)
set_option maxHeartbeats 4000000 in
set_option maxRecDepth 100000 in
theorem c_X10_readRest (l : Launch) (G : zGT) (q : Nat → Nat) (S : MS) (X : va_W) (a1 : Int32) {res : Int32 × MS} (h : f_X10_readRest S a1 = some res) : MG l yX10_readRest wsX10_readRest ({ frames := 3, cells := 0, slots := 0, locals := 68 }) G [.ref (q 0), .int a1] (MW G q S ++ X) (va_Qi (fun r u => r = res.1 ∧ u = MW G q res.2 ++ X)) := by
  have hi10 : ∀ w ∈ u_ws RX10 TX10 39, w ∈ wsX10_readRest := fun _ h => List.mem_cons_of_mem _ (List.mem_append_right _ h)
  refine MG.of (cc := cX10_readRest) (maxL := 3) (ret := (some .int)) (own := RX10) (nm := "readRest") (by decide) rfl rfl rfl (Nat.le_of_ble_eq_true rfl) ?_
  intro p e s m args below meth c A C
  rw [f_X10_readRest] at h
  refine z_eq (lv2 := [(0, .ref (q 0)), (1, .int a1)]) rfl rfl rfl rfl ?_
  refine z_aload_n C 0 dX10_readRest_0 rfl rfl ?_
  refine z_iload_n C 1 dX10_readRest_1 rfl rfl ?_
  refine z_bipush (v := 60) C dX10_readRest_2 (by decide) ?_
  obtain ⟨r2, hf1, h⟩ := bd_some h
  refine z_goti1 C (z_runV C (c_X10_readTwo l G q S X a1 60 hf1) (cwV 2 C.hts gX10_readRest_X10_readTwo rfl rfl rfl (by decide +kernel) ⟨Nat.le_of_ble_eq_true rfl, Nat.le_of_ble_eq_true rfl⟩) 0 rfl rfl rfl rfl (Nat.le_of_ble_eq_true rfl) dX10_readRest_4 ⟨Nat.le_of_ble_eq_true rfl, Nat.le_of_ble_eq_true rfl⟩) rfl rfl ?_
  refine z_istore_n (lv2 := [(2, .int r2), (0, .ref (q 0)), (1, .int a1)]) C dX10_readRest_7 rfl (by decide) rfl ?_
  refine z_iload_n C 0 dX10_readRest_8 rfl rfl ?_
  refine z_iload_n C 2 dX10_readRest_9 rfl rfl ?_
  refine z_iconst (v := 2) C dX10_readRest_10 (by decide) ?_
  refine z_iadd C dX10_readRest_11 ?_
  refine z_icmp_eq (tgt := 17) C dX10_readRest_12 (by decide) (fun c3 => ?_) (fun c3 => ?_)
  · replace h := zt c3 h
    refine z_aload_n C 1 dX10_readRest_17 rfl rfl ?_
    refine z_iload_n C 0 dX10_readRest_18 rfl rfl ?_
    obtain ⟨r5, hf4, h⟩ := bd_some h
    refine z_goti1 C (z_runV C (c_X10_figure l G q S X r2 hf4) (cwV 1 C.hts gX10_readRest_X10_figure rfl rfl rfl (by decide +kernel) ⟨Nat.le_of_ble_eq_true rfl, Nat.le_of_ble_eq_true rfl⟩) 0 rfl rfl rfl rfl (Nat.le_of_ble_eq_true rfl) dX10_readRest_19 ⟨Nat.le_of_ble_eq_true rfl, Nat.le_of_ble_eq_true rfl⟩) rfl rfl ?_
    refine z_iconst (v := 1) C dX10_readRest_22 (by decide) ?_
    refine z_icmp_lt (tgt := 35) C dX10_readRest_23 (by decide) (fun c6 => ?_) (fun c6 => ?_)
    · replace h := zt c6 h
      refine z_iload_n C 0 dX10_readRest_35 rfl rfl ?_
      injection h with h
      subst h
      exact z_iret C rfl ⟨rfl, rfl⟩ dX10_readRest_36
    · replace h := zf c6 h
      refine z_aload_n C 1 dX10_readRest_26 rfl rfl ?_
      refine z_iload_n C 0 dX10_readRest_27 rfl rfl ?_
      obtain ⟨r8, hf7, h⟩ := bd_some h
      refine z_goti1 C (z_runV C (c_X10_figure l G q S X r2 hf7) (cwV 1 C.hts gX10_readRest_X10_figure rfl rfl rfl (by decide +kernel) ⟨Nat.le_of_ble_eq_true rfl, Nat.le_of_ble_eq_true rfl⟩) 0 rfl rfl rfl rfl (Nat.le_of_ble_eq_true rfl) dX10_readRest_28 ⟨Nat.le_of_ble_eq_true rfl, Nat.le_of_ble_eq_true rfl⟩) rfl rfl ?_
      refine z_iconst (v := 4) C dX10_readRest_31 (by decide) ?_
      refine z_icmp_le (tgt := 37) C dX10_readRest_32 (by decide) (fun c9 => ?_) (fun c9 => ?_)
      · replace h := zt c9 h
        refine z_aload_n C 1 dX10_readRest_37 rfl rfl ?_
        refine z_iload_n C 0 dX10_readRest_38 rfl rfl ?_
        refine z_iconst (v := 1) C dX10_readRest_39 (by decide) ?_
        refine z_iadd C dX10_readRest_40 ?_
        refine z_aload_n C 1 dX10_readRest_41 rfl rfl ?_
        refine mg_18 C hi10 (List.mem_of_getElem? (i := 1) rfl) dX10_readRest_42 ?_
        refine z_icmp_ne (tgt := 52) C dX10_readRest_45 (by decide) (fun c10 => ?_) (fun c10 => ?_)
        · replace h := zf c10 h
          refine z_iconst (v := 0) C dX10_readRest_52 (by decide) ?_
          refine mp_20 C hi10 (Or.inl rfl) (List.mem_of_getElem? (i := 2) rfl) dX10_readRest_53 ?_
          refine z_iload_n C 0 dX10_readRest_56 rfl rfl ?_
          refine z_iconst (v := 1) C dX10_readRest_57 (by decide) ?_
          refine z_iadd C dX10_readRest_58 ?_
          injection h with h
          subst h
          exact z_iret C rfl ⟨rfl, rfl⟩ dX10_readRest_59
        · replace h := zt c10 h
          refine z_iconst (v := 1) C dX10_readRest_48 (by decide) ?_
          refine z_goto (tgt := 53) C dX10_readRest_49 (by decide) ?_
          refine mp_20 C hi10 (Or.inr rfl) (List.mem_of_getElem? (i := 2) rfl) dX10_readRest_53 ?_
          refine z_iload_n C 0 dX10_readRest_56 rfl rfl ?_
          refine z_iconst (v := 1) C dX10_readRest_57 (by decide) ?_
          refine z_iadd C dX10_readRest_58 ?_
          injection h with h
          subst h
          exact z_iret C rfl ⟨rfl, rfl⟩ dX10_readRest_59
      · replace h := zf c9 h
        refine z_iload_n C 0 dX10_readRest_35 rfl rfl ?_
        injection h with h
        subst h
        exact z_iret C rfl ⟨rfl, rfl⟩ dX10_readRest_36
  · replace h := zf c3 h
    refine z_iload_n C 0 dX10_readRest_15 rfl rfl ?_
    injection h with h
    subst h
    exact z_iret C rfl ⟨rfl, rfl⟩ dX10_readRest_16
def f_X10_read_L12 (fu : Nat)  : Nat → Int32 → MS → Option (Int32 × MS)
  | 0, _, _ => none
  | n + 1, v1, S => if 4 ≤ (mI S 21) then some (v1, S) else if v1 = (mI S 18) then some (v1, S) else gd v1 21 (if (f_X10_kindBy (mA S 19 v1.toNatClampNeg)) = (-1) then some (v1, S) else (f_X10_readTwo S (v1 + 1) 40).bind fun r6 => if r6 = (v1 + 3) then if (mI (msI S 21 ((mI S 21) + 1)) 18) ≤ r6 then if r6 = (mI (msI S 21 ((mI S 21) + 1)) 18) then some (r6, msI S 21 ((mI S 21) + 1)) else if (mI (msI S 21 ((mI S 21) + 1)) 21) = 4 then some (r6, msI S 21 ((mI S 21) + 1)) else gd r6 21 (if (mA (msI S 21 ((mI S 21) + 1)) 19 r6.toNatClampNeg) = 44 then f_X10_read_L12 fu n (r6 + 1) (msI S 21 ((mI S 21) + 1)) else some (r6, msI S 21 ((mI S 21) + 1))) else gd r6 21 (if (mA (msI S 21 ((mI S 21) + 1)) 19 r6.toNatClampNeg) = 59 then if (mI (msI S 21 ((mI S 21) + 1)) 21) ≤ 1 then if r6 = (mI (msI S 21 ((mI S 21) + 1)) 18) then some (r6, msI S 21 ((mI S 21) + 1)) else if (mI (msI S 21 ((mI S 21) + 1)) 21) = 4 then some (r6, msI S 21 ((mI S 21) + 1)) else gd r6 21 (if (mA (msI S 21 ((mI S 21) + 1)) 19 r6.toNatClampNeg) = 44 then f_X10_read_L12 fu n (r6 + 1) (msI S 21 ((mI S 21) + 1)) else some (r6, msI S 21 ((mI S 21) + 1))) else (f_X10_readRest (msI S 21 ((mI S 21) + 1)) (r6 + 1)).bind fun r25 => some (r25.1, r25.2) else if r6 = (mI (msI S 21 ((mI S 21) + 1)) 18) then some (r6, msI S 21 ((mI S 21) + 1)) else if (mI (msI S 21 ((mI S 21) + 1)) 21) = 4 then some (r6, msI S 21 ((mI S 21) + 1)) else gd r6 21 (if (mA (msI S 21 ((mI S 21) + 1)) 19 r6.toNatClampNeg) = 44 then f_X10_read_L12 fu n (r6 + 1) (msI S 21 ((mI S 21) + 1)) else some (r6, msI S 21 ((mI S 21) + 1)))) else some (r6, S))
def f_X10_read (fu : Nat) (S : MS) : Option (Int32 × MS) := f_X10_read_L12 fu fu 0 (msI (msI S 20 0) 21 0)
set_option maxHeartbeats 4000000 in
set_option maxRecDepth 100000 in
theorem L_X10_read_12 {p : Program} {l : Launch} {e : Env} {s : State} {m : MethodId} {args : Array Value} {below : List Frame} {meth : Method} {c : Code} {A : Nat → Prop} {G : zGT} {q : Nat → Nat} {X : va_W} {fu : Nat} (C : zC p s m args meth c A G cX10_read 3 (some .int) RX10 "read" wsX10_read) : ∀ (n : Nat) (v1 : Int32) (S : MS) {res : Int32 × MS}, f_X10_read_L12 fu n v1 S = some res → Z p l e ({ frames := 4, cells := 0, slots := 0, locals := 90 }) s m args below meth c A G 3 (MQ below (va_Qi (fun r u => r = res.1 ∧ u = MW G q res.2 ++ X) (zPost G A) A) args s 0 0 A) 0 0 (MW G q S ++ X) [(0, .ref (q 0)), (1, .int v1)] 12 [] := by
  have hi10 : ∀ w ∈ u_ws RX10 TX10 39, w ∈ wsX10_read := fun _ h => List.mem_cons_of_mem _ (List.mem_append_right _ h)
  intro n
  induction n with
  | zero =>
    intro v1 S res h
    exact nomatch (h : none = some _)
  | succ n ih =>
    intro v1 S res h
    rw [f_X10_read_L12] at h
    refine z_aload_n C 0 dX10_read_12 rfl rfl ?_
    refine mg_21 C hi10 (List.mem_of_getElem? (i := 2) rfl) dX10_read_13 ?_
    refine z_iconst (v := 4) C dX10_read_16 (by decide) ?_
    refine z_icmp_ge (tgt := 144) C dX10_read_17 (by decide) (fun c1 => ?_) (fun c1 => ?_)
    · replace h := zt c1 h
      refine z_iload_n C 1 dX10_read_144 rfl rfl ?_
      injection h with h
      subst h
      exact z_iret C rfl ⟨rfl, rfl⟩ dX10_read_145
    · replace h := zf c1 h
      refine z_iload_n C 1 dX10_read_20 rfl rfl ?_
      refine z_aload_n C 0 dX10_read_21 rfl rfl ?_
      refine mg_18 C hi10 (List.mem_of_getElem? (i := 3) rfl) dX10_read_22 ?_
      refine z_icmp_eq (tgt := 41) C dX10_read_25 (by decide) (fun c2 => ?_) (fun c2 => ?_)
      · replace h := zt c2 h
        refine z_iload_n C 1 dX10_read_41 rfl rfl ?_
        injection h with h
        subst h
        exact z_iret C rfl ⟨rfl, rfl⟩ dX10_read_42
      · replace h := zf c2 h
        refine z_aload_n C 0 dX10_read_28 rfl rfl ?_
        refine mg_19 C hi10 (List.mem_of_getElem? (i := 4) rfl) dX10_read_29 ?_
        refine z_iload_n C 1 dX10_read_32 rfl rfl ?_
        obtain ⟨hg3, h⟩ := gd_some h
        refine ml_19 C hg3 dX10_read_33 ?_
        refine z_goti1 C (z_runS C (c_X10_kindBy l G (MW G q S ++ X) (mA S 19 v1.toNatClampNeg)) (va_cwS 1 C.hts gX10_read_X10_kindBy rfl rfl rfl (by decide +kernel) ⟨Nat.le_of_ble_eq_true rfl, Nat.le_of_ble_eq_true rfl⟩) rfl rfl (Nat.le_of_ble_eq_true rfl) dX10_read_34 ⟨Nat.le_of_ble_eq_true rfl, Nat.le_of_ble_eq_true rfl⟩) rfl rfl ?_
        refine z_iconst (v := (-1)) C dX10_read_37 (by decide) ?_
        refine z_icmp_ne (tgt := 43) C dX10_read_38 (by decide) (fun c4 => ?_) (fun c4 => ?_)
        · replace h := zf c4 h
          refine z_aload_n C 0 dX10_read_43 rfl rfl ?_
          refine z_iload_n C 1 dX10_read_44 rfl rfl ?_
          refine z_iconst (v := 1) C dX10_read_45 (by decide) ?_
          refine z_iadd C dX10_read_46 ?_
          refine z_bipush (v := 40) C dX10_read_47 (by decide) ?_
          obtain ⟨r6, hf5, h⟩ := bd_some h
          refine z_goti1 C (z_runV C (c_X10_readTwo l G q S X (v1 + 1) 40 hf5) (cwV 2 C.hts gX10_read_X10_readTwo rfl rfl rfl (by decide +kernel) ⟨Nat.le_of_ble_eq_true rfl, Nat.le_of_ble_eq_true rfl⟩) 0 rfl rfl rfl rfl (Nat.le_of_ble_eq_true rfl) dX10_read_49 ⟨Nat.le_of_ble_eq_true rfl, Nat.le_of_ble_eq_true rfl⟩) rfl rfl ?_
          refine z_istore_n (lv2 := [(2, .int r6), (0, .ref (q 0)), (1, .int v1)]) C dX10_read_52 rfl (by decide) rfl ?_
          refine z_iload_n C 0 dX10_read_53 rfl rfl ?_
          refine z_iload_n C 2 dX10_read_54 rfl rfl ?_
          refine z_iconst (v := 3) C dX10_read_55 (by decide) ?_
          refine z_iadd C dX10_read_56 ?_
          refine z_icmp_eq (tgt := 62) C dX10_read_57 (by decide) (fun c7 => ?_) (fun c7 => ?_)
          · replace h := zt c7 h
            refine z_aload_n C 1 dX10_read_62 rfl rfl ?_
            refine z_dup C dX10_read_63 rfl ?_
            refine mg_21 C hi10 (List.mem_of_getElem? (i := 2) rfl) dX10_read_64 ?_
            refine z_iconst (v := 1) C dX10_read_67 (by decide) ?_
            refine z_iadd C dX10_read_68 ?_
            refine mp_21 C hi10 (List.mem_of_getElem? (i := 2) rfl) dX10_read_69 ?_
            refine z_iload_n C 0 dX10_read_72 rfl rfl ?_
            refine z_istore_n (lv2 := [(1, .int r6), (2, .int r6), (0, .ref (q 0))]) C dX10_read_73 rfl (by decide) rfl ?_
            refine z_iload_n C 0 dX10_read_74 rfl rfl ?_
            refine z_aload_n C 2 dX10_read_75 rfl rfl ?_
            refine mg_18 C hi10 (List.mem_of_getElem? (i := 3) rfl) dX10_read_76 ?_
            refine z_icmp_ge (tgt := 109) C dX10_read_79 (by decide) (fun c8 => ?_) (fun c8 => ?_)
            · replace h := zt c8 h
              refine z_iload_n C 0 dX10_read_109 rfl rfl ?_
              refine z_aload_n C 2 dX10_read_110 rfl rfl ?_
              refine mg_18 C hi10 (List.mem_of_getElem? (i := 3) rfl) dX10_read_111 ?_
              refine z_icmp_eq (tgt := 136) C dX10_read_114 (by decide) (fun c9 => ?_) (fun c9 => ?_)
              · replace h := zt c9 h
                refine z_iload_n C 0 dX10_read_136 rfl rfl ?_
                injection h with h
                subst h
                exact z_iret C rfl ⟨rfl, rfl⟩ dX10_read_137
              · replace h := zf c9 h
                refine z_aload_n C 2 dX10_read_117 rfl rfl ?_
                refine mg_21 C hi10 (List.mem_of_getElem? (i := 2) rfl) dX10_read_118 ?_
                refine z_iconst (v := 4) C dX10_read_121 (by decide) ?_
                refine z_icmp_eq (tgt := 136) C dX10_read_122 (by decide) (fun c10 => ?_) (fun c10 => ?_)
                · replace h := zt c10 h
                  refine z_iload_n C 0 dX10_read_136 rfl rfl ?_
                  injection h with h
                  subst h
                  exact z_iret C rfl ⟨rfl, rfl⟩ dX10_read_137
                · replace h := zf c10 h
                  refine z_aload_n C 2 dX10_read_125 rfl rfl ?_
                  refine mg_19 C hi10 (List.mem_of_getElem? (i := 4) rfl) dX10_read_126 ?_
                  refine z_iload_n C 0 dX10_read_129 rfl rfl ?_
                  obtain ⟨hg11, h⟩ := gd_some h
                  refine ml_19 C hg11 dX10_read_130 ?_
                  refine z_bipush (v := 44) C dX10_read_131 (by decide) ?_
                  refine z_icmp_eq (tgt := 138) C dX10_read_133 (by decide) (fun c12 => ?_) (fun c12 => ?_)
                  · replace h := zt c12 h
                    refine z_iinc (v := (r6 + 1)) (lv2 := [(1, .int (r6 + 1)), (2, .int r6), (0, .ref (q 0))]) C 0 dX10_read_138 rfl rfl (by decide) rfl ?_
                    refine z_goto (tgt := 12) C dX10_read_141 (by decide) ?_
                    refine z_lv (lv2 := [(0, .ref (q 0)), (1, .int (r6 + 1))]) [2, 0] rfl ?_
                    exact ih (r6 + 1) (msI S 21 ((mI S 21) + 1)) h
                  · replace h := zf c12 h
                    refine z_iload_n C 0 dX10_read_136 rfl rfl ?_
                    injection h with h
                    subst h
                    exact z_iret C rfl ⟨rfl, rfl⟩ dX10_read_137
            · replace h := zf c8 h
              refine z_aload_n C 2 dX10_read_82 rfl rfl ?_
              refine mg_19 C hi10 (List.mem_of_getElem? (i := 4) rfl) dX10_read_83 ?_
              refine z_iload_n C 0 dX10_read_86 rfl rfl ?_
              obtain ⟨hg13, h⟩ := gd_some h
              refine ml_19 C hg13 dX10_read_87 ?_
              refine z_bipush (v := 59) C dX10_read_88 (by decide) ?_
              refine z_icmp_ne (tgt := 109) C dX10_read_90 (by decide) (fun c14 => ?_) (fun c14 => ?_)
              · replace h := zf c14 h
                refine z_iload_n C 0 dX10_read_109 rfl rfl ?_
                refine z_aload_n C 2 dX10_read_110 rfl rfl ?_
                refine mg_18 C hi10 (List.mem_of_getElem? (i := 3) rfl) dX10_read_111 ?_
                refine z_icmp_eq (tgt := 136) C dX10_read_114 (by decide) (fun c15 => ?_) (fun c15 => ?_)
                · replace h := zt c15 h
                  refine z_iload_n C 0 dX10_read_136 rfl rfl ?_
                  injection h with h
                  subst h
                  exact z_iret C rfl ⟨rfl, rfl⟩ dX10_read_137
                · replace h := zf c15 h
                  refine z_aload_n C 2 dX10_read_117 rfl rfl ?_
                  refine mg_21 C hi10 (List.mem_of_getElem? (i := 2) rfl) dX10_read_118 ?_
                  refine z_iconst (v := 4) C dX10_read_121 (by decide) ?_
                  refine z_icmp_eq (tgt := 136) C dX10_read_122 (by decide) (fun c16 => ?_) (fun c16 => ?_)
                  · replace h := zt c16 h
                    refine z_iload_n C 0 dX10_read_136 rfl rfl ?_
                    injection h with h
                    subst h
                    exact z_iret C rfl ⟨rfl, rfl⟩ dX10_read_137
                  · replace h := zf c16 h
                    refine z_aload_n C 2 dX10_read_125 rfl rfl ?_
                    refine mg_19 C hi10 (List.mem_of_getElem? (i := 4) rfl) dX10_read_126 ?_
                    refine z_iload_n C 0 dX10_read_129 rfl rfl ?_
                    obtain ⟨hg17, h⟩ := gd_some h
                    refine ml_19 C hg17 dX10_read_130 ?_
                    refine z_bipush (v := 44) C dX10_read_131 (by decide) ?_
                    refine z_icmp_eq (tgt := 138) C dX10_read_133 (by decide) (fun c18 => ?_) (fun c18 => ?_)
                    · replace h := zt c18 h
                      refine z_iinc (v := (r6 + 1)) (lv2 := [(1, .int (r6 + 1)), (2, .int r6), (0, .ref (q 0))]) C 0 dX10_read_138 rfl rfl (by decide) rfl ?_
                      refine z_goto (tgt := 12) C dX10_read_141 (by decide) ?_
                      refine z_lv (lv2 := [(0, .ref (q 0)), (1, .int (r6 + 1))]) [2, 0] rfl ?_
                      exact ih (r6 + 1) (msI S 21 ((mI S 21) + 1)) h
                    · replace h := zf c18 h
                      refine z_iload_n C 0 dX10_read_136 rfl rfl ?_
                      injection h with h
                      subst h
                      exact z_iret C rfl ⟨rfl, rfl⟩ dX10_read_137
              · replace h := zt c14 h
                refine z_aload_n C 2 dX10_read_93 rfl rfl ?_
                refine mg_21 C hi10 (List.mem_of_getElem? (i := 2) rfl) dX10_read_94 ?_
                refine z_iconst (v := 1) C dX10_read_97 (by decide) ?_
                refine z_icmp_le (tgt := 109) C dX10_read_98 (by decide) (fun c19 => ?_) (fun c19 => ?_)
                · replace h := zt c19 h
                  refine z_iload_n C 0 dX10_read_109 rfl rfl ?_
                  refine z_aload_n C 2 dX10_read_110 rfl rfl ?_
                  refine mg_18 C hi10 (List.mem_of_getElem? (i := 3) rfl) dX10_read_111 ?_
                  refine z_icmp_eq (tgt := 136) C dX10_read_114 (by decide) (fun c20 => ?_) (fun c20 => ?_)
                  · replace h := zt c20 h
                    refine z_iload_n C 0 dX10_read_136 rfl rfl ?_
                    injection h with h
                    subst h
                    exact z_iret C rfl ⟨rfl, rfl⟩ dX10_read_137
                  · replace h := zf c20 h
                    refine z_aload_n C 2 dX10_read_117 rfl rfl ?_
                    refine mg_21 C hi10 (List.mem_of_getElem? (i := 2) rfl) dX10_read_118 ?_
                    refine z_iconst (v := 4) C dX10_read_121 (by decide) ?_
                    refine z_icmp_eq (tgt := 136) C dX10_read_122 (by decide) (fun c21 => ?_) (fun c21 => ?_)
                    · replace h := zt c21 h
                      refine z_iload_n C 0 dX10_read_136 rfl rfl ?_
                      injection h with h
                      subst h
                      exact z_iret C rfl ⟨rfl, rfl⟩ dX10_read_137
                    · replace h := zf c21 h
                      refine z_aload_n C 2 dX10_read_125 rfl rfl ?_
                      refine mg_19 C hi10 (List.mem_of_getElem? (i := 4) rfl) dX10_read_126 ?_
                      refine z_iload_n C 0 dX10_read_129 rfl rfl ?_
                      obtain ⟨hg22, h⟩ := gd_some h
                      refine ml_19 C hg22 dX10_read_130 ?_
                      refine z_bipush (v := 44) C dX10_read_131 (by decide) ?_
                      refine z_icmp_eq (tgt := 138) C dX10_read_133 (by decide) (fun c23 => ?_) (fun c23 => ?_)
                      · replace h := zt c23 h
                        refine z_iinc (v := (r6 + 1)) (lv2 := [(1, .int (r6 + 1)), (2, .int r6), (0, .ref (q 0))]) C 0 dX10_read_138 rfl rfl (by decide) rfl ?_
                        refine z_goto (tgt := 12) C dX10_read_141 (by decide) ?_
                        refine z_lv (lv2 := [(0, .ref (q 0)), (1, .int (r6 + 1))]) [2, 0] rfl ?_
                        exact ih (r6 + 1) (msI S 21 ((mI S 21) + 1)) h
                      · replace h := zf c23 h
                        refine z_iload_n C 0 dX10_read_136 rfl rfl ?_
                        injection h with h
                        subst h
                        exact z_iret C rfl ⟨rfl, rfl⟩ dX10_read_137
                · replace h := zf c19 h
                  refine z_aload_n C 2 dX10_read_101 rfl rfl ?_
                  refine z_iload_n C 0 dX10_read_102 rfl rfl ?_
                  refine z_iconst (v := 1) C dX10_read_103 (by decide) ?_
                  refine z_iadd C dX10_read_104 ?_
                  obtain ⟨r25, hf24, h⟩ := bd_some h
                  refine z_goti1 C (z_runV C (c_X10_readRest l G q (msI S 21 ((mI S 21) + 1)) X (r6 + 1) hf24) (cwV 1 C.hts gX10_read_X10_readRest rfl rfl rfl (by decide +kernel) ⟨Nat.le_of_ble_eq_true rfl, Nat.le_of_ble_eq_true rfl⟩) 0 rfl rfl rfl rfl (Nat.le_of_ble_eq_true rfl) dX10_read_105 ⟨Nat.le_of_ble_eq_true rfl, Nat.le_of_ble_eq_true rfl⟩) rfl rfl ?_
                  injection h with h
                  subst h
                  exact z_iret C rfl ⟨rfl, rfl⟩ dX10_read_108
          · replace h := zf c7 h
            refine z_iload_n C 0 dX10_read_60 rfl rfl ?_
            injection h with h
            subst h
            exact z_iret C rfl ⟨rfl, rfl⟩ dX10_read_61
        · replace h := zt c4 h
          refine z_iload_n C 1 dX10_read_41 rfl rfl ?_
          injection h with h
          subst h
          exact z_iret C rfl ⟨rfl, rfl⟩ dX10_read_42
set_option maxHeartbeats 4000000 in
set_option maxRecDepth 100000 in
theorem c_X10_read (l : Launch) (G : zGT) (q : Nat → Nat) (S : MS) (X : va_W) (fu : Nat) {res : Int32 × MS} (h : f_X10_read fu S = some res) : MG l yX10_read wsX10_read ({ frames := 4, cells := 0, slots := 0, locals := 90 }) G [.ref (q 0)] (MW G q S ++ X) (va_Qi (fun r u => r = res.1 ∧ u = MW G q res.2 ++ X)) := by
  have hi10 : ∀ w ∈ u_ws RX10 TX10 39, w ∈ wsX10_read := fun _ h => List.mem_cons_of_mem _ (List.mem_append_right _ h)
  refine MG.of (cc := cX10_read) (maxL := 3) (ret := (some .int)) (own := RX10) (nm := "read") (by decide) rfl rfl rfl (Nat.le_of_ble_eq_true rfl) ?_
  intro p e s m args below meth c A C
  rw [f_X10_read] at h
  refine z_eq (lv2 := [(0, .ref (q 0))]) rfl rfl rfl rfl ?_
  refine z_aload_n C 0 dX10_read_0 rfl rfl ?_
  refine z_iconst (v := 0) C dX10_read_1 (by decide) ?_
  refine mp_20 C hi10 (Or.inl rfl) (List.mem_of_getElem? (i := 1) rfl) dX10_read_2 ?_
  refine z_aload_n C 0 dX10_read_5 rfl rfl ?_
  refine z_iconst (v := 0) C dX10_read_6 (by decide) ?_
  refine mp_21 C hi10 (List.mem_of_getElem? (i := 2) rfl) dX10_read_7 ?_
  refine z_iconst (v := 0) C dX10_read_10 (by decide) ?_
  refine z_istore_n (lv2 := [(1, .int 0), (0, .ref (q 0))]) C dX10_read_11 rfl (by decide) rfl ?_
  refine z_lv (lv2 := [(0, .ref (q 0)), (1, .int 0)]) [1, 0] rfl ?_
  exact L_X10_read_12 C  fu 0 (msI (msI S 20 0) 21 0) h
def f_X10_fault (fu : Nat) (S : MS) : Option (Int32 × MS) := (f_X10_read fu S).bind fun r2 => some (r2.1, r2.2)
set_option maxHeartbeats 4000000 in
set_option maxRecDepth 100000 in
theorem c_X10_fault (l : Launch) (G : zGT) (q : Nat → Nat) (S : MS) (X : va_W) (fu : Nat) {res : Int32 × MS} (h : f_X10_fault fu S = some res) : MG l yX10_fault wsX10_fault ({ frames := 5, cells := 0, slots := 0, locals := 112 }) G [.ref (q 0)] (MW G q S ++ X) (va_Qi (fun r u => r = res.1 ∧ u = MW G q res.2 ++ X)) := by
  refine MG.of (cc := cX10_fault) (maxL := 1) (ret := (some .int)) (own := RX10) (nm := "fault") (by decide) rfl rfl rfl (Nat.le_of_ble_eq_true rfl) ?_
  intro p e s m args below meth c A C
  rw [f_X10_fault] at h
  refine z_eq (lv2 := [(0, .ref (q 0))]) rfl rfl rfl rfl ?_
  refine z_aload_n C 0 dX10_fault_0 rfl rfl ?_
  obtain ⟨r2, hf1, h⟩ := bd_some h
  refine z_goti1 C (z_runV C (c_X10_read l G q S X fu hf1) (cwV 0 C.hts gX10_fault_X10_read rfl rfl rfl (by decide +kernel) ⟨Nat.le_of_ble_eq_true rfl, Nat.le_of_ble_eq_true rfl⟩) 0 rfl rfl rfl rfl (Nat.le_of_ble_eq_true rfl) dX10_fault_1 ⟨Nat.le_of_ble_eq_true rfl, Nat.le_of_ble_eq_true rfl⟩) rfl rfl ?_
  injection h with h
  subst h
  exact z_iret C rfl ⟨rfl, rfl⟩ dX10_fault_4
