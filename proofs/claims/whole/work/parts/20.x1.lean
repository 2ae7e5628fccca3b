def f_X9_outBy (a1 : Int32) (a2 : Int32) : Int32 := if 0 ≤ a1 then if a2 < a1 then ((100 + a1) - a2) else 100 else (100 + a1)
set_option maxHeartbeats 4000000 in
set_option maxRecDepth 100000 in
theorem c_X9_outBy (l : Launch) (G : zGT) (w0 : va_W) (a1 : Int32) (a2 : Int32) : MG l yX9_outBy wsX9_outBy ({ frames := 0, cells := 0, slots := 0, locals := 0 }) G [.int a1, .int a2] (w0) (va_Qi (fun r u => r = (f_X9_outBy a1 a2) ∧ u = w0)) := by
  refine MG.of (cc := cX9_outBy) (maxL := 2) (ret := (some .int)) (own := RX9) (nm := "outBy") (by decide) rfl rfl rfl (Nat.le_of_ble_eq_true rfl) ?_
  intro p e s m args below meth c A C
  obtain ⟨res, h⟩ : ∃ z, f_X9_outBy a1 a2 = z := ⟨_, rfl⟩
  rw [h]
  rw [f_X9_outBy] at h
  refine z_eq (lv2 := [(0, .int a1), (1, .int a2)]) rfl rfl rfl rfl ?_
  refine z_iload_n C 0 dX9_outBy_0 rfl rfl ?_
  refine z_if_ge (tgt := 9) C dX9_outBy_1 (by decide) (fun c1 => ?_) (fun c1 => ?_)
  · replace h := zt c1 h
    refine z_iload_n C 0 dX9_outBy_9 rfl rfl ?_
    refine z_iload_n C 1 dX9_outBy_10 rfl rfl ?_
    refine z_icmp_gt (tgt := 19) C dX9_outBy_11 (by decide) (fun c2 => ?_) (fun c2 => ?_)
    · replace h := zt c2 h
      refine z_bipush (v := 100) C dX9_outBy_19 (by decide) ?_
      refine z_iload_n C 0 dX9_outBy_21 rfl rfl ?_
      refine z_iadd C dX9_outBy_22 ?_
      refine z_iload_n C 1 dX9_outBy_23 rfl rfl ?_
      refine z_isub C dX9_outBy_24 ?_
      subst h
      exact z_iret C rfl ⟨rfl, rfl⟩ dX9_outBy_25
    · replace h := zf c2 h
      refine z_bipush (v := 100) C dX9_outBy_14 (by decide) ?_
      refine z_goto (tgt := 25) C dX9_outBy_16 (by decide) ?_
      subst h
      exact z_iret C rfl ⟨rfl, rfl⟩ dX9_outBy_25
  · replace h := zf c1 h
    refine z_bipush (v := 100) C dX9_outBy_4 (by decide) ?_
    refine z_iload_n C 0 dX9_outBy_6 rfl rfl ?_
    refine z_iadd C dX9_outBy_7 ?_
    subst h
    exact z_iret C rfl ⟨rfl, rfl⟩ dX9_outBy_8
def f_X3_fitsSecondDigit (a1 : Int32) (a2 : Int32) (a3 : Int32) : Int32 := if a1 = a3 then if a2 = 48 then 1 else 0 else if a1 = 48 then if a2 < 49 then 0 else if 57 < a2 then 0 else 1 else if a2 < 48 then 0 else if 57 < a2 then 0 else 1
set_option maxHeartbeats 4000000 in
set_option maxRecDepth 100000 in
theorem c_X3_fitsSecondDigit (l : Launch) (G : zGT) (w0 : va_W) (a1 : Int32) (a2 : Int32) (a3 : Int32) : MG l yX3_fitsSecondDigit wsX3_fitsSecondDigit ({ frames := 0, cells := 0, slots := 0, locals := 0 }) G [.int a1, .int a2, .int a3] (w0) (va_Qi (fun r u => r = (f_X3_fitsSecondDigit a1 a2 a3) ∧ u = w0)) := by
  refine MG.of (cc := cX3_fitsSecondDigit) (maxL := 3) (ret := (some .boolean)) (own := RX3) (nm := "fitsSecondDigit") (by decide) rfl rfl rfl (Nat.le_of_ble_eq_true rfl) ?_
  intro p e s m args below meth c A C
  obtain ⟨res, h⟩ : ∃ z, f_X3_fitsSecondDigit a1 a2 a3 = z := ⟨_, rfl⟩
  rw [h]
  rw [f_X3_fitsSecondDigit] at h
  refine z_eq (lv2 := [(0, .int a1), (1, .int a2), (2, .int a3)]) rfl rfl rfl rfl ?_
  refine z_iload_n C 0 dX3_fitsSecondDigit_0 rfl rfl ?_
  refine z_iload_n C 2 dX3_fitsSecondDigit_1 rfl rfl ?_
  refine z_icmp_ne (tgt := 17) C dX3_fitsSecondDigit_2 (by decide) (fun c1 => ?_) (fun c1 => ?_)
  · replace h := zf c1 h
    refine z_iload_n C 1 dX3_fitsSecondDigit_17 rfl rfl ?_
    refine z_iload_n C 0 dX3_fitsSecondDigit_18 rfl rfl ?_
    refine z_bipush (v := 48) C dX3_fitsSecondDigit_19 (by decide) ?_
    refine z_icmp_ne (tgt := 29) C dX3_fitsSecondDigit_21 (by decide) (fun c2 => ?_) (fun c2 => ?_)
    · replace h := zf c2 h
      refine z_bipush (v := 48) C dX3_fitsSecondDigit_29 (by decide) ?_
      refine z_icmp_lt (tgt := 44) C dX3_fitsSecondDigit_31 (by decide) (fun c3 => ?_) (fun c3 => ?_)
      · replace h := zt c3 h
        refine z_iconst (v := 0) C dX3_fitsSecondDigit_44 (by decide) ?_
        subst h
        exact z_zret C rfl (Or.inl rfl) ⟨rfl, rfl⟩ dX3_fitsSecondDigit_45
      · replace h := zf c3 h
        refine z_iload_n C 1 dX3_fitsSecondDigit_34 rfl rfl ?_
        refine z_bipush (v := 57) C dX3_fitsSecondDigit_35 (by decide) ?_
        refine z_icmp_gt (tgt := 44) C dX3_fitsSecondDigit_37 (by decide) (fun c4 => ?_) (fun c4 => ?_)
        · replace h := zt c4 h
          refine z_iconst (v := 0) C dX3_fitsSecondDigit_44 (by decide) ?_
          subst h
          exact z_zret C rfl (Or.inl rfl) ⟨rfl, rfl⟩ dX3_fitsSecondDigit_45
        · replace h := zf c4 h
          refine z_iconst (v := 1) C dX3_fitsSecondDigit_40 (by decide) ?_
          refine z_goto (tgt := 45) C dX3_fitsSecondDigit_41 (by decide) ?_
          subst h
          exact z_zret C rfl (Or.inr rfl) ⟨rfl, rfl⟩ dX3_fitsSecondDigit_45
    · replace h := zt c2 h
      refine z_bipush (v := 49) C dX3_fitsSecondDigit_24 (by decide) ?_
      refine z_goto (tgt := 31) C dX3_fitsSecondDigit_26 (by decide) ?_
      refine z_icmp_lt (tgt := 44) C dX3_fitsSecondDigit_31 (by decide) (fun c5 => ?_) (fun c5 => ?_)
      · replace h := zt c5 h
        refine z_iconst (v := 0) C dX3_fitsSecondDigit_44 (by decide) ?_
        subst h
        exact z_zret C rfl (Or.inl rfl) ⟨rfl, rfl⟩ dX3_fitsSecondDigit_45
      · replace h := zf c5 h
        refine z_iload_n C 1 dX3_fitsSecondDigit_34 rfl rfl ?_
        refine z_bipush (v := 57) C dX3_fitsSecondDigit_35 (by decide) ?_
        refine z_icmp_gt (tgt := 44) C dX3_fitsSecondDigit_37 (by decide) (fun c6 => ?_) (fun c6 => ?_)
        · replace h := zt c6 h
          refine z_iconst (v := 0) C dX3_fitsSecondDigit_44 (by decide) ?_
          subst h
          exact z_zret C rfl (Or.inl rfl) ⟨rfl, rfl⟩ dX3_fitsSecondDigit_45
        · replace h := zf c6 h
          refine z_iconst (v := 1) C dX3_fitsSecondDigit_40 (by decide) ?_
          refine z_goto (tgt := 45) C dX3_fitsSecondDigit_41 (by decide) ?_
          subst h
          exact z_zret C rfl (Or.inr rfl) ⟨rfl, rfl⟩ dX3_fitsSecondDigit_45
  · replace h := zt c1 h
    refine z_iload_n C 1 dX3_fitsSecondDigit_5 rfl rfl ?_
    refine z_bipush (v := 48) C dX3_fitsSecondDigit_6 (by decide) ?_
    refine z_icmp_ne (tgt := 15) C dX3_fitsSecondDigit_8 (by decide) (fun c7 => ?_) (fun c7 => ?_)
    · replace h := zf c7 h
      refine z_iconst (v := 0) C dX3_fitsSecondDigit_15 (by decide) ?_
      subst h
      exact z_zret C rfl (Or.inl rfl) ⟨rfl, rfl⟩ dX3_fitsSecondDigit_16
    · replace h := zt c7 h
      refine z_iconst (v := 1) C dX3_fitsSecondDigit_11 (by decide) ?_
      refine z_goto (tgt := 16) C dX3_fitsSecondDigit_12 (by decide) ?_
      subst h
      exact z_zret C rfl (Or.inr rfl) ⟨rfl, rfl⟩ dX3_fitsSecondDigit_16
theorem bf_X3_fitsSecondDigit (a1 : Int32) (a2 : Int32) (a3 : Int32) : f_X3_fitsSecondDigit a1 a2 a3 = 0 ∨ f_X3_fitsSecondDigit a1 a2 a3 = 1 := by
  unfold f_X3_fitsSecondDigit
  repeat' split
  all_goals first | exact Or.inl rfl | exact Or.inr rfl
def f_X3_kindOf (a1 : Int32) : Int32 := if a1 = 98 then 4 else if a1 = 101 then 1 else if a1 = 112 then 0 else if a1 = 114 then 2 else if a1 = 115 then 3 else (-1)
set_option maxHeartbeats 4000000 in
set_option maxRecDepth 100000 in
theorem c_X3_kindOf (l : Launch) (G : zGT) (w0 : va_W) (a1 : Int32) : MG l yX3_kindOf wsX3_kindOf ({ frames := 0, cells := 0, slots := 0, locals := 0 }) G [.int a1] (w0) (va_Qi (fun r u => r = (f_X3_kindOf a1) ∧ u = w0)) := by
  refine MG.of (cc := cX3_kindOf) (maxL := 1) (ret := (some .int)) (own := RX3) (nm := "kindOf") (by decide) rfl rfl rfl (Nat.le_of_ble_eq_true rfl) ?_
  intro p e s m args below meth c A C
  obtain ⟨res, h⟩ : ∃ z, f_X3_kindOf a1 = z := ⟨_, rfl⟩
  rw [h]
  rw [f_X3_kindOf] at h
  refine z_eq (lv2 := [(0, .int a1)]) rfl rfl rfl rfl ?_
  refine z_iload_n C 0 dX3_kindOf_0 rfl rfl ?_
  by_cases c1 : a1 = 98
  · replace h := zt c1 h
    refine z_lookup (off := 59) (tgt := 60) C dX3_kindOf_1 (by decide) (by rw [c1]; rfl) (by decide) ?_
    refine z_iconst (v := 4) C dX3_kindOf_60 (by decide) ?_
    subst h
    exact z_iret C rfl ⟨rfl, rfl⟩ dX3_kindOf_61
  replace h := zf c1 h
  by_cases c2 : a1 = 101
  · replace h := zt c2 h
    refine z_lookup (off := 53) (tgt := 54) C dX3_kindOf_1 (by decide) (by rw [c2]; rfl) (by decide) ?_
    refine z_iconst (v := 1) C dX3_kindOf_54 (by decide) ?_
    subst h
    exact z_iret C rfl ⟨rfl, rfl⟩ dX3_kindOf_55
  replace h := zf c2 h
  by_cases c3 : a1 = 112
  · replace h := zt c3 h
    refine z_lookup (off := 51) (tgt := 52) C dX3_kindOf_1 (by decide) (by rw [c3]; rfl) (by decide) ?_
    refine z_iconst (v := 0) C dX3_kindOf_52 (by decide) ?_
    subst h
    exact z_iret C rfl ⟨rfl, rfl⟩ dX3_kindOf_53
  replace h := zf c3 h
  by_cases c4 : a1 = 114
  · replace h := zt c4 h
    refine z_lookup (off := 55) (tgt := 56) C dX3_kindOf_1 (by decide) (by rw [c4]; rfl) (by decide) ?_
    refine z_iconst (v := 2) C dX3_kindOf_56 (by decide) ?_
    subst h
    exact z_iret C rfl ⟨rfl, rfl⟩ dX3_kindOf_57
  replace h := zf c4 h
  by_cases c5 : a1 = 115
  · replace h := zt c5 h
    refine z_lookup (off := 57) (tgt := 58) C dX3_kindOf_1 (by decide) (by rw [c5]; rfl) (by decide) ?_
    refine z_iconst (v := 3) C dX3_kindOf_58 (by decide) ?_
    subst h
    exact z_iret C rfl ⟨rfl, rfl⟩ dX3_kindOf_59
  replace h := zf c5 h
  refine z_lookup (off := 61) (tgt := 62) C dX3_kindOf_1 (by decide) (by have e0 := ne_toInt (n := 98) c1 rfl; have e1 := ne_toInt (n := 101) c2 rfl; have e2 := ne_toInt (n := 112) c3 rfl; have e3 := ne_toInt (n := 114) c4 rfl; have e4 := ne_toInt (n := 115) c5 rfl; simp [Op.lookupswitch.offset, e0, Ne.symm e0, e1, Ne.symm e1, e2, Ne.symm e2, e3, Ne.symm e3, e4, Ne.symm e4]) (by decide) ?_
  refine z_iconst (v := (-1)) C dX3_kindOf_62 (by decide) ?_
  subst h
  exact z_iret C rfl ⟨rfl, rfl⟩ dX3_kindOf_63
def f_J6_bitCount_0f7a4 (a1 : Int32) : Int32 := ((((((((a1 - (((a1.toUInt32 >>> ((1 : Int32).toUInt32 &&& Int32.toUInt32 31)).toInt32) &&& 1431655765)) &&& 858993459) + ((((a1 - (((a1.toUInt32 >>> ((1 : Int32).toUInt32 &&& Int32.toUInt32 31)).toInt32) &&& 1431655765)).toUInt32 >>> ((2 : Int32).toUInt32 &&& Int32.toUInt32 31)).toInt32) &&& 858993459)) + (((((a1 - (((a1.toUInt32 >>> ((1 : Int32).toUInt32 &&& Int32.toUInt32 31)).toInt32) &&& 1431655765)) &&& 858993459) + ((((a1 - (((a1.toUInt32 >>> ((1 : Int32).toUInt32 &&& Int32.toUInt32 31)).toInt32) &&& 1431655765)).toUInt32 >>> ((2 : Int32).toUInt32 &&& Int32.toUInt32 31)).toInt32) &&& 858993459)).toUInt32 >>> ((4 : Int32).toUInt32 &&& Int32.toUInt32 31)).toInt32)) &&& 252645135) + (((((((a1 - (((a1.toUInt32 >>> ((1 : Int32).toUInt32 &&& Int32.toUInt32 31)).toInt32) &&& 1431655765)) &&& 858993459) + ((((a1 - (((a1.toUInt32 >>> ((1 : Int32).toUInt32 &&& Int32.toUInt32 31)).toInt32) &&& 1431655765)).toUInt32 >>> ((2 : Int32).toUInt32 &&& Int32.toUInt32 31)).toInt32) &&& 858993459)) + (((((a1 - (((a1.toUInt32 >>> ((1 : Int32).toUInt32 &&& Int32.toUInt32 31)).toInt32) &&& 1431655765)) &&& 858993459) + ((((a1 - (((a1.toUInt32 >>> ((1 : Int32).toUInt32 &&& Int32.toUInt32 31)).toInt32) &&& 1431655765)).toUInt32 >>> ((2 : Int32).toUInt32 &&& Int32.toUInt32 31)).toInt32) &&& 858993459)).toUInt32 >>> ((4 : Int32).toUInt32 &&& Int32.toUInt32 31)).toInt32)) &&& 252645135).toUInt32 >>> ((8 : Int32).toUInt32 &&& Int32.toUInt32 31)).toInt32)) + ((((((((a1 - (((a1.toUInt32 >>> ((1 : Int32).toUInt32 &&& Int32.toUInt32 31)).toInt32) &&& 1431655765)) &&& 858993459) + ((((a1 - (((a1.toUInt32 >>> ((1 : Int32).toUInt32 &&& Int32.toUInt32 31)).toInt32) &&& 1431655765)).toUInt32 >>> ((2 : Int32).toUInt32 &&& Int32.toUInt32 31)).toInt32) &&& 858993459)) + (((((a1 - (((a1.toUInt32 >>> ((1 : Int32).toUInt32 &&& Int32.toUInt32 31)).toInt32) &&& 1431655765)) &&& 858993459) + ((((a1 - (((a1.toUInt32 >>> ((1 : Int32).toUInt32 &&& Int32.toUInt32 31)).toInt32) &&& 1431655765)).toUInt32 >>> ((2 : Int32).toUInt32 &&& Int32.toUInt32 31)).toInt32) &&& 858993459)).toUInt32 >>> ((4 : Int32).toUInt32 &&& Int32.toUInt32 31)).toInt32)) &&& 252645135) + (((((((a1 - (((a1.toUInt32 >>> ((1 : Int32).toUInt32 &&& Int32.toUInt32 31)).toInt32) &&& 1431655765)) &&& 858993459) + ((((a1 - (((a1.toUInt32 >>> ((1 : Int32).toUInt32 &&& Int32.toUInt32 31)).toInt32) &&& 1431655765)).toUInt32 >>> ((2 : Int32).toUInt32 &&& Int32.toUInt32 31)).toInt32) &&& 858993459)) + (((((a1 - (((a1.toUInt32 >>> ((1 : Int32).toUInt32 &&& Int32.toUInt32 31)).toInt32) &&& 1431655765)) &&& 858993459) + ((((a1 - (((a1.toUInt32 >>> ((1 : Int32).toUInt32 &&& Int32.toUInt32 31)).toInt32) &&& 1431655765)).toUInt32 >>> ((2 : Int32).toUInt32 &&& Int32.toUInt32 31)).toInt32) &&& 858993459)).toUInt32 >>> ((4 : Int32).toUInt32 &&& Int32.toUInt32 31)).toInt32)) &&& 252645135).toUInt32 >>> ((8 : Int32).toUInt32 &&& Int32.toUInt32 31)).toInt32)).toUInt32 >>> ((16 : Int32).toUInt32 &&& Int32.toUInt32 31)).toInt32)) &&& 63)
set_option maxHeartbeats 4000000 in
set_option maxRecDepth 100000 in
theorem c_J6_bitCount_0f7a4 (l : Launch) (G : zGT) (w0 : va_W) (a1 : Int32) : MG l yJ6_bitCount_0f7a4 wsJ6_bitCount_0f7a4 ({ frames := 0, cells := 0, slots := 0, locals := 0 }) G [.int a1] (w0) (va_Qi (fun r u => r = (f_J6_bitCount_0f7a4 a1) ∧ u = w0)) := by
  refine MG.of (cc := cJ6_bitCount_0f7a4) (maxL := 1) (ret := (some .int)) (own := RJ6) (nm := "bitCount") (by decide) rfl rfl rfl (Nat.le_of_ble_eq_true rfl) ?_
  intro p e s m args below meth c A C
  obtain ⟨res, h⟩ : ∃ z, f_J6_bitCount_0f7a4 a1 = z := ⟨_, rfl⟩
  rw [h]
  rw [f_J6_bitCount_0f7a4] at h
  refine z_eq (lv2 := [(0, .int a1)]) rfl rfl rfl rfl ?_
  refine z_iload_n C 0 dJ6_bitCount_0f7a4_0 rfl rfl ?_
  refine z_iload_n C 0 dJ6_bitCount_0f7a4_1 rfl rfl ?_
  refine z_iconst (v := 1) C dJ6_bitCount_0f7a4_2 (by decide) ?_
  refine z_iushr C dJ6_bitCount_0f7a4_3 ?_
  refine z_ldcw (v := 1431655765) C (List.mem_of_getElem? (i := 1) rfl) dJ6_bitCount_0f7a4_4 ?_
  refine z_iand C dJ6_bitCount_0f7a4_7 ?_
  refine z_isub C dJ6_bitCount_0f7a4_8 ?_
  refine z_istore_n (lv2 := [(0, .int (a1 - (((a1.toUInt32 >>> ((1 : Int32).toUInt32 &&& Int32.toUInt32 31)).toInt32) &&& 1431655765)))]) C dJ6_bitCount_0f7a4_9 rfl (by decide) rfl ?_
  refine z_iload_n C 0 dJ6_bitCount_0f7a4_10 rfl rfl ?_
  refine z_ldcw (v := 858993459) C (List.mem_of_getElem? (i := 2) rfl) dJ6_bitCount_0f7a4_11 ?_
  refine z_iand C dJ6_bitCount_0f7a4_14 ?_
  refine z_iload_n C 0 dJ6_bitCount_0f7a4_15 rfl rfl ?_
  refine z_iconst (v := 2) C dJ6_bitCount_0f7a4_16 (by decide) ?_
  refine z_iushr C dJ6_bitCount_0f7a4_17 ?_
  refine z_ldcw (v := 858993459) C (List.mem_of_getElem? (i := 2) rfl) dJ6_bitCount_0f7a4_18 ?_
  refine z_iand C dJ6_bitCount_0f7a4_21 ?_
  refine z_iadd C dJ6_bitCount_0f7a4_22 ?_
  refine z_istore_n (lv2 := [(0, .int (((a1 - (((a1.toUInt32 >>> ((1 : Int32).toUInt32 &&& Int32.toUInt32 31)).toInt32) &&& 1431655765)) &&& 858993459) + ((((a1 - (((a1.toUInt32 >>> ((1 : Int32).toUInt32 &&& Int32.toUInt32 31)).toInt32) &&& 1431655765)).toUInt32 >>> ((2 : Int32).toUInt32 &&& Int32.toUInt32 31)).toInt32) &&& 858993459)))]) C dJ6_bitCount_0f7a4_23 rfl (by decide) rfl ?_
  refine z_iload_n C 0 dJ6_bitCount_0f7a4_24 rfl rfl ?_
  refine z_iload_n C 0 dJ6_bitCount_0f7a4_25 rfl rfl ?_
  refine z_iconst (v := 4) C dJ6_bitCount_0f7a4_26 (by decide) ?_
  refine z_iushr C dJ6_bitCount_0f7a4_27 ?_
  refine z_iadd C dJ6_bitCount_0f7a4_28 ?_
  refine z_ldcw (v := 252645135) C (List.mem_of_getElem? (i := 3) rfl) dJ6_bitCount_0f7a4_29 ?_
  refine z_iand C dJ6_bitCount_0f7a4_32 ?_
  refine z_istore_n (lv2 := [(0, .int (((((a1 - (((a1.toUInt32 >>> ((1 : Int32).toUInt32 &&& Int32.toUInt32 31)).toInt32) &&& 1431655765)) &&& 858993459) + ((((a1 - (((a1.toUInt32 >>> ((1 : Int32).toUInt32 &&& Int32.toUInt32 31)).toInt32) &&& 1431655765)).toUInt32 >>> ((2 : Int32).toUInt32 &&& Int32.toUInt32 31)).toInt32) &&& 858993459)) + (((((a1 - (((a1.toUInt32 >>> ((1 : Int32).toUInt32 &&& Int32.toUInt32 31)).toInt32) &&& 1431655765)) &&& 858993459) + ((((a1 - (((a1.toUInt32 >>> ((1 : Int32).toUInt32 &&& Int32.toUInt32 31)).toInt32) &&& 1431655765)).toUInt32 >>> ((2 : Int32).toUInt32 &&& Int32.toUInt32 31)).toInt32) &&& 858993459)).toUInt32 >>> ((4 : Int32).toUInt32 &&& Int32.toUInt32 31)).toInt32)) &&& 252645135))]) C dJ6_bitCount_0f7a4_33 rfl (by decide) rfl ?_
  refine z_iload_n C 0 dJ6_bitCount_0f7a4_34 rfl rfl ?_
  refine z_iload_n C 0 dJ6_bitCount_0f7a4_35 rfl rfl ?_
  refine z_bipush (v := 8) C dJ6_bitCount_0f7a4_36 (by decide) ?_
  refine z_iushr C dJ6_bitCount_0f7a4_38 ?_
  refine z_iadd C dJ6_bitCount_0f7a4_39 ?_
  refine z_istore_n (lv2 := [(0, .int ((((((a1 - (((a1.toUInt32 >>> ((1 : Int32).toUInt32 &&& Int32.toUInt32 31)).toInt32) &&& 1431655765)) &&& 858993459) + ((((a1 - (((a1.toUInt32 >>> ((1 : Int32).toUInt32 &&& Int32.toUInt32 31)).toInt32) &&& 1431655765)).toUInt32 >>> ((2 : Int32).toUInt32 &&& Int32.toUInt32 31)).toInt32) &&& 858993459)) + (((((a1 - (((a1.toUInt32 >>> ((1 : Int32).toUInt32 &&& Int32.toUInt32 31)).toInt32) &&& 1431655765)) &&& 858993459) + ((((a1 - (((a1.toUInt32 >>> ((1 : Int32).toUInt32 &&& Int32.toUInt32 31)).toInt32) &&& 1431655765)).toUInt32 >>> ((2 : Int32).toUInt32 &&& Int32.toUInt32 31)).toInt32) &&& 858993459)).toUInt32 >>> ((4 : Int32).toUInt32 &&& Int32.toUInt32 31)).toInt32)) &&& 252645135) + (((((((a1 - (((a1.toUInt32 >>> ((1 : Int32).toUInt32 &&& Int32.toUInt32 31)).toInt32) &&& 1431655765)) &&& 858993459) + ((((a1 - (((a1.toUInt32 >>> ((1 : Int32).toUInt32 &&& Int32.toUInt32 31)).toInt32) &&& 1431655765)).toUInt32 >>> ((2 : Int32).toUInt32 &&& Int32.toUInt32 31)).toInt32) &&& 858993459)) + (((((a1 - (((a1.toUInt32 >>> ((1 : Int32).toUInt32 &&& Int32.toUInt32 31)).toInt32) &&& 1431655765)) &&& 858993459) + ((((a1 - (((a1.toUInt32 >>> ((1 : Int32).toUInt32 &&& Int32.toUInt32 31)).toInt32) &&& 1431655765)).toUInt32 >>> ((2 : Int32).toUInt32 &&& Int32.toUInt32 31)).toInt32) &&& 858993459)).toUInt32 >>> ((4 : Int32).toUInt32 &&& Int32.toUInt32 31)).toInt32)) &&& 252645135).toUInt32 >>> ((8 : Int32).toUInt32 &&& Int32.toUInt32 31)).toInt32)))]) C dJ6_bitCount_0f7a4_40 rfl (by decide) rfl ?_
  refine z_iload_n C 0 dJ6_bitCount_0f7a4_41 rfl rfl ?_
  refine z_iload_n C 0 dJ6_bitCount_0f7a4_42 rfl rfl ?_
  refine z_bipush (v := 16) C dJ6_bitCount_0f7a4_43 (by decide) ?_
  refine z_iushr C dJ6_bitCount_0f7a4_45 ?_
  refine z_iadd C dJ6_bitCount_0f7a4_46 ?_
  refine z_istore_n (lv2 := [(0, .int (((((((a1 - (((a1.toUInt32 >>> ((1 : Int32).toUInt32 &&& Int32.toUInt32 31)).toInt32) &&& 1431655765)) &&& 858993459) + ((((a1 - (((a1.toUInt32 >>> ((1 : Int32).toUInt32 &&& Int32.toUInt32 31)).toInt32) &&& 1431655765)).toUInt32 >>> ((2 : Int32).toUInt32 &&& Int32.toUInt32 31)).toInt32) &&& 858993459)) + (((((a1 - (((a1.toUInt32 >>> ((1 : Int32).toUInt32 &&& Int32.toUInt32 31)).toInt32) &&& 1431655765)) &&& 858993459) + ((((a1 - (((a1.toUInt32 >>> ((1 : Int32).toUInt32 &&& Int32.toUInt32 31)).toInt32) &&& 1431655765)).toUInt32 >>> ((2 : Int32).toUInt32 &&& Int32.toUInt32 31)).toInt32) &&& 858993459)).toUInt32 >>> ((4 : Int32).toUInt32 &&& Int32.toUInt32 31)).toInt32)) &&& 252645135) + (((((((a1 - (((a1.toUInt32 >>> ((1 : Int32).toUInt32 &&& Int32.toUInt32 31)).toInt32) &&& 1431655765)) &&& 858993459) + ((((a1 - (((a1.toUInt32 >>> ((1 : Int32).toUInt32 &&& Int32.toUInt32 31)).toInt32) &&& 1431655765)).toUInt32 >>> ((2 : Int32).toUInt32 &&& Int32.toUInt32 31)).toInt32) &&& 858993459)) + (((((a1 - (((a1.toUInt32 >>> ((1 : Int32).toUInt32 &&& Int32.toUInt32 31)).toInt32) &&& 1431655765)) &&& 858993459) + ((((a1 - (((a1.toUInt32 >>> ((1 : Int32).toUInt32 &&& Int32.toUInt32 31)).toInt32) &&& 1431655765)).toUInt32 >>> ((2 : Int32).toUInt32 &&& Int32.toUInt32 31)).toInt32) &&& 858993459)).toUInt32 >>> ((4 : Int32).toUInt32 &&& Int32.toUInt32 31)).toInt32)) &&& 252645135).toUInt32 >>> ((8 : Int32).toUInt32 &&& Int32.toUInt32 31)).toInt32)) + ((((((((a1 - (((a1.toUInt32 >>> ((1 : Int32).toUInt32 &&& Int32.toUInt32 31)).toInt32) &&& 1431655765)) &&& 858993459) + ((((a1 - (((a1.toUInt32 >>> ((1 : Int32).toUInt32 &&& Int32.toUInt32 31)).toInt32) &&& 1431655765)).toUInt32 >>> ((2 : Int32).toUInt32 &&& Int32.toUInt32 31)).toInt32) &&& 858993459)) + (((((a1 - (((a1.toUInt32 >>> ((1 : Int32).toUInt32 &&& Int32.toUInt32 31)).toInt32) &&& 1431655765)) &&& 858993459) + ((((a1 - (((a1.toUInt32 >>> ((1 : Int32).toUInt32 &&& Int32.toUInt32 31)).toInt32) &&& 1431655765)).toUInt32 >>> ((2 : Int32).toUInt32 &&& Int32.toUInt32 31)).toInt32) &&& 858993459)).toUInt32 >>> ((4 : Int32).toUInt32 &&& Int32.toUInt32 31)).toInt32)) &&& 252645135) + (((((((a1 - (((a1.toUInt32 >>> ((1 : Int32).toUInt32 &&& Int32.toUInt32 31)).toInt32) &&& 1431655765)) &&& 858993459) + ((((a1 - (((a1.toUInt32 >>> ((1 : Int32).toUInt32 &&& Int32.toUInt32 31)).toInt32) &&& 1431655765)).toUInt32 >>> ((2 : Int32).toUInt32 &&& Int32.toUInt32 31)).toInt32) &&& 858993459)) + (((((a1 - (((a1.toUInt32 >>> ((1 : Int32).toUInt32 &&& Int32.toUInt32 31)).toInt32) &&& 1431655765)) &&& 858993459) + ((((a1 - (((a1.toUInt32 >>> ((1 : Int32).toUInt32 &&& Int32.toUInt32 31)).toInt32) &&& 1431655765)).toUInt32 >>> ((2 : Int32).toUInt32 &&& Int32.toUInt32 31)).toInt32) &&& 858993459)).toUInt32 >>> ((4 : Int32).toUInt32 &&& Int32.toUInt32 31)).toInt32)) &&& 252645135).toUInt32 >>> ((8 : Int32).toUInt32 &&& Int32.toUInt32 31)).toInt32)).toUInt32 >>> ((16 : Int32).toUInt32 &&& Int32.toUInt32 31)).toInt32)))]) C dJ6_bitCount_0f7a4_47 rfl (by decide) rfl ?_
  refine z_iload_n C 0 dJ6_bitCount_0f7a4_48 rfl rfl ?_
  refine z_bipush (v := 63) C dJ6_bitCount_0f7a4_49 (by decide) ?_
  refine z_iand C dJ6_bitCount_0f7a4_51 ?_
  subst h
  exact z_iret C rfl ⟨rfl, rfl⟩ dJ6_bitCount_0f7a4_52
def f_X4_canTake (a1 : Int32) (a2 : Int32) (a3 : Int32) : Int32 := if (a1 &&& (a2 ^^^ (-1))) = 0 then if a3 < (f_J6_bitCount_0f7a4 a1) then 0 else 1 else 0
set_option maxHeartbeats 4000000 in
set_option maxRecDepth 100000 in
theorem c_X4_canTake (l : Launch) (G : zGT) (w0 : va_W) (a1 : Int32) (a2 : Int32) (a3 : Int32) : MG l yX4_canTake wsX4_canTake ({ frames := 1, cells := 0, slots := 0, locals := 20 }) G [.int a1, .int a2, .int a3] (w0) (va_Qi (fun r u => r = (f_X4_canTake a1 a2 a3) ∧ u = w0)) := by
  refine MG.of (cc := cX4_canTake) (maxL := 3) (ret := (some .boolean)) (own := RX4) (nm := "canTake") (by decide) rfl rfl rfl (Nat.le_of_ble_eq_true rfl) ?_
  intro p e s m args below meth c A C
  obtain ⟨res, h⟩ : ∃ z, f_X4_canTake a1 a2 a3 = z := ⟨_, rfl⟩
  rw [h]
  rw [f_X4_canTake] at h
  refine z_eq (lv2 := [(0, .int a1), (1, .int a2), (2, .int a3)]) rfl rfl rfl rfl ?_
  refine z_iload_n C 0 dX4_canTake_0 rfl rfl ?_
  refine z_iload_n C 1 dX4_canTake_1 rfl rfl ?_
  refine z_iconst (v := (-1)) C dX4_canTake_2 (by decide) ?_
  refine z_ixor C dX4_canTake_3 ?_
  refine z_iand C dX4_canTake_4 ?_
  refine z_if_ne (tgt := 20) C dX4_canTake_5 (by decide) (fun c1 => ?_) (fun c1 => ?_)
  · replace h := zf c1 h
    refine z_iconst (v := 0) C dX4_canTake_20 (by decide) ?_
    subst h
    exact z_zret C rfl (Or.inl rfl) ⟨rfl, rfl⟩ dX4_canTake_21
  · replace h := zt c1 h
    refine z_iload_n C 0 dX4_canTake_8 rfl rfl ?_
    refine z_goti1 C (z_runS C (c_J6_bitCount_0f7a4 l G (w0) a1) (va_cwS 1 C.hts gX4_canTake_J6_bitCount_0f7a4 rfl rfl rfl (by decide +kernel) ⟨Nat.le_of_ble_eq_true rfl, Nat.le_of_ble_eq_true rfl⟩) rfl rfl (Nat.le_of_ble_eq_true rfl) dX4_canTake_9 ⟨Nat.le_of_ble_eq_true rfl, Nat.le_of_ble_eq_true rfl⟩) rfl rfl ?_
    refine z_iload_n C 2 dX4_canTake_12 rfl rfl ?_
    refine z_icmp_gt (tgt := 20) C dX4_canTake_13 (by decide) (fun c2 => ?_) (fun c2 => ?_)
    · replace h := zt c2 h
      refine z_iconst (v := 0) C dX4_canTake_20 (by decide) ?_
      subst h
      exact z_zret C rfl (Or.inl rfl) ⟨rfl, rfl⟩ dX4_canTake_21
    · replace h := zf c2 h
      refine z_iconst (v := 1) C dX4_canTake_16 (by decide) ?_
      refine z_goto (tgt := 21) C dX4_canTake_17 (by decide) ?_
      subst h
      exact z_zret C rfl (Or.inr rfl) ⟨rfl, rfl⟩ dX4_canTake_21
theorem bf_X4_canTake (a1 : Int32) (a2 : Int32) (a3 : Int32) : f_X4_canTake a1 a2 a3 = 0 ∨ f_X4_canTake a1 a2 a3 = 1 := by
  unfold f_X4_canTake
  repeat' split
  all_goals first | exact Or.inl rfl | exact Or.inr rfl
def f_X4_isSet (a1 : Int32) : Int32 := if a1 < 0 then 0 else if 16 ≤ a1 then 0 else 1
set_option maxHeartbeats 4000000 in
set_option maxRecDepth 100000 in
theorem c_X4_isSet (l : Launch) (G : zGT) (w0 : va_W) (a1 : Int32) : MG l yX4_isSet wsX4_isSet ({ frames := 0, cells := 0, slots := 0, locals := 0 }) G [.int a1] (w0) (va_Qi (fun r u => r = (f_X4_isSet a1) ∧ u = w0)) := by
  refine MG.of (cc := cX4_isSet) (maxL := 1) (ret := (some .boolean)) (own := RX4) (nm := "isSet") (by decide) rfl rfl rfl (Nat.le_of_ble_eq_true rfl) ?_
  intro p e s m args below meth c A C
  obtain ⟨res, h⟩ : ∃ z, f_X4_isSet a1 = z := ⟨_, rfl⟩
  rw [h]
  rw [f_X4_isSet] at h
  refine z_eq (lv2 := [(0, .int a1)]) rfl rfl rfl rfl ?_
  refine z_iload_n C 0 dX4_isSet_0 rfl rfl ?_
  refine z_if_lt (tgt := 14) C dX4_isSet_1 (by decide) (fun c1 => ?_) (fun c1 => ?_)
  · replace h := zt c1 h
    refine z_iconst (v := 0) C dX4_isSet_14 (by decide) ?_
    subst h
    exact z_zret C rfl (Or.inl rfl) ⟨rfl, rfl⟩ dX4_isSet_15
  · replace h := zf c1 h
    refine z_iload_n C 0 dX4_isSet_4 rfl rfl ?_
    refine z_bipush (v := 16) C dX4_isSet_5 (by decide) ?_
    refine z_icmp_ge (tgt := 14) C dX4_isSet_7 (by decide) (fun c2 => ?_) (fun c2 => ?_)
    · replace h := zt c2 h
      refine z_iconst (v := 0) C dX4_isSet_14 (by decide) ?_
      subst h
      exact z_zret C rfl (Or.inl rfl) ⟨rfl, rfl⟩ dX4_isSet_15
    · replace h := zf c2 h
      refine z_iconst (v := 1) C dX4_isSet_10 (by decide) ?_
      refine z_goto (tgt := 15) C dX4_isSet_11 (by decide) ?_
      subst h
      exact z_zret C rfl (Or.inr rfl) ⟨rfl, rfl⟩ dX4_isSet_15
theorem bf_X4_isSet (a1 : Int32) : f_X4_isSet a1 = 0 ∨ f_X4_isSet a1 = 1 := by
  unfold f_X4_isSet
  repeat' split
  all_goals first | exact Or.inl rfl | exact Or.inr rfl
def f_X4_isInRow (a1 : Int32) (a2 : Int32) : Int32 := if a1 < 0 then 0 else if 120 < a1 then 0 else if (f_X4_isSet a2) = 0 then 0 else 1
set_option maxHeartbeats 4000000 in
set_option maxRecDepth 100000 in
theorem c_X4_isInRow (l : Launch) (G : zGT) (w0 : va_W) (a1 : Int32) (a2 : Int32) : MG l yX4_isInRow wsX4_isInRow ({ frames := 1, cells := 0, slots := 0, locals := 20 }) G [.int a1, .int a2] (w0) (va_Qi (fun r u => r = (f_X4_isInRow a1 a2) ∧ u = w0)) := by
  refine MG.of (cc := cX4_isInRow) (maxL := 2) (ret := (some .boolean)) (own := RX4) (nm := "isInRow") (by decide) rfl rfl rfl (Nat.le_of_ble_eq_true rfl) ?_
  intro p e s m args below meth c A C
  obtain ⟨res, h⟩ : ∃ z, f_X4_isInRow a1 a2 = z := ⟨_, rfl⟩
  rw [h]
  rw [f_X4_isInRow] at h
  refine z_eq (lv2 := [(0, .int a1), (1, .int a2)]) rfl rfl rfl rfl ?_
  refine z_iload_n C 0 dX4_isInRow_0 rfl rfl ?_
  refine z_if_lt (tgt := 21) C dX4_isInRow_1 (by decide) (fun c1 => ?_) (fun c1 => ?_)
  · replace h := zt c1 h
    refine z_iconst (v := 0) C dX4_isInRow_21 (by decide) ?_
    subst h
    exact z_zret C rfl (Or.inl rfl) ⟨rfl, rfl⟩ dX4_isInRow_22
  · replace h := zf c1 h
    refine z_iload_n C 0 dX4_isInRow_4 rfl rfl ?_
    refine z_bipush (v := 120) C dX4_isInRow_5 (by decide) ?_
    refine z_icmp_gt (tgt := 21) C dX4_isInRow_7 (by decide) (fun c2 => ?_) (fun c2 => ?_)
    · replace h := zt c2 h
      refine z_iconst (v := 0) C dX4_isInRow_21 (by decide) ?_
      subst h
      exact z_zret C rfl (Or.inl rfl) ⟨rfl, rfl⟩ dX4_isInRow_22
    · replace h := zf c2 h
      refine z_iload_n C 1 dX4_isInRow_10 rfl rfl ?_
      refine z_goti1 C (z_runS C (c_X4_isSet l G (w0) a2) (va_cwS 1 C.hts gX4_isInRow_X4_isSet rfl rfl rfl (by decide +kernel) ⟨Nat.le_of_ble_eq_true rfl, Nat.le_of_ble_eq_true rfl⟩) rfl rfl (Nat.le_of_ble_eq_true rfl) dX4_isInRow_11 ⟨Nat.le_of_ble_eq_true rfl, Nat.le_of_ble_eq_true rfl⟩) rfl rfl ?_
      refine z_if_eq (tgt := 21) C dX4_isInRow_14 (by decide) (fun c3 => ?_) (fun c3 => ?_)
      · replace h := zt c3 h
        refine z_iconst (v := 0) C dX4_isInRow_21 (by decide) ?_
        subst h
        exact z_zret C rfl (Or.inl rfl) ⟨rfl, rfl⟩ dX4_isInRow_22
      · replace h := zf c3 h
        refine z_iconst (v := 1) C dX4_isInRow_17 (by decide) ?_
        refine z_goto (tgt := 22) C dX4_isInRow_18 (by decide) ?_
        subst h
        exact z_zret C rfl (Or.inr rfl) ⟨rfl, rfl⟩ dX4_isInRow_22
theorem bf_X4_isInRow (a1 : Int32) (a2 : Int32) : f_X4_isInRow a1 a2 = 0 ∨ f_X4_isInRow a1 a2 = 1 := by
  unfold f_X4_isInRow
  repeat' split
  all_goals first | exact Or.inl rfl | exact Or.inr rfl | exact bf_X4_isSet ..
def f_X3_write (P : XP) (S : XS) (a1 : Int32) : Option (Int32 × XS) := if (xI S 20) < 0 then some (0, S) else if (xI S 20) < 21 then gd (xI S 20) 21 (some (1, xsI (xsA S 2 (xI S 20).toNatClampNeg a1) 20 ((xI (xsA S 2 (xI S 20).toNatClampNeg a1) 20) + 1))) else some (0, S)
set_option maxHeartbeats 4000000 in
set_option maxRecDepth 100000 in
theorem c_X3_write (l : Launch) (G : zGT) (q : Nat → Nat) (P : XP) (S : XS) (X : va_W) (a1 : Int32) {res : Int32 × XS} (h : f_X3_write P S a1 = some res) : MG l yX3_write wsX3_write ({ frames := 0, cells := 0, slots := 0, locals := 0 }) G [.ref (q 1), .int a1] (XW G q P S ++ X) (va_Qi (fun r u => r = res.1 ∧ u = XW G q P res.2 ++ X)) := by
  have hi3 : ∀ w ∈ u_ws RX3 TX3 2, w ∈ wsX3_write := fun _ h => List.mem_cons_of_mem _ (List.mem_append_right _ h)
  refine MG.of (cc := cX3_write) (maxL := 2) (ret := (some .boolean)) (own := RX3) (nm := "write") (by decide) rfl rfl rfl (Nat.le_of_ble_eq_true rfl) ?_
  intro p e s m args below meth c A C
  rw [f_X3_write] at h
  refine z_eq (lv2 := [(0, .ref (q 1)), (1, .int a1)]) rfl rfl rfl rfl ?_
  refine z_aload_n C 0 dX3_write_0 rfl rfl ?_
  refine xg_P1 C hi3 (List.mem_of_getElem? (i := 1) rfl) dX3_write_1 ?_
  refine z_if_lt (tgt := 19) C dX3_write_4 (by decide) (fun c1 => ?_) (fun c1 => ?_)
  · replace h := zt c1 h
    refine z_iconst (v := 0) C dX3_write_19 (by decide) ?_
    injection h with h
    subst h
    exact z_zret C rfl (Or.inl rfl) ⟨rfl, rfl⟩ dX3_write_20
  · replace h := zf c1 h
    refine z_aload_n C 0 dX3_write_7 rfl rfl ?_
    refine xg_P1 C hi3 (List.mem_of_getElem? (i := 1) rfl) dX3_write_8 ?_
    refine z_aload_n C 0 dX3_write_11 rfl rfl ?_
    refine xg_P0 C hi3 (List.mem_of_getElem? (i := 2) rfl) dX3_write_12 ?_
    refine xn_2 C dX3_write_15 ?_
    refine z_icmp_lt (tgt := 21) C dX3_write_16 (by decide) (fun c2 => ?_) (fun c2 => ?_)
    · replace h := zt c2 h
      refine z_aload_n C 0 dX3_write_21 rfl rfl ?_
      refine xg_P0 C hi3 (List.mem_of_getElem? (i := 2) rfl) dX3_write_22 ?_
      refine z_aload_n C 0 dX3_write_25 rfl rfl ?_
      refine xg_P1 C hi3 (List.mem_of_getElem? (i := 1) rfl) dX3_write_26 ?_
      refine z_iload_n C 1 dX3_write_29 rfl rfl ?_
      obtain ⟨hg3, h⟩ := gd_some h
      refine xt_2 C hg3 dX3_write_30 ?_
      refine z_aload_n C 0 dX3_write_31 rfl rfl ?_
      refine z_dup C dX3_write_32 rfl ?_
      refine xg_P1 C hi3 (List.mem_of_getElem? (i := 1) rfl) dX3_write_33 ?_
      refine z_iconst (v := 1) C dX3_write_36 (by decide) ?_
      refine z_iadd C dX3_write_37 ?_
      refine xp_P1 C hi3 (List.mem_of_getElem? (i := 1) rfl) dX3_write_38 ?_
      refine z_iconst (v := 1) C dX3_write_41 (by decide) ?_
      injection h with h
      subst h
      exact z_zret C rfl (Or.inr rfl) ⟨rfl, rfl⟩ dX3_write_42
    · replace h := zf c2 h
      refine z_iconst (v := 0) C dX3_write_19 (by decide) ?_
      injection h with h
      subst h
      exact z_zret C rfl (Or.inl rfl) ⟨rfl, rfl⟩ dX3_write_20
def f_X3_codeAt (P : XP) (S : XS) (a1 : Int32) : Option (Int32) := if a1 < 0 then some (-1) else if (xI S 20) ≤ a1 then some (-1) else if 21 ≤ a1 then some (-1) else gd a1 21 (some (xA S 2 a1.toNatClampNeg))
set_option maxHeartbeats 4000000 in
set_option maxRecDepth 100000 in
theorem c_X3_codeAt (l : Launch) (G : zGT) (q : Nat → Nat) (P : XP) (S : XS) (X : va_W) (a1 : Int32) {res : Int32} (h : f_X3_codeAt P S a1 = some res) : MG l yX3_codeAt wsX3_codeAt ({ frames := 0, cells := 0, slots := 0, locals := 0 }) G [.ref (q 1), .int a1] (XW G q P S ++ X) (va_Qi (fun r u => r = res ∧ u = XW G q P S ++ X)) := by
  have hi3 : ∀ w ∈ u_ws RX3 TX3 2, w ∈ wsX3_codeAt := fun _ h => List.mem_cons_of_mem _ (List.mem_append_right _ h)
  refine MG.of (cc := cX3_codeAt) (maxL := 2) (ret := (some .int)) (own := RX3) (nm := "codeAt") (by decide) rfl rfl rfl (Nat.le_of_ble_eq_true rfl) ?_
  intro p e s m args below meth c A C
  rw [f_X3_codeAt] at h
  refine z_eq (lv2 := [(0, .ref (q 1)), (1, .int a1)]) rfl rfl rfl rfl ?_
  refine z_iload_n C 1 dX3_codeAt_0 rfl rfl ?_
  refine z_if_lt (tgt := 30) C dX3_codeAt_1 (by decide) (fun c1 => ?_) (fun c1 => ?_)
  · replace h := zt c1 h
    refine z_iconst (v := (-1)) C dX3_codeAt_30 (by decide) ?_
    injection h with h
    subst h
    exact z_iret C rfl ⟨rfl, rfl⟩ dX3_codeAt_31
  · replace h := zf c1 h
    refine z_iload_n C 1 dX3_codeAt_4 rfl rfl ?_
    refine z_aload_n C 0 dX3_codeAt_5 rfl rfl ?_
    refine xg_P1 C hi3 (List.mem_of_getElem? (i := 1) rfl) dX3_codeAt_6 ?_
    refine z_icmp_ge (tgt := 30) C dX3_codeAt_9 (by decide) (fun c2 => ?_) (fun c2 => ?_)
    · replace h := zt c2 h
      refine z_iconst (v := (-1)) C dX3_codeAt_30 (by decide) ?_
      injection h with h
      subst h
      exact z_iret C rfl ⟨rfl, rfl⟩ dX3_codeAt_31
    · replace h := zf c2 h
      refine z_iload_n C 1 dX3_codeAt_12 rfl rfl ?_
      refine z_aload_n C 0 dX3_codeAt_13 rfl rfl ?_
      refine xg_P0 C hi3 (List.mem_of_getElem? (i := 2) rfl) dX3_codeAt_14 ?_
      refine xn_2 C dX3_codeAt_17 ?_
      refine z_icmp_ge (tgt := 30) C dX3_codeAt_18 (by decide) (fun c3 => ?_) (fun c3 => ?_)
      · replace h := zt c3 h
        refine z_iconst (v := (-1)) C dX3_codeAt_30 (by decide) ?_
        injection h with h
        subst h
        exact z_iret C rfl ⟨rfl, rfl⟩ dX3_codeAt_31
      · replace h := zf c3 h
        refine z_aload_n C 0 dX3_codeAt_21 rfl rfl ?_
        refine xg_P0 C hi3 (List.mem_of_getElem? (i := 2) rfl) dX3_codeAt_22 ?_
        refine z_iload_n C 1 dX3_codeAt_25 rfl rfl ?_
        obtain ⟨hg4, h⟩ := gd_some h
        refine xl_2 C hg4 dX3_codeAt_26 ?_
        refine z_goto (tgt := 31) C dX3_codeAt_27 (by decide) ?_
        injection h with h
        subst h
        exact z_iret C rfl ⟨rfl, rfl⟩ dX3_codeAt_31
def f_X3_fitsPots (P : XP) (S : XS) (a1 : Int32) : Option (Int32) := (f_X3_codeAt P S a1).bind fun r2 => if (a1 - a1 / 4 * 4) = 0 then if (f_X3_kindOf r2) = (-1) then some 0 else some 1 else if (a1 - a1 / 4 * 4) = 1 then if r2 < 48 then some 0 else if 52 < r2 then some 0 else some 1 else if (a1 - a1 / 4 * 4) = 2 then (f_X3_codeAt P S (a1 - 1)).bind fun r10 => some (f_X3_fitsSecondDigit r10 r2 52) else if r2 = 44 then if a1 < 15 then some 1 else if r2 = 59 then if a1 < 7 then some 0 else some 1 else some 0 else if r2 = 59 then if a1 < 7 then some 0 else some 1 else some 0
set_option maxHeartbeats 4000000 in
set_option maxRecDepth 100000 in
theorem c_X3_fitsPots (l : Launch) (G : zGT) (q : Nat → Nat) (P : XP) (S : XS) (X : va_W) (a1 : Int32) {res : Int32} (h : f_X3_fitsPots P S a1 = some res) : MG l yX3_fitsPots wsX3_fitsPots ({ frames := 1, cells := 0, slots := 0, locals := 22 }) G [.ref (q 1), .int a1] (XW G q P S ++ X) (va_Qi (fun r u => r = res ∧ u = XW G q P S ++ X)) := by
  refine MG.of (cc := cX3_fitsPots) (maxL := 3) (ret := (some .boolean)) (own := RX3) (nm := "fitsPots") (by decide) rfl rfl rfl (Nat.le_of_ble_eq_true rfl) ?_
  intro p e s m args below meth c A C
  rw [f_X3_fitsPots] at h
  refine z_eq (lv2 := [(0, .ref (q 1)), (1, .int a1)]) rfl rfl rfl rfl ?_
  refine z_aload_n C 0 dX3_fitsPots_0 rfl rfl ?_
  refine z_iload_n C 1 dX3_fitsPots_1 rfl rfl ?_
  obtain ⟨r2, hf1, h⟩ := bd_some h
  refine z_goti1 C (z_runV C (c_X3_codeAt l G q P S X a1 hf1) (cwV 1 C.hts gX3_fitsPots_X3_codeAt rfl rfl rfl (by decide +kernel) ⟨Nat.le_of_ble_eq_true rfl, Nat.le_of_ble_eq_true rfl⟩) 1 rfl rfl rfl rfl (Nat.le_of_ble_eq_true rfl) dX3_fitsPots_2 ⟨Nat.le_of_ble_eq_true rfl, Nat.le_of_ble_eq_true rfl⟩) rfl rfl ?_
  refine z_istore_n (lv2 := [(2, .int r2), (0, .ref (q 1)), (1, .int a1)]) C dX3_fitsPots_5 rfl (by decide) rfl ?_
  refine z_iload_n C 2 dX3_fitsPots_6 rfl rfl ?_
  refine z_iconst (v := 4) C dX3_fitsPots_7 (by decide) ?_
  refine z_irem C dX3_fitsPots_8 (by decide) ?_
  by_cases c3 : (a1 - a1 / 4 * 4) = 0
  · replace h := zt c3 h
    refine z_tableIn (off := 27) (tgt := 36) C dX3_fitsPots_9 (by rw [c3]; decide) (by rw [c3]; decide) (by rw [c3]; rfl) (by decide) ?_
    refine z_iload_n C 0 dX3_fitsPots_36 rfl rfl ?_
    refine z_goti1 C (z_runS C (c_X3_kindOf l G (XW G q P S ++ X) r2) (va_cwS 1 C.hts gX3_fitsPots_X3_kindOf rfl rfl rfl (by decide +kernel) ⟨Nat.le_of_ble_eq_true rfl, Nat.le_of_ble_eq_true rfl⟩) rfl rfl (Nat.le_of_ble_eq_true rfl) dX3_fitsPots_37 ⟨Nat.le_of_ble_eq_true rfl, Nat.le_of_ble_eq_true rfl⟩) rfl rfl ?_
    refine z_iconst (v := (-1)) C dX3_fitsPots_40 (by decide) ?_
    refine z_icmp_eq (tgt := 48) C dX3_fitsPots_41 (by decide) (fun c4 => ?_) (fun c4 => ?_)
    · replace h := zt c4 h
      refine z_iconst (v := 0) C dX3_fitsPots_48 (by decide) ?_
      injection h with h
      subst h
      exact z_zret C rfl (Or.inl rfl) ⟨rfl, rfl⟩ dX3_fitsPots_49
    · replace h := zf c4 h
      refine z_iconst (v := 1) C dX3_fitsPots_44 (by decide) ?_
      refine z_goto (tgt := 49) C dX3_fitsPots_45 (by decide) ?_
      injection h with h
      subst h
      exact z_zret C rfl (Or.inr rfl) ⟨rfl, rfl⟩ dX3_fitsPots_49
  replace h := zf c3 h
  by_cases c5 : (a1 - a1 / 4 * 4) = 1
  · replace h := zt c5 h
    refine z_tableIn (off := 41) (tgt := 50) C dX3_fitsPots_9 (by rw [c5]; decide) (by rw [c5]; decide) (by rw [c5]; rfl) (by decide) ?_
    refine z_iload_n C 0 dX3_fitsPots_50 rfl rfl ?_
    refine z_bipush (v := 48) C dX3_fitsPots_51 (by decide) ?_
    refine z_icmp_lt (tgt := 66) C dX3_fitsPots_53 (by decide) (fun c6 => ?_) (fun c6 => ?_)
    · replace h := zt c6 h
      refine z_iconst (v := 0) C dX3_fitsPots_66 (by decide) ?_
      injection h with h
      subst h
      exact z_zret C rfl (Or.inl rfl) ⟨rfl, rfl⟩ dX3_fitsPots_67
    · replace h := zf c6 h
      refine z_iload_n C 0 dX3_fitsPots_56 rfl rfl ?_
      refine z_bipush (v := 52) C dX3_fitsPots_57 (by decide) ?_
      refine z_icmp_gt (tgt := 66) C dX3_fitsPots_59 (by decide) (fun c7 => ?_) (fun c7 => ?_)
      · replace h := zt c7 h
        refine z_iconst (v := 0) C dX3_fitsPots_66 (by decide) ?_
        injection h with h
        subst h
        exact z_zret C rfl (Or.inl rfl) ⟨rfl, rfl⟩ dX3_fitsPots_67
      · replace h := zf c7 h
        refine z_iconst (v := 1) C dX3_fitsPots_62 (by decide) ?_
        refine z_goto (tgt := 67) C dX3_fitsPots_63 (by decide) ?_
        injection h with h
        subst h
        exact z_zret C rfl (Or.inr rfl) ⟨rfl, rfl⟩ dX3_fitsPots_67
  replace h := zf c5 h
  by_cases c8 : (a1 - a1 / 4 * 4) = 2
  · replace h := zt c8 h
    refine z_tableIn (off := 59) (tgt := 68) C dX3_fitsPots_9 (by rw [c8]; decide) (by rw [c8]; decide) (by rw [c8]; rfl) (by decide) ?_
    refine z_aload_n C 1 dX3_fitsPots_68 rfl rfl ?_
    refine z_iload_n C 2 dX3_fitsPots_69 rfl rfl ?_
    refine z_iconst (v := 1) C dX3_fitsPots_70 (by decide) ?_
    refine z_isub C dX3_fitsPots_71 ?_
    obtain ⟨r10, hf9, h⟩ := bd_some h
    refine z_goti1 C (z_runV C (c_X3_codeAt l G q P S X (a1 - 1) hf9) (cwV 1 C.hts gX3_fitsPots_X3_codeAt rfl rfl rfl (by decide +kernel) ⟨Nat.le_of_ble_eq_true rfl, Nat.le_of_ble_eq_true rfl⟩) 1 rfl rfl rfl rfl (Nat.le_of_ble_eq_true rfl) dX3_fitsPots_72 ⟨Nat.le_of_ble_eq_true rfl, Nat.le_of_ble_eq_true rfl⟩) rfl rfl ?_
    refine z_iload_n C 0 dX3_fitsPots_75 rfl rfl ?_
    refine z_bipush (v := 52) C dX3_fitsPots_76 (by decide) ?_
    refine z_goti1 C (z_runS C (c_X3_fitsSecondDigit l G (XW G q P S ++ X) r10 r2 52) (va_cwS 3 C.hts gX3_fitsPots_X3_fitsSecondDigit rfl rfl rfl (by decide +kernel) ⟨Nat.le_of_ble_eq_true rfl, Nat.le_of_ble_eq_true rfl⟩) rfl rfl (Nat.le_of_ble_eq_true rfl) dX3_fitsPots_78 ⟨Nat.le_of_ble_eq_true rfl, Nat.le_of_ble_eq_true rfl⟩) rfl rfl ?_
    injection h with h
    subst h
    exact z_zret C rfl (bf_X3_fitsSecondDigit r10 r2 52) ⟨rfl, rfl⟩ dX3_fitsPots_81
  replace h := zf c8 h
  refine z_tableOut (tgt := 82) C dX3_fitsPots_9 (by have e0 := ne_toInt (n := 0) c3 rfl; have e1 := ne_toInt (n := 1) c5 rfl; have e2 := ne_toInt (n := 2) c8 rfl; omega) (by decide) ?_
  refine z_iload_n C 0 dX3_fitsPots_82 rfl rfl ?_
  refine z_bipush (v := 44) C dX3_fitsPots_83 (by decide) ?_
  refine z_icmp_ne (tgt := 94) C dX3_fitsPots_85 (by decide) (fun c11 => ?_) (fun c11 => ?_)
  · replace h := zf c11 h
    refine z_iload_n C 0 dX3_fitsPots_94 rfl rfl ?_
    refine z_bipush (v := 59) C dX3_fitsPots_95 (by decide) ?_
    refine z_icmp_ne (tgt := 110) C dX3_fitsPots_97 (by decide) (fun c12 => ?_) (fun c12 => ?_)
    · replace h := zf c12 h
      refine z_iconst (v := 0) C dX3_fitsPots_110 (by decide) ?_
      injection h with h
      subst h
      exact z_zret C rfl (Or.inl rfl) ⟨rfl, rfl⟩ dX3_fitsPots_111
    · replace h := zt c12 h
      refine z_iload_n C 2 dX3_fitsPots_100 rfl rfl ?_
      refine z_bipush (v := 7) C dX3_fitsPots_101 (by decide) ?_
      refine z_icmp_lt (tgt := 110) C dX3_fitsPots_103 (by decide) (fun c13 => ?_) (fun c13 => ?_)
      · replace h := zt c13 h
        refine z_iconst (v := 0) C dX3_fitsPots_110 (by decide) ?_
        injection h with h
        subst h
        exact z_zret C rfl (Or.inl rfl) ⟨rfl, rfl⟩ dX3_fitsPots_111
      · replace h := zf c13 h
        refine z_iconst (v := 1) C dX3_fitsPots_106 (by decide) ?_
        refine z_goto (tgt := 111) C dX3_fitsPots_107 (by decide) ?_
        injection h with h
        subst h
        exact z_zret C rfl (Or.inr rfl) ⟨rfl, rfl⟩ dX3_fitsPots_111
  · replace h := zt c11 h
    refine z_iload_n C 2 dX3_fitsPots_88 rfl rfl ?_
    refine z_bipush (v := 15) C dX3_fitsPots_89 (by decide) ?_
    refine z_icmp_lt (tgt := 106) C dX3_fitsPots_91 (by decide) (fun c14 => ?_) (fun c14 => ?_)
    · replace h := zt c14 h
      refine z_iconst (v := 1) C dX3_fitsPots_106 (by decide) ?_
      refine z_goto (tgt := 111) C dX3_fitsPots_107 (by decide) ?_
      injection h with h
      subst h
      exact z_zret C rfl (Or.inr rfl) ⟨rfl, rfl⟩ dX3_fitsPots_111
    · replace h := zf c14 h
      refine z_iload_n C 0 dX3_fitsPots_94 rfl rfl ?_
      refine z_bipush (v := 59) C dX3_fitsPots_95 (by decide) ?_
      refine z_icmp_ne (tgt := 110) C dX3_fitsPots_97 (by decide) (fun c15 => ?_) (fun c15 => ?_)
      · replace h := zf c15 h
        refine z_iconst (v := 0) C dX3_fitsPots_110 (by decide) ?_
        injection h with h
        subst h
        exact z_zret C rfl (Or.inl rfl) ⟨rfl, rfl⟩ dX3_fitsPots_111
      · replace h := zt c15 h
        refine z_iload_n C 2 dX3_fitsPots_100 rfl rfl ?_
        refine z_bipush (v := 7) C dX3_fitsPots_101 (by decide) ?_
        refine z_icmp_lt (tgt := 110) C dX3_fitsPots_103 (by decide) (fun c16 => ?_) (fun c16 => ?_)
        · replace h := zt c16 h
          refine z_iconst (v := 0) C dX3_fitsPots_110 (by decide) ?_
          injection h with h
          subst h
          exact z_zret C rfl (Or.inl rfl) ⟨rfl, rfl⟩ dX3_fitsPots_111
        · replace h := zf c16 h
          refine z_iconst (v := 1) C dX3_fitsPots_106 (by decide) ?_
          refine z_goto (tgt := 111) C dX3_fitsPots_107 (by decide) ?_
          injection h with h
          subst h
          exact z_zret C rfl (Or.inr rfl) ⟨rfl, rfl⟩ dX3_fitsPots_111
def f_X3_fitsEnd (P : XP) (S : XS) (a1 : Int32) (a2 : Int32) : Option (Int32) := (f_X3_codeAt P S a1).bind fun r2 => if a2 = 1 then if r2 < 48 then some 0 else if 54 < r2 then some 0 else some 1 else if a2 = 2 then (f_X3_codeAt P S (a1 - 1)).bind fun r8 => some (f_X3_fitsSecondDigit r8 r2 54) else if a2 = 3 then if r2 < 49 then some 0 else if 52 < r2 then some 0 else some 1 else some 0
set_option maxHeartbeats 4000000 in
set_option maxRecDepth 100000 in
theorem c_X3_fitsEnd (l : Launch) (G : zGT) (q : Nat → Nat) (P : XP) (S : XS) (X : va_W) (a1 : Int32) (a2 : Int32) {res : Int32} (h : f_X3_fitsEnd P S a1 a2 = some res) : MG l yX3_fitsEnd wsX3_fitsEnd ({ frames := 1, cells := 0, slots := 0, locals := 22 }) G [.ref (q 1), .int a1, .int a2] (XW G q P S ++ X) (va_Qi (fun r u => r = res ∧ u = XW G q P S ++ X)) := by
  refine MG.of (cc := cX3_fitsEnd) (maxL := 4) (ret := (some .boolean)) (own := RX3) (nm := "fitsEnd") (by decide) rfl rfl rfl (Nat.le_of_ble_eq_true rfl) ?_
  intro p e s m args below meth c A C
  rw [f_X3_fitsEnd] at h
  refine z_eq (lv2 := [(0, .ref (q 1)), (1, .int a1), (2, .int a2)]) rfl rfl rfl rfl ?_
  refine z_aload_n C 0 dX3_fitsEnd_0 rfl rfl ?_
  refine z_iload_n C 1 dX3_fitsEnd_1 rfl rfl ?_
  obtain ⟨r2, hf1, h⟩ := bd_some h
  refine z_goti1 C (z_runV C (c_X3_codeAt l G q P S X a1 hf1) (cwV 1 C.hts gX3_fitsEnd_X3_codeAt rfl rfl rfl (by decide +kernel) ⟨Nat.le_of_ble_eq_true rfl, Nat.le_of_ble_eq_true rfl⟩) 1 rfl rfl rfl rfl (Nat.le_of_ble_eq_true rfl) dX3_fitsEnd_2 ⟨Nat.le_of_ble_eq_true rfl, Nat.le_of_ble_eq_true rfl⟩) rfl rfl ?_
  refine z_istore_n (lv2 := [(3, .int r2), (0, .ref (q 1)), (1, .int a1), (2, .int a2)]) C dX3_fitsEnd_5 rfl (by decide) rfl ?_
  refine z_iload_n C 3 dX3_fitsEnd_6 rfl rfl ?_
  by_cases c3 : a2 = 1
  · replace h := zt c3 h
    refine z_tableIn (off := 25) (tgt := 32) C dX3_fitsEnd_7 (by rw [c3]; decide) (by rw [c3]; decide) (by rw [c3]; rfl) (by decide) ?_
    refine z_iload_n C 0 dX3_fitsEnd_32 rfl rfl ?_
    refine z_bipush (v := 48) C dX3_fitsEnd_33 (by decide) ?_
    refine z_icmp_lt (tgt := 48) C dX3_fitsEnd_35 (by decide) (fun c4 => ?_) (fun c4 => ?_)
    · replace h := zt c4 h
      refine z_iconst (v := 0) C dX3_fitsEnd_48 (by decide) ?_
      injection h with h
      subst h
      exact z_zret C rfl (Or.inl rfl) ⟨rfl, rfl⟩ dX3_fitsEnd_49
    · replace h := zf c4 h
      refine z_iload_n C 0 dX3_fitsEnd_38 rfl rfl ?_
      refine z_bipush (v := 54) C dX3_fitsEnd_39 (by decide) ?_
      refine z_icmp_gt (tgt := 48) C dX3_fitsEnd_41 (by decide) (fun c5 => ?_) (fun c5 => ?_)
      · replace h := zt c5 h
        refine z_iconst (v := 0) C dX3_fitsEnd_48 (by decide) ?_
        injection h with h
        subst h
        exact z_zret C rfl (Or.inl rfl) ⟨rfl, rfl⟩ dX3_fitsEnd_49
      · replace h := zf c5 h
        refine z_iconst (v := 1) C dX3_fitsEnd_44 (by decide) ?_
        refine z_goto (tgt := 49) C dX3_fitsEnd_45 (by decide) ?_
        injection h with h
        subst h
        exact z_zret C rfl (Or.inr rfl) ⟨rfl, rfl⟩ dX3_fitsEnd_49
  replace h := zf c3 h
  by_cases c6 : a2 = 2
  · replace h := zt c6 h
    refine z_tableIn (off := 43) (tgt := 50) C dX3_fitsEnd_7 (by rw [c6]; decide) (by rw [c6]; decide) (by rw [c6]; rfl) (by decide) ?_
    refine z_aload_n C 1 dX3_fitsEnd_50 rfl rfl ?_
    refine z_iload_n C 2 dX3_fitsEnd_51 rfl rfl ?_
    refine z_iconst (v := 1) C dX3_fitsEnd_52 (by decide) ?_
    refine z_isub C dX3_fitsEnd_53 ?_
    obtain ⟨r8, hf7, h⟩ := bd_some h
    refine z_goti1 C (z_runV C (c_X3_codeAt l G q P S X (a1 - 1) hf7) (cwV 1 C.hts gX3_fitsEnd_X3_codeAt rfl rfl rfl (by decide +kernel) ⟨Nat.le_of_ble_eq_true rfl, Nat.le_of_ble_eq_true rfl⟩) 1 rfl rfl rfl rfl (Nat.le_of_ble_eq_true rfl) dX3_fitsEnd_54 ⟨Nat.le_of_ble_eq_true rfl, Nat.le_of_ble_eq_true rfl⟩) rfl rfl ?_
    refine z_iload_n C 0 dX3_fitsEnd_57 rfl rfl ?_
    refine z_bipush (v := 54) C dX3_fitsEnd_58 (by decide) ?_
    refine z_goti1 C (z_runS C (c_X3_fitsSecondDigit l G (XW G q P S ++ X) r8 r2 54) (va_cwS 3 C.hts gX3_fitsEnd_X3_fitsSecondDigit rfl rfl rfl (by decide +kernel) ⟨Nat.le_of_ble_eq_true rfl, Nat.le_of_ble_eq_true rfl⟩) rfl rfl (Nat.le_of_ble_eq_true rfl) dX3_fitsEnd_60 ⟨Nat.le_of_ble_eq_true rfl, Nat.le_of_ble_eq_true rfl⟩) rfl rfl ?_
    injection h with h
    subst h
    exact z_zret C rfl (bf_X3_fitsSecondDigit r8 r2 54) ⟨rfl, rfl⟩ dX3_fitsEnd_63
  replace h := zf c6 h
  by_cases c9 : a2 = 3
  · replace h := zt c9 h
    refine z_tableIn (off := 57) (tgt := 64) C dX3_fitsEnd_7 (by rw [c9]; decide) (by rw [c9]; decide) (by rw [c9]; rfl) (by decide) ?_
    refine z_iload_n C 0 dX3_fitsEnd_64 rfl rfl ?_
    refine z_bipush (v := 49) C dX3_fitsEnd_65 (by decide) ?_
    refine z_icmp_lt (tgt := 80) C dX3_fitsEnd_67 (by decide) (fun c10 => ?_) (fun c10 => ?_)
    · replace h := zt c10 h
      refine z_iconst (v := 0) C dX3_fitsEnd_80 (by decide) ?_
      injection h with h
      subst h
      exact z_zret C rfl (Or.inl rfl) ⟨rfl, rfl⟩ dX3_fitsEnd_81
    · replace h := zf c10 h
      refine z_iload_n C 0 dX3_fitsEnd_70 rfl rfl ?_
      refine z_bipush (v := 52) C dX3_fitsEnd_71 (by decide) ?_
      refine z_icmp_gt (tgt := 80) C dX3_fitsEnd_73 (by decide) (fun c11 => ?_) (fun c11 => ?_)
      · replace h := zt c11 h
        refine z_iconst (v := 0) C dX3_fitsEnd_80 (by decide) ?_
        injection h with h
        subst h
        exact z_zret C rfl (Or.inl rfl) ⟨rfl, rfl⟩ dX3_fitsEnd_81
      · replace h := zf c11 h
        refine z_iconst (v := 1) C dX3_fitsEnd_76 (by decide) ?_
        refine z_goto (tgt := 81) C dX3_fitsEnd_77 (by decide) ?_
        injection h with h
        subst h
        exact z_zret C rfl (Or.inr rfl) ⟨rfl, rfl⟩ dX3_fitsEnd_81
  replace h := zf c9 h
  refine z_tableOut (tgt := 82) C dX3_fitsEnd_7 (by have e0 := ne_toInt (n := 1) c3 rfl; have e1 := ne_toInt (n := 2) c6 rfl; have e2 := ne_toInt (n := 3) c9 rfl; omega) (by decide) ?_
  refine z_iconst (v := 0) C dX3_fitsEnd_82 (by decide) ?_
  injection h with h
  subst h
  exact z_zret C rfl (Or.inl rfl) ⟨rfl, rfl⟩ dX3_fitsEnd_83
def f_X3_faultPlace_L4 (fu : Nat) (P : XP)  : Nat → Int32 → Int32 → XS → Option (Int32)
  | 0, _, _, _ => none
  | n + 1, v1, v2, S => if (xI S 20) ≤ v2 then some (xI S 20) else if v1 = (-1) then (f_X3_fitsPots P S v2).bind fun r10 => if r10 = 0 then some v2 else (f_X3_codeAt P S v2).bind fun r13 => if r13 = 59 then f_X3_faultPlace_L4 fu P n v2 (v2 + 1) S else f_X3_faultPlace_L4 fu P n v1 (v2 + 1) S else (f_X3_fitsEnd P S v2 (v2 - v1)).bind fun r4 => if r4 = 0 then some v2 else (f_X3_codeAt P S v2).bind fun r7 => if r7 = 59 then f_X3_faultPlace_L4 fu P n v2 (v2 + 1) S else f_X3_faultPlace_L4 fu P n v1 (v2 + 1) S
def f_X3_faultPlace (fu : Nat) (P : XP) (S : XS) : Option (Int32) := f_X3_faultPlace_L4 fu P fu (-1) 0 S
set_option maxHeartbeats 4000000 in
set_option maxRecDepth 100000 in
theorem L_X3_faultPlace_4 {p : Program} {l : Launch} {e : Env} {s : State} {m : MethodId} {args : Array Value} {below : List Frame} {meth : Method} {c : Code} {A : Nat → Prop} {G : zGT} {q : Nat → Nat} {P : XP} {X : va_W} {fu : Nat} (C : zC p s m args meth c A G cX3_faultPlace 4 (some .int) RX3 "faultPlace" wsX3_faultPlace) : ∀ (n : Nat) (v1 : Int32) (v2 : Int32) (S : XS) {res : Int32}, f_X3_faultPlace_L4 fu P n v1 v2 S = some res → Z p l e ({ frames := 2, cells := 0, slots := 0, locals := 45 }) s m args below meth c A G 4 (MQ below (va_Qi (fun r u => r = res ∧ u = XW G q P S ++ X) (zPost G A) A) args s 0 0 A) 0 0 (XW G q P S ++ X) [(0, .ref (q 1)), (1, .int v1), (2, .int v2)] 4 [] := by
  have hi3 : ∀ w ∈ u_ws RX3 TX3 2, w ∈ wsX3_faultPlace := fun _ h => List.mem_cons_of_mem _ (List.mem_append_right _ h)
  intro n
  induction n with
  | zero =>
    intro v1 v2 S res h
    exact nomatch (h : none = some _)
  | succ n ih =>
    intro v1 v2 S res h
    rw [f_X3_faultPlace_L4] at h
    refine z_iload_n C 2 dX3_faultPlace_4 rfl rfl ?_
    refine z_aload_n C 0 dX3_faultPlace_5 rfl rfl ?_
    refine xg_P1 C hi3 (List.mem_of_getElem? (i := 1) rfl) dX3_faultPlace_6 ?_
    refine z_icmp_ge (tgt := 58) C dX3_faultPlace_9 (by decide) (fun c1 => ?_) (fun c1 => ?_)
    · replace h := zt c1 h
      refine z_aload_n C 0 dX3_faultPlace_58 rfl rfl ?_
      refine xg_P1 C hi3 (List.mem_of_getElem? (i := 1) rfl) dX3_faultPlace_59 ?_
      injection h with h
      subst h
      exact z_iret C rfl ⟨rfl, rfl⟩ dX3_faultPlace_62
    · replace h := zf c1 h
      refine z_iload_n C 1 dX3_faultPlace_12 rfl rfl ?_
      refine z_iconst (v := (-1)) C dX3_faultPlace_13 (by decide) ?_
      refine z_icmp_ne (tgt := 25) C dX3_faultPlace_14 (by decide) (fun c2 => ?_) (fun c2 => ?_)
      · replace h := zf c2 h
        refine z_aload_n C 0 dX3_faultPlace_25 rfl rfl ?_
        refine z_iload_n C 2 dX3_faultPlace_26 rfl rfl ?_
        refine z_iload_n C 2 dX3_faultPlace_27 rfl rfl ?_
        refine z_iload_n C 1 dX3_faultPlace_28 rfl rfl ?_
        refine z_isub C dX3_faultPlace_29 ?_
        obtain ⟨r4, hf3, h⟩ := bd_some h
        refine z_goti1 C (z_runV C (c_X3_fitsEnd l G q P S X v2 (v2 - v1) hf3) (cwV 2 C.hts gX3_faultPlace_X3_fitsEnd rfl rfl rfl (by decide +kernel) ⟨Nat.le_of_ble_eq_true rfl, Nat.le_of_ble_eq_true rfl⟩) 1 rfl rfl rfl rfl (Nat.le_of_ble_eq_true rfl) dX3_faultPlace_30 ⟨Nat.le_of_ble_eq_true rfl, Nat.le_of_ble_eq_true rfl⟩) rfl rfl ?_
        refine z_istore_n (lv2 := [(3, .int r4), (0, .ref (q 1)), (1, .int v1), (2, .int v2)]) C dX3_faultPlace_33 rfl (by decide) rfl ?_
        refine z_iload_n C 0 dX3_faultPlace_34 rfl rfl ?_
        refine z_if_ne (tgt := 40) C dX3_faultPlace_35 (by decide) (fun c5 => ?_) (fun c5 => ?_)
        · replace h := zf c5 h
          refine z_aload_n C 1 dX3_faultPlace_40 rfl rfl ?_
          refine z_iload_n C 3 dX3_faultPlace_41 rfl rfl ?_
          obtain ⟨r7, hf6, h⟩ := bd_some h
          refine z_goti1 C (z_runV C (c_X3_codeAt l G q P S X v2 hf6) (cwV 1 C.hts gX3_faultPlace_X3_codeAt rfl rfl rfl (by decide +kernel) ⟨Nat.le_of_ble_eq_true rfl, Nat.le_of_ble_eq_true rfl⟩) 1 rfl rfl rfl rfl (Nat.le_of_ble_eq_true rfl) dX3_faultPlace_42 ⟨Nat.le_of_ble_eq_true rfl, Nat.le_of_ble_eq_true rfl⟩) rfl rfl ?_
          refine z_bipush (v := 59) C dX3_faultPlace_45 (by decide) ?_
          refine z_icmp_ne (tgt := 52) C dX3_faultPlace_47 (by decide) (fun c8 => ?_) (fun c8 => ?_)
          · replace h := zf c8 h
            refine z_iinc (v := (v2 + 1)) (lv2 := [(2, .int (v2 + 1)), (3, .int r4), (0, .ref (q 1)), (1, .int v1)]) C 3 dX3_faultPlace_52 rfl rfl (by decide) rfl ?_
            refine z_goto (tgt := 4) C dX3_faultPlace_55 (by decide) ?_
            refine z_lv (lv2 := [(0, .ref (q 1)), (1, .int v1), (2, .int (v2 + 1))]) [2, 3, 0] rfl ?_
            exact ih v1 (v2 + 1) S h
          · replace h := zt c8 h
            refine z_iload_n C 3 dX3_faultPlace_50 rfl rfl ?_
            refine z_istore_n (lv2 := [(1, .int v2), (3, .int r4), (0, .ref (q 1)), (2, .int v2)]) C dX3_faultPlace_51 rfl (by decide) rfl ?_
            refine z_iinc (v := (v2 + 1)) (lv2 := [(2, .int (v2 + 1)), (1, .int v2), (3, .int r4), (0, .ref (q 1))]) C 3 dX3_faultPlace_52 rfl rfl (by decide) rfl ?_
            refine z_goto (tgt := 4) C dX3_faultPlace_55 (by decide) ?_
            refine z_lv (lv2 := [(0, .ref (q 1)), (1, .int v2), (2, .int (v2 + 1))]) [3, 1, 0] rfl ?_
            exact ih v2 (v2 + 1) S h
        · replace h := zt c5 h
          refine z_iload_n C 3 dX3_faultPlace_38 rfl rfl ?_
          injection h with h
          subst h
          exact z_iret C rfl ⟨rfl, rfl⟩ dX3_faultPlace_39
      · replace h := zt c2 h
        refine z_aload_n C 0 dX3_faultPlace_17 rfl rfl ?_
        refine z_iload_n C 2 dX3_faultPlace_18 rfl rfl ?_
        obtain ⟨r10, hf9, h⟩ := bd_some h
        refine z_goti1 C (z_runV C (c_X3_fitsPots l G q P S X v2 hf9) (cwV 1 C.hts gX3_faultPlace_X3_fitsPots rfl rfl rfl (by decide +kernel) ⟨Nat.le_of_ble_eq_true rfl, Nat.le_of_ble_eq_true rfl⟩) 1 rfl rfl rfl rfl (Nat.le_of_ble_eq_true rfl) dX3_faultPlace_19 ⟨Nat.le_of_ble_eq_true rfl, Nat.le_of_ble_eq_true rfl⟩) rfl rfl ?_
        refine z_goto (tgt := 33) C dX3_faultPlace_22 (by decide) ?_
        refine z_istore_n (lv2 := [(3, .int r10), (0, .ref (q 1)), (1, .int v1), (2, .int v2)]) C dX3_faultPlace_33 rfl (by decide) rfl ?_
        refine z_iload_n C 0 dX3_faultPlace_34 rfl rfl ?_
        refine z_if_ne (tgt := 40) C dX3_faultPlace_35 (by decide) (fun c11 => ?_) (fun c11 => ?_)
        · replace h := zf c11 h
          refine z_aload_n C 1 dX3_faultPlace_40 rfl rfl ?_
          refine z_iload_n C 3 dX3_faultPlace_41 rfl rfl ?_
          obtain ⟨r13, hf12, h⟩ := bd_some h
          refine z_goti1 C (z_runV C (c_X3_codeAt l G q P S X v2 hf12) (cwV 1 C.hts gX3_faultPlace_X3_codeAt rfl rfl rfl (by decide +kernel) ⟨Nat.le_of_ble_eq_true rfl, Nat.le_of_ble_eq_true rfl⟩) 1 rfl rfl rfl rfl (Nat.le_of_ble_eq_true rfl) dX3_faultPlace_42 ⟨Nat.le_of_ble_eq_true rfl, Nat.le_of_ble_eq_true rfl⟩) rfl rfl ?_
          refine z_bipush (v := 59) C dX3_faultPlace_45 (by decide) ?_
          refine z_icmp_ne (tgt := 52) C dX3_faultPlace_47 (by decide) (fun c14 => ?_) (fun c14 => ?_)
          · replace h := zf c14 h
            refine z_iinc (v := (v2 + 1)) (lv2 := [(2, .int (v2 + 1)), (3, .int r10), (0, .ref (q 1)), (1, .int v1)]) C 3 dX3_faultPlace_52 rfl rfl (by decide) rfl ?_
            refine z_goto (tgt := 4) C dX3_faultPlace_55 (by decide) ?_
            refine z_lv (lv2 := [(0, .ref (q 1)), (1, .int v1), (2, .int (v2 + 1))]) [2, 3, 0] rfl ?_
            exact ih v1 (v2 + 1) S h
          · replace h := zt c14 h
            refine z_iload_n C 3 dX3_faultPlace_50 rfl rfl ?_
            refine z_istore_n (lv2 := [(1, .int v2), (3, .int r10), (0, .ref (q 1)), (2, .int v2)]) C dX3_faultPlace_51 rfl (by decide) rfl ?_
            refine z_iinc (v := (v2 + 1)) (lv2 := [(2, .int (v2 + 1)), (1, .int v2), (3, .int r10), (0, .ref (q 1))]) C 3 dX3_faultPlace_52 rfl rfl (by decide) rfl ?_
            refine z_goto (tgt := 4) C dX3_faultPlace_55 (by decide) ?_
            refine z_lv (lv2 := [(0, .ref (q 1)), (1, .int v2), (2, .int (v2 + 1))]) [3, 1, 0] rfl ?_
            exact ih v2 (v2 + 1) S h
        · replace h := zt c11 h
          refine z_iload_n C 3 dX3_faultPlace_38 rfl rfl ?_
          injection h with h
          subst h
          exact z_iret C rfl ⟨rfl, rfl⟩ dX3_faultPlace_39
set_option maxHeartbeats 4000000 in
set_option maxRecDepth 100000 in
theorem c_X3_faultPlace (l : Launch) (G : zGT) (q : Nat → Nat) (P : XP) (S : XS) (X : va_W) (fu : Nat) {res : Int32} (h : f_X3_faultPlace fu P S = some res) : MG l yX3_faultPlace wsX3_faultPlace ({ frames := 2, cells := 0, slots := 0, locals := 45 }) G [.ref (q 1)] (XW G q P S ++ X) (va_Qi (fun r u => r = res ∧ u = XW G q P S ++ X)) := by
  have hi3 : ∀ w ∈ u_ws RX3 TX3 2, w ∈ wsX3_faultPlace := fun _ h => List.mem_cons_of_mem _ (List.mem_append_right _ h)
  refine MG.of (cc := cX3_faultPlace) (maxL := 4) (ret := (some .int)) (own := RX3) (nm := "faultPlace") (by decide) rfl rfl rfl (Nat.le_of_ble_eq_true rfl) ?_
  intro p e s m args below meth c A C
  rw [f_X3_faultPlace] at h
  refine z_eq (lv2 := [(0, .ref (q 1))]) rfl rfl rfl rfl ?_
  refine z_iconst (v := (-1)) C dX3_faultPlace_0 (by decide) ?_
  refine z_istore_n (lv2 := [(1, .int (-1)), (0, .ref (q 1))]) C dX3_faultPlace_1 rfl (by decide) rfl ?_
  refine z_iconst (v := 0) C dX3_faultPlace_2 (by decide) ?_
  refine z_istore_n (lv2 := [(2, .int 0), (1, .int (-1)), (0, .ref (q 1))]) C dX3_faultPlace_3 rfl (by decide) rfl ?_
  refine z_lv (lv2 := [(0, .ref (q 1)), (1, .int (-1)), (2, .int 0)]) [2, 1, 0] rfl ?_
  exact L_X3_faultPlace_4 C  fu (-1) 0 S h
def f_X3_isKitchen (fu : Nat) (P : XP) (S : XS) : Option (Int32) := (f_X3_codeAt P S ((xI S 20) - 4)).bind fun r2 => if r2 = 59 then (f_X3_faultPlace fu P S).bind fun r5 => if r5 = (xI S 20) then some 1 else some 0 else some 0
set_option maxHeartbeats 4000000 in
set_option maxRecDepth 100000 in
theorem c_X3_isKitchen (l : Launch) (G : zGT) (q : Nat → Nat) (P : XP) (S : XS) (X : va_W) (fu : Nat) {res : Int32} (h : f_X3_isKitchen fu P S = some res) : MG l yX3_isKitchen wsX3_isKitchen ({ frames := 3, cells := 0, slots := 0, locals := 68 }) G [.ref (q 1)] (XW G q P S ++ X) (va_Qi (fun r u => r = res ∧ u = XW G q P S ++ X)) := by
  have hi3 : ∀ w ∈ u_ws RX3 TX3 2, w ∈ wsX3_isKitchen := fun _ h => List.mem_cons_of_mem _ (List.mem_append_right _ h)
  refine MG.of (cc := cX3_isKitchen) (maxL := 1) (ret := (some .boolean)) (own := RX3) (nm := "isKitchen") (by decide) rfl rfl rfl (Nat.le_of_ble_eq_true rfl) ?_
  intro p e s m args below meth c A C
  rw [f_X3_isKitchen] at h
  refine z_eq (lv2 := [(0, .ref (q 1))]) rfl rfl rfl rfl ?_
  refine z_aload_n C 0 dX3_isKitchen_0 rfl rfl ?_
  refine z_aload_n C 0 dX3_isKitchen_1 rfl rfl ?_
  refine xg_P1 C hi3 (List.mem_of_getElem? (i := 1) rfl) dX3_isKitchen_2 ?_
  refine z_iconst (v := 4) C dX3_isKitchen_5 (by decide) ?_
  refine z_isub C dX3_isKitchen_6 ?_
  obtain ⟨r2, hf1, h⟩ := bd_some h
  refine z_goti1 C (z_runV C (c_X3_codeAt l G q P S X ((xI S 20) - 4) hf1) (cwV 1 C.hts gX3_isKitchen_X3_codeAt rfl rfl rfl (by decide +kernel) ⟨Nat.le_of_ble_eq_true rfl, Nat.le_of_ble_eq_true rfl⟩) 1 rfl rfl rfl rfl (Nat.le_of_ble_eq_true rfl) dX3_isKitchen_7 ⟨Nat.le_of_ble_eq_true rfl, Nat.le_of_ble_eq_true rfl⟩) rfl rfl ?_
  refine z_bipush (v := 59) C dX3_isKitchen_10 (by decide) ?_
  refine z_icmp_ne (tgt := 30) C dX3_isKitchen_12 (by decide) (fun c3 => ?_) (fun c3 => ?_)
  · replace h := zf c3 h
    refine z_iconst (v := 0) C dX3_isKitchen_30 (by decide) ?_
    injection h with h
    subst h
    exact z_zret C rfl (Or.inl rfl) ⟨rfl, rfl⟩ dX3_isKitchen_31
  · replace h := zt c3 h
    refine z_aload_n C 0 dX3_isKitchen_15 rfl rfl ?_
    obtain ⟨r5, hf4, h⟩ := bd_some h
    refine z_goti1 C (z_runV C (c_X3_faultPlace l G q P S X fu hf4) (cwV 0 C.hts gX3_isKitchen_X3_faultPlace rfl rfl rfl (by decide +kernel) ⟨Nat.le_of_ble_eq_true rfl, Nat.le_of_ble_eq_true rfl⟩) 1 rfl rfl rfl rfl (Nat.le_of_ble_eq_true rfl) dX3_isKitchen_16 ⟨Nat.le_of_ble_eq_true rfl, Nat.le_of_ble_eq_true rfl⟩) rfl rfl ?_
    refine z_aload_n C 0 dX3_isKitchen_19 rfl rfl ?_
    refine xg_P1 C hi3 (List.mem_of_getElem? (i := 1) rfl) dX3_isKitchen_20 ?_
    refine z_icmp_ne (tgt := 30) C dX3_isKitchen_23 (by decide) (fun c6 => ?_) (fun c6 => ?_)
    · replace h := zf c6 h
      refine z_iconst (v := 0) C dX3_isKitchen_30 (by decide) ?_
      injection h with h
      subst h
      exact z_zret C rfl (Or.inl rfl) ⟨rfl, rfl⟩ dX3_isKitchen_31
    · replace h := zt c6 h
      refine z_iconst (v := 1) C dX3_isKitchen_26 (by decide) ?_
      refine z_goto (tgt := 31) C dX3_isKitchen_27 (by decide) ?_
      injection h with h
      subst h
      exact z_zret C rfl (Or.inr rfl) ⟨rfl, rfl⟩ dX3_isKitchen_31
def f_X3_potsTold (P : XP) (S : XS) : Int32 := ((xI S 20) / 4)
set_option maxHeartbeats 4000000 in
set_option maxRecDepth 100000 in
theorem c_X3_potsTold (l : Launch) (G : zGT) (q : Nat → Nat) (P : XP) (S : XS) (X : va_W) : MG l yX3_potsTold wsX3_potsTold ({ frames := 0, cells := 0, slots := 0, locals := 0 }) G [.ref (q 1)] (XW G q P S ++ X) (va_Qi (fun r u => r = (f_X3_potsTold P S) ∧ u = XW G q P S ++ X)) := by
  have hi3 : ∀ w ∈ u_ws RX3 TX3 2, w ∈ wsX3_potsTold := fun _ h => List.mem_cons_of_mem _ (List.mem_append_right _ h)
  refine MG.of (cc := cX3_potsTold) (maxL := 1) (ret := (some .int)) (own := RX3) (nm := "potsTold") (by decide) rfl rfl rfl (Nat.le_of_ble_eq_true rfl) ?_
  intro p e s m args below meth c A C
  obtain ⟨res, h⟩ : ∃ z, f_X3_potsTold P S = z := ⟨_, rfl⟩
  rw [h]
  rw [f_X3_potsTold] at h
  refine z_eq (lv2 := [(0, .ref (q 1))]) rfl rfl rfl rfl ?_
  refine z_aload_n C 0 dX3_potsTold_0 rfl rfl ?_
  refine xg_P1 C hi3 (List.mem_of_getElem? (i := 1) rfl) dX3_potsTold_1 ?_
  refine z_iconst (v := 4) C dX3_potsTold_4 (by decide) ?_
  refine z_idiv C dX3_potsTold_5 (by decide) ?_
  subst h
  exact z_iret C rfl ⟨rfl, rfl⟩ dX3_potsTold_6
def f_X3_kindTold (P : XP) (S : XS) (a1 : Int32) : Option (Int32) := (f_X3_codeAt P S (a1 * 4)).bind fun r2 => some (f_X3_kindOf r2)
set_option maxHeartbeats 4000000 in
set_option maxRecDepth 100000 in
theorem c_X3_kindTold (l : Launch) (G : zGT) (q : Nat → Nat) (P : XP) (S : XS) (X : va_W) (a1 : Int32) {res : Int32} (h : f_X3_kindTold P S a1 = some res) : MG l yX3_kindTold wsX3_kindTold ({ frames := 1, cells := 0, slots := 0, locals := 21 }) G [.ref (q 1), .int a1] (XW G q P S ++ X) (va_Qi (fun r u => r = res ∧ u = XW G q P S ++ X)) := by
  refine MG.of (cc := cX3_kindTold) (maxL := 2) (ret := (some .int)) (own := RX3) (nm := "kindTold") (by decide) rfl rfl rfl (Nat.le_of_ble_eq_true rfl) ?_
  intro p e s m args below meth c A C
  rw [f_X3_kindTold] at h
  refine z_eq (lv2 := [(0, .ref (q 1)), (1, .int a1)]) rfl rfl rfl rfl ?_
  refine z_aload_n C 0 dX3_kindTold_0 rfl rfl ?_
  refine z_iload_n C 1 dX3_kindTold_1 rfl rfl ?_
  refine z_iconst (v := 4) C dX3_kindTold_2 (by decide) ?_
  refine z_imul C dX3_kindTold_3 ?_
  obtain ⟨r2, hf1, h⟩ := bd_some h
  refine z_goti1 C (z_runV C (c_X3_codeAt l G q P S X (a1 * 4) hf1) (cwV 1 C.hts gX3_kindTold_X3_codeAt rfl rfl rfl (by decide +kernel) ⟨Nat.le_of_ble_eq_true rfl, Nat.le_of_ble_eq_true rfl⟩) 1 rfl rfl rfl rfl (Nat.le_of_ble_eq_true rfl) dX3_kindTold_4 ⟨Nat.le_of_ble_eq_true rfl, Nat.le_of_ble_eq_true rfl⟩) rfl rfl ?_
  refine z_goti1 C (z_runS C (c_X3_kindOf l G (XW G q P S ++ X) r2) (va_cwS 1 C.hts gX3_kindTold_X3_kindOf rfl rfl rfl (by decide +kernel) ⟨Nat.le_of_ble_eq_true rfl, Nat.le_of_ble_eq_true rfl⟩) rfl rfl (Nat.le_of_ble_eq_true rfl) dX3_kindTold_7 ⟨Nat.le_of_ble_eq_true rfl, Nat.le_of_ble_eq_true rfl⟩) rfl rfl ?_
  injection h with h
  subst h
  exact z_iret C rfl ⟨rfl, rfl⟩ dX3_kindTold_10
def f_X3_twoDigits (P : XP) (S : XS) (a1 : Int32) : Option (Int32) := (f_X3_codeAt P S a1).bind fun r2 => (f_X3_codeAt P S (a1 + 1)).bind fun r4 => some (((10 * (r2 - 48)) + r4) - 48)
set_option maxHeartbeats 4000000 in
set_option maxRecDepth 100000 in
theorem c_X3_twoDigits (l : Launch) (G : zGT) (q : Nat → Nat) (P : XP) (S : XS) (X : va_W) (a1 : Int32) {res : Int32} (h : f_X3_twoDigits P S a1 = some res) : MG l yX3_twoDigits wsX3_twoDigits ({ frames := 1, cells := 0, slots := 0, locals := 21 }) G [.ref (q 1), .int a1] (XW G q P S ++ X) (va_Qi (fun r u => r = res ∧ u = XW G q P S ++ X)) := by
  refine MG.of (cc := cX3_twoDigits) (maxL := 2) (ret := (some .int)) (own := RX3) (nm := "twoDigits") (by decide) rfl rfl rfl (Nat.le_of_ble_eq_true rfl) ?_
  intro p e s m args below meth c A C
  rw [f_X3_twoDigits] at h
  refine z_eq (lv2 := [(0, .ref (q 1)), (1, .int a1)]) rfl rfl rfl rfl ?_
  refine z_bipush (v := 10) C dX3_twoDigits_0 (by decide) ?_
  refine z_aload_n C 0 dX3_twoDigits_2 rfl rfl ?_
  refine z_iload_n C 1 dX3_twoDigits_3 rfl rfl ?_
  obtain ⟨r2, hf1, h⟩ := bd_some h
  refine z_goti1 C (z_runV C (c_X3_codeAt l G q P S X a1 hf1) (cwV 1 C.hts gX3_twoDigits_X3_codeAt rfl rfl rfl (by decide +kernel) ⟨Nat.le_of_ble_eq_true rfl, Nat.le_of_ble_eq_true rfl⟩) 1 rfl rfl rfl rfl (Nat.le_of_ble_eq_true rfl) dX3_twoDigits_4 ⟨Nat.le_of_ble_eq_true rfl, Nat.le_of_ble_eq_true rfl⟩) rfl rfl ?_
  refine z_bipush (v := 48) C dX3_twoDigits_7 (by decide) ?_
  refine z_isub C dX3_twoDigits_9 ?_
  refine z_imul C dX3_twoDigits_10 ?_
  refine z_aload_n C 0 dX3_twoDigits_11 rfl rfl ?_
  refine z_iload_n C 1 dX3_twoDigits_12 rfl rfl ?_
  refine z_iconst (v := 1) C dX3_twoDigits_13 (by decide) ?_
  refine z_iadd C dX3_twoDigits_14 ?_
  obtain ⟨r4, hf3, h⟩ := bd_some h
  refine z_goti1 C (z_runV C (c_X3_codeAt l G q P S X (a1 + 1) hf3) (cwV 1 C.hts gX3_twoDigits_X3_codeAt rfl rfl rfl (by decide +kernel) ⟨Nat.le_of_ble_eq_true rfl, Nat.le_of_ble_eq_true rfl⟩) 1 rfl rfl rfl rfl (Nat.le_of_ble_eq_true rfl) dX3_twoDigits_15 ⟨Nat.le_of_ble_eq_true rfl, Nat.le_of_ble_eq_true rfl⟩) rfl rfl ?_
  refine z_iadd C dX3_twoDigits_18 ?_
  refine z_bipush (v := 48) C dX3_twoDigits_19 (by decide) ?_
  refine z_isub C dX3_twoDigits_21 ?_
  injection h with h
  subst h
  exact z_iret C rfl ⟨rfl, rfl⟩ dX3_twoDigits_22
def f_X3_wantsTold (P : XP) (S : XS) (a1 : Int32) : Option (Int32) := (f_X3_twoDigits P S ((a1 * 4) + 1)).bind fun r2 => some r2
set_option maxHeartbeats 4000000 in
set_option maxRecDepth 100000 in
theorem c_X3_wantsTold (l : Launch) (G : zGT) (q : Nat → Nat) (P : XP) (S : XS) (X : va_W) (a1 : Int32) {res : Int32} (h : f_X3_wantsTold P S a1 = some res) : MG l yX3_wantsTold wsX3_wantsTold ({ frames := 2, cells := 0, slots := 0, locals := 42 }) G [.ref (q 1), .int a1] (XW G q P S ++ X) (va_Qi (fun r u => r = res ∧ u = XW G q P S ++ X)) := by
  refine MG.of (cc := cX3_wantsTold) (maxL := 2) (ret := (some .int)) (own := RX3) (nm := "wantsTold") (by decide) rfl rfl rfl (Nat.le_of_ble_eq_true rfl) ?_
  intro p e s m args below meth c A C
  rw [f_X3_wantsTold] at h
  refine z_eq (lv2 := [(0, .ref (q 1)), (1, .int a1)]) rfl rfl rfl rfl ?_
  refine z_aload_n C 0 dX3_wantsTold_0 rfl rfl ?_
  refine z_iload_n C 1 dX3_wantsTold_1 rfl rfl ?_
  refine z_iconst (v := 4) C dX3_wantsTold_2 (by decide) ?_
  refine z_imul C dX3_wantsTold_3 ?_
  refine z_iconst (v := 1) C dX3_wantsTold_4 (by decide) ?_
  refine z_iadd C dX3_wantsTold_5 ?_
  obtain ⟨r2, hf1, h⟩ := bd_some h
  refine z_goti1 C (z_runV C (c_X3_twoDigits l G q P S X ((a1 * 4) + 1) hf1) (cwV 1 C.hts gX3_wantsTold_X3_twoDigits rfl rfl rfl (by decide +kernel) ⟨Nat.le_of_ble_eq_true rfl, Nat.le_of_ble_eq_true rfl⟩) 1 rfl rfl rfl rfl (Nat.le_of_ble_eq_true rfl) dX3_wantsTold_6 ⟨Nat.le_of_ble_eq_true rfl, Nat.le_of_ble_eq_true rfl⟩) rfl rfl ?_
  injection h with h
  subst h
  exact z_iret C rfl ⟨rfl, rfl⟩ dX3_wantsTold_9
def f_X3_springTold (P : XP) (S : XS) : Option (Int32) := (f_X3_twoDigits P S ((xI S 20) - 3)).bind fun r2 => some r2
set_option maxHeartbeats 4000000 in
set_option maxRecDepth 100000 in
theorem c_X3_springTold (l : Launch) (G : zGT) (q : Nat → Nat) (P : XP) (S : XS) (X : va_W) {res : Int32} (h : f_X3_springTold P S = some res) : MG l yX3_springTold wsX3_springTold ({ frames := 2, cells := 0, slots := 0, locals := 42 }) G [.ref (q 1)] (XW G q P S ++ X) (va_Qi (fun r u => r = res ∧ u = XW G q P S ++ X)) := by
  have hi3 : ∀ w ∈ u_ws RX3 TX3 2, w ∈ wsX3_springTold := fun _ h => List.mem_cons_of_mem _ (List.mem_append_right _ h)
  refine MG.of (cc := cX3_springTold) (maxL := 1) (ret := (some .int)) (own := RX3) (nm := "springTold") (by decide) rfl rfl rfl (Nat.le_of_ble_eq_true rfl) ?_
  intro p e s m args below meth c A C
  rw [f_X3_springTold] at h
  refine z_eq (lv2 := [(0, .ref (q 1))]) rfl rfl rfl rfl ?_
  refine z_aload_n C 0 dX3_springTold_0 rfl rfl ?_
  refine z_aload_n C 0 dX3_springTold_1 rfl rfl ?_
  refine xg_P1 C hi3 (List.mem_of_getElem? (i := 1) rfl) dX3_springTold_2 ?_
  refine z_iconst (v := 3) C dX3_springTold_5 (by decide) ?_
  refine z_isub C dX3_springTold_6 ?_
  obtain ⟨r2, hf1, h⟩ := bd_some h
  refine z_goti1 C (z_runV C (c_X3_twoDigits l G q P S X ((xI S 20) - 3) hf1) (cwV 1 C.hts gX3_springTold_X3_twoDigits rfl rfl rfl (by decide +kernel) ⟨Nat.le_of_ble_eq_true rfl, Nat.le_of_ble_eq_true rfl⟩) 1 rfl rfl rfl rfl (Nat.le_of_ble_eq_true rfl) dX3_springTold_7 ⟨Nat.le_of_ble_eq_true rfl, Nat.le_of_ble_eq_true rfl⟩) rfl rfl ?_
  injection h with h
  subst h
  exact z_iret C rfl ⟨rfl, rfl⟩ dX3_springTold_10
def f_X3_handsTold (P : XP) (S : XS) : Option (Int32) := (f_X3_codeAt P S ((xI S 20) - 1)).bind fun r2 => some (r2 - 48)
set_option maxHeartbeats 4000000 in
set_option maxRecDepth 100000 in
theorem c_X3_handsTold (l : Launch) (G : zGT) (q : Nat → Nat) (P : XP) (S : XS) (X : va_W) {res : Int32} (h : f_X3_handsTold P S = some res) : MG l yX3_handsTold wsX3_handsTold ({ frames := 1, cells := 0, slots := 0, locals := 21 }) G [.ref (q 1)] (XW G q P S ++ X) (va_Qi (fun r u => r = res ∧ u = XW G q P S ++ X)) := by
  have hi3 : ∀ w ∈ u_ws RX3 TX3 2, w ∈ wsX3_handsTold := fun _ h => List.mem_cons_of_mem _ (List.mem_append_right _ h)
  refine MG.of (cc := cX3_handsTold) (maxL := 1) (ret := (some .int)) (own := RX3) (nm := "handsTold") (by decide) rfl rfl rfl (Nat.le_of_ble_eq_true rfl) ?_
  intro p e s m args below meth c A C
  rw [f_X3_handsTold] at h
  refine z_eq (lv2 := [(0, .ref (q 1))]) rfl rfl rfl rfl ?_
  refine z_aload_n C 0 dX3_handsTold_0 rfl rfl ?_
  refine z_aload_n C 0 dX3_handsTold_1 rfl rfl ?_
  refine xg_P1 C hi3 (List.mem_of_getElem? (i := 1) rfl) dX3_handsTold_2 ?_
  refine z_iconst (v := 1) C dX3_handsTold_5 (by decide) ?_
  refine z_isub C dX3_handsTold_6 ?_
  obtain ⟨r2, hf1, h⟩ := bd_some h
  refine z_goti1 C (z_runV C (c_X3_codeAt l G q P S X ((xI S 20) - 1) hf1) (cwV 1 C.hts gX3_handsTold_X3_codeAt rfl rfl rfl (by decide +kernel) ⟨Nat.le_of_ble_eq_true rfl, Nat.le_of_ble_eq_true rfl⟩) 1 rfl rfl rfl rfl (Nat.le_of_ble_eq_true rfl) dX3_handsTold_7 ⟨Nat.le_of_ble_eq_true rfl, Nat.le_of_ble_eq_true rfl⟩) rfl rfl ?_
  refine z_bipush (v := 48) C dX3_handsTold_10 (by decide) ?_
  refine z_isub C dX3_handsTold_12 ?_
  injection h with h
  subst h
  exact z_iret C rfl ⟨rfl, rfl⟩ dX3_handsTold_13
def f_X1_next (P : XP) (S : XS) (a1 : Int32) : Option (Int32 × XS) := if a1 ≤ 0 then some (0, xsI S 30 ((((1103515245 * ((xI S 30).toInt64)) + 12345) &&& 2147483647).toInt32)) else gz a1 (some ((((xI (xsI S 30 ((((1103515245 * ((xI S 30).toInt64)) + 12345) &&& 2147483647).toInt32)) 30) / 65536) - ((xI (xsI S 30 ((((1103515245 * ((xI S 30).toInt64)) + 12345) &&& 2147483647).toInt32)) 30) / 65536) / a1 * a1), xsI S 30 ((((1103515245 * ((xI S 30).toInt64)) + 12345) &&& 2147483647).toInt32)))
set_option maxHeartbeats 4000000 in
set_option maxRecDepth 100000 in
theorem c_X1_next (l : Launch) (G : zGT) (q : Nat → Nat) (P : XP) (S : XS) (X : va_W) (a1 : Int32) {res : Int32 × XS} (h : f_X1_next P S a1 = some res) : MG l yX1_next wsX1_next ({ frames := 0, cells := 0, slots := 0, locals := 0 }) G [.ref (q 17), .int a1] (XW G q P S ++ X) (va_Qi (fun r u => r = res.1 ∧ u = XW G q P res.2 ++ X)) := by
  have hi1 : ∀ w ∈ u_ws RX1 TX1 1, w ∈ wsX1_next := fun _ h => List.mem_cons_of_mem _ (List.mem_append_right _ h)
  refine MG.of (cc := cX1_next) (maxL := 2) (ret := (some .int)) (own := RX1) (nm := "next") (by decide) rfl rfl rfl (Nat.le_of_ble_eq_true rfl) ?_
  intro p e s m args below meth c A C
  rw [f_X1_next] at h
  refine z_eq (lv2 := [(0, .ref (q 17)), (1, .int a1)]) rfl rfl rfl rfl ?_
  refine z_aload_n C 0 dX1_next_0 rfl rfl ?_
  refine z_ldc2 (v := 1103515245) C (List.mem_of_getElem? (i := 1) rfl) dX1_next_1 ?_
  refine z_aload_n C 0 dX1_next_4 rfl rfl ?_
  refine xg_R0 C hi1 (List.mem_of_getElem? (i := 2) rfl) dX1_next_5 ?_
  refine z_i2l C dX1_next_8 ?_
  refine z_lmul C dX1_next_9 ?_
  refine z_ldc2 (v := 12345) C (List.mem_of_getElem? (i := 3) rfl) dX1_next_10 ?_
  refine z_ladd C dX1_next_13 ?_
  refine z_ldc2 (v := 2147483647) C (List.mem_of_getElem? (i := 4) rfl) dX1_next_14 ?_
  refine z_land C dX1_next_17 ?_
  refine z_l2i C dX1_next_18 ?_
  refine xp_R0 C hi1 (List.mem_of_getElem? (i := 2) rfl) dX1_next_19 ?_
  refine z_iload_n C 1 dX1_next_22 rfl rfl ?_
  refine z_if_le (tgt := 38) C dX1_next_23 (by decide) (fun c1 => ?_) (fun c1 => ?_)
  · replace h := zt c1 h
    refine z_iconst (v := 0) C dX1_next_38 (by decide) ?_
    injection h with h
    subst h
    exact z_iret C rfl ⟨rfl, rfl⟩ dX1_next_39
  · replace h := zf c1 h
    refine z_aload_n C 0 dX1_next_26 rfl rfl ?_
    refine xg_R0 C hi1 (List.mem_of_getElem? (i := 2) rfl) dX1_next_27 ?_
    refine z_ldc (v := 65536) C (List.mem_of_getElem? (i := 5) rfl) dX1_next_30 ?_
    refine z_idiv C dX1_next_32 (by decide) ?_
    refine z_iload_n C 1 dX1_next_33 rfl rfl ?_
    obtain ⟨hz2, h⟩ := gz_some h
    refine z_irem C dX1_next_34 hz2 ?_
    refine z_goto (tgt := 39) C dX1_next_35 (by decide) ?_
    injection h with h
    subst h
    exact z_iret C rfl ⟨rfl, rfl⟩ dX1_next_39
