def f_X10_isPot (S : MS) (a1 : Int32) : Int32 := (f_X10_within a1 0 ((mI S 1) - 1))
set_option maxHeartbeats 4000000 in
set_option maxRecDepth 100000 in
theorem c_X10_isPot (l : Launch) (G : zGT) (q : Nat → Nat) (S : MS) (X : va_W) (a1 : Int32) : MG l yX10_isPot wsX10_isPot ({ frames := 1, cells := 0, slots := 0, locals := 22 }) G [.ref (q 0), .int a1] (MW G q S ++ X) (va_Qi (fun r u => r = (f_X10_isPot S a1) ∧ u = MW G q S ++ X)) := by
  have hi10 : ∀ w ∈ u_ws RX10 TX10 39, w ∈ wsX10_isPot := fun _ h => List.mem_cons_of_mem _ (List.mem_append_right _ h)
  refine MG.of (cc := cX10_isPot) (maxL := 2) (ret := (some .boolean)) (own := RX10) (nm := "isPot") (by decide) rfl rfl rfl (Nat.le_of_ble_eq_true rfl) ?_
  intro p e s m args below meth c A C
  obtain ⟨res, h⟩ : ∃ z, f_X10_isPot S a1 = z := ⟨_, rfl⟩
  rw [h]
  rw [f_X10_isPot] at h
  refine z_eq (lv2 := [(0, .ref (q 0)), (1, .int a1)]) rfl rfl rfl rfl ?_
  refine z_iload_n C 1 dX10_isPot_0 rfl rfl ?_
  refine z_iconst (v := 0) C dX10_isPot_1 (by decide) ?_
  refine z_aload_n C 0 dX10_isPot_2 rfl rfl ?_
  refine mg_1 C hi10 (List.mem_of_getElem? (i := 1) rfl) dX10_isPot_3 ?_
  refine z_iconst (v := 1) C dX10_isPot_6 (by decide) ?_
  refine z_isub C dX10_isPot_7 ?_
  refine z_goti1 C (z_runS C (c_X10_within l G (MW G q S ++ X) a1 0 ((mI S 1) - 1)) (va_cwS 3 C.hts gX10_isPot_X10_within rfl rfl rfl (by decide +kernel) ⟨Nat.le_of_ble_eq_true rfl, Nat.le_of_ble_eq_true rfl⟩) rfl rfl (Nat.le_of_ble_eq_true rfl) dX10_isPot_8 ⟨Nat.le_of_ble_eq_true rfl, Nat.le_of_ble_eq_true rfl⟩) rfl rfl ?_
  subst h
  exact z_zret C rfl (bf_X10_within a1 0 ((mI S 1) - 1)) ⟨rfl, rfl⟩ dX10_isPot_11
theorem bf_X10_isPot (S : MS) (a1 : Int32) : f_X10_isPot S a1 = 0 ∨ f_X10_isPot S a1 = 1 := by
  unfold f_X10_isPot
  repeat' split
  all_goals first | exact Or.inl rfl | exact Or.inr rfl | exact bf_X10_within ..
def f_X10_keepsOf (S : MS) (a1 : Int32) : Option (Int32) := gd a1 4 (if (mA S 4 a1.toNatClampNeg) = 1 then some 1 else if (mA S 4 a1.toNatClampNeg) = 2 then some 3 else if (mA S 4 a1.toNatClampNeg) = 3 then some 9 else if (mA S 4 a1.toNatClampNeg) = 4 then some 6 else some 0)
set_option maxHeartbeats 4000000 in
set_option maxRecDepth 100000 in
theorem c_X10_keepsOf (l : Launch) (G : zGT) (q : Nat → Nat) (S : MS) (X : va_W) (a1 : Int32) {res : Int32} (h : f_X10_keepsOf S a1 = some res) : MG l yX10_keepsOf wsX10_keepsOf ({ frames := 0, cells := 0, slots := 0, locals := 0 }) G [.ref (q 0), .int a1] (MW G q S ++ X) (va_Qi (fun r u => r = res ∧ u = MW G q S ++ X)) := by
  have hi10 : ∀ w ∈ u_ws RX10 TX10 39, w ∈ wsX10_keepsOf := fun _ h => List.mem_cons_of_mem _ (List.mem_append_right _ h)
  refine MG.of (cc := cX10_keepsOf) (maxL := 2) (ret := (some .int)) (own := RX10) (nm := "keepsOf") (by decide) rfl rfl rfl (Nat.le_of_ble_eq_true rfl) ?_
  intro p e s m args below meth c A C
  rw [f_X10_keepsOf] at h
  refine z_eq (lv2 := [(0, .ref (q 0)), (1, .int a1)]) rfl rfl rfl rfl ?_
  refine z_aload_n C 0 dX10_keepsOf_0 rfl rfl ?_
  refine mg_4 C hi10 (List.mem_of_getElem? (i := 1) rfl) dX10_keepsOf_1 ?_
  refine z_iload_n C 1 dX10_keepsOf_4 rfl rfl ?_
  obtain ⟨hg1, h⟩ := gd_some h
  refine ml_4 C hg1 dX10_keepsOf_5 ?_
  by_cases c2 : (mA S 4 a1.toNatClampNeg) = 1
  · replace h := zt c2 h
    refine z_tableIn (off := 30) (tgt := 36) C dX10_keepsOf_6 (by rw [c2]; decide) (by rw [c2]; decide) (by rw [c2]; rfl) (by decide) ?_
    refine z_iconst (v := 1) C dX10_keepsOf_36 (by decide) ?_
    injection h with h
    subst h
    exact z_iret C rfl ⟨rfl, rfl⟩ dX10_keepsOf_37
  replace h := zf c2 h
  by_cases c3 : (mA S 4 a1.toNatClampNeg) = 2
  · replace h := zt c3 h
    refine z_tableIn (off := 32) (tgt := 38) C dX10_keepsOf_6 (by rw [c3]; decide) (by rw [c3]; decide) (by rw [c3]; rfl) (by decide) ?_
    refine z_iconst (v := 3) C dX10_keepsOf_38 (by decide) ?_
    injection h with h
    subst h
    exact z_iret C rfl ⟨rfl, rfl⟩ dX10_keepsOf_39
  replace h := zf c3 h
  by_cases c4 : (mA S 4 a1.toNatClampNeg) = 3
  · replace h := zt c4 h
    refine z_tableIn (off := 34) (tgt := 40) C dX10_keepsOf_6 (by rw [c4]; decide) (by rw [c4]; decide) (by rw [c4]; rfl) (by decide) ?_
    refine z_bipush (v := 9) C dX10_keepsOf_40 (by decide) ?_
    injection h with h
    subst h
    exact z_iret C rfl ⟨rfl, rfl⟩ dX10_keepsOf_42
  replace h := zf c4 h
  by_cases c5 : (mA S 4 a1.toNatClampNeg) = 4
  · replace h := zt c5 h
    refine z_tableIn (off := 37) (tgt := 43) C dX10_keepsOf_6 (by rw [c5]; decide) (by rw [c5]; decide) (by rw [c5]; rfl) (by decide) ?_
    refine z_bipush (v := 6) C dX10_keepsOf_43 (by decide) ?_
    injection h with h
    subst h
    exact z_iret C rfl ⟨rfl, rfl⟩ dX10_keepsOf_45
  replace h := zf c5 h
  refine z_tableOut (tgt := 46) C dX10_keepsOf_6 (by have e0 := ne_toInt (n := 1) c2 rfl; have e1 := ne_toInt (n := 2) c3 rfl; have e2 := ne_toInt (n := 3) c4 rfl; have e3 := ne_toInt (n := 4) c5 rfl; omega) (by decide) ?_
  refine z_iconst (v := 0) C dX10_keepsOf_46 (by decide) ?_
  injection h with h
  subst h
  exact z_iret C rfl ⟨rfl, rfl⟩ dX10_keepsOf_47
def f_X10_boils (S : MS) (a1 : Int32) : Option (Int32) := gd a1 4 (if (mA S 9 a1.toNatClampNeg) = (-1) then some 0 else some 1)
set_option maxHeartbeats 4000000 in
set_option maxRecDepth 100000 in
theorem c_X10_boils (l : Launch) (G : zGT) (q : Nat → Nat) (S : MS) (X : va_W) (a1 : Int32) {res : Int32} (h : f_X10_boils S a1 = some res) : MG l yX10_boils wsX10_boils ({ frames := 0, cells := 0, slots := 0, locals := 0 }) G [.ref (q 0), .int a1] (MW G q S ++ X) (va_Qi (fun r u => r = res ∧ u = MW G q S ++ X)) := by
  have hi10 : ∀ w ∈ u_ws RX10 TX10 39, w ∈ wsX10_boils := fun _ h => List.mem_cons_of_mem _ (List.mem_append_right _ h)
  refine MG.of (cc := cX10_boils) (maxL := 2) (ret := (some .boolean)) (own := RX10) (nm := "boils") (by decide) rfl rfl rfl (Nat.le_of_ble_eq_true rfl) ?_
  intro p e s m args below meth c A C
  rw [f_X10_boils] at h
  refine z_eq (lv2 := [(0, .ref (q 0)), (1, .int a1)]) rfl rfl rfl rfl ?_
  refine z_aload_n C 0 dX10_boils_0 rfl rfl ?_
  refine mg_9 C hi10 (List.mem_of_getElem? (i := 1) rfl) dX10_boils_1 ?_
  refine z_iload_n C 1 dX10_boils_4 rfl rfl ?_
  obtain ⟨hg1, h⟩ := gd_some h
  refine ml_9 C hg1 dX10_boils_5 ?_
  refine z_iconst (v := (-1)) C dX10_boils_6 (by decide) ?_
  refine z_icmp_eq (tgt := 14) C dX10_boils_7 (by decide) (fun c2 => ?_) (fun c2 => ?_)
  · replace h := zt c2 h
    refine z_iconst (v := 0) C dX10_boils_14 (by decide) ?_
    injection h with h
    subst h
    exact z_zret C rfl (Or.inl rfl) ⟨rfl, rfl⟩ dX10_boils_15
  · replace h := zf c2 h
    refine z_iconst (v := 1) C dX10_boils_10 (by decide) ?_
    refine z_goto (tgt := 15) C dX10_boils_11 (by decide) ?_
    injection h with h
    subst h
    exact z_zret C rfl (Or.inr rfl) ⟨rfl, rfl⟩ dX10_boils_15
def f_X10_dueOf (S : MS) (a1 : Int32) : Option (Int32) := gd a1 4 (gd a1 4 (some ((mA S 9 a1.toNatClampNeg) + (mA S 5 a1.toNatClampNeg))))
set_option maxHeartbeats 4000000 in
set_option maxRecDepth 100000 in
theorem c_X10_dueOf (l : Launch) (G : zGT) (q : Nat → Nat) (S : MS) (X : va_W) (a1 : Int32) {res : Int32} (h : f_X10_dueOf S a1 = some res) : MG l yX10_dueOf wsX10_dueOf ({ frames := 0, cells := 0, slots := 0, locals := 0 }) G [.ref (q 0), .int a1] (MW G q S ++ X) (va_Qi (fun r u => r = res ∧ u = MW G q S ++ X)) := by
  have hi10 : ∀ w ∈ u_ws RX10 TX10 39, w ∈ wsX10_dueOf := fun _ h => List.mem_cons_of_mem _ (List.mem_append_right _ h)
  refine MG.of (cc := cX10_dueOf) (maxL := 2) (ret := (some .int)) (own := RX10) (nm := "dueOf") (by decide) rfl rfl rfl (Nat.le_of_ble_eq_true rfl) ?_
  intro p e s m args below meth c A C
  rw [f_X10_dueOf] at h
  refine z_eq (lv2 := [(0, .ref (q 0)), (1, .int a1)]) rfl rfl rfl rfl ?_
  refine z_aload_n C 0 dX10_dueOf_0 rfl rfl ?_
  refine mg_9 C hi10 (List.mem_of_getElem? (i := 1) rfl) dX10_dueOf_1 ?_
  refine z_iload_n C 1 dX10_dueOf_4 rfl rfl ?_
  obtain ⟨hg1, h⟩ := gd_some h
  refine ml_9 C hg1 dX10_dueOf_5 ?_
  refine z_aload_n C 0 dX10_dueOf_6 rfl rfl ?_
  refine mg_5 C hi10 (List.mem_of_getElem? (i := 2) rfl) dX10_dueOf_7 ?_
  refine z_iload_n C 1 dX10_dueOf_10 rfl rfl ?_
  obtain ⟨hg2, h⟩ := gd_some h
  refine ml_5 C hg2 dX10_dueOf_11 ?_
  refine z_iadd C dX10_dueOf_12 ?_
  injection h with h
  subst h
  exact z_iret C rfl ⟨rfl, rfl⟩ dX10_dueOf_13
def f_X10_outAt (S : MS) (a1 : Int32) (a2 : Int32) : Option (Int32) := (f_X10_dueOf S a1).bind fun r2 => (f_X10_keepsOf S a1).bind fun r4 => some (f_X10_out a2 r2 r4)
set_option maxHeartbeats 4000000 in
set_option maxRecDepth 100000 in
theorem c_X10_outAt (l : Launch) (G : zGT) (q : Nat → Nat) (S : MS) (X : va_W) (a1 : Int32) (a2 : Int32) {res : Int32} (h : f_X10_outAt S a1 a2 = some res) : MG l yX10_outAt wsX10_outAt ({ frames := 1, cells := 0, slots := 0, locals := 22 }) G [.ref (q 0), .int a1, .int a2] (MW G q S ++ X) (va_Qi (fun r u => r = res ∧ u = MW G q S ++ X)) := by
  refine MG.of (cc := cX10_outAt) (maxL := 3) (ret := (some .int)) (own := RX10) (nm := "outAt") (by decide) rfl rfl rfl (Nat.le_of_ble_eq_true rfl) ?_
  intro p e s m args below meth c A C
  rw [f_X10_outAt] at h
  refine z_eq (lv2 := [(0, .ref (q 0)), (1, .int a1), (2, .int a2)]) rfl rfl rfl rfl ?_
  refine z_iload_n C 2 dX10_outAt_0 rfl rfl ?_
  refine z_aload_n C 0 dX10_outAt_1 rfl rfl ?_
  refine z_iload_n C 1 dX10_outAt_2 rfl rfl ?_
  obtain ⟨r2, hf1, h⟩ := bd_some h
  refine z_goti1 C (z_runV C (c_X10_dueOf l G q S X a1 hf1) (cwV 1 C.hts gX10_outAt_X10_dueOf rfl rfl rfl (by decide +kernel) ⟨Nat.le_of_ble_eq_true rfl, Nat.le_of_ble_eq_true rfl⟩) 0 rfl rfl rfl rfl (Nat.le_of_ble_eq_true rfl) dX10_outAt_3 ⟨Nat.le_of_ble_eq_true rfl, Nat.le_of_ble_eq_true rfl⟩) rfl rfl ?_
  refine z_aload_n C 0 dX10_outAt_6 rfl rfl ?_
  refine z_iload_n C 1 dX10_outAt_7 rfl rfl ?_
  obtain ⟨r4, hf3, h⟩ := bd_some h
  refine z_goti1 C (z_runV C (c_X10_keepsOf l G q S X a1 hf3) (cwV 1 C.hts gX10_outAt_X10_keepsOf rfl rfl rfl (by decide +kernel) ⟨Nat.le_of_ble_eq_true rfl, Nat.le_of_ble_eq_true rfl⟩) 0 rfl rfl rfl rfl (Nat.le_of_ble_eq_true rfl) dX10_outAt_8 ⟨Nat.le_of_ble_eq_true rfl, Nat.le_of_ble_eq_true rfl⟩) rfl rfl ?_
  refine z_goti1 C (z_runS C (c_X10_out l G (MW G q S ++ X) a2 r2 r4) (va_cwS 3 C.hts gX10_outAt_X10_out rfl rfl rfl (by decide +kernel) ⟨Nat.le_of_ble_eq_true rfl, Nat.le_of_ble_eq_true rfl⟩) rfl rfl (Nat.le_of_ble_eq_true rfl) dX10_outAt_11 ⟨Nat.le_of_ble_eq_true rfl, Nat.le_of_ble_eq_true rfl⟩) rfl rfl ?_
  injection h with h
  subst h
  exact z_iret C rfl ⟨rfl, rfl⟩ dX10_outAt_14
def f_X10_potNow (S : MS) (a1 : Int32) (a2 : Int32) : Option (Int32) := if a2 = 0 then gd a1 4 (some (mA S 4 a1.toNatClampNeg)) else if a2 = 1 then gd a1 4 (some (mA S 5 a1.toNatClampNeg)) else if a2 = 2 then (f_X10_keepsOf S a1).bind fun r7 => some r7 else if a2 = 3 then gd a1 4 (some (mA S 9 a1.toNatClampNeg)) else if a2 = 4 then (f_X10_boils S a1).bind fun r12 => if r12 = 0 then some (-1) else (f_X10_dueOf S a1).bind fun r15 => some r15 else if a2 = 5 then (f_X10_boils S a1).bind fun r18 => if r18 = 0 then some (-1) else (f_X10_outAt S a1 (mI S 6)).bind fun r21 => some r21 else if a2 = 6 then gd a1 4 (some (mA S 10 a1.toNatClampNeg)) else gd a1 4 (some (mA S 11 a1.toNatClampNeg))
set_option maxHeartbeats 4000000 in
set_option maxRecDepth 100000 in
theorem c_X10_potNow (l : Launch) (G : zGT) (q : Nat → Nat) (S : MS) (X : va_W) (a1 : Int32) (a2 : Int32) {res : Int32} (h : f_X10_potNow S a1 a2 = some res) : MG l yX10_potNow wsX10_potNow ({ frames := 2, cells := 0, slots := 0, locals := 44 }) G [.ref (q 0), .int a1, .int a2] (MW G q S ++ X) (va_Qi (fun r u => r = res ∧ u = MW G q S ++ X)) := by
  have hi10 : ∀ w ∈ u_ws RX10 TX10 39, w ∈ wsX10_potNow := fun _ h => List.mem_cons_of_mem _ (List.mem_append_right _ h)
  refine MG.of (cc := cX10_potNow) (maxL := 3) (ret := (some .int)) (own := RX10) (nm := "potNow") (by decide) rfl rfl rfl (Nat.le_of_ble_eq_true rfl) ?_
  intro p e s m args below meth c A C
  rw [f_X10_potNow] at h
  refine z_eq (lv2 := [(0, .ref (q 0)), (1, .int a1), (2, .int a2)]) rfl rfl rfl rfl ?_
  refine z_iload_n C 2 dX10_potNow_0 rfl rfl ?_
  by_cases c1 : a2 = 0
  · replace h := zt c1 h
    refine z_tableIn (off := 43) (tgt := 44) C dX10_potNow_1 (by rw [c1]; decide) (by rw [c1]; decide) (by rw [c1]; rfl) (by decide) ?_
    refine z_aload_n C 0 dX10_potNow_44 rfl rfl ?_
    refine mg_4 C hi10 (List.mem_of_getElem? (i := 1) rfl) dX10_potNow_45 ?_
    refine z_iload_n C 1 dX10_potNow_48 rfl rfl ?_
    obtain ⟨hg2, h⟩ := gd_some h
    refine ml_4 C hg2 dX10_potNow_49 ?_
    injection h with h
    subst h
    exact z_iret C rfl ⟨rfl, rfl⟩ dX10_potNow_50
  replace h := zf c1 h
  by_cases c3 : a2 = 1
  · replace h := zt c3 h
    refine z_tableIn (off := 50) (tgt := 51) C dX10_potNow_1 (by rw [c3]; decide) (by rw [c3]; decide) (by rw [c3]; rfl) (by decide) ?_
    refine z_aload_n C 0 dX10_potNow_51 rfl rfl ?_
    refine mg_5 C hi10 (List.mem_of_getElem? (i := 2) rfl) dX10_potNow_52 ?_
    refine z_iload_n C 1 dX10_potNow_55 rfl rfl ?_
    obtain ⟨hg4, h⟩ := gd_some h
    refine ml_5 C hg4 dX10_potNow_56 ?_
    injection h with h
    subst h
    exact z_iret C rfl ⟨rfl, rfl⟩ dX10_potNow_57
  replace h := zf c3 h
  by_cases c5 : a2 = 2
  · replace h := zt c5 h
    refine z_tableIn (off := 57) (tgt := 58) C dX10_potNow_1 (by rw [c5]; decide) (by rw [c5]; decide) (by rw [c5]; rfl) (by decide) ?_
    refine z_aload_n C 0 dX10_potNow_58 rfl rfl ?_
    refine z_iload_n C 1 dX10_potNow_59 rfl rfl ?_
    obtain ⟨r7, hf6, h⟩ := bd_some h
    refine z_goti1 C (z_runV C (c_X10_keepsOf l G q S X a1 hf6) (cwV 1 C.hts gX10_potNow_X10_keepsOf rfl rfl rfl (by decide +kernel) ⟨Nat.le_of_ble_eq_true rfl, Nat.le_of_ble_eq_true rfl⟩) 0 rfl rfl rfl rfl (Nat.le_of_ble_eq_true rfl) dX10_potNow_60 ⟨Nat.le_of_ble_eq_true rfl, Nat.le_of_ble_eq_true rfl⟩) rfl rfl ?_
    injection h with h
    subst h
    exact z_iret C rfl ⟨rfl, rfl⟩ dX10_potNow_63
  replace h := zf c5 h
  by_cases c8 : a2 = 3
  · replace h := zt c8 h
    refine z_tableIn (off := 63) (tgt := 64) C dX10_potNow_1 (by rw [c8]; decide) (by rw [c8]; decide) (by rw [c8]; rfl) (by decide) ?_
    refine z_aload_n C 0 dX10_potNow_64 rfl rfl ?_
    refine mg_9 C hi10 (List.mem_of_getElem? (i := 3) rfl) dX10_potNow_65 ?_
    refine z_iload_n C 1 dX10_potNow_68 rfl rfl ?_
    obtain ⟨hg9, h⟩ := gd_some h
    refine ml_9 C hg9 dX10_potNow_69 ?_
    injection h with h
    subst h
    exact z_iret C rfl ⟨rfl, rfl⟩ dX10_potNow_70
  replace h := zf c8 h
  by_cases c10 : a2 = 4
  · replace h := zt c10 h
    refine z_tableIn (off := 70) (tgt := 71) C dX10_potNow_1 (by rw [c10]; decide) (by rw [c10]; decide) (by rw [c10]; rfl) (by decide) ?_
    refine z_aload_n C 0 dX10_potNow_71 rfl rfl ?_
    refine z_iload_n C 1 dX10_potNow_72 rfl rfl ?_
    obtain ⟨r12, hf11, h⟩ := bd_some h
    refine z_goti1 C (z_runV C (c_X10_boils l G q S X a1 hf11) (cwV 1 C.hts gX10_potNow_X10_boils rfl rfl rfl (by decide +kernel) ⟨Nat.le_of_ble_eq_true rfl, Nat.le_of_ble_eq_true rfl⟩) 0 rfl rfl rfl rfl (Nat.le_of_ble_eq_true rfl) dX10_potNow_73 ⟨Nat.le_of_ble_eq_true rfl, Nat.le_of_ble_eq_true rfl⟩) rfl rfl ?_
    refine z_if_eq (tgt := 87) C dX10_potNow_76 (by decide) (fun c13 => ?_) (fun c13 => ?_)
    · replace h := zt c13 h
      refine z_iconst (v := (-1)) C dX10_potNow_87 (by decide) ?_
      injection h with h
      subst h
      exact z_iret C rfl ⟨rfl, rfl⟩ dX10_potNow_88
    · replace h := zf c13 h
      refine z_aload_n C 0 dX10_potNow_79 rfl rfl ?_
      refine z_iload_n C 1 dX10_potNow_80 rfl rfl ?_
      obtain ⟨r15, hf14, h⟩ := bd_some h
      refine z_goti1 C (z_runV C (c_X10_dueOf l G q S X a1 hf14) (cwV 1 C.hts gX10_potNow_X10_dueOf rfl rfl rfl (by decide +kernel) ⟨Nat.le_of_ble_eq_true rfl, Nat.le_of_ble_eq_true rfl⟩) 0 rfl rfl rfl rfl (Nat.le_of_ble_eq_true rfl) dX10_potNow_81 ⟨Nat.le_of_ble_eq_true rfl, Nat.le_of_ble_eq_true rfl⟩) rfl rfl ?_
      refine z_goto (tgt := 88) C dX10_potNow_84 (by decide) ?_
      injection h with h
      subst h
      exact z_iret C rfl ⟨rfl, rfl⟩ dX10_potNow_88
  replace h := zf c10 h
  by_cases c16 : a2 = 5
  · replace h := zt c16 h
    refine z_tableIn (off := 88) (tgt := 89) C dX10_potNow_1 (by rw [c16]; decide) (by rw [c16]; decide) (by rw [c16]; rfl) (by decide) ?_
    refine z_aload_n C 0 dX10_potNow_89 rfl rfl ?_
    refine z_iload_n C 1 dX10_potNow_90 rfl rfl ?_
    obtain ⟨r18, hf17, h⟩ := bd_some h
    refine z_goti1 C (z_runV C (c_X10_boils l G q S X a1 hf17) (cwV 1 C.hts gX10_potNow_X10_boils rfl rfl rfl (by decide +kernel) ⟨Nat.le_of_ble_eq_true rfl, Nat.le_of_ble_eq_true rfl⟩) 0 rfl rfl rfl rfl (Nat.le_of_ble_eq_true rfl) dX10_potNow_91 ⟨Nat.le_of_ble_eq_true rfl, Nat.le_of_ble_eq_true rfl⟩) rfl rfl ?_
    refine z_if_eq (tgt := 109) C dX10_potNow_94 (by decide) (fun c19 => ?_) (fun c19 => ?_)
    · replace h := zt c19 h
      refine z_iconst (v := (-1)) C dX10_potNow_109 (by decide) ?_
      injection h with h
      subst h
      exact z_iret C rfl ⟨rfl, rfl⟩ dX10_potNow_110
    · replace h := zf c19 h
      refine z_aload_n C 0 dX10_potNow_97 rfl rfl ?_
      refine z_iload_n C 1 dX10_potNow_98 rfl rfl ?_
      refine z_aload_n C 0 dX10_potNow_99 rfl rfl ?_
      refine mg_6 C hi10 (List.mem_of_getElem? (i := 4) rfl) dX10_potNow_100 ?_
      obtain ⟨r21, hf20, h⟩ := bd_some h
      refine z_goti1 C (z_runV C (c_X10_outAt l G q S X a1 (mI S 6) hf20) (cwV 2 C.hts gX10_potNow_X10_outAt rfl rfl rfl (by decide +kernel) ⟨Nat.le_of_ble_eq_true rfl, Nat.le_of_ble_eq_true rfl⟩) 0 rfl rfl rfl rfl (Nat.le_of_ble_eq_true rfl) dX10_potNow_103 ⟨Nat.le_of_ble_eq_true rfl, Nat.le_of_ble_eq_true rfl⟩) rfl rfl ?_
      refine z_goto (tgt := 110) C dX10_potNow_106 (by decide) ?_
      injection h with h
      subst h
      exact z_iret C rfl ⟨rfl, rfl⟩ dX10_potNow_110
  replace h := zf c16 h
  by_cases c22 : a2 = 6
  · replace h := zt c22 h
    refine z_tableIn (off := 110) (tgt := 111) C dX10_potNow_1 (by rw [c22]; decide) (by rw [c22]; decide) (by rw [c22]; rfl) (by decide) ?_
    refine z_aload_n C 0 dX10_potNow_111 rfl rfl ?_
    refine mg_10 C hi10 (List.mem_of_getElem? (i := 5) rfl) dX10_potNow_112 ?_
    refine z_iload_n C 1 dX10_potNow_115 rfl rfl ?_
    obtain ⟨hg23, h⟩ := gd_some h
    refine ml_10 C hg23 dX10_potNow_116 ?_
    injection h with h
    subst h
    exact z_iret C rfl ⟨rfl, rfl⟩ dX10_potNow_117
  replace h := zf c22 h
  refine z_tableOut (tgt := 118) C dX10_potNow_1 (by have e0 := ne_toInt (n := 0) c1 rfl; have e1 := ne_toInt (n := 1) c3 rfl; have e2 := ne_toInt (n := 2) c5 rfl; have e3 := ne_toInt (n := 3) c8 rfl; have e4 := ne_toInt (n := 4) c10 rfl; have e5 := ne_toInt (n := 5) c16 rfl; have e6 := ne_toInt (n := 6) c22 rfl; omega) (by decide) ?_
  refine z_aload_n C 0 dX10_potNow_118 rfl rfl ?_
  refine mg_11 C hi10 (List.mem_of_getElem? (i := 6) rfl) dX10_potNow_119 ?_
  refine z_iload_n C 1 dX10_potNow_122 rfl rfl ?_
  obtain ⟨hg24, h⟩ := gd_some h
  refine ml_11 C hg24 dX10_potNow_123 ?_
  injection h with h
  subst h
  exact z_iret C rfl ⟨rfl, rfl⟩ dX10_potNow_124
def f_X10_about (S : MS) (a1 : Int32) (a2 : Int32) : Option (Int32) := if (f_X10_isPot S a1) = 0 then some (-101) else if (f_X10_within a2 0 7) = 0 then some (-102) else (f_X10_potNow S a1 a2).bind fun r4 => some r4
set_option maxHeartbeats 4000000 in
set_option maxRecDepth 100000 in
theorem c_X10_about (l : Launch) (G : zGT) (q : Nat → Nat) (S : MS) (X : va_W) (a1 : Int32) (a2 : Int32) {res : Int32} (h : f_X10_about S a1 a2 = some res) : MG l yX10_about wsX10_about ({ frames := 3, cells := 0, slots := 0, locals := 66 }) G [.ref (q 0), .int a1, .int a2] (MW G q S ++ X) (va_Qi (fun r u => r = res ∧ u = MW G q S ++ X)) := by
  refine MG.of (cc := cX10_about) (maxL := 3) (ret := (some .int)) (own := RX10) (nm := "about") (by decide) rfl rfl rfl (Nat.le_of_ble_eq_true rfl) ?_
  intro p e s m args below meth c A C
  rw [f_X10_about] at h
  refine z_eq (lv2 := [(0, .ref (q 0)), (1, .int a1), (2, .int a2)]) rfl rfl rfl rfl ?_
  refine z_aload_n C 0 dX10_about_0 rfl rfl ?_
  refine z_iload_n C 1 dX10_about_1 rfl rfl ?_
  refine z_goti1 C (z_runV C (c_X10_isPot l G q S X a1) (cwV 1 C.hts gX10_about_X10_isPot rfl rfl rfl (by decide +kernel) ⟨Nat.le_of_ble_eq_true rfl, Nat.le_of_ble_eq_true rfl⟩) 0 rfl rfl rfl rfl (Nat.le_of_ble_eq_true rfl) dX10_about_2 ⟨Nat.le_of_ble_eq_true rfl, Nat.le_of_ble_eq_true rfl⟩) rfl rfl ?_
  refine z_if_ne (tgt := 13) C dX10_about_5 (by decide) (fun c1 => ?_) (fun c1 => ?_)
  · replace h := zf c1 h
    refine z_iload_n C 2 dX10_about_13 rfl rfl ?_
    refine z_iconst (v := 0) C dX10_about_14 (by decide) ?_
    refine z_bipush (v := 7) C dX10_about_15 (by decide) ?_
    refine z_goti1 C (z_runS C (c_X10_within l G (MW G q S ++ X) a2 0 7) (va_cwS 3 C.hts gX10_about_X10_within rfl rfl rfl (by decide +kernel) ⟨Nat.le_of_ble_eq_true rfl, Nat.le_of_ble_eq_true rfl⟩) rfl rfl (Nat.le_of_ble_eq_true rfl) dX10_about_17 ⟨Nat.le_of_ble_eq_true rfl, Nat.le_of_ble_eq_true rfl⟩) rfl rfl ?_
    refine z_if_eq (tgt := 32) C dX10_about_20 (by decide) (fun c2 => ?_) (fun c2 => ?_)
    · replace h := zt c2 h
      refine z_bipush (v := (-102)) C dX10_about_32 (by decide) ?_
      injection h with h
      subst h
      exact z_iret C rfl ⟨rfl, rfl⟩ dX10_about_34
    · replace h := zf c2 h
      refine z_aload_n C 0 dX10_about_23 rfl rfl ?_
      refine z_iload_n C 1 dX10_about_24 rfl rfl ?_
      refine z_iload_n C 2 dX10_about_25 rfl rfl ?_
      obtain ⟨r4, hf3, h⟩ := bd_some h
      refine z_goti1 C (z_runV C (c_X10_potNow l G q S X a1 a2 hf3) (cwV 2 C.hts gX10_about_X10_potNow rfl rfl rfl (by decide +kernel) ⟨Nat.le_of_ble_eq_true rfl, Nat.le_of_ble_eq_true rfl⟩) 0 rfl rfl rfl rfl (Nat.le_of_ble_eq_true rfl) dX10_about_26 ⟨Nat.le_of_ble_eq_true rfl, Nat.le_of_ble_eq_true rfl⟩) rfl rfl ?_
      refine z_goto (tgt := 34) C dX10_about_29 (by decide) ?_
      injection h with h
      subst h
      exact z_iret C rfl ⟨rfl, rfl⟩ dX10_about_34
  · replace h := zt c1 h
    refine z_bipush (v := (-101)) C dX10_about_8 (by decide) ?_
    refine z_goto (tgt := 34) C dX10_about_10 (by decide) ?_
    injection h with h
    subst h
    exact z_iret C rfl ⟨rfl, rfl⟩ dX10_about_34
def f_X10_as (S : MS) (a1 : Int32) (a2 : Int32) : Option (Int32) := if (f_X10_isPot S a1) = 0 then some (-101) else if (f_X10_within a2 0 4) = 0 then some (-102) else gd a1 4 (if a2 = 0 then some a1 else if (mA S 4 a1.toNatClampNeg) = a2 then some a1 else if a2 = 2 then if (mA S 4 a1.toNatClampNeg) = 4 then some a1 else some (-1) else some (-1))
set_option maxHeartbeats 4000000 in
set_option maxRecDepth 100000 in
theorem c_X10_as (l : Launch) (G : zGT) (q : Nat → Nat) (S : MS) (X : va_W) (a1 : Int32) (a2 : Int32) {res : Int32} (h : f_X10_as S a1 a2 = some res) : MG l yX10_as wsX10_as ({ frames := 2, cells := 0, slots := 0, locals := 43 }) G [.ref (q 0), .int a1, .int a2] (MW G q S ++ X) (va_Qi (fun r u => r = res ∧ u = MW G q S ++ X)) := by
  have hi10 : ∀ w ∈ u_ws RX10 TX10 39, w ∈ wsX10_as := fun _ h => List.mem_cons_of_mem _ (List.mem_append_right _ h)
  refine MG.of (cc := cX10_as) (maxL := 4) (ret := (some .int)) (own := RX10) (nm := "as") (by decide) rfl rfl rfl (Nat.le_of_ble_eq_true rfl) ?_
  intro p e s m args below meth c A C
  rw [f_X10_as] at h
  refine z_eq (lv2 := [(0, .ref (q 0)), (1, .int a1), (2, .int a2)]) rfl rfl rfl rfl ?_
  refine z_aload_n C 0 dX10_as_0 rfl rfl ?_
  refine z_iload_n C 1 dX10_as_1 rfl rfl ?_
  refine z_goti1 C (z_runV C (c_X10_isPot l G q S X a1) (cwV 1 C.hts gX10_as_X10_isPot rfl rfl rfl (by decide +kernel) ⟨Nat.le_of_ble_eq_true rfl, Nat.le_of_ble_eq_true rfl⟩) 0 rfl rfl rfl rfl (Nat.le_of_ble_eq_true rfl) dX10_as_2 ⟨Nat.le_of_ble_eq_true rfl, Nat.le_of_ble_eq_true rfl⟩) rfl rfl ?_
  refine z_if_ne (tgt := 11) C dX10_as_5 (by decide) (fun c1 => ?_) (fun c1 => ?_)
  · replace h := zf c1 h
    refine z_iload_n C 2 dX10_as_11 rfl rfl ?_
    refine z_iconst (v := 0) C dX10_as_12 (by decide) ?_
    refine z_iconst (v := 4) C dX10_as_13 (by decide) ?_
    refine z_goti1 C (z_runS C (c_X10_within l G (MW G q S ++ X) a2 0 4) (va_cwS 3 C.hts gX10_as_X10_within rfl rfl rfl (by decide +kernel) ⟨Nat.le_of_ble_eq_true rfl, Nat.le_of_ble_eq_true rfl⟩) rfl rfl (Nat.le_of_ble_eq_true rfl) dX10_as_14 ⟨Nat.le_of_ble_eq_true rfl, Nat.le_of_ble_eq_true rfl⟩) rfl rfl ?_
    refine z_if_ne (tgt := 23) C dX10_as_17 (by decide) (fun c2 => ?_) (fun c2 => ?_)
    · replace h := zf c2 h
      refine z_aload_n C 0 dX10_as_23 rfl rfl ?_
      refine mg_4 C hi10 (List.mem_of_getElem? (i := 1) rfl) dX10_as_24 ?_
      refine z_iload_n C 1 dX10_as_27 rfl rfl ?_
      obtain ⟨hg3, h⟩ := gd_some h
      refine ml_4 C hg3 dX10_as_28 ?_
      refine z_istore_n (lv2 := [(3, .int (mA S 4 a1.toNatClampNeg)), (0, .ref (q 0)), (1, .int a1), (2, .int a2)]) C dX10_as_29 rfl (by decide) rfl ?_
      refine z_iload_n C 3 dX10_as_30 rfl rfl ?_
      refine z_if_eq (tgt := 49) C dX10_as_31 (by decide) (fun c4 => ?_) (fun c4 => ?_)
      · replace h := zt c4 h
        refine z_iload_n C 2 dX10_as_49 rfl rfl ?_
        refine z_goto (tgt := 54) C dX10_as_50 (by decide) ?_
        injection h with h
        subst h
        exact z_iret C rfl ⟨rfl, rfl⟩ dX10_as_54
      · replace h := zf c4 h
        refine z_iload_n C 0 dX10_as_34 rfl rfl ?_
        refine z_iload_n C 3 dX10_as_35 rfl rfl ?_
        refine z_icmp_eq (tgt := 49) C dX10_as_36 (by decide) (fun c5 => ?_) (fun c5 => ?_)
        · replace h := zt c5 h
          refine z_iload_n C 2 dX10_as_49 rfl rfl ?_
          refine z_goto (tgt := 54) C dX10_as_50 (by decide) ?_
          injection h with h
          subst h
          exact z_iret C rfl ⟨rfl, rfl⟩ dX10_as_54
        · replace h := zf c5 h
          refine z_iload_n C 3 dX10_as_39 rfl rfl ?_
          refine z_iconst (v := 2) C dX10_as_40 (by decide) ?_
          refine z_icmp_ne (tgt := 53) C dX10_as_41 (by decide) (fun c6 => ?_) (fun c6 => ?_)
          · replace h := zf c6 h
            refine z_iconst (v := (-1)) C dX10_as_53 (by decide) ?_
            injection h with h
            subst h
            exact z_iret C rfl ⟨rfl, rfl⟩ dX10_as_54
          · replace h := zt c6 h
            refine z_iload_n C 0 dX10_as_44 rfl rfl ?_
            refine z_iconst (v := 4) C dX10_as_45 (by decide) ?_
            refine z_icmp_ne (tgt := 53) C dX10_as_46 (by decide) (fun c7 => ?_) (fun c7 => ?_)
            · replace h := zf c7 h
              refine z_iconst (v := (-1)) C dX10_as_53 (by decide) ?_
              injection h with h
              subst h
              exact z_iret C rfl ⟨rfl, rfl⟩ dX10_as_54
            · replace h := zt c7 h
              refine z_iload_n C 2 dX10_as_49 rfl rfl ?_
              refine z_goto (tgt := 54) C dX10_as_50 (by decide) ?_
              injection h with h
              subst h
              exact z_iret C rfl ⟨rfl, rfl⟩ dX10_as_54
    · replace h := zt c2 h
      refine z_bipush (v := (-102)) C dX10_as_20 (by decide) ?_
      injection h with h
      subst h
      exact z_iret C rfl ⟨rfl, rfl⟩ dX10_as_22
  · replace h := zt c1 h
    refine z_bipush (v := (-101)) C dX10_as_8 (by decide) ?_
    injection h with h
    subst h
    exact z_iret C rfl ⟨rfl, rfl⟩ dX10_as_10
def f_X10_boil (S : MS) (a1 : Int32) : Option (Int32 × MS) := if (f_X10_isPot S a1) = 0 then some ((-101), S) else (f_X10_boils S a1).bind fun r3 => if r3 = 0 then gd a1 4 ((f_X10_dueOf (msA S 9 a1.toNatClampNeg (mI S 6)) a1).bind fun r7 => some (r7, msA S 9 a1.toNatClampNeg (mI S 6))) else some ((-103), S)
set_option maxHeartbeats 4000000 in
set_option maxRecDepth 100000 in
theorem c_X10_boil (l : Launch) (G : zGT) (q : Nat → Nat) (S : MS) (X : va_W) (a1 : Int32) {res : Int32 × MS} (h : f_X10_boil S a1 = some res) : MG l yX10_boil wsX10_boil ({ frames := 2, cells := 0, slots := 0, locals := 43 }) G [.ref (q 0), .int a1] (MW G q S ++ X) (va_Qi (fun r u => r = res.1 ∧ u = MW G q res.2 ++ X)) := by
  have hi10 : ∀ w ∈ u_ws RX10 TX10 39, w ∈ wsX10_boil := fun _ h => List.mem_cons_of_mem _ (List.mem_append_right _ h)
  refine MG.of (cc := cX10_boil) (maxL := 2) (ret := (some .int)) (own := RX10) (nm := "boil") (by decide) rfl rfl rfl (Nat.le_of_ble_eq_true rfl) ?_
  intro p e s m args below meth c A C
  rw [f_X10_boil] at h
  refine z_eq (lv2 := [(0, .ref (q 0)), (1, .int a1)]) rfl rfl rfl rfl ?_
  refine z_aload_n C 0 dX10_boil_0 rfl rfl ?_
  refine z_iload_n C 1 dX10_boil_1 rfl rfl ?_
  refine z_goti1 C (z_runV C (c_X10_isPot l G q S X a1) (cwV 1 C.hts gX10_boil_X10_isPot rfl rfl rfl (by decide +kernel) ⟨Nat.le_of_ble_eq_true rfl, Nat.le_of_ble_eq_true rfl⟩) 0 rfl rfl rfl rfl (Nat.le_of_ble_eq_true rfl) dX10_boil_2 ⟨Nat.le_of_ble_eq_true rfl, Nat.le_of_ble_eq_true rfl⟩) rfl rfl ?_
  refine z_if_ne (tgt := 11) C dX10_boil_5 (by decide) (fun c1 => ?_) (fun c1 => ?_)
  · replace h := zf c1 h
    refine z_aload_n C 0 dX10_boil_11 rfl rfl ?_
    refine z_iload_n C 1 dX10_boil_12 rfl rfl ?_
    obtain ⟨r3, hf2, h⟩ := bd_some h
    refine z_goti1 C (z_runV C (c_X10_boils l G q S X a1 hf2) (cwV 1 C.hts gX10_boil_X10_boils rfl rfl rfl (by decide +kernel) ⟨Nat.le_of_ble_eq_true rfl, Nat.le_of_ble_eq_true rfl⟩) 0 rfl rfl rfl rfl (Nat.le_of_ble_eq_true rfl) dX10_boil_13 ⟨Nat.le_of_ble_eq_true rfl, Nat.le_of_ble_eq_true rfl⟩) rfl rfl ?_
    refine z_if_eq (tgt := 22) C dX10_boil_16 (by decide) (fun c4 => ?_) (fun c4 => ?_)
    · replace h := zt c4 h
      refine z_aload_n C 0 dX10_boil_22 rfl rfl ?_
      refine mg_9 C hi10 (List.mem_of_getElem? (i := 1) rfl) dX10_boil_23 ?_
      refine z_iload_n C 1 dX10_boil_26 rfl rfl ?_
      refine z_aload_n C 0 dX10_boil_27 rfl rfl ?_
      refine mg_6 C hi10 (List.mem_of_getElem? (i := 2) rfl) dX10_boil_28 ?_
      obtain ⟨hg5, h⟩ := gd_some h
      refine mt_9 C hg5 dX10_boil_31 ?_
      refine z_aload_n C 0 dX10_boil_32 rfl rfl ?_
      refine z_iload_n C 1 dX10_boil_33 rfl rfl ?_
      obtain ⟨r7, hf6, h⟩ := bd_some h
      refine z_goti1 C (z_runV C (c_X10_dueOf l G q (msA S 9 a1.toNatClampNeg (mI S 6)) X a1 hf6) (cwV 1 C.hts gX10_boil_X10_dueOf rfl rfl rfl (by decide +kernel) ⟨Nat.le_of_ble_eq_true rfl, Nat.le_of_ble_eq_true rfl⟩) 0 rfl rfl rfl rfl (Nat.le_of_ble_eq_true rfl) dX10_boil_34 ⟨Nat.le_of_ble_eq_true rfl, Nat.le_of_ble_eq_true rfl⟩) rfl rfl ?_
      injection h with h
      subst h
      exact z_iret C rfl ⟨rfl, rfl⟩ dX10_boil_37
    · replace h := zf c4 h
      refine z_bipush (v := (-103)) C dX10_boil_19 (by decide) ?_
      injection h with h
      subst h
      exact z_iret C rfl ⟨rfl, rfl⟩ dX10_boil_21
  · replace h := zt c1 h
    refine z_bipush (v := (-101)) C dX10_boil_8 (by decide) ?_
    injection h with h
    subst h
    exact z_iret C rfl ⟨rfl, rfl⟩ dX10_boil_10
def f_X10_wind (S : MS) (a1 : Int32) : Int32 × MS := if (mI S 1) = 0 then if (f_X10_within a1 1 60) = 0 then ((-102), S) else if (mI S 1) = 0 then ((-103), S) else if ((mI S 6) + a1) ≤ 999 then ((mI (msI (msI (msI S 6 ((mI S 6) + a1)) 7 (mI (msI S 6 ((mI S 6) + a1)) 3)) 8 ((mI (msI (msI S 6 ((mI S 6) + a1)) 7 (mI (msI S 6 ((mI S 6) + a1)) 3)) 8) + 1)) 6), msI (msI (msI S 6 ((mI S 6) + a1)) 7 (mI (msI S 6 ((mI S 6) + a1)) 3)) 8 ((mI (msI (msI S 6 ((mI S 6) + a1)) 7 (mI (msI S 6 ((mI S 6) + a1)) 3)) 8) + 1)) else ((-103), S) else if (f_X10_within a1 1 (mI S 2)) = 0 then ((-102), S) else if (mI S 1) = 0 then ((-103), S) else if ((mI S 6) + a1) ≤ 999 then ((mI (msI (msI (msI S 6 ((mI S 6) + a1)) 7 (mI (msI S 6 ((mI S 6) + a1)) 3)) 8 ((mI (msI (msI S 6 ((mI S 6) + a1)) 7 (mI (msI S 6 ((mI S 6) + a1)) 3)) 8) + 1)) 6), msI (msI (msI S 6 ((mI S 6) + a1)) 7 (mI (msI S 6 ((mI S 6) + a1)) 3)) 8 ((mI (msI (msI S 6 ((mI S 6) + a1)) 7 (mI (msI S 6 ((mI S 6) + a1)) 3)) 8) + 1)) else ((-103), S)
set_option maxHeartbeats 4000000 in
set_option maxRecDepth 100000 in
theorem c_X10_wind (l : Launch) (G : zGT) (q : Nat → Nat) (S : MS) (X : va_W) (a1 : Int32) : MG l yX10_wind wsX10_wind ({ frames := 1, cells := 0, slots := 0, locals := 22 }) G [.ref (q 0), .int a1] (MW G q S ++ X) (va_Qi (fun r u => r = (f_X10_wind S a1).1 ∧ u = MW G q ((f_X10_wind S a1).2) ++ X)) := by
  have hi10 : ∀ w ∈ u_ws RX10 TX10 39, w ∈ wsX10_wind := fun _ h => List.mem_cons_of_mem _ (List.mem_append_right _ h)
  refine MG.of (cc := cX10_wind) (maxL := 2) (ret := (some .int)) (own := RX10) (nm := "wind") (by decide) rfl rfl rfl (Nat.le_of_ble_eq_true rfl) ?_
  intro p e s m args below meth c A C
  obtain ⟨res, h⟩ : ∃ z, f_X10_wind S a1 = z := ⟨_, rfl⟩
  rw [h]
  rw [f_X10_wind] at h
  refine z_eq (lv2 := [(0, .ref (q 0)), (1, .int a1)]) rfl rfl rfl rfl ?_
  refine z_iload_n C 1 dX10_wind_0 rfl rfl ?_
  refine z_iconst (v := 1) C dX10_wind_1 (by decide) ?_
  refine z_aload_n C 0 dX10_wind_2 rfl rfl ?_
  refine mg_1 C hi10 (List.mem_of_getElem? (i := 1) rfl) dX10_wind_3 ?_
  refine z_if_ne (tgt := 14) C dX10_wind_6 (by decide) (fun c1 => ?_) (fun c1 => ?_)
  · replace h := zf c1 h
    refine z_aload_n C 0 dX10_wind_14 rfl rfl ?_
    refine mg_2 C hi10 (List.mem_of_getElem? (i := 2) rfl) dX10_wind_15 ?_
    refine z_goti1 C (z_runS C (c_X10_within l G (MW G q S ++ X) a1 1 (mI S 2)) (va_cwS 3 C.hts gX10_wind_X10_within rfl rfl rfl (by decide +kernel) ⟨Nat.le_of_ble_eq_true rfl, Nat.le_of_ble_eq_true rfl⟩) rfl rfl (Nat.le_of_ble_eq_true rfl) dX10_wind_18 ⟨Nat.le_of_ble_eq_true rfl, Nat.le_of_ble_eq_true rfl⟩) rfl rfl ?_
    refine z_if_ne (tgt := 27) C dX10_wind_21 (by decide) (fun c2 => ?_) (fun c2 => ?_)
    · replace h := zf c2 h
      refine z_aload_n C 0 dX10_wind_27 rfl rfl ?_
      refine mg_1 C hi10 (List.mem_of_getElem? (i := 1) rfl) dX10_wind_28 ?_
      refine z_if_eq (tgt := 46) C dX10_wind_31 (by decide) (fun c3 => ?_) (fun c3 => ?_)
      · replace h := zt c3 h
        refine z_bipush (v := (-103)) C dX10_wind_46 (by decide) ?_
        subst h
        exact z_iret C rfl ⟨rfl, rfl⟩ dX10_wind_48
      · replace h := zf c3 h
        refine z_aload_n C 0 dX10_wind_34 rfl rfl ?_
        refine mg_6 C hi10 (List.mem_of_getElem? (i := 3) rfl) dX10_wind_35 ?_
        refine z_iload_n C 1 dX10_wind_38 rfl rfl ?_
        refine z_iadd C dX10_wind_39 ?_
        refine z_sipush (v := 999) C dX10_wind_40 (by decide) ?_
        refine z_icmp_le (tgt := 49) C dX10_wind_43 (by decide) (fun c4 => ?_) (fun c4 => ?_)
        · replace h := zt c4 h
          refine z_aload_n C 0 dX10_wind_49 rfl rfl ?_
          refine z_dup C dX10_wind_50 rfl ?_
          refine mg_6 C hi10 (List.mem_of_getElem? (i := 3) rfl) dX10_wind_51 ?_
          refine z_iload_n C 1 dX10_wind_54 rfl rfl ?_
          refine z_iadd C dX10_wind_55 ?_
          refine mp_6 C hi10 (List.mem_of_getElem? (i := 3) rfl) dX10_wind_56 ?_
          refine z_aload_n C 0 dX10_wind_59 rfl rfl ?_
          refine z_aload_n C 0 dX10_wind_60 rfl rfl ?_
          refine mg_3 C hi10 (List.mem_of_getElem? (i := 4) rfl) dX10_wind_61 ?_
          refine mp_7 C hi10 (List.mem_of_getElem? (i := 5) rfl) dX10_wind_64 ?_
          refine z_aload_n C 0 dX10_wind_67 rfl rfl ?_
          refine z_dup C dX10_wind_68 rfl ?_
          refine mg_8 C hi10 (List.mem_of_getElem? (i := 6) rfl) dX10_wind_69 ?_
          refine z_iconst (v := 1) C dX10_wind_72 (by decide) ?_
          refine z_iadd C dX10_wind_73 ?_
          refine mp_8 C hi10 (List.mem_of_getElem? (i := 6) rfl) dX10_wind_74 ?_
          refine z_aload_n C 0 dX10_wind_77 rfl rfl ?_
          refine mg_6 C hi10 (List.mem_of_getElem? (i := 3) rfl) dX10_wind_78 ?_
          subst h
          exact z_iret C rfl ⟨rfl, rfl⟩ dX10_wind_81
        · replace h := zf c4 h
          refine z_bipush (v := (-103)) C dX10_wind_46 (by decide) ?_
          subst h
          exact z_iret C rfl ⟨rfl, rfl⟩ dX10_wind_48
    · replace h := zt c2 h
      refine z_bipush (v := (-102)) C dX10_wind_24 (by decide) ?_
      subst h
      exact z_iret C rfl ⟨rfl, rfl⟩ dX10_wind_26
  · replace h := zt c1 h
    refine z_bipush (v := 60) C dX10_wind_9 (by decide) ?_
    refine z_goto (tgt := 18) C dX10_wind_11 (by decide) ?_
    refine z_goti1 C (z_runS C (c_X10_within l G (MW G q S ++ X) a1 1 60) (va_cwS 3 C.hts gX10_wind_X10_within rfl rfl rfl (by decide +kernel) ⟨Nat.le_of_ble_eq_true rfl, Nat.le_of_ble_eq_true rfl⟩) rfl rfl (Nat.le_of_ble_eq_true rfl) dX10_wind_18 ⟨Nat.le_of_ble_eq_true rfl, Nat.le_of_ble_eq_true rfl⟩) rfl rfl ?_
    refine z_if_ne (tgt := 27) C dX10_wind_21 (by decide) (fun c5 => ?_) (fun c5 => ?_)
    · replace h := zf c5 h
      refine z_aload_n C 0 dX10_wind_27 rfl rfl ?_
      refine mg_1 C hi10 (List.mem_of_getElem? (i := 1) rfl) dX10_wind_28 ?_
      refine z_if_eq (tgt := 46) C dX10_wind_31 (by decide) (fun c6 => ?_) (fun c6 => ?_)
      · replace h := zt c6 h
        refine z_bipush (v := (-103)) C dX10_wind_46 (by decide) ?_
        subst h
        exact z_iret C rfl ⟨rfl, rfl⟩ dX10_wind_48
      · replace h := zf c6 h
        refine z_aload_n C 0 dX10_wind_34 rfl rfl ?_
        refine mg_6 C hi10 (List.mem_of_getElem? (i := 3) rfl) dX10_wind_35 ?_
        refine z_iload_n C 1 dX10_wind_38 rfl rfl ?_
        refine z_iadd C dX10_wind_39 ?_
        refine z_sipush (v := 999) C dX10_wind_40 (by decide) ?_
        refine z_icmp_le (tgt := 49) C dX10_wind_43 (by decide) (fun c7 => ?_) (fun c7 => ?_)
        · replace h := zt c7 h
          refine z_aload_n C 0 dX10_wind_49 rfl rfl ?_
          refine z_dup C dX10_wind_50 rfl ?_
          refine mg_6 C hi10 (List.mem_of_getElem? (i := 3) rfl) dX10_wind_51 ?_
          refine z_iload_n C 1 dX10_wind_54 rfl rfl ?_
          refine z_iadd C dX10_wind_55 ?_
          refine mp_6 C hi10 (List.mem_of_getElem? (i := 3) rfl) dX10_wind_56 ?_
          refine z_aload_n C 0 dX10_wind_59 rfl rfl ?_
          refine z_aload_n C 0 dX10_wind_60 rfl rfl ?_
          refine mg_3 C hi10 (List.mem_of_getElem? (i := 4) rfl) dX10_wind_61 ?_
          refine mp_7 C hi10 (List.mem_of_getElem? (i := 5) rfl) dX10_wind_64 ?_
          refine z_aload_n C 0 dX10_wind_67 rfl rfl ?_
          refine z_dup C dX10_wind_68 rfl ?_
          refine mg_8 C hi10 (List.mem_of_getElem? (i := 6) rfl) dX10_wind_69 ?_
          refine z_iconst (v := 1) C dX10_wind_72 (by decide) ?_
          refine z_iadd C dX10_wind_73 ?_
          refine mp_8 C hi10 (List.mem_of_getElem? (i := 6) rfl) dX10_wind_74 ?_
          refine z_aload_n C 0 dX10_wind_77 rfl rfl ?_
          refine mg_6 C hi10 (List.mem_of_getElem? (i := 3) rfl) dX10_wind_78 ?_
          subst h
          exact z_iret C rfl ⟨rfl, rfl⟩ dX10_wind_81
        · replace h := zf c7 h
          refine z_bipush (v := (-103)) C dX10_wind_46 (by decide) ?_
          subst h
          exact z_iret C rfl ⟨rfl, rfl⟩ dX10_wind_48
    · replace h := zt c5 h
      refine z_bipush (v := (-102)) C dX10_wind_24 (by decide) ?_
      subst h
      exact z_iret C rfl ⟨rfl, rfl⟩ dX10_wind_26
def f_X10_take (S : MS) (a1 : Int32) : Option (Int32 × MS) := if (f_X10_isPot S a1) = 0 then some ((-101), S) else (f_X10_boils S a1).bind fun r3 => if r3 = 0 then some ((-103), S) else if (mI S 7) = 0 then some ((-103), S) else (f_X10_outAt S a1 (mI S 6)).bind fun r7 => gd a1 4 (gd a1 4 (gd a1 4 (gd a1 4 (gd a1 4 (some ((mA (msI (msA (msA (msA S 11 a1.toNatClampNeg r7) 9 a1.toNatClampNeg (-1)) 10 a1.toNatClampNeg ((mA (msA (msA S 11 a1.toNatClampNeg r7) 9 a1.toNatClampNeg (-1)) 10 a1.toNatClampNeg) + 1)) 7 ((mI (msA (msA (msA S 11 a1.toNatClampNeg r7) 9 a1.toNatClampNeg (-1)) 10 a1.toNatClampNeg ((mA (msA (msA S 11 a1.toNatClampNeg r7) 9 a1.toNatClampNeg (-1)) 10 a1.toNatClampNeg) + 1)) 7) - 1)) 11 a1.toNatClampNeg), msI (msA (msA (msA S 11 a1.toNatClampNeg r7) 9 a1.toNatClampNeg (-1)) 10 a1.toNatClampNeg ((mA (msA (msA S 11 a1.toNatClampNeg r7) 9 a1.toNatClampNeg (-1)) 10 a1.toNatClampNeg) + 1)) 7 ((mI (msA (msA (msA S 11 a1.toNatClampNeg r7) 9 a1.toNatClampNeg (-1)) 10 a1.toNatClampNeg ((mA (msA (msA S 11 a1.toNatClampNeg r7) 9 a1.toNatClampNeg (-1)) 10 a1.toNatClampNeg) + 1)) 7) - 1)))))))
set_option maxHeartbeats 4000000 in
set_option maxRecDepth 100000 in
theorem c_X10_take (l : Launch) (G : zGT) (q : Nat → Nat) (S : MS) (X : va_W) (a1 : Int32) {res : Int32 × MS} (h : f_X10_take S a1 = some res) : MG l yX10_take wsX10_take ({ frames := 2, cells := 0, slots := 0, locals := 44 }) G [.ref (q 0), .int a1] (MW G q S ++ X) (va_Qi (fun r u => r = res.1 ∧ u = MW G q res.2 ++ X)) := by
  have hi10 : ∀ w ∈ u_ws RX10 TX10 39, w ∈ wsX10_take := fun _ h => List.mem_cons_of_mem _ (List.mem_append_right _ h)
  refine MG.of (cc := cX10_take) (maxL := 2) (ret := (some .int)) (own := RX10) (nm := "take") (by decide) rfl rfl rfl (Nat.le_of_ble_eq_true rfl) ?_
  intro p e s m args below meth c A C
  rw [f_X10_take] at h
  refine z_eq (lv2 := [(0, .ref (q 0)), (1, .int a1)]) rfl rfl rfl rfl ?_
  refine z_aload_n C 0 dX10_take_0 rfl rfl ?_
  refine z_iload_n C 1 dX10_take_1 rfl rfl ?_
  refine z_goti1 C (z_runV C (c_X10_isPot l G q S X a1) (cwV 1 C.hts gX10_take_X10_isPot rfl rfl rfl (by decide +kernel) ⟨Nat.le_of_ble_eq_true rfl, Nat.le_of_ble_eq_true rfl⟩) 0 rfl rfl rfl rfl (Nat.le_of_ble_eq_true rfl) dX10_take_2 ⟨Nat.le_of_ble_eq_true rfl, Nat.le_of_ble_eq_true rfl⟩) rfl rfl ?_
  refine z_if_ne (tgt := 11) C dX10_take_5 (by decide) (fun c1 => ?_) (fun c1 => ?_)
  · replace h := zf c1 h
    refine z_aload_n C 0 dX10_take_11 rfl rfl ?_
    refine z_iload_n C 1 dX10_take_12 rfl rfl ?_
    obtain ⟨r3, hf2, h⟩ := bd_some h
    refine z_goti1 C (z_runV C (c_X10_boils l G q S X a1 hf2) (cwV 1 C.hts gX10_take_X10_boils rfl rfl rfl (by decide +kernel) ⟨Nat.le_of_ble_eq_true rfl, Nat.le_of_ble_eq_true rfl⟩) 0 rfl rfl rfl rfl (Nat.le_of_ble_eq_true rfl) dX10_take_13 ⟨Nat.le_of_ble_eq_true rfl, Nat.le_of_ble_eq_true rfl⟩) rfl rfl ?_
    refine z_if_eq (tgt := 26) C dX10_take_16 (by decide) (fun c4 => ?_) (fun c4 => ?_)
    · replace h := zt c4 h
      refine z_bipush (v := (-103)) C dX10_take_26 (by decide) ?_
      injection h with h
      subst h
      exact z_iret C rfl ⟨rfl, rfl⟩ dX10_take_28
    · replace h := zf c4 h
      refine z_aload_n C 0 dX10_take_19 rfl rfl ?_
      refine mg_7 C hi10 (List.mem_of_getElem? (i := 1) rfl) dX10_take_20 ?_
      refine z_if_ne (tgt := 29) C dX10_take_23 (by decide) (fun c5 => ?_) (fun c5 => ?_)
      · replace h := zf c5 h
        refine z_aload_n C 0 dX10_take_29 rfl rfl ?_
        refine mg_11 C hi10 (List.mem_of_getElem? (i := 2) rfl) dX10_take_30 ?_
        refine z_iload_n C 1 dX10_take_33 rfl rfl ?_
        refine z_aload_n C 0 dX10_take_34 rfl rfl ?_
        refine z_iload_n C 1 dX10_take_35 rfl rfl ?_
        refine z_aload_n C 0 dX10_take_36 rfl rfl ?_
        refine mg_6 C hi10 (List.mem_of_getElem? (i := 3) rfl) dX10_take_37 ?_
        obtain ⟨r7, hf6, h⟩ := bd_some h
        refine z_goti1 C (z_runV C (c_X10_outAt l G q S X a1 (mI S 6) hf6) (cwV 2 C.hts gX10_take_X10_outAt rfl rfl rfl (by decide +kernel) ⟨Nat.le_of_ble_eq_true rfl, Nat.le_of_ble_eq_true rfl⟩) 0 rfl rfl rfl rfl (Nat.le_of_ble_eq_true rfl) dX10_take_40 ⟨Nat.le_of_ble_eq_true rfl, Nat.le_of_ble_eq_true rfl⟩) rfl rfl ?_
        obtain ⟨hg8, h⟩ := gd_some h
        refine mt_11 C hg8 dX10_take_43 ?_
        refine z_aload_n C 0 dX10_take_44 rfl rfl ?_
        refine mg_9 C hi10 (List.mem_of_getElem? (i := 4) rfl) dX10_take_45 ?_
        refine z_iload_n C 1 dX10_take_48 rfl rfl ?_
        refine z_iconst (v := (-1)) C dX10_take_49 (by decide) ?_
        obtain ⟨hg9, h⟩ := gd_some h
        refine mt_9 C hg9 dX10_take_50 ?_
        refine z_aload_n C 0 dX10_take_51 rfl rfl ?_
        refine mg_10 C hi10 (List.mem_of_getElem? (i := 5) rfl) dX10_take_52 ?_
        refine z_iload_n C 1 dX10_take_55 rfl rfl ?_
        refine z_dup2 C dX10_take_56 rfl rfl ?_
        obtain ⟨hg10, h⟩ := gd_some h
        refine ml_10 C hg10 dX10_take_57 ?_
        refine z_iconst (v := 1) C dX10_take_58 (by decide) ?_
        refine z_iadd C dX10_take_59 ?_
        obtain ⟨hg11, h⟩ := gd_some h
        refine mt_10 C hg11 dX10_take_60 ?_
        refine z_aload_n C 0 dX10_take_61 rfl rfl ?_
        refine z_dup C dX10_take_62 rfl ?_
        refine mg_7 C hi10 (List.mem_of_getElem? (i := 1) rfl) dX10_take_63 ?_
        refine z_iconst (v := 1) C dX10_take_66 (by decide) ?_
        refine z_isub C dX10_take_67 ?_
        refine mp_7 C hi10 (List.mem_of_getElem? (i := 1) rfl) dX10_take_68 ?_
        refine z_aload_n C 0 dX10_take_71 rfl rfl ?_
        refine mg_11 C hi10 (List.mem_of_getElem? (i := 2) rfl) dX10_take_72 ?_
        refine z_iload_n C 1 dX10_take_75 rfl rfl ?_
        obtain ⟨hg12, h⟩ := gd_some h
        refine ml_11 C hg12 dX10_take_76 ?_
        injection h with h
        subst h
        exact z_iret C rfl ⟨rfl, rfl⟩ dX10_take_77
      · replace h := zt c5 h
        refine z_bipush (v := (-103)) C dX10_take_26 (by decide) ?_
        injection h with h
        subst h
        exact z_iret C rfl ⟨rfl, rfl⟩ dX10_take_28
  · replace h := zt c1 h
    refine z_bipush (v := (-101)) C dX10_take_8 (by decide) ?_
    injection h with h
    subst h
    exact z_iret C rfl ⟨rfl, rfl⟩ dX10_take_10
def f_X10_kitchen_L51 (fu : Nat) (v1 : Int32) : Nat → Int32 → MS → Option (Int32 × MS)
  | 0, _, _ => none
  | n + 1, v2, S => if (mI S 1) ≤ v2 then some (v2, S) else gd (4 * v2) 21 (gd v2 4 ((f_X10_two (msA S 4 v2.toNatClampNeg (f_X10_kindBy (mA S 19 (4 * v2).toNatClampNeg))) ((4 * v2) + 1)).bind fun r11 => gd v2 4 (gd v2 4 (gd v2 4 (gd v2 4 (f_X10_kitchen_L51 fu v1 n (v2 + 1) (msA (msA (msA (msA (msA S 4 v2.toNatClampNeg (f_X10_kindBy (mA S 19 (4 * v2).toNatClampNeg))) 5 v2.toNatClampNeg r11) 9 v2.toNatClampNeg (-1)) 10 v2.toNatClampNeg 0) 11 v2.toNatClampNeg (-1))))))))
def f_X10_kitchen (fu : Nat) (S : MS) : Option (Int32 × MS) := (f_X10_read fu S).bind fun r2 => if (mI r2.2 20) = 0 then some ((-103), r2.2) else (f_X10_two (msI r2.2 1 (mI r2.2 21)) (r2.1 - 3)).bind fun r5 => gd (r2.1 - 1) 21 ((f_X10_kitchen_L51 fu r2.1 fu 0 (msI (msI (msI r2.2 1 (mI r2.2 21)) 2 r5) 3 ((mA (msI (msI r2.2 1 (mI r2.2 21)) 2 r5) 19 (r2.1 - 1).toNatClampNeg) - 48))).bind fun r16 => some ((mI (msI (msI (msI (msI (msI (msI r16.2 0 ((mI r16.2 0) + 1)) 6 0) 7 (mI (msI (msI r16.2 0 ((mI r16.2 0) + 1)) 6 0) 3)) 8 0) 12 0) 18 0) 1), msI (msI (msI (msI (msI (msI r16.2 0 ((mI r16.2 0) + 1)) 6 0) 7 (mI (msI (msI r16.2 0 ((mI r16.2 0) + 1)) 6 0) 3)) 8 0) 12 0) 18 0))
set_option maxHeartbeats 4000000 in
set_option maxRecDepth 100000 in
theorem L_X10_kitchen_51 {p : Program} {l : Launch} {e : Env} {s : State} {m : MethodId} {args : Array Value} {below : List Frame} {meth : Method} {c : Code} {A : Nat → Prop} {G : zGT} {q : Nat → Nat} {X : va_W} {fu : Nat} {Q : State → Prop} (C : zC p s m args meth c A G cX10_kitchen 3 (some .int) RX10 "kitchen" wsX10_kitchen) (v1 : Int32) : ∀ (n : Nat) (v2 : Int32) (S : MS) {res : Int32 × MS}, f_X10_kitchen_L51 fu v1 n v2 S = some res → Z p l e ({ frames := 5, cells := 0, slots := 0, locals := 112 }) s m args below meth c A G 3 Q 0 0 (MW G q res.2 ++ X) [(0, .ref (q 0)), (1, .int v1), (2, .int res.1)] 118 [] → Z p l e ({ frames := 5, cells := 0, slots := 0, locals := 112 }) s m args below meth c A G 3 Q 0 0 (MW G q S ++ X) [(0, .ref (q 0)), (1, .int v1), (2, .int v2)] 51 [] := by
  have hi10 : ∀ w ∈ u_ws RX10 TX10 39, w ∈ wsX10_kitchen := fun _ h => List.mem_cons_of_mem _ (List.mem_append_right _ h)
  intro n
  induction n with
  | zero =>
    intro v2 S res h kk
    exact nomatch (h : none = some _)
  | succ n ih =>
    intro v2 S res h kk
    rw [f_X10_kitchen_L51] at h
    refine z_iload_n C 2 dX10_kitchen_51 rfl rfl ?_
    refine z_aload_n C 0 dX10_kitchen_52 rfl rfl ?_
    refine mg_1 C hi10 (List.mem_of_getElem? (i := 3) rfl) dX10_kitchen_53 ?_
    refine z_icmp_ge (tgt := 118) C dX10_kitchen_56 (by decide) (fun c7 => ?_) (fun c7 => ?_)
    · replace h := zt c7 h
      injection h with h
      subst h
      refine z_lv (lv2 := [(0, .ref (q 0)), (1, .int v1), (2, .int v2)]) [0, 1, 2] rfl ?_
      exact kk
    · replace h := zf c7 h
      refine z_aload_n C 0 dX10_kitchen_59 rfl rfl ?_
      refine mg_4 C hi10 (List.mem_of_getElem? (i := 7) rfl) dX10_kitchen_60 ?_
      refine z_iload_n C 2 dX10_kitchen_63 rfl rfl ?_
      refine z_aload_n C 0 dX10_kitchen_64 rfl rfl ?_
      refine mg_19 C hi10 (List.mem_of_getElem? (i := 5) rfl) dX10_kitchen_65 ?_
      refine z_iconst (v := 4) C dX10_kitchen_68 (by decide) ?_
      refine z_iload_n C 2 dX10_kitchen_69 rfl rfl ?_
      refine z_imul C dX10_kitchen_70 ?_
      obtain ⟨hg8, h⟩ := gd_some h
      refine ml_19 C hg8 dX10_kitchen_71 ?_
      refine z_goti1 C (z_runS C (c_X10_kindBy l G (MW G q S ++ X) (mA S 19 (4 * v2).toNatClampNeg)) (va_cwS 1 C.hts gX10_kitchen_X10_kindBy rfl rfl rfl (by decide +kernel) ⟨Nat.le_of_ble_eq_true rfl, Nat.le_of_ble_eq_true rfl⟩) rfl rfl (Nat.le_of_ble_eq_true rfl) dX10_kitchen_72 ⟨Nat.le_of_ble_eq_true rfl, Nat.le_of_ble_eq_true rfl⟩) rfl rfl ?_
      obtain ⟨hg9, h⟩ := gd_some h
      refine mt_4 C hg9 dX10_kitchen_75 ?_
      refine z_aload_n C 0 dX10_kitchen_76 rfl rfl ?_
      refine mg_5 C hi10 (List.mem_of_getElem? (i := 8) rfl) dX10_kitchen_77 ?_
      refine z_iload_n C 2 dX10_kitchen_80 rfl rfl ?_
      refine z_aload_n C 0 dX10_kitchen_81 rfl rfl ?_
      refine z_iconst (v := 4) C dX10_kitchen_82 (by decide) ?_
      refine z_iload_n C 2 dX10_kitchen_83 rfl rfl ?_
      refine z_imul C dX10_kitchen_84 ?_
      refine z_iconst (v := 1) C dX10_kitchen_85 (by decide) ?_
      refine z_iadd C dX10_kitchen_86 ?_
      obtain ⟨r11, hf10, h⟩ := bd_some h
      refine z_goti1 C (z_runV C (c_X10_two l G q (msA S 4 v2.toNatClampNeg (f_X10_kindBy (mA S 19 (4 * v2).toNatClampNeg))) X ((4 * v2) + 1) hf10) (cwV 1 C.hts gX10_kitchen_X10_two rfl rfl rfl (by decide +kernel) ⟨Nat.le_of_ble_eq_true rfl, Nat.le_of_ble_eq_true rfl⟩) 0 rfl rfl rfl rfl (Nat.le_of_ble_eq_true rfl) dX10_kitchen_87 ⟨Nat.le_of_ble_eq_true rfl, Nat.le_of_ble_eq_true rfl⟩) rfl rfl ?_
      obtain ⟨hg12, h⟩ := gd_some h
      refine mt_5 C hg12 dX10_kitchen_90 ?_
      refine z_aload_n C 0 dX10_kitchen_91 rfl rfl ?_
      refine mg_9 C hi10 (List.mem_of_getElem? (i := 9) rfl) dX10_kitchen_92 ?_
      refine z_iload_n C 2 dX10_kitchen_95 rfl rfl ?_
      refine z_iconst (v := (-1)) C dX10_kitchen_96 (by decide) ?_
      obtain ⟨hg13, h⟩ := gd_some h
      refine mt_9 C hg13 dX10_kitchen_97 ?_
      refine z_aload_n C 0 dX10_kitchen_98 rfl rfl ?_
      refine mg_10 C hi10 (List.mem_of_getElem? (i := 10) rfl) dX10_kitchen_99 ?_
      refine z_iload_n C 2 dX10_kitchen_102 rfl rfl ?_
      refine z_iconst (v := 0) C dX10_kitchen_103 (by decide) ?_
      obtain ⟨hg14, h⟩ := gd_some h
      refine mt_10 C hg14 dX10_kitchen_104 ?_
      refine z_aload_n C 0 dX10_kitchen_105 rfl rfl ?_
      refine mg_11 C hi10 (List.mem_of_getElem? (i := 11) rfl) dX10_kitchen_106 ?_
      refine z_iload_n C 2 dX10_kitchen_109 rfl rfl ?_
      refine z_iconst (v := (-1)) C dX10_kitchen_110 (by decide) ?_
      obtain ⟨hg15, h⟩ := gd_some h
      refine mt_11 C hg15 dX10_kitchen_111 ?_
      refine z_iinc (v := (v2 + 1)) (lv2 := [(2, .int (v2 + 1)), (0, .ref (q 0)), (1, .int v1)]) C 2 dX10_kitchen_112 rfl rfl (by decide) rfl ?_
      refine z_goto (tgt := 51) C dX10_kitchen_115 (by decide) ?_
      refine z_lv (lv2 := [(0, .ref (q 0)), (1, .int v1), (2, .int (v2 + 1))]) [1, 2, 0] rfl ?_
      exact ih (v2 + 1) (msA (msA (msA (msA (msA S 4 v2.toNatClampNeg (f_X10_kindBy (mA S 19 (4 * v2).toNatClampNeg))) 5 v2.toNatClampNeg r11) 9 v2.toNatClampNeg (-1)) 10 v2.toNatClampNeg 0) 11 v2.toNatClampNeg (-1)) h kk
set_option maxHeartbeats 4000000 in
set_option maxRecDepth 100000 in
theorem c_X10_kitchen (l : Launch) (G : zGT) (q : Nat → Nat) (S : MS) (X : va_W) (fu : Nat) {res : Int32 × MS} (h : f_X10_kitchen fu S = some res) : MG l yX10_kitchen wsX10_kitchen ({ frames := 5, cells := 0, slots := 0, locals := 112 }) G [.ref (q 0)] (MW G q S ++ X) (va_Qi (fun r u => r = res.1 ∧ u = MW G q res.2 ++ X)) := by
  have hi10 : ∀ w ∈ u_ws RX10 TX10 39, w ∈ wsX10_kitchen := fun _ h => List.mem_cons_of_mem _ (List.mem_append_right _ h)
  refine MG.of (cc := cX10_kitchen) (maxL := 3) (ret := (some .int)) (own := RX10) (nm := "kitchen") (by decide) rfl rfl rfl (Nat.le_of_ble_eq_true rfl) ?_
  intro p e s m args below meth c A C
  rw [f_X10_kitchen] at h
  refine z_eq (lv2 := [(0, .ref (q 0))]) rfl rfl rfl rfl ?_
  refine z_aload_n C 0 dX10_kitchen_0 rfl rfl ?_
  obtain ⟨r2, hf1, h⟩ := bd_some h
  refine z_goti1 C (z_runV C (c_X10_read l G q S X fu hf1) (cwV 0 C.hts gX10_kitchen_X10_read rfl rfl rfl (by decide +kernel) ⟨Nat.le_of_ble_eq_true rfl, Nat.le_of_ble_eq_true rfl⟩) 0 rfl rfl rfl rfl (Nat.le_of_ble_eq_true rfl) dX10_kitchen_1 ⟨Nat.le_of_ble_eq_true rfl, Nat.le_of_ble_eq_true rfl⟩) rfl rfl ?_
  refine z_istore_n (lv2 := [(1, .int r2.1), (0, .ref (q 0))]) C dX10_kitchen_4 rfl (by decide) rfl ?_
  refine z_aload_n C 1 dX10_kitchen_5 rfl rfl ?_
  refine mg_20 C hi10 (List.mem_of_getElem? (i := 1) rfl) dX10_kitchen_6 ?_
  refine z_if_ne (tgt := 15) C dX10_kitchen_9 (by decide) (fun c3 => ?_) (fun c3 => ?_)
  · replace h := zf c3 h
    refine z_aload_n C 1 dX10_kitchen_15 rfl rfl ?_
    refine z_aload_n C 1 dX10_kitchen_16 rfl rfl ?_
    refine mg_21 C hi10 (List.mem_of_getElem? (i := 2) rfl) dX10_kitchen_17 ?_
    refine mp_1 C hi10 (List.mem_of_getElem? (i := 3) rfl) dX10_kitchen_20 ?_
    refine z_aload_n C 1 dX10_kitchen_23 rfl rfl ?_
    refine z_aload_n C 1 dX10_kitchen_24 rfl rfl ?_
    refine z_iload_n C 0 dX10_kitchen_25 rfl rfl ?_
    refine z_iconst (v := 3) C dX10_kitchen_26 (by decide) ?_
    refine z_isub C dX10_kitchen_27 ?_
    obtain ⟨r5, hf4, h⟩ := bd_some h
    refine z_goti1 C (z_runV C (c_X10_two l G q (msI r2.2 1 (mI r2.2 21)) X (r2.1 - 3) hf4) (cwV 1 C.hts gX10_kitchen_X10_two rfl rfl rfl (by decide +kernel) ⟨Nat.le_of_ble_eq_true rfl, Nat.le_of_ble_eq_true rfl⟩) 0 rfl rfl rfl rfl (Nat.le_of_ble_eq_true rfl) dX10_kitchen_28 ⟨Nat.le_of_ble_eq_true rfl, Nat.le_of_ble_eq_true rfl⟩) rfl rfl ?_
    refine mp_2 C hi10 (List.mem_of_getElem? (i := 4) rfl) dX10_kitchen_31 ?_
    refine z_aload_n C 1 dX10_kitchen_34 rfl rfl ?_
    refine z_aload_n C 1 dX10_kitchen_35 rfl rfl ?_
    refine mg_19 C hi10 (List.mem_of_getElem? (i := 5) rfl) dX10_kitchen_36 ?_
    refine z_iload_n C 0 dX10_kitchen_39 rfl rfl ?_
    refine z_iconst (v := 1) C dX10_kitchen_40 (by decide) ?_
    refine z_isub C dX10_kitchen_41 ?_
    obtain ⟨hg6, h⟩ := gd_some h
    refine ml_19 C hg6 dX10_kitchen_42 ?_
    refine z_bipush (v := 48) C dX10_kitchen_43 (by decide) ?_
    refine z_isub C dX10_kitchen_45 ?_
    refine mp_3 C hi10 (List.mem_of_getElem? (i := 6) rfl) dX10_kitchen_46 ?_
    refine z_iconst (v := 0) C dX10_kitchen_49 (by decide) ?_
    refine z_istore_n (lv2 := [(2, .int 0), (1, .int r2.1), (0, .ref (q 0))]) C dX10_kitchen_50 rfl (by decide) rfl ?_
    refine z_lv (lv2 := [(0, .ref (q 0)), (1, .int r2.1), (2, .int 0)]) [2, 1, 0] rfl ?_
    obtain ⟨r16, hf17, h⟩ := bd_some h
    refine L_X10_kitchen_51 C r2.1 fu 0 (msI (msI (msI r2.2 1 (mI r2.2 21)) 2 r5) 3 ((mA (msI (msI r2.2 1 (mI r2.2 21)) 2 r5) 19 (r2.1 - 1).toNatClampNeg) - 48)) hf17 ?_
    refine z_aload_n C 0 dX10_kitchen_118 rfl rfl ?_
    refine z_dup C dX10_kitchen_119 rfl ?_
    refine mg_0 C hi10 (List.mem_of_getElem? (i := 12) rfl) dX10_kitchen_120 ?_
    refine z_iconst (v := 1) C dX10_kitchen_123 (by decide) ?_
    refine z_iadd C dX10_kitchen_124 ?_
    refine mp_0 C hi10 (List.mem_of_getElem? (i := 12) rfl) dX10_kitchen_125 ?_
    refine z_aload_n C 0 dX10_kitchen_128 rfl rfl ?_
    refine z_iconst (v := 0) C dX10_kitchen_129 (by decide) ?_
    refine mp_6 C hi10 (List.mem_of_getElem? (i := 13) rfl) dX10_kitchen_130 ?_
    refine z_aload_n C 0 dX10_kitchen_133 rfl rfl ?_
    refine z_aload_n C 0 dX10_kitchen_134 rfl rfl ?_
    refine mg_3 C hi10 (List.mem_of_getElem? (i := 6) rfl) dX10_kitchen_135 ?_
    refine mp_7 C hi10 (List.mem_of_getElem? (i := 14) rfl) dX10_kitchen_138 ?_
    refine z_aload_n C 0 dX10_kitchen_141 rfl rfl ?_
    refine z_iconst (v := 0) C dX10_kitchen_142 (by decide) ?_
    refine mp_8 C hi10 (List.mem_of_getElem? (i := 15) rfl) dX10_kitchen_143 ?_
    refine z_aload_n C 0 dX10_kitchen_146 rfl rfl ?_
    refine z_iconst (v := 0) C dX10_kitchen_147 (by decide) ?_
    refine mp_12 C hi10 (List.mem_of_getElem? (i := 16) rfl) dX10_kitchen_148 ?_
    refine z_aload_n C 0 dX10_kitchen_151 rfl rfl ?_
    refine z_iconst (v := 0) C dX10_kitchen_152 (by decide) ?_
    refine mp_18 C hi10 (List.mem_of_getElem? (i := 17) rfl) dX10_kitchen_153 ?_
    refine z_aload_n C 0 dX10_kitchen_156 rfl rfl ?_
    refine mg_1 C hi10 (List.mem_of_getElem? (i := 3) rfl) dX10_kitchen_157 ?_
    injection h with h
    subst h
    exact z_iret C rfl ⟨rfl, rfl⟩ dX10_kitchen_160
  · replace h := zt c3 h
    refine z_bipush (v := (-103)) C dX10_kitchen_12 (by decide) ?_
    injection h with h
    subst h
    exact z_iret C rfl ⟨rfl, rfl⟩ dX10_kitchen_14
