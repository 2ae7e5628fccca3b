def f_X9_letter (P : XP) (S : XS) (a1 : Int32) : Option (Int32 × XS) := if a1 < 32 then some ((-102), S) else if a1 ≤ 126 then (f_X3_write P S a1).bind fun r4 => if r4.1 = 0 then some ((-104), r4.2) else some ((xI r4.2 20), r4.2) else some ((-102), S)
set_option maxHeartbeats 4000000 in
set_option maxRecDepth 100000 in
theorem c_X9_letter (l : Launch) (G : zGT) (q : Nat → Nat) (P : XP) (hp : xOK P) (S : XS) (X : va_W) (a1 : Int32) {res : Int32 × XS} (h : f_X9_letter P S a1 = some res) : MG l yX9_letter wsX9_letter ({ frames := 1, cells := 0, slots := 0, locals := 21 }) G [.ref (q 0), .int a1] (XW G q P S ++ X) (va_Qi (fun r u => r = res.1 ∧ u = XW G q P res.2 ++ X)) := by
  have hi3 : ∀ w ∈ u_ws RX3 TX3 2, w ∈ wsX9_letter := fun _ h => List.mem_cons_of_mem _ (List.mem_append_right _ h)
  have hi9 : ∀ w ∈ u_ws RX9 TX9 18, w ∈ wsX9_letter := fun _ h => List.mem_cons_of_mem _ (List.mem_append_left _ (List.mem_append_right _ h))
  refine MG.of (cc := cX9_letter) (maxL := 2) (ret := (some .int)) (own := RX9) (nm := "letter") (by decide) rfl rfl rfl (Nat.le_of_ble_eq_true rfl) ?_
  intro p e s m args below meth c A C
  rw [f_X9_letter] at h
  refine z_eq (lv2 := [(0, .ref (q 0)), (1, .int a1)]) rfl rfl rfl rfl ?_
  refine z_iload_n C 1 dX9_letter_0 rfl rfl ?_
  refine z_bipush (v := 32) C dX9_letter_1 (by decide) ?_
  refine z_icmp_lt (tgt := 12) C dX9_letter_3 (by decide) (fun c1 => ?_) (fun c1 => ?_)
  · replace h := zt c1 h
    refine z_bipush (v := (-102)) C dX9_letter_12 (by decide) ?_
    injection h with h
    subst h
    exact z_iret C rfl ⟨rfl, rfl⟩ dX9_letter_14
  · replace h := zf c1 h
    refine z_iload_n C 1 dX9_letter_6 rfl rfl ?_
    refine z_bipush (v := 126) C dX9_letter_7 (by decide) ?_
    refine z_icmp_le (tgt := 15) C dX9_letter_9 (by decide) (fun c2 => ?_) (fun c2 => ?_)
    · replace h := zt c2 h
      refine z_aload_n C 0 dX9_letter_15 rfl rfl ?_
      refine xg_T0 C hi9 (List.mem_of_getElem? (i := 1) rfl) dX9_letter_16 ?_
      refine z_iload_n C 1 dX9_letter_19 rfl rfl ?_
      obtain ⟨r4, hf3, h⟩ := bd_some h
      refine z_goti1 C (z_runV C (c_X3_write l G q P S X a1 hf3) (cwV 1 C.hts gX9_letter_X3_write rfl rfl rfl (by decide +kernel) ⟨Nat.le_of_ble_eq_true rfl, Nat.le_of_ble_eq_true rfl⟩) 1 rfl rfl rfl rfl (Nat.le_of_ble_eq_true rfl) dX9_letter_20 ⟨Nat.le_of_ble_eq_true rfl, Nat.le_of_ble_eq_true rfl⟩) rfl rfl ?_
      refine z_if_eq (tgt := 36) C dX9_letter_23 (by decide) (fun c5 => ?_) (fun c5 => ?_)
      · replace h := zt c5 h
        refine z_bipush (v := (-104)) C dX9_letter_36 (by decide) ?_
        injection h with h
        subst h
        exact z_iret C rfl ⟨rfl, rfl⟩ dX9_letter_38
      · replace h := zf c5 h
        refine z_aload_n C 0 dX9_letter_26 rfl rfl ?_
        refine xg_T0 C hi9 (List.mem_of_getElem? (i := 1) rfl) dX9_letter_27 ?_
        refine xg_P1 C hi3 (List.mem_of_getElem? (i := 2) rfl) dX9_letter_30 ?_
        refine z_goto (tgt := 38) C dX9_letter_33 (by decide) ?_
        injection h with h
        subst h
        exact z_iret C rfl ⟨rfl, rfl⟩ dX9_letter_38
    · replace h := zf c2 h
      refine z_bipush (v := (-102)) C dX9_letter_12 (by decide) ?_
      injection h with h
      subst h
      exact z_iret C rfl ⟨rfl, rfl⟩ dX9_letter_14
def f_X9_blank (P : XP) (S : XS) : Int32 × XS := ((xI S 20), xsI S 20 0)
set_option maxHeartbeats 4000000 in
set_option maxRecDepth 100000 in
theorem c_X9_blank (l : Launch) (G : zGT) (q : Nat → Nat) (P : XP) (hp : xOK P) (S : XS) (X : va_W) : MG l yX9_blank wsX9_blank ({ frames := 0, cells := 0, slots := 0, locals := 0 }) G [.ref (q 0)] (XW G q P S ++ X) (va_Qi (fun r u => r = (f_X9_blank P S).1 ∧ u = XW G q P ((f_X9_blank P S).2) ++ X)) := by
  have hi3 : ∀ w ∈ u_ws RX3 TX3 2, w ∈ wsX9_blank := fun _ h => List.mem_cons_of_mem _ (List.mem_append_right _ h)
  have hi9 : ∀ w ∈ u_ws RX9 TX9 18, w ∈ wsX9_blank := fun _ h => List.mem_cons_of_mem _ (List.mem_append_left _ (List.mem_append_right _ h))
  refine MG.of (cc := cX9_blank) (maxL := 2) (ret := (some .int)) (own := RX9) (nm := "blank") (by decide) rfl rfl rfl (Nat.le_of_ble_eq_true rfl) ?_
  intro p e s m args below meth c A C
  obtain ⟨res, h⟩ : ∃ z, f_X9_blank P S = z := ⟨_, rfl⟩
  rw [h]
  rw [f_X9_blank] at h
  refine z_eq (lv2 := [(0, .ref (q 0))]) rfl rfl rfl rfl ?_
  refine z_aload_n C 0 dX9_blank_0 rfl rfl ?_
  refine xg_T0 C hi9 (List.mem_of_getElem? (i := 1) rfl) dX9_blank_1 ?_
  refine xg_P1 C hi3 (List.mem_of_getElem? (i := 2) rfl) dX9_blank_4 ?_
  refine z_istore_n (lv2 := [(1, .int (xI S 20)), (0, .ref (q 0))]) C dX9_blank_7 rfl (by decide) rfl ?_
  refine z_aload_n C 1 dX9_blank_8 rfl rfl ?_
  refine xg_T0 C hi9 (List.mem_of_getElem? (i := 1) rfl) dX9_blank_9 ?_
  refine z_iconst (v := 0) C dX9_blank_12 (by decide) ?_
  refine xp_P1 C hi3 (List.mem_of_getElem? (i := 2) rfl) dX9_blank_13 ?_
  refine z_iload_n C 0 dX9_blank_16 rfl rfl ?_
  subst h
  exact z_iret C rfl ⟨rfl, rfl⟩ dX9_blank_17
def f_X9_fault (fu : Nat) (P : XP) (S : XS) : Option (Int32) := (f_X3_faultPlace fu P S).bind fun r2 => some r2
set_option maxHeartbeats 4000000 in
set_option maxRecDepth 100000 in
theorem c_X9_fault (l : Launch) (G : zGT) (q : Nat → Nat) (P : XP) (hp : xOK P) (S : XS) (X : va_W) (fu : Nat) {res : Int32} (h : f_X9_fault fu P S = some res) : MG l yX9_fault wsX9_fault ({ frames := 3, cells := 0, slots := 0, locals := 68 }) G [.ref (q 0)] (XW G q P S ++ X) (va_Qi (fun r u => r = res ∧ u = XW G q P S ++ X)) := by
  have hi9 : ∀ w ∈ u_ws RX9 TX9 18, w ∈ wsX9_fault := fun _ h => List.mem_cons_of_mem _ (List.mem_append_left _ (List.mem_append_right _ h))
  refine MG.of (cc := cX9_fault) (maxL := 1) (ret := (some .int)) (own := RX9) (nm := "fault") (by decide) rfl rfl rfl (Nat.le_of_ble_eq_true rfl) ?_
  intro p e s m args below meth c A C
  rw [f_X9_fault] at h
  refine z_eq (lv2 := [(0, .ref (q 0))]) rfl rfl rfl rfl ?_
  refine z_aload_n C 0 dX9_fault_0 rfl rfl ?_
  refine xg_T0 C hi9 (List.mem_of_getElem? (i := 1) rfl) dX9_fault_1 ?_
  obtain ⟨r2, hf1, h⟩ := bd_some h
  refine z_goti1 C (z_runV C (c_X3_faultPlace l G q P S X fu hf1) (cwV 0 C.hts gX9_fault_X3_faultPlace rfl rfl rfl (by decide +kernel) ⟨Nat.le_of_ble_eq_true rfl, Nat.le_of_ble_eq_true rfl⟩) 1 rfl rfl rfl rfl (Nat.le_of_ble_eq_true rfl) dX9_fault_4 ⟨Nat.le_of_ble_eq_true rfl, Nat.le_of_ble_eq_true rfl⟩) rfl rfl ?_
  injection h with h
  subst h
  exact z_iret C rfl ⟨rfl, rfl⟩ dX9_fault_7
def f_X9_hasKitchen (P : XP) (S : XS) : Int32 := if (xI S 6) ≤ 0 then 0 else 1
set_option maxHeartbeats 4000000 in
set_option maxRecDepth 100000 in
theorem c_X9_hasKitchen (l : Launch) (G : zGT) (q : Nat → Nat) (P : XP) (hp : xOK P) (S : XS) (X : va_W) : MG l yX9_hasKitchen wsX9_hasKitchen ({ frames := 0, cells := 0, slots := 0, locals := 0 }) G [.ref (q 0)] (XW G q P S ++ X) (va_Qi (fun r u => r = (f_X9_hasKitchen P S) ∧ u = XW G q P S ++ X)) := by
  have hi9 : ∀ w ∈ u_ws RX9 TX9 18, w ∈ wsX9_hasKitchen := fun _ h => List.mem_cons_of_mem _ (List.mem_append_right _ h)
  refine MG.of (cc := cX9_hasKitchen) (maxL := 1) (ret := (some .boolean)) (own := RX9) (nm := "hasKitchen") (by decide) rfl rfl rfl (Nat.le_of_ble_eq_true rfl) ?_
  intro p e s m args below meth c A C
  obtain ⟨res, h⟩ : ∃ z, f_X9_hasKitchen P S = z := ⟨_, rfl⟩
  rw [h]
  rw [f_X9_hasKitchen] at h
  refine z_eq (lv2 := [(0, .ref (q 0))]) rfl rfl rfl rfl ?_
  refine z_aload_n C 0 dX9_hasKitchen_0 rfl rfl ?_
  refine xg_T6 C hi9 (List.mem_of_getElem? (i := 1) rfl) dX9_hasKitchen_1 ?_
  refine z_if_le (tgt := 11) C dX9_hasKitchen_4 (by decide) (fun c1 => ?_) (fun c1 => ?_)
  · replace h := zt c1 h
    refine z_iconst (v := 0) C dX9_hasKitchen_11 (by decide) ?_
    subst h
    exact z_zret C rfl (Or.inl rfl) ⟨rfl, rfl⟩ dX9_hasKitchen_12
  · replace h := zf c1 h
    refine z_iconst (v := 1) C dX9_hasKitchen_7 (by decide) ?_
    refine z_goto (tgt := 12) C dX9_hasKitchen_8 (by decide) ?_
    subst h
    exact z_zret C rfl (Or.inr rfl) ⟨rfl, rfl⟩ dX9_hasKitchen_12
theorem bf_X9_hasKitchen (P : XP) (S : XS) : f_X9_hasKitchen P S = 0 ∨ f_X9_hasKitchen P S = 1 := by
  unfold f_X9_hasKitchen
  repeat' split
  all_goals first | exact Or.inl rfl | exact Or.inr rfl
def f_X9_about (P : XP) (S : XS) (a1 : Int32) (a2 : Int32) : Int32 := pm (f_X9_potAt P S a1) ((-101)) (fun j2 => if a2 = 0 then (kd (P.2.2.1 j2)) else if a2 = 1 then (xR S j2 0) else if a2 = 2 then (kp (P.2.2.1 j2)) else if a2 = 3 then (xR S j2 1) else if a2 = 4 then if (f_X5_boils P S j2) = 0 then (-1) else (f_X5_due P S j2) else if a2 = 5 then if (f_X5_boils P S j2) = 0 then (-1) else (f_X5_outAt P S j2 (xI S 9)) else if a2 = 6 then (xR S j2 2) else if a2 = 7 then (xR S j2 3) else (-102))
set_option maxHeartbeats 4000000 in
set_option maxRecDepth 100000 in
theorem c_X9_about (l : Launch) (G : zGT) (q : Nat → Nat) (P : XP) (hp : xOK P) (S : XS) (X : va_W) (a1 : Int32) (a2 : Int32) : MG l yX9_about wsX9_about ({ frames := 3, cells := 0, slots := 0, locals := 61 }) G [.ref (q 0), .int a1, .int a2] (XW G q P S ++ X) (va_Qi (fun r u => r = (f_X9_about P S a1 a2) ∧ u = XW G q P S ++ X)) := by
  have hi0 : ∀ w ∈ u_ws RX0 TX0 7, w ∈ wsX9_about := fun _ h => List.mem_cons_of_mem _ (List.mem_append_left _ (List.mem_append_left _ (List.mem_append_left _ (List.mem_append_left _ (List.mem_append_left _ (List.mem_append_right _ h))))))
  have hi2 : ∀ w ∈ u_ws RX2 TX2 7, w ∈ wsX9_about := fun _ h => List.mem_cons_of_mem _ (List.mem_append_left _ (List.mem_append_left _ (List.mem_append_left _ (List.mem_append_left _ (List.mem_append_right _ h)))))
  have hi5 : ∀ w ∈ u_ws RX5 TX5 7, w ∈ wsX9_about := fun _ h => List.mem_cons_of_mem _ (List.mem_append_left _ (List.mem_append_left _ (List.mem_append_left _ (List.mem_append_right _ h))))
  have hi6 : ∀ w ∈ u_ws RX6 TX6 7, w ∈ wsX9_about := fun _ h => List.mem_cons_of_mem _ (List.mem_append_left _ (List.mem_append_left _ (List.mem_append_right _ h)))
  have hi7 : ∀ w ∈ u_ws RX7 TX7 7, w ∈ wsX9_about := fun _ h => List.mem_cons_of_mem _ (List.mem_append_left _ (List.mem_append_right _ h))
  have hi9 : ∀ w ∈ u_ws RX9 TX9 18, w ∈ wsX9_about := fun _ h => List.mem_cons_of_mem _ (List.mem_append_right _ h)
  refine MG.of (cc := cX9_about) (maxL := 4) (ret := (some .int)) (own := RX9) (nm := "about") (by decide) rfl rfl rfl (Nat.le_of_ble_eq_true rfl) ?_
  intro p e s m args below meth c A C
  obtain ⟨res, h⟩ : ∃ z, f_X9_about P S a1 a2 = z := ⟨_, rfl⟩
  rw [h]
  rw [f_X9_about] at h
  refine z_eq (lv2 := [(0, .ref (q 0)), (1, .int a1), (2, .int a2)]) rfl rfl rfl rfl ?_
  refine z_aload_n C 0 dX9_about_0 rfl rfl ?_
  refine z_iload_n C 1 dX9_about_1 rfl rfl ?_
  refine z_gotq1 C (z_runV C (c_X9_potAt l G q P hp S X a1) (cwV 1 C.hts gX9_about_X9_potAt rfl rfl rfl (by decide +kernel) ⟨Nat.le_of_ble_eq_true rfl, Nat.le_of_ble_eq_true rfl⟩) 0 rfl rfl rfl rfl (Nat.le_of_ble_eq_true rfl) dX9_about_2 ⟨Nat.le_of_ble_eq_true rfl, Nat.le_of_ble_eq_true rfl⟩) rfl rfl ?_
  cases hq1 : (f_X9_potAt P S a1) with
  | none =>
    replace h := pm_n hq1 h
    refine z_eq (st2 := [.null]) rfl rfl rfl rfl ?_
    refine z_astore_nN (lv2 := [(3, .null), (0, .ref (q 0)), (1, .int a1), (2, .int a2)]) C dX9_about_5 rfl (by decide) rfl ?_
    refine z_aload_nN C 0 dX9_about_6 rfl rfl ?_
    refine z_ifnonnullN C dX9_about_7 ?_
    refine z_bipush (v := (-101)) C dX9_about_10 (by decide) ?_
    subst h
    exact z_iret C rfl ⟨rfl, rfl⟩ dX9_about_12
  | some j2 =>
    replace h := pm_s hq1 h
    have hi_j2 : j2 < P.1 := f_potAt_lt hq1
    refine z_eq (st2 := [.ref (P.2.1 j2)]) rfl rfl rfl rfl ?_
    refine z_astore_n (lv2 := [(3, .ref (P.2.1 j2)), (0, .ref (q 0)), (1, .int a1), (2, .int a2)]) C dX9_about_5 rfl (by decide) rfl ?_
    refine z_aload_n C 0 dX9_about_6 rfl rfl ?_
    refine z_ifnonnull (tgt := 13) C dX9_about_7 (by decide) ?_
    refine z_iload_n C 3 dX9_about_13 rfl rfl ?_
    by_cases c3 : a2 = 0
    · replace h := zt c3 h
      refine z_tableIn (off := 46) (tgt := 60) C dX9_about_14 (by rw [c3]; decide) (by rw [c3]; decide) (by rw [c3]; rfl) (by decide) ?_
      refine z_aload_n C 0 dX9_about_60 rfl rfl ?_
      refine z5 (hp.1 j2 hi_j2)
        (fun h5 kk => z_goti1 C (z_runU C (k_X0_kind l G q P hp S X j2 hi_j2 h5) (va_cwO 0 C.hts gX9_about_X0_kind_u139X0 rfl rfl rfl (h0 := (List.mem_of_getElem? (i := 20) rfl)) (by decide +kernel) ⟨Nat.le_of_ble_eq_true rfl, Nat.le_of_ble_eq_true rfl⟩) (18 + j2) (xw_pot hi_j2) (show vwCl[P.2.2.1 j2]? = some (RX0, TX0, 7) by rw [h5]; rfl) rfl rfl (Nat.le_of_ble_eq_true rfl) dX9_about_61 ⟨Nat.le_of_ble_eq_true rfl, Nat.le_of_ble_eq_true rfl⟩) rfl rfl kk)
        (fun h5 kk => z_goti1 C (z_runU C (k_X2_kind l G q P hp S X j2 hi_j2 h5) (va_cwO 0 C.hts gX9_about_X2_kind_u139X2 rfl rfl rfl (h0 := (List.mem_of_getElem? (i := 20) rfl)) (by decide +kernel) ⟨Nat.le_of_ble_eq_true rfl, Nat.le_of_ble_eq_true rfl⟩) (18 + j2) (xw_pot hi_j2) (show vwCl[P.2.2.1 j2]? = some (RX2, TX2, 7) by rw [h5]; rfl) rfl rfl (Nat.le_of_ble_eq_true rfl) dX9_about_61 ⟨Nat.le_of_ble_eq_true rfl, Nat.le_of_ble_eq_true rfl⟩) rfl rfl kk)
        (fun h5 kk => z_goti1 C (z_runV C (k_X5_kind l G q P hp S X j2 hi_j2 h5) (cwV 0 C.hts gX9_about_X5_kind rfl rfl rfl (by decide +kernel) ⟨Nat.le_of_ble_eq_true rfl, Nat.le_of_ble_eq_true rfl⟩) (18 + j2) (xw_pot hi_j2) (show vwCl[P.2.2.1 j2]? = some (RX5, TX5, 7) by rw [h5]; rfl) rfl rfl (Nat.le_of_ble_eq_true rfl) dX9_about_61 ⟨Nat.le_of_ble_eq_true rfl, Nat.le_of_ble_eq_true rfl⟩) rfl rfl kk)
        (fun h5 kk => z_goti1 C (z_runU C (k_X6_kind l G q P hp S X j2 hi_j2 h5) (va_cwO 0 C.hts gX9_about_X6_kind_u139X6 rfl rfl rfl (h0 := (List.mem_of_getElem? (i := 20) rfl)) (by decide +kernel) ⟨Nat.le_of_ble_eq_true rfl, Nat.le_of_ble_eq_true rfl⟩) (18 + j2) (xw_pot hi_j2) (show vwCl[P.2.2.1 j2]? = some (RX6, TX6, 7) by rw [h5]; rfl) rfl rfl (Nat.le_of_ble_eq_true rfl) dX9_about_61 ⟨Nat.le_of_ble_eq_true rfl, Nat.le_of_ble_eq_true rfl⟩) rfl rfl kk)
        (fun h5 kk => z_goti1 C (z_runU C (k_X7_kind l G q P hp S X j2 hi_j2 h5) (va_cwO 0 C.hts gX9_about_X7_kind_u139X7 rfl rfl rfl (h0 := (List.mem_of_getElem? (i := 20) rfl)) (by decide +kernel) ⟨Nat.le_of_ble_eq_true rfl, Nat.le_of_ble_eq_true rfl⟩) (18 + j2) (xw_pot hi_j2) (show vwCl[P.2.2.1 j2]? = some (RX7, TX7, 7) by rw [h5]; rfl) rfl rfl (Nat.le_of_ble_eq_true rfl) dX9_about_61 ⟨Nat.le_of_ble_eq_true rfl, Nat.le_of_ble_eq_true rfl⟩) rfl rfl kk)
        ?_
      subst h
      exact z_iret C rfl ⟨rfl, rfl⟩ dX9_about_64
    replace h := zf c3 h
    by_cases c4 : a2 = 1
    · replace h := zt c4 h
      refine z_tableIn (off := 51) (tgt := 65) C dX9_about_14 (by rw [c4]; decide) (by rw [c4]; decide) (by rw [c4]; rfl) (by decide) ?_
      refine z_aload_n C 0 dX9_about_65 rfl rfl ?_
      refine xpg_0 C hp hi_j2 hi0 hi2 hi5 hi6 hi7 (List.mem_of_getElem? (i := 1) rfl) dX9_about_66 ?_
      subst h
      exact z_iret C rfl ⟨rfl, rfl⟩ dX9_about_69
    replace h := zf c4 h
    by_cases c5 : a2 = 2
    · replace h := zt c5 h
      refine z_tableIn (off := 56) (tgt := 70) C dX9_about_14 (by rw [c5]; decide) (by rw [c5]; decide) (by rw [c5]; rfl) (by decide) ?_
      refine z_aload_n C 0 dX9_about_70 rfl rfl ?_
      refine z5 (hp.1 j2 hi_j2)
        (fun h5 kk => z_goti1 C (z_runU C (k_X0_keeps l G q P hp S X j2 hi_j2 h5) (va_cwO 0 C.hts gX9_about_X0_keeps_u145X0 rfl rfl rfl (h0 := (List.mem_of_getElem? (i := 48) rfl)) (by decide +kernel) ⟨Nat.le_of_ble_eq_true rfl, Nat.le_of_ble_eq_true rfl⟩) (18 + j2) (xw_pot hi_j2) (show vwCl[P.2.2.1 j2]? = some (RX0, TX0, 7) by rw [h5]; rfl) rfl rfl (Nat.le_of_ble_eq_true rfl) dX9_about_71 ⟨Nat.le_of_ble_eq_true rfl, Nat.le_of_ble_eq_true rfl⟩) rfl rfl kk)
        (fun h5 kk => z_goti1 C (z_runU C (k_X2_keeps l G q P hp S X j2 hi_j2 h5) (va_cwO 0 C.hts gX9_about_X2_keeps_u145X2 rfl rfl rfl (h0 := (List.mem_of_getElem? (i := 48) rfl)) (by decide +kernel) ⟨Nat.le_of_ble_eq_true rfl, Nat.le_of_ble_eq_true rfl⟩) (18 + j2) (xw_pot hi_j2) (show vwCl[P.2.2.1 j2]? = some (RX2, TX2, 7) by rw [h5]; rfl) rfl rfl (Nat.le_of_ble_eq_true rfl) dX9_about_71 ⟨Nat.le_of_ble_eq_true rfl, Nat.le_of_ble_eq_true rfl⟩) rfl rfl kk)
        (fun h5 kk => z_goti1 C (z_runV C (k_X5_keeps l G q P hp S X j2 hi_j2 h5) (cwV 0 C.hts gX9_about_X5_keeps rfl rfl rfl (by decide +kernel) ⟨Nat.le_of_ble_eq_true rfl, Nat.le_of_ble_eq_true rfl⟩) (18 + j2) (xw_pot hi_j2) (show vwCl[P.2.2.1 j2]? = some (RX5, TX5, 7) by rw [h5]; rfl) rfl rfl (Nat.le_of_ble_eq_true rfl) dX9_about_71 ⟨Nat.le_of_ble_eq_true rfl, Nat.le_of_ble_eq_true rfl⟩) rfl rfl kk)
        (fun h5 kk => z_goti1 C (z_runU C (k_X6_keeps l G q P hp S X j2 hi_j2 h5) (va_cwO 0 C.hts gX9_about_X6_keeps_u145X6 rfl rfl rfl (h0 := (List.mem_of_getElem? (i := 48) rfl)) (by decide +kernel) ⟨Nat.le_of_ble_eq_true rfl, Nat.le_of_ble_eq_true rfl⟩) (18 + j2) (xw_pot hi_j2) (show vwCl[P.2.2.1 j2]? = some (RX6, TX6, 7) by rw [h5]; rfl) rfl rfl (Nat.le_of_ble_eq_true rfl) dX9_about_71 ⟨Nat.le_of_ble_eq_true rfl, Nat.le_of_ble_eq_true rfl⟩) rfl rfl kk)
        (fun h5 kk => z_goti1 C (z_runU C (k_X7_keeps l G q P hp S X j2 hi_j2 h5) (va_cwO 0 C.hts gX9_about_X7_keeps_u145X7 rfl rfl rfl (h0 := (List.mem_of_getElem? (i := 48) rfl)) (by decide +kernel) ⟨Nat.le_of_ble_eq_true rfl, Nat.le_of_ble_eq_true rfl⟩) (18 + j2) (xw_pot hi_j2) (show vwCl[P.2.2.1 j2]? = some (RX7, TX7, 7) by rw [h5]; rfl) rfl rfl (Nat.le_of_ble_eq_true rfl) dX9_about_71 ⟨Nat.le_of_ble_eq_true rfl, Nat.le_of_ble_eq_true rfl⟩) rfl rfl kk)
        ?_
      subst h
      exact z_iret C rfl ⟨rfl, rfl⟩ dX9_about_74
    replace h := zf c5 h
    by_cases c6 : a2 = 3
    · replace h := zt c6 h
      refine z_tableIn (off := 61) (tgt := 75) C dX9_about_14 (by rw [c6]; decide) (by rw [c6]; decide) (by rw [c6]; rfl) (by decide) ?_
      refine z_aload_n C 0 dX9_about_75 rfl rfl ?_
      refine xpg_1 C hp hi_j2 hi0 hi2 hi5 hi6 hi7 (List.mem_of_getElem? (i := 2) rfl) dX9_about_76 ?_
      subst h
      exact z_iret C rfl ⟨rfl, rfl⟩ dX9_about_79
    replace h := zf c6 h
    by_cases c7 : a2 = 4
    · replace h := zt c7 h
      refine z_tableIn (off := 66) (tgt := 80) C dX9_about_14 (by rw [c7]; decide) (by rw [c7]; decide) (by rw [c7]; rfl) (by decide) ?_
      refine z_aload_n C 0 dX9_about_80 rfl rfl ?_
      refine z5 (hp.1 j2 hi_j2)
        (fun h5 kk => z_goti1 C (z_runU C (c_X5_boils l G q P hp S X j2 hi_j2) (va_cwU 0 C.hts gX9_about_X5_boils_u151X0 rfl rfl rfl rfl (by decide +kernel) ⟨Nat.le_of_ble_eq_true rfl, Nat.le_of_ble_eq_true rfl⟩) (18 + j2) (xw_pot hi_j2) (show vwCl[P.2.2.1 j2]? = some (RX0, TX0, 7) by rw [h5]; rfl) rfl rfl (Nat.le_of_ble_eq_true rfl) dX9_about_81 ⟨Nat.le_of_ble_eq_true rfl, Nat.le_of_ble_eq_true rfl⟩) rfl rfl kk)
        (fun h5 kk => z_goti1 C (z_runU C (c_X5_boils l G q P hp S X j2 hi_j2) (va_cwU 0 C.hts gX9_about_X5_boils_u151X2 rfl rfl rfl rfl (by decide +kernel) ⟨Nat.le_of_ble_eq_true rfl, Nat.le_of_ble_eq_true rfl⟩) (18 + j2) (xw_pot hi_j2) (show vwCl[P.2.2.1 j2]? = some (RX2, TX2, 7) by rw [h5]; rfl) rfl rfl (Nat.le_of_ble_eq_true rfl) dX9_about_81 ⟨Nat.le_of_ble_eq_true rfl, Nat.le_of_ble_eq_true rfl⟩) rfl rfl kk)
        (fun h5 kk => z_goti1 C (z_runV C (c_X5_boils l G q P hp S X j2 hi_j2) (cwV 0 C.hts gX9_about_X5_boils rfl rfl rfl (by decide +kernel) ⟨Nat.le_of_ble_eq_true rfl, Nat.le_of_ble_eq_true rfl⟩) (18 + j2) (xw_pot hi_j2) (show vwCl[P.2.2.1 j2]? = some (RX5, TX5, 7) by rw [h5]; rfl) rfl rfl (Nat.le_of_ble_eq_true rfl) dX9_about_81 ⟨Nat.le_of_ble_eq_true rfl, Nat.le_of_ble_eq_true rfl⟩) rfl rfl kk)
        (fun h5 kk => z_goti1 C (z_runU C (c_X5_boils l G q P hp S X j2 hi_j2) (va_cwU 0 C.hts gX9_about_X5_boils_u151X6 rfl rfl rfl rfl (by decide +kernel) ⟨Nat.le_of_ble_eq_true rfl, Nat.le_of_ble_eq_true rfl⟩) (18 + j2) (xw_pot hi_j2) (show vwCl[P.2.2.1 j2]? = some (RX6, TX6, 7) by rw [h5]; rfl) rfl rfl (Nat.le_of_ble_eq_true rfl) dX9_about_81 ⟨Nat.le_of_ble_eq_true rfl, Nat.le_of_ble_eq_true rfl⟩) rfl rfl kk)
        (fun h5 kk => z_goti1 C (z_runU C (c_X5_boils l G q P hp S X j2 hi_j2) (va_cwU 0 C.hts gX9_about_X5_boils_u151X7 rfl rfl rfl rfl (by decide +kernel) ⟨Nat.le_of_ble_eq_true rfl, Nat.le_of_ble_eq_true rfl⟩) (18 + j2) (xw_pot hi_j2) (show vwCl[P.2.2.1 j2]? = some (RX7, TX7, 7) by rw [h5]; rfl) rfl rfl (Nat.le_of_ble_eq_true rfl) dX9_about_81 ⟨Nat.le_of_ble_eq_true rfl, Nat.le_of_ble_eq_true rfl⟩) rfl rfl kk)
        ?_
      refine z_if_eq (tgt := 94) C dX9_about_84 (by decide) (fun c8 => ?_) (fun c8 => ?_)
      · replace h := zt c8 h
        refine z_iconst (v := (-1)) C dX9_about_94 (by decide) ?_
        subst h
        exact z_iret C rfl ⟨rfl, rfl⟩ dX9_about_95
      · replace h := zf c8 h
        refine z_aload_n C 0 dX9_about_87 rfl rfl ?_
        refine z5 (hp.1 j2 hi_j2)
          (fun h5 kk => z_goti1 C (z_runU C (c_X5_due l G q P hp S X j2 hi_j2) (va_cwU 0 C.hts gX9_about_X5_due_u154X0 rfl rfl rfl rfl (by decide +kernel) ⟨Nat.le_of_ble_eq_true rfl, Nat.le_of_ble_eq_true rfl⟩) (18 + j2) (xw_pot hi_j2) (show vwCl[P.2.2.1 j2]? = some (RX0, TX0, 7) by rw [h5]; rfl) rfl rfl (Nat.le_of_ble_eq_true rfl) dX9_about_88 ⟨Nat.le_of_ble_eq_true rfl, Nat.le_of_ble_eq_true rfl⟩) rfl rfl kk)
          (fun h5 kk => z_goti1 C (z_runU C (c_X5_due l G q P hp S X j2 hi_j2) (va_cwU 0 C.hts gX9_about_X5_due_u154X2 rfl rfl rfl rfl (by decide +kernel) ⟨Nat.le_of_ble_eq_true rfl, Nat.le_of_ble_eq_true rfl⟩) (18 + j2) (xw_pot hi_j2) (show vwCl[P.2.2.1 j2]? = some (RX2, TX2, 7) by rw [h5]; rfl) rfl rfl (Nat.le_of_ble_eq_true rfl) dX9_about_88 ⟨Nat.le_of_ble_eq_true rfl, Nat.le_of_ble_eq_true rfl⟩) rfl rfl kk)
          (fun h5 kk => z_goti1 C (z_runV C (c_X5_due l G q P hp S X j2 hi_j2) (cwV 0 C.hts gX9_about_X5_due rfl rfl rfl (by decide +kernel) ⟨Nat.le_of_ble_eq_true rfl, Nat.le_of_ble_eq_true rfl⟩) (18 + j2) (xw_pot hi_j2) (show vwCl[P.2.2.1 j2]? = some (RX5, TX5, 7) by rw [h5]; rfl) rfl rfl (Nat.le_of_ble_eq_true rfl) dX9_about_88 ⟨Nat.le_of_ble_eq_true rfl, Nat.le_of_ble_eq_true rfl⟩) rfl rfl kk)
          (fun h5 kk => z_goti1 C (z_runU C (c_X5_due l G q P hp S X j2 hi_j2) (va_cwU 0 C.hts gX9_about_X5_due_u154X6 rfl rfl rfl rfl (by decide +kernel) ⟨Nat.le_of_ble_eq_true rfl, Nat.le_of_ble_eq_true rfl⟩) (18 + j2) (xw_pot hi_j2) (show vwCl[P.2.2.1 j2]? = some (RX6, TX6, 7) by rw [h5]; rfl) rfl rfl (Nat.le_of_ble_eq_true rfl) dX9_about_88 ⟨Nat.le_of_ble_eq_true rfl, Nat.le_of_ble_eq_true rfl⟩) rfl rfl kk)
          (fun h5 kk => z_goti1 C (z_runU C (c_X5_due l G q P hp S X j2 hi_j2) (va_cwU 0 C.hts gX9_about_X5_due_u154X7 rfl rfl rfl rfl (by decide +kernel) ⟨Nat.le_of_ble_eq_true rfl, Nat.le_of_ble_eq_true rfl⟩) (18 + j2) (xw_pot hi_j2) (show vwCl[P.2.2.1 j2]? = some (RX7, TX7, 7) by rw [h5]; rfl) rfl rfl (Nat.le_of_ble_eq_true rfl) dX9_about_88 ⟨Nat.le_of_ble_eq_true rfl, Nat.le_of_ble_eq_true rfl⟩) rfl rfl kk)
          ?_
        refine z_goto (tgt := 95) C dX9_about_91 (by decide) ?_
        subst h
        exact z_iret C rfl ⟨rfl, rfl⟩ dX9_about_95
    replace h := zf c7 h
    by_cases c9 : a2 = 5
    · replace h := zt c9 h
      refine z_tableIn (off := 82) (tgt := 96) C dX9_about_14 (by rw [c9]; decide) (by rw [c9]; decide) (by rw [c9]; rfl) (by decide) ?_
      refine z_aload_n C 0 dX9_about_96 rfl rfl ?_
      refine z5 (hp.1 j2 hi_j2)
        (fun h5 kk => z_goti1 C (z_runU C (c_X5_boils l G q P hp S X j2 hi_j2) (va_cwU 0 C.hts gX9_about_X5_boils_u151X0 rfl rfl rfl rfl (by decide +kernel) ⟨Nat.le_of_ble_eq_true rfl, Nat.le_of_ble_eq_true rfl⟩) (18 + j2) (xw_pot hi_j2) (show vwCl[P.2.2.1 j2]? = some (RX0, TX0, 7) by rw [h5]; rfl) rfl rfl (Nat.le_of_ble_eq_true rfl) dX9_about_97 ⟨Nat.le_of_ble_eq_true rfl, Nat.le_of_ble_eq_true rfl⟩) rfl rfl kk)
        (fun h5 kk => z_goti1 C (z_runU C (c_X5_boils l G q P hp S X j2 hi_j2) (va_cwU 0 C.hts gX9_about_X5_boils_u151X2 rfl rfl rfl rfl (by decide +kernel) ⟨Nat.le_of_ble_eq_true rfl, Nat.le_of_ble_eq_true rfl⟩) (18 + j2) (xw_pot hi_j2) (show vwCl[P.2.2.1 j2]? = some (RX2, TX2, 7) by rw [h5]; rfl) rfl rfl (Nat.le_of_ble_eq_true rfl) dX9_about_97 ⟨Nat.le_of_ble_eq_true rfl, Nat.le_of_ble_eq_true rfl⟩) rfl rfl kk)
        (fun h5 kk => z_goti1 C (z_runV C (c_X5_boils l G q P hp S X j2 hi_j2) (cwV 0 C.hts gX9_about_X5_boils rfl rfl rfl (by decide +kernel) ⟨Nat.le_of_ble_eq_true rfl, Nat.le_of_ble_eq_true rfl⟩) (18 + j2) (xw_pot hi_j2) (show vwCl[P.2.2.1 j2]? = some (RX5, TX5, 7) by rw [h5]; rfl) rfl rfl (Nat.le_of_ble_eq_true rfl) dX9_about_97 ⟨Nat.le_of_ble_eq_true rfl, Nat.le_of_ble_eq_true rfl⟩) rfl rfl kk)
        (fun h5 kk => z_goti1 C (z_runU C (c_X5_boils l G q P hp S X j2 hi_j2) (va_cwU 0 C.hts gX9_about_X5_boils_u151X6 rfl rfl rfl rfl (by decide +kernel) ⟨Nat.le_of_ble_eq_true rfl, Nat.le_of_ble_eq_true rfl⟩) (18 + j2) (xw_pot hi_j2) (show vwCl[P.2.2.1 j2]? = some (RX6, TX6, 7) by rw [h5]; rfl) rfl rfl (Nat.le_of_ble_eq_true rfl) dX9_about_97 ⟨Nat.le_of_ble_eq_true rfl, Nat.le_of_ble_eq_true rfl⟩) rfl rfl kk)
        (fun h5 kk => z_goti1 C (z_runU C (c_X5_boils l G q P hp S X j2 hi_j2) (va_cwU 0 C.hts gX9_about_X5_boils_u151X7 rfl rfl rfl rfl (by decide +kernel) ⟨Nat.le_of_ble_eq_true rfl, Nat.le_of_ble_eq_true rfl⟩) (18 + j2) (xw_pot hi_j2) (show vwCl[P.2.2.1 j2]? = some (RX7, TX7, 7) by rw [h5]; rfl) rfl rfl (Nat.le_of_ble_eq_true rfl) dX9_about_97 ⟨Nat.le_of_ble_eq_true rfl, Nat.le_of_ble_eq_true rfl⟩) rfl rfl kk)
        ?_
      refine z_if_eq (tgt := 114) C dX9_about_100 (by decide) (fun c10 => ?_) (fun c10 => ?_)
      · replace h := zt c10 h
        refine z_iconst (v := (-1)) C dX9_about_114 (by decide) ?_
        subst h
        exact z_iret C rfl ⟨rfl, rfl⟩ dX9_about_115
      · replace h := zf c10 h
        refine z_aload_n C 0 dX9_about_103 rfl rfl ?_
        refine z_aload_n C 1 dX9_about_104 rfl rfl ?_
        refine xg_T9 C hi9 (List.mem_of_getElem? (i := 3) rfl) dX9_about_105 ?_
        refine z5 (hp.1 j2 hi_j2)
          (fun h5 kk => z_goti1 C (z_runU C (c_X5_outAt l G q P hp S X j2 hi_j2 (xI S 9)) (va_cwU 1 C.hts gX9_about_X5_outAt_u157X0 rfl rfl rfl rfl (by decide +kernel) ⟨Nat.le_of_ble_eq_true rfl, Nat.le_of_ble_eq_true rfl⟩) (18 + j2) (xw_pot hi_j2) (show vwCl[P.2.2.1 j2]? = some (RX0, TX0, 7) by rw [h5]; rfl) rfl rfl (Nat.le_of_ble_eq_true rfl) dX9_about_108 ⟨Nat.le_of_ble_eq_true rfl, Nat.le_of_ble_eq_true rfl⟩) rfl rfl kk)
          (fun h5 kk => z_goti1 C (z_runU C (c_X5_outAt l G q P hp S X j2 hi_j2 (xI S 9)) (va_cwU 1 C.hts gX9_about_X5_outAt_u157X2 rfl rfl rfl rfl (by decide +kernel) ⟨Nat.le_of_ble_eq_true rfl, Nat.le_of_ble_eq_true rfl⟩) (18 + j2) (xw_pot hi_j2) (show vwCl[P.2.2.1 j2]? = some (RX2, TX2, 7) by rw [h5]; rfl) rfl rfl (Nat.le_of_ble_eq_true rfl) dX9_about_108 ⟨Nat.le_of_ble_eq_true rfl, Nat.le_of_ble_eq_true rfl⟩) rfl rfl kk)
          (fun h5 kk => z_goti1 C (z_runV C (c_X5_outAt l G q P hp S X j2 hi_j2 (xI S 9)) (cwV 1 C.hts gX9_about_X5_outAt rfl rfl rfl (by decide +kernel) ⟨Nat.le_of_ble_eq_true rfl, Nat.le_of_ble_eq_true rfl⟩) (18 + j2) (xw_pot hi_j2) (show vwCl[P.2.2.1 j2]? = some (RX5, TX5, 7) by rw [h5]; rfl) rfl rfl (Nat.le_of_ble_eq_true rfl) dX9_about_108 ⟨Nat.le_of_ble_eq_true rfl, Nat.le_of_ble_eq_true rfl⟩) rfl rfl kk)
          (fun h5 kk => z_goti1 C (z_runU C (c_X5_outAt l G q P hp S X j2 hi_j2 (xI S 9)) (va_cwU 1 C.hts gX9_about_X5_outAt_u157X6 rfl rfl rfl rfl (by decide +kernel) ⟨Nat.le_of_ble_eq_true rfl, Nat.le_of_ble_eq_true rfl⟩) (18 + j2) (xw_pot hi_j2) (show vwCl[P.2.2.1 j2]? = some (RX6, TX6, 7) by rw [h5]; rfl) rfl rfl (Nat.le_of_ble_eq_true rfl) dX9_about_108 ⟨Nat.le_of_ble_eq_true rfl, Nat.le_of_ble_eq_true rfl⟩) rfl rfl kk)
          (fun h5 kk => z_goti1 C (z_runU C (c_X5_outAt l G q P hp S X j2 hi_j2 (xI S 9)) (va_cwU 1 C.hts gX9_about_X5_outAt_u157X7 rfl rfl rfl rfl (by decide +kernel) ⟨Nat.le_of_ble_eq_true rfl, Nat.le_of_ble_eq_true rfl⟩) (18 + j2) (xw_pot hi_j2) (show vwCl[P.2.2.1 j2]? = some (RX7, TX7, 7) by rw [h5]; rfl) rfl rfl (Nat.le_of_ble_eq_true rfl) dX9_about_108 ⟨Nat.le_of_ble_eq_true rfl, Nat.le_of_ble_eq_true rfl⟩) rfl rfl kk)
          ?_
        refine z_goto (tgt := 115) C dX9_about_111 (by decide) ?_
        subst h
        exact z_iret C rfl ⟨rfl, rfl⟩ dX9_about_115
    replace h := zf c9 h
    by_cases c11 : a2 = 6
    · replace h := zt c11 h
      refine z_tableIn (off := 102) (tgt := 116) C dX9_about_14 (by rw [c11]; decide) (by rw [c11]; decide) (by rw [c11]; rfl) (by decide) ?_
      refine z_aload_n C 0 dX9_about_116 rfl rfl ?_
      refine xpg_2 C hp hi_j2 hi0 hi2 hi5 hi6 hi7 (List.mem_of_getElem? (i := 4) rfl) dX9_about_117 ?_
      subst h
      exact z_iret C rfl ⟨rfl, rfl⟩ dX9_about_120
    replace h := zf c11 h
    by_cases c12 : a2 = 7
    · replace h := zt c12 h
      refine z_tableIn (off := 107) (tgt := 121) C dX9_about_14 (by rw [c12]; decide) (by rw [c12]; decide) (by rw [c12]; rfl) (by decide) ?_
      refine z_aload_n C 0 dX9_about_121 rfl rfl ?_
      refine xpg_3 C hp hi_j2 hi0 hi2 hi5 hi6 hi7 (List.mem_of_getElem? (i := 5) rfl) dX9_about_122 ?_
      subst h
      exact z_iret C rfl ⟨rfl, rfl⟩ dX9_about_125
    replace h := zf c12 h
    refine z_tableOut (tgt := 126) C dX9_about_14 (by have e0 := ne_toInt (n := 0) c3 rfl; have e1 := ne_toInt (n := 1) c4 rfl; have e2 := ne_toInt (n := 2) c5 rfl; have e3 := ne_toInt (n := 3) c6 rfl; have e4 := ne_toInt (n := 4) c7 rfl; have e5 := ne_toInt (n := 5) c9 rfl; have e6 := ne_toInt (n := 6) c11 rfl; have e7 := ne_toInt (n := 7) c12 rfl; omega) (by decide) ?_
    refine z_bipush (v := (-102)) C dX9_about_126 (by decide) ?_
    subst h
    exact z_iret C rfl ⟨rfl, rfl⟩ dX9_about_128
def f_X9_isOfKind (P : XP) (S : XS) (i : Nat) (a2 : Int32) : Int32 := if a2 = 1 then (io 2 (P.2.2.1 i)) else if a2 = 2 then (io 6 (P.2.2.1 i)) else if a2 = 3 then (io 7 (P.2.2.1 i)) else if a2 = 4 then (io 0 (P.2.2.1 i)) else 1
set_option maxHeartbeats 4000000 in
set_option maxRecDepth 100000 in
theorem c_X9_isOfKind (l : Launch) (G : zGT) (q : Nat → Nat) (P : XP) (hp : xOK P) (S : XS) (X : va_W) (i : Nat) (hi : i < P.1) (a2 : Int32) : MG l yX9_isOfKind wsX9_isOfKind ({ frames := 0, cells := 0, slots := 0, locals := 0 }) G [.ref (P.2.1 i), .int a2] (XW G q P S ++ X) (va_Qi (fun r u => r = (f_X9_isOfKind P S i a2) ∧ u = XW G q P S ++ X)) := by
  refine MG.of (cc := cX9_isOfKind) (maxL := 2) (ret := (some .boolean)) (own := RX9) (nm := "isOfKind") (by decide) rfl rfl rfl (Nat.le_of_ble_eq_true rfl) ?_
  intro p e s m args below meth c A C
  obtain ⟨res, h⟩ : ∃ z, f_X9_isOfKind P S i a2 = z := ⟨_, rfl⟩
  rw [h]
  rw [f_X9_isOfKind] at h
  refine z_eq (lv2 := [(0, .ref (P.2.1 i)), (1, .int a2)]) rfl rfl rfl rfl ?_
  refine z_iload_n C 1 dX9_isOfKind_0 rfl rfl ?_
  by_cases c1 : a2 = 1
  · replace h := zt c1 h
    refine z_tableIn (off := 31) (tgt := 32) C dX9_isOfKind_1 (by rw [c1]; decide) (by rw [c1]; decide) (by rw [c1]; rfl) (by decide) ?_
    refine z_aload_n C 0 dX9_isOfKind_32 rfl rfl ?_
    refine z5 (hp.1 i hi)
      (fun h5 kk => z_instNo C (List.mem_of_getElem? (i := 1) rfl) (List.mem_of_getElem? (i := 0) rfl) (18 + i) (xw_pot hi) (show vwCl[P.2.2.1 i]? = some (RX0, TX0, 7) by rw [h5]; rfl) dX9_isOfKind_33 (z_eq (st2 := [.int (io 2 (P.2.2.1 i))]) rfl rfl rfl (by rw [h5]; rfl) kk))
      (fun h5 kk => z_instS C (List.mem_of_getElem? (i := 1) rfl) (18 + i) (xw_pot hi) (show vwCl[P.2.2.1 i]? = some (RX2, TX2, 7) by rw [h5]; rfl) dX9_isOfKind_33 (z_eq (st2 := [.int (io 2 (P.2.2.1 i))]) rfl rfl rfl (by rw [h5]; rfl) kk))
      (fun h5 kk => z_instNo C (List.mem_of_getElem? (i := 1) rfl) (List.mem_of_getElem? (i := 5) rfl) (18 + i) (xw_pot hi) (show vwCl[P.2.2.1 i]? = some (RX5, TX5, 7) by rw [h5]; rfl) dX9_isOfKind_33 (z_eq (st2 := [.int (io 2 (P.2.2.1 i))]) rfl rfl rfl (by rw [h5]; rfl) kk))
      (fun h5 kk => z_instNo C (List.mem_of_getElem? (i := 1) rfl) (List.mem_of_getElem? (i := 9) rfl) (18 + i) (xw_pot hi) (show vwCl[P.2.2.1 i]? = some (RX6, TX6, 7) by rw [h5]; rfl) dX9_isOfKind_33 (z_eq (st2 := [.int (io 2 (P.2.2.1 i))]) rfl rfl rfl (by rw [h5]; rfl) kk))
      (fun h5 kk => z_instNo C (List.mem_of_getElem? (i := 1) rfl) (List.mem_of_getElem? (i := 12) rfl) (18 + i) (xw_pot hi) (show vwCl[P.2.2.1 i]? = some (RX7, TX7, 7) by rw [h5]; rfl) dX9_isOfKind_33 (z_eq (st2 := [.int (io 2 (P.2.2.1 i))]) rfl rfl rfl (by rw [h5]; rfl) kk))
      ?_
    subst h
    exact z_zret C rfl (bio 2 (P.2.2.1 i)) ⟨rfl, rfl⟩ dX9_isOfKind_36
  replace h := zf c1 h
  by_cases c2 : a2 = 2
  · replace h := zt c2 h
    refine z_tableIn (off := 36) (tgt := 37) C dX9_isOfKind_1 (by rw [c2]; decide) (by rw [c2]; decide) (by rw [c2]; rfl) (by decide) ?_
    refine z_aload_n C 0 dX9_isOfKind_37 rfl rfl ?_
    refine z5 (hp.1 i hi)
      (fun h5 kk => z_instY C (List.mem_of_getElem? (i := 2) rfl) (List.mem_of_getElem? (i := 4) rfl) (18 + i) (xw_pot hi) (show vwCl[P.2.2.1 i]? = some (RX0, TX0, 7) by rw [h5]; rfl) dX9_isOfKind_38 (z_eq (st2 := [.int (io 6 (P.2.2.1 i))]) rfl rfl rfl (by rw [h5]; rfl) kk))
      (fun h5 kk => z_instNo C (List.mem_of_getElem? (i := 2) rfl) (List.mem_of_getElem? (i := 2) rfl) (18 + i) (xw_pot hi) (show vwCl[P.2.2.1 i]? = some (RX2, TX2, 7) by rw [h5]; rfl) dX9_isOfKind_38 (z_eq (st2 := [.int (io 6 (P.2.2.1 i))]) rfl rfl rfl (by rw [h5]; rfl) kk))
      (fun h5 kk => z_instNo C (List.mem_of_getElem? (i := 2) rfl) (List.mem_of_getElem? (i := 6) rfl) (18 + i) (xw_pot hi) (show vwCl[P.2.2.1 i]? = some (RX5, TX5, 7) by rw [h5]; rfl) dX9_isOfKind_38 (z_eq (st2 := [.int (io 6 (P.2.2.1 i))]) rfl rfl rfl (by rw [h5]; rfl) kk))
      (fun h5 kk => z_instS C (List.mem_of_getElem? (i := 2) rfl) (18 + i) (xw_pot hi) (show vwCl[P.2.2.1 i]? = some (RX6, TX6, 7) by rw [h5]; rfl) dX9_isOfKind_38 (z_eq (st2 := [.int (io 6 (P.2.2.1 i))]) rfl rfl rfl (by rw [h5]; rfl) kk))
      (fun h5 kk => z_instNo C (List.mem_of_getElem? (i := 2) rfl) (List.mem_of_getElem? (i := 13) rfl) (18 + i) (xw_pot hi) (show vwCl[P.2.2.1 i]? = some (RX7, TX7, 7) by rw [h5]; rfl) dX9_isOfKind_38 (z_eq (st2 := [.int (io 6 (P.2.2.1 i))]) rfl rfl rfl (by rw [h5]; rfl) kk))
      ?_
    subst h
    exact z_zret C rfl (bio 6 (P.2.2.1 i)) ⟨rfl, rfl⟩ dX9_isOfKind_41
  replace h := zf c2 h
  by_cases c3 : a2 = 3
  · replace h := zt c3 h
    refine z_tableIn (off := 41) (tgt := 42) C dX9_isOfKind_1 (by rw [c3]; decide) (by rw [c3]; decide) (by rw [c3]; rfl) (by decide) ?_
    refine z_aload_n C 0 dX9_isOfKind_42 rfl rfl ?_
    refine z5 (hp.1 i hi)
      (fun h5 kk => z_instNo C (List.mem_of_getElem? (i := 3) rfl) (List.mem_of_getElem? (i := 1) rfl) (18 + i) (xw_pot hi) (show vwCl[P.2.2.1 i]? = some (RX0, TX0, 7) by rw [h5]; rfl) dX9_isOfKind_43 (z_eq (st2 := [.int (io 7 (P.2.2.1 i))]) rfl rfl rfl (by rw [h5]; rfl) kk))
      (fun h5 kk => z_instNo C (List.mem_of_getElem? (i := 3) rfl) (List.mem_of_getElem? (i := 3) rfl) (18 + i) (xw_pot hi) (show vwCl[P.2.2.1 i]? = some (RX2, TX2, 7) by rw [h5]; rfl) dX9_isOfKind_43 (z_eq (st2 := [.int (io 7 (P.2.2.1 i))]) rfl rfl rfl (by rw [h5]; rfl) kk))
      (fun h5 kk => z_instNo C (List.mem_of_getElem? (i := 3) rfl) (List.mem_of_getElem? (i := 7) rfl) (18 + i) (xw_pot hi) (show vwCl[P.2.2.1 i]? = some (RX5, TX5, 7) by rw [h5]; rfl) dX9_isOfKind_43 (z_eq (st2 := [.int (io 7 (P.2.2.1 i))]) rfl rfl rfl (by rw [h5]; rfl) kk))
      (fun h5 kk => z_instNo C (List.mem_of_getElem? (i := 3) rfl) (List.mem_of_getElem? (i := 10) rfl) (18 + i) (xw_pot hi) (show vwCl[P.2.2.1 i]? = some (RX6, TX6, 7) by rw [h5]; rfl) dX9_isOfKind_43 (z_eq (st2 := [.int (io 7 (P.2.2.1 i))]) rfl rfl rfl (by rw [h5]; rfl) kk))
      (fun h5 kk => z_instS C (List.mem_of_getElem? (i := 3) rfl) (18 + i) (xw_pot hi) (show vwCl[P.2.2.1 i]? = some (RX7, TX7, 7) by rw [h5]; rfl) dX9_isOfKind_43 (z_eq (st2 := [.int (io 7 (P.2.2.1 i))]) rfl rfl rfl (by rw [h5]; rfl) kk))
      ?_
    subst h
    exact z_zret C rfl (bio 7 (P.2.2.1 i)) ⟨rfl, rfl⟩ dX9_isOfKind_46
  replace h := zf c3 h
  by_cases c4 : a2 = 4
  · replace h := zt c4 h
    refine z_tableIn (off := 46) (tgt := 47) C dX9_isOfKind_1 (by rw [c4]; decide) (by rw [c4]; decide) (by rw [c4]; rfl) (by decide) ?_
    refine z_aload_n C 0 dX9_isOfKind_47 rfl rfl ?_
    refine z5 (hp.1 i hi)
      (fun h5 kk => z_instS C (List.mem_of_getElem? (i := 4) rfl) (18 + i) (xw_pot hi) (show vwCl[P.2.2.1 i]? = some (RX0, TX0, 7) by rw [h5]; rfl) dX9_isOfKind_48 (z_eq (st2 := [.int (io 0 (P.2.2.1 i))]) rfl rfl rfl (by rw [h5]; rfl) kk))
      (fun h5 kk => z_instNo C (List.mem_of_getElem? (i := 4) rfl) (List.mem_of_getElem? (i := 4) rfl) (18 + i) (xw_pot hi) (show vwCl[P.2.2.1 i]? = some (RX2, TX2, 7) by rw [h5]; rfl) dX9_isOfKind_48 (z_eq (st2 := [.int (io 0 (P.2.2.1 i))]) rfl rfl rfl (by rw [h5]; rfl) kk))
      (fun h5 kk => z_instNo C (List.mem_of_getElem? (i := 4) rfl) (List.mem_of_getElem? (i := 8) rfl) (18 + i) (xw_pot hi) (show vwCl[P.2.2.1 i]? = some (RX5, TX5, 7) by rw [h5]; rfl) dX9_isOfKind_48 (z_eq (st2 := [.int (io 0 (P.2.2.1 i))]) rfl rfl rfl (by rw [h5]; rfl) kk))
      (fun h5 kk => z_instNo C (List.mem_of_getElem? (i := 4) rfl) (List.mem_of_getElem? (i := 11) rfl) (18 + i) (xw_pot hi) (show vwCl[P.2.2.1 i]? = some (RX6, TX6, 7) by rw [h5]; rfl) dX9_isOfKind_48 (z_eq (st2 := [.int (io 0 (P.2.2.1 i))]) rfl rfl rfl (by rw [h5]; rfl) kk))
      (fun h5 kk => z_instNo C (List.mem_of_getElem? (i := 4) rfl) (List.mem_of_getElem? (i := 14) rfl) (18 + i) (xw_pot hi) (show vwCl[P.2.2.1 i]? = some (RX7, TX7, 7) by rw [h5]; rfl) dX9_isOfKind_48 (z_eq (st2 := [.int (io 0 (P.2.2.1 i))]) rfl rfl rfl (by rw [h5]; rfl) kk))
      ?_
    subst h
    exact z_zret C rfl (bio 0 (P.2.2.1 i)) ⟨rfl, rfl⟩ dX9_isOfKind_51
  replace h := zf c4 h
  refine z_tableOut (tgt := 52) C dX9_isOfKind_1 (by have e0 := ne_toInt (n := 1) c1 rfl; have e1 := ne_toInt (n := 2) c2 rfl; have e2 := ne_toInt (n := 3) c3 rfl; have e3 := ne_toInt (n := 4) c4 rfl; omega) (by decide) ?_
  refine z_iconst (v := 1) C dX9_isOfKind_52 (by decide) ?_
  subst h
  exact z_zret C rfl (Or.inr rfl) ⟨rfl, rfl⟩ dX9_isOfKind_53
theorem bf_X9_isOfKind (P : XP) (S : XS) (i : Nat) (a2 : Int32) : f_X9_isOfKind P S i a2 = 0 ∨ f_X9_isOfKind P S i a2 = 1 := by
  unfold f_X9_isOfKind
  repeat' split
  all_goals first | exact Or.inl rfl | exact Or.inr rfl | exact bio ..
def f_X9_as (P : XP) (S : XS) (a1 : Int32) (a2 : Int32) : Int32 := pm (f_X9_potAt P S a1) ((-101)) (fun j2 => if a2 < 0 then (-102) else if a2 ≤ 4 then if (f_X9_isOfKind P S j2 a2) = 0 then (-1) else a1 else (-102))
set_option maxHeartbeats 4000000 in
set_option maxRecDepth 100000 in
theorem c_X9_as (l : Launch) (G : zGT) (q : Nat → Nat) (P : XP) (hp : xOK P) (S : XS) (X : va_W) (a1 : Int32) (a2 : Int32) : MG l yX9_as wsX9_as ({ frames := 1, cells := 0, slots := 0, locals := 21 }) G [.ref (q 0), .int a1, .int a2] (XW G q P S ++ X) (va_Qi (fun r u => r = (f_X9_as P S a1 a2) ∧ u = XW G q P S ++ X)) := by
  refine MG.of (cc := cX9_as) (maxL := 4) (ret := (some .int)) (own := RX9) (nm := "as") (by decide) rfl rfl rfl (Nat.le_of_ble_eq_true rfl) ?_
  intro p e s m args below meth c A C
  obtain ⟨res, h⟩ : ∃ z, f_X9_as P S a1 a2 = z := ⟨_, rfl⟩
  rw [h]
  rw [f_X9_as] at h
  refine z_eq (lv2 := [(0, .ref (q 0)), (1, .int a1), (2, .int a2)]) rfl rfl rfl rfl ?_
  refine z_aload_n C 0 dX9_as_0 rfl rfl ?_
  refine z_iload_n C 1 dX9_as_1 rfl rfl ?_
  refine z_gotq1 C (z_runV C (c_X9_potAt l G q P hp S X a1) (cwV 1 C.hts gX9_as_X9_potAt rfl rfl rfl (by decide +kernel) ⟨Nat.le_of_ble_eq_true rfl, Nat.le_of_ble_eq_true rfl⟩) 0 rfl rfl rfl rfl (Nat.le_of_ble_eq_true rfl) dX9_as_2 ⟨Nat.le_of_ble_eq_true rfl, Nat.le_of_ble_eq_true rfl⟩) rfl rfl ?_
  cases hq1 : (f_X9_potAt P S a1) with
  | none =>
    replace h := pm_n hq1 h
    refine z_eq (st2 := [.null]) rfl rfl rfl rfl ?_
    refine z_astore_nN (lv2 := [(3, .null), (0, .ref (q 0)), (1, .int a1), (2, .int a2)]) C dX9_as_5 rfl (by decide) rfl ?_
    refine z_aload_nN C 0 dX9_as_6 rfl rfl ?_
    refine z_ifnonnullN C dX9_as_7 ?_
    refine z_bipush (v := (-101)) C dX9_as_10 (by decide) ?_
    subst h
    exact z_iret C rfl ⟨rfl, rfl⟩ dX9_as_12
  | some j2 =>
    replace h := pm_s hq1 h
    have hi_j2 : j2 < P.1 := f_potAt_lt hq1
    refine z_eq (st2 := [.ref (P.2.1 j2)]) rfl rfl rfl rfl ?_
    refine z_astore_n (lv2 := [(3, .ref (P.2.1 j2)), (0, .ref (q 0)), (1, .int a1), (2, .int a2)]) C dX9_as_5 rfl (by decide) rfl ?_
    refine z_aload_n C 0 dX9_as_6 rfl rfl ?_
    refine z_ifnonnull (tgt := 13) C dX9_as_7 (by decide) ?_
    refine z_iload_n C 3 dX9_as_13 rfl rfl ?_
    refine z_if_lt (tgt := 22) C dX9_as_14 (by decide) (fun c3 => ?_) (fun c3 => ?_)
    · replace h := zt c3 h
      refine z_bipush (v := (-102)) C dX9_as_22 (by decide) ?_
      subst h
      exact z_iret C rfl ⟨rfl, rfl⟩ dX9_as_24
    · replace h := zf c3 h
      refine z_iload_n C 3 dX9_as_17 rfl rfl ?_
      refine z_iconst (v := 4) C dX9_as_18 (by decide) ?_
      refine z_icmp_le (tgt := 25) C dX9_as_19 (by decide) (fun c4 => ?_) (fun c4 => ?_)
      · replace h := zt c4 h
        refine z_aload_n C 0 dX9_as_25 rfl rfl ?_
        refine z_iload_n C 3 dX9_as_26 rfl rfl ?_
        refine z_goti1 C (z_runS C (c_X9_isOfKind l G q P hp S X j2 hi_j2 a2) (va_cwS 2 C.hts gX9_as_X9_isOfKind rfl rfl rfl (by decide +kernel) ⟨Nat.le_of_ble_eq_true rfl, Nat.le_of_ble_eq_true rfl⟩) rfl rfl (Nat.le_of_ble_eq_true rfl) dX9_as_27 ⟨Nat.le_of_ble_eq_true rfl, Nat.le_of_ble_eq_true rfl⟩) rfl rfl ?_
        refine z_if_eq (tgt := 37) C dX9_as_30 (by decide) (fun c5 => ?_) (fun c5 => ?_)
        · replace h := zt c5 h
          refine z_iconst (v := (-1)) C dX9_as_37 (by decide) ?_
          subst h
          exact z_iret C rfl ⟨rfl, rfl⟩ dX9_as_38
        · replace h := zf c5 h
          refine z_iload_n C 2 dX9_as_33 rfl rfl ?_
          refine z_goto (tgt := 38) C dX9_as_34 (by decide) ?_
          subst h
          exact z_iret C rfl ⟨rfl, rfl⟩ dX9_as_38
      · replace h := zf c4 h
        refine z_bipush (v := (-102)) C dX9_as_22 (by decide) ?_
        subst h
        exact z_iret C rfl ⟨rfl, rfl⟩ dX9_as_24
def f_X9_boil (P : XP) (S : XS) (a1 : Int32) : Int32 × XS := pm (f_X9_potAt P S a1) (((-101), S)) (fun j2 => if (f_X5_boils P S j2) = 0 then ((f_X5_due P (xsR S j2 1 (xI S 9)) j2), xsR S j2 1 (xI S 9)) else ((-103), S))
set_option maxHeartbeats 4000000 in
set_option maxRecDepth 100000 in
theorem c_X9_boil (l : Launch) (G : zGT) (q : Nat → Nat) (P : XP) (hp : xOK P) (S : XS) (X : va_W) (a1 : Int32) : MG l yX9_boil wsX9_boil ({ frames := 1, cells := 0, slots := 0, locals := 21 }) G [.ref (q 0), .int a1] (XW G q P S ++ X) (va_Qi (fun r u => r = (f_X9_boil P S a1).1 ∧ u = XW G q P ((f_X9_boil P S a1).2) ++ X)) := by
  have hi0 : ∀ w ∈ u_ws RX0 TX0 7, w ∈ wsX9_boil := fun _ h => List.mem_cons_of_mem _ (List.mem_append_left _ (List.mem_append_left _ (List.mem_append_left _ (List.mem_append_left _ (List.mem_append_right _ h)))))
  have hi2 : ∀ w ∈ u_ws RX2 TX2 7, w ∈ wsX9_boil := fun _ h => List.mem_cons_of_mem _ (List.mem_append_left _ (List.mem_append_left _ (List.mem_append_left _ (List.mem_append_right _ h))))
  have hi5 : ∀ w ∈ u_ws RX5 TX5 7, w ∈ wsX9_boil := fun _ h => List.mem_cons_of_mem _ (List.mem_append_left _ (List.mem_append_left _ (List.mem_append_right _ h)))
  have hi6 : ∀ w ∈ u_ws RX6 TX6 7, w ∈ wsX9_boil := fun _ h => List.mem_cons_of_mem _ (List.mem_append_left _ (List.mem_append_right _ h))
  have hi7 : ∀ w ∈ u_ws RX7 TX7 7, w ∈ wsX9_boil := fun _ h => List.mem_cons_of_mem _ (List.mem_append_right _ h)
  have hi9 : ∀ w ∈ u_ws RX9 TX9 18, w ∈ wsX9_boil := fun _ h => List.mem_cons_of_mem _ (List.mem_append_left _ (List.mem_append_left _ (List.mem_append_left _ (List.mem_append_left _ (List.mem_append_left _ (List.mem_append_right _ h))))))
  refine MG.of (cc := cX9_boil) (maxL := 3) (ret := (some .int)) (own := RX9) (nm := "boil") (by decide) rfl rfl rfl (Nat.le_of_ble_eq_true rfl) ?_
  intro p e s m args below meth c A C
  obtain ⟨res, h⟩ : ∃ z, f_X9_boil P S a1 = z := ⟨_, rfl⟩
  rw [h]
  rw [f_X9_boil] at h
  refine z_eq (lv2 := [(0, .ref (q 0)), (1, .int a1)]) rfl rfl rfl rfl ?_
  refine z_aload_n C 0 dX9_boil_0 rfl rfl ?_
  refine z_iload_n C 1 dX9_boil_1 rfl rfl ?_
  refine z_gotq1 C (z_runV C (c_X9_potAt l G q P hp S X a1) (cwV 1 C.hts gX9_boil_X9_potAt rfl rfl rfl (by decide +kernel) ⟨Nat.le_of_ble_eq_true rfl, Nat.le_of_ble_eq_true rfl⟩) 0 rfl rfl rfl rfl (Nat.le_of_ble_eq_true rfl) dX9_boil_2 ⟨Nat.le_of_ble_eq_true rfl, Nat.le_of_ble_eq_true rfl⟩) rfl rfl ?_
  cases hq1 : (f_X9_potAt P S a1) with
  | none =>
    replace h := pm_n hq1 h
    refine z_eq (st2 := [.null]) rfl rfl rfl rfl ?_
    refine z_astore_nN (lv2 := [(2, .null), (0, .ref (q 0)), (1, .int a1)]) C dX9_boil_5 rfl (by decide) rfl ?_
    refine z_aload_nN C 0 dX9_boil_6 rfl rfl ?_
    refine z_ifnonnullN C dX9_boil_7 ?_
    refine z_bipush (v := (-101)) C dX9_boil_10 (by decide) ?_
    subst h
    exact z_iret C rfl ⟨rfl, rfl⟩ dX9_boil_12
  | some j2 =>
    replace h := pm_s hq1 h
    have hi_j2 : j2 < P.1 := f_potAt_lt hq1
    refine z_eq (st2 := [.ref (P.2.1 j2)]) rfl rfl rfl rfl ?_
    refine z_astore_n (lv2 := [(2, .ref (P.2.1 j2)), (0, .ref (q 0)), (1, .int a1)]) C dX9_boil_5 rfl (by decide) rfl ?_
    refine z_aload_n C 0 dX9_boil_6 rfl rfl ?_
    refine z_ifnonnull (tgt := 13) C dX9_boil_7 (by decide) ?_
    refine z_aload_n C 0 dX9_boil_13 rfl rfl ?_
    refine z5 (hp.1 j2 hi_j2)
      (fun h5 kk => z_goti1 C (z_runU C (c_X5_boils l G q P hp S X j2 hi_j2) (va_cwU 0 C.hts gX9_boil_X5_boils_u151X0 rfl rfl rfl rfl (by decide +kernel) ⟨Nat.le_of_ble_eq_true rfl, Nat.le_of_ble_eq_true rfl⟩) (18 + j2) (xw_pot hi_j2) (show vwCl[P.2.2.1 j2]? = some (RX0, TX0, 7) by rw [h5]; rfl) rfl rfl (Nat.le_of_ble_eq_true rfl) dX9_boil_14 ⟨Nat.le_of_ble_eq_true rfl, Nat.le_of_ble_eq_true rfl⟩) rfl rfl kk)
      (fun h5 kk => z_goti1 C (z_runU C (c_X5_boils l G q P hp S X j2 hi_j2) (va_cwU 0 C.hts gX9_boil_X5_boils_u151X2 rfl rfl rfl rfl (by decide +kernel) ⟨Nat.le_of_ble_eq_true rfl, Nat.le_of_ble_eq_true rfl⟩) (18 + j2) (xw_pot hi_j2) (show vwCl[P.2.2.1 j2]? = some (RX2, TX2, 7) by rw [h5]; rfl) rfl rfl (Nat.le_of_ble_eq_true rfl) dX9_boil_14 ⟨Nat.le_of_ble_eq_true rfl, Nat.le_of_ble_eq_true rfl⟩) rfl rfl kk)
      (fun h5 kk => z_goti1 C (z_runV C (c_X5_boils l G q P hp S X j2 hi_j2) (cwV 0 C.hts gX9_boil_X5_boils rfl rfl rfl (by decide +kernel) ⟨Nat.le_of_ble_eq_true rfl, Nat.le_of_ble_eq_true rfl⟩) (18 + j2) (xw_pot hi_j2) (show vwCl[P.2.2.1 j2]? = some (RX5, TX5, 7) by rw [h5]; rfl) rfl rfl (Nat.le_of_ble_eq_true rfl) dX9_boil_14 ⟨Nat.le_of_ble_eq_true rfl, Nat.le_of_ble_eq_true rfl⟩) rfl rfl kk)
      (fun h5 kk => z_goti1 C (z_runU C (c_X5_boils l G q P hp S X j2 hi_j2) (va_cwU 0 C.hts gX9_boil_X5_boils_u151X6 rfl rfl rfl rfl (by decide +kernel) ⟨Nat.le_of_ble_eq_true rfl, Nat.le_of_ble_eq_true rfl⟩) (18 + j2) (xw_pot hi_j2) (show vwCl[P.2.2.1 j2]? = some (RX6, TX6, 7) by rw [h5]; rfl) rfl rfl (Nat.le_of_ble_eq_true rfl) dX9_boil_14 ⟨Nat.le_of_ble_eq_true rfl, Nat.le_of_ble_eq_true rfl⟩) rfl rfl kk)
      (fun h5 kk => z_goti1 C (z_runU C (c_X5_boils l G q P hp S X j2 hi_j2) (va_cwU 0 C.hts gX9_boil_X5_boils_u151X7 rfl rfl rfl rfl (by decide +kernel) ⟨Nat.le_of_ble_eq_true rfl, Nat.le_of_ble_eq_true rfl⟩) (18 + j2) (xw_pot hi_j2) (show vwCl[P.2.2.1 j2]? = some (RX7, TX7, 7) by rw [h5]; rfl) rfl rfl (Nat.le_of_ble_eq_true rfl) dX9_boil_14 ⟨Nat.le_of_ble_eq_true rfl, Nat.le_of_ble_eq_true rfl⟩) rfl rfl kk)
      ?_
    refine z_if_eq (tgt := 23) C dX9_boil_17 (by decide) (fun c3 => ?_) (fun c3 => ?_)
    · replace h := zt c3 h
      refine z_aload_n C 0 dX9_boil_23 rfl rfl ?_
      refine z_aload_n C 1 dX9_boil_24 rfl rfl ?_
      refine xg_T9 C hi9 (List.mem_of_getElem? (i := 1) rfl) dX9_boil_25 ?_
      refine xpp_1 C hp hi_j2 hi0 hi2 hi5 hi6 hi7 (List.mem_of_getElem? (i := 2) rfl) dX9_boil_28 ?_
      refine z_aload_n C 0 dX9_boil_31 rfl rfl ?_
      refine z5 (hp.1 j2 hi_j2)
        (fun h5 kk => z_goti1 C (z_runU C (c_X5_due l G q P hp (xsR S j2 1 (xI S 9)) X j2 hi_j2) (va_cwU 0 C.hts gX9_boil_X5_due_u154X0 rfl rfl rfl rfl (by decide +kernel) ⟨Nat.le_of_ble_eq_true rfl, Nat.le_of_ble_eq_true rfl⟩) (18 + j2) (xw_pot hi_j2) (show vwCl[P.2.2.1 j2]? = some (RX0, TX0, 7) by rw [h5]; rfl) rfl rfl (Nat.le_of_ble_eq_true rfl) dX9_boil_32 ⟨Nat.le_of_ble_eq_true rfl, Nat.le_of_ble_eq_true rfl⟩) rfl rfl kk)
        (fun h5 kk => z_goti1 C (z_runU C (c_X5_due l G q P hp (xsR S j2 1 (xI S 9)) X j2 hi_j2) (va_cwU 0 C.hts gX9_boil_X5_due_u154X2 rfl rfl rfl rfl (by decide +kernel) ⟨Nat.le_of_ble_eq_true rfl, Nat.le_of_ble_eq_true rfl⟩) (18 + j2) (xw_pot hi_j2) (show vwCl[P.2.2.1 j2]? = some (RX2, TX2, 7) by rw [h5]; rfl) rfl rfl (Nat.le_of_ble_eq_true rfl) dX9_boil_32 ⟨Nat.le_of_ble_eq_true rfl, Nat.le_of_ble_eq_true rfl⟩) rfl rfl kk)
        (fun h5 kk => z_goti1 C (z_runV C (c_X5_due l G q P hp (xsR S j2 1 (xI S 9)) X j2 hi_j2) (cwV 0 C.hts gX9_boil_X5_due rfl rfl rfl (by decide +kernel) ⟨Nat.le_of_ble_eq_true rfl, Nat.le_of_ble_eq_true rfl⟩) (18 + j2) (xw_pot hi_j2) (show vwCl[P.2.2.1 j2]? = some (RX5, TX5, 7) by rw [h5]; rfl) rfl rfl (Nat.le_of_ble_eq_true rfl) dX9_boil_32 ⟨Nat.le_of_ble_eq_true rfl, Nat.le_of_ble_eq_true rfl⟩) rfl rfl kk)
        (fun h5 kk => z_goti1 C (z_runU C (c_X5_due l G q P hp (xsR S j2 1 (xI S 9)) X j2 hi_j2) (va_cwU 0 C.hts gX9_boil_X5_due_u154X6 rfl rfl rfl rfl (by decide +kernel) ⟨Nat.le_of_ble_eq_true rfl, Nat.le_of_ble_eq_true rfl⟩) (18 + j2) (xw_pot hi_j2) (show vwCl[P.2.2.1 j2]? = some (RX6, TX6, 7) by rw [h5]; rfl) rfl rfl (Nat.le_of_ble_eq_true rfl) dX9_boil_32 ⟨Nat.le_of_ble_eq_true rfl, Nat.le_of_ble_eq_true rfl⟩) rfl rfl kk)
        (fun h5 kk => z_goti1 C (z_runU C (c_X5_due l G q P hp (xsR S j2 1 (xI S 9)) X j2 hi_j2) (va_cwU 0 C.hts gX9_boil_X5_due_u154X7 rfl rfl rfl rfl (by decide +kernel) ⟨Nat.le_of_ble_eq_true rfl, Nat.le_of_ble_eq_true rfl⟩) (18 + j2) (xw_pot hi_j2) (show vwCl[P.2.2.1 j2]? = some (RX7, TX7, 7) by rw [h5]; rfl) rfl rfl (Nat.le_of_ble_eq_true rfl) dX9_boil_32 ⟨Nat.le_of_ble_eq_true rfl, Nat.le_of_ble_eq_true rfl⟩) rfl rfl kk)
        ?_
      subst h
      exact z_iret C rfl ⟨rfl, rfl⟩ dX9_boil_35
    · replace h := zf c3 h
      refine z_bipush (v := (-103)) C dX9_boil_20 (by decide) ?_
      subst h
      exact z_iret C rfl ⟨rfl, rfl⟩ dX9_boil_22
def f_X9_wind (P : XP) (S : XS) (a1 : Int32) : Int32 × XS := if a1 < 1 then ((-102), S) else if (f_X9_hasKitchen P S) = 0 then if a1 ≤ 60 then if (f_X9_hasKitchen P S) = 0 then ((-103), S) else if ((xI S 9) + a1) ≤ 999 then ((xI (xsI (xsI (xsI S 9 ((xI S 9) + a1)) 10 (xI (xsI S 9 ((xI S 9) + a1)) 8)) 11 ((xI (xsI (xsI S 9 ((xI S 9) + a1)) 10 (xI (xsI S 9 ((xI S 9) + a1)) 8)) 11) + 1)) 9), xsI (xsI (xsI S 9 ((xI S 9) + a1)) 10 (xI (xsI S 9 ((xI S 9) + a1)) 8)) 11 ((xI (xsI (xsI S 9 ((xI S 9) + a1)) 10 (xI (xsI S 9 ((xI S 9) + a1)) 8)) 11) + 1)) else ((-103), S) else ((-102), S) else if a1 ≤ (xI S 7) then if (f_X9_hasKitchen P S) = 0 then ((-103), S) else if ((xI S 9) + a1) ≤ 999 then ((xI (xsI (xsI (xsI S 9 ((xI S 9) + a1)) 10 (xI (xsI S 9 ((xI S 9) + a1)) 8)) 11 ((xI (xsI (xsI S 9 ((xI S 9) + a1)) 10 (xI (xsI S 9 ((xI S 9) + a1)) 8)) 11) + 1)) 9), xsI (xsI (xsI S 9 ((xI S 9) + a1)) 10 (xI (xsI S 9 ((xI S 9) + a1)) 8)) 11 ((xI (xsI (xsI S 9 ((xI S 9) + a1)) 10 (xI (xsI S 9 ((xI S 9) + a1)) 8)) 11) + 1)) else ((-103), S) else ((-102), S)
set_option maxHeartbeats 4000000 in
set_option maxRecDepth 100000 in
theorem c_X9_wind (l : Launch) (G : zGT) (q : Nat → Nat) (P : XP) (hp : xOK P) (S : XS) (X : va_W) (a1 : Int32) : MG l yX9_wind wsX9_wind ({ frames := 1, cells := 0, slots := 0, locals := 20 }) G [.ref (q 0), .int a1] (XW G q P S ++ X) (va_Qi (fun r u => r = (f_X9_wind P S a1).1 ∧ u = XW G q P ((f_X9_wind P S a1).2) ++ X)) := by
  have hi9 : ∀ w ∈ u_ws RX9 TX9 18, w ∈ wsX9_wind := fun _ h => List.mem_cons_of_mem _ (List.mem_append_right _ h)
  refine MG.of (cc := cX9_wind) (maxL := 2) (ret := (some .int)) (own := RX9) (nm := "wind") (by decide) rfl rfl rfl (Nat.le_of_ble_eq_true rfl) ?_
  intro p e s m args below meth c A C
  obtain ⟨res, h⟩ : ∃ z, f_X9_wind P S a1 = z := ⟨_, rfl⟩
  rw [h]
  rw [f_X9_wind] at h
  refine z_eq (lv2 := [(0, .ref (q 0)), (1, .int a1)]) rfl rfl rfl rfl ?_
  refine z_iload_n C 1 dX9_wind_0 rfl rfl ?_
  refine z_iconst (v := 1) C dX9_wind_1 (by decide) ?_
  refine z_icmp_lt (tgt := 25) C dX9_wind_2 (by decide) (fun c1 => ?_) (fun c1 => ?_)
  · replace h := zt c1 h
    refine z_bipush (v := (-102)) C dX9_wind_25 (by decide) ?_
    subst h
    exact z_iret C rfl ⟨rfl, rfl⟩ dX9_wind_27
  · replace h := zf c1 h
    refine z_iload_n C 1 dX9_wind_5 rfl rfl ?_
    refine z_aload_n C 0 dX9_wind_6 rfl rfl ?_
    refine z_goti1 C (z_runV C (c_X9_hasKitchen l G q P hp S X) (cwV 0 C.hts gX9_wind_X9_hasKitchen rfl rfl rfl (by decide +kernel) ⟨Nat.le_of_ble_eq_true rfl, Nat.le_of_ble_eq_true rfl⟩) 0 rfl rfl rfl rfl (Nat.le_of_ble_eq_true rfl) dX9_wind_7 ⟨Nat.le_of_ble_eq_true rfl, Nat.le_of_ble_eq_true rfl⟩) rfl rfl ?_
    refine z_if_eq (tgt := 20) C dX9_wind_10 (by decide) (fun c2 => ?_) (fun c2 => ?_)
    · replace h := zt c2 h
      refine z_bipush (v := 60) C dX9_wind_20 (by decide) ?_
      refine z_icmp_le (tgt := 28) C dX9_wind_22 (by decide) (fun c3 => ?_) (fun c3 => ?_)
      · replace h := zt c3 h
        refine z_aload_n C 0 dX9_wind_28 rfl rfl ?_
        refine z_goti1 C (z_runV C (c_X9_hasKitchen l G q P hp S X) (cwV 0 C.hts gX9_wind_X9_hasKitchen rfl rfl rfl (by decide +kernel) ⟨Nat.le_of_ble_eq_true rfl, Nat.le_of_ble_eq_true rfl⟩) 0 rfl rfl rfl rfl (Nat.le_of_ble_eq_true rfl) dX9_wind_29 ⟨Nat.le_of_ble_eq_true rfl, Nat.le_of_ble_eq_true rfl⟩) rfl rfl ?_
        refine z_if_eq (tgt := 47) C dX9_wind_32 (by decide) (fun c4 => ?_) (fun c4 => ?_)
        · replace h := zt c4 h
          refine z_bipush (v := (-103)) C dX9_wind_47 (by decide) ?_
          subst h
          exact z_iret C rfl ⟨rfl, rfl⟩ dX9_wind_49
        · replace h := zf c4 h
          refine z_aload_n C 0 dX9_wind_35 rfl rfl ?_
          refine xg_T9 C hi9 (List.mem_of_getElem? (i := 2) rfl) dX9_wind_36 ?_
          refine z_iload_n C 1 dX9_wind_39 rfl rfl ?_
          refine z_iadd C dX9_wind_40 ?_
          refine z_sipush (v := 999) C dX9_wind_41 (by decide) ?_
          refine z_icmp_le (tgt := 50) C dX9_wind_44 (by decide) (fun c5 => ?_) (fun c5 => ?_)
          · replace h := zt c5 h
            refine z_aload_n C 0 dX9_wind_50 rfl rfl ?_
            refine z_dup C dX9_wind_51 rfl ?_
            refine xg_T9 C hi9 (List.mem_of_getElem? (i := 2) rfl) dX9_wind_52 ?_
            refine z_iload_n C 1 dX9_wind_55 rfl rfl ?_
            refine z_iadd C dX9_wind_56 ?_
            refine xp_T9 C hi9 (List.mem_of_getElem? (i := 2) rfl) dX9_wind_57 ?_
            refine z_aload_n C 0 dX9_wind_60 rfl rfl ?_
            refine z_aload_n C 0 dX9_wind_61 rfl rfl ?_
            refine xg_T8 C hi9 (List.mem_of_getElem? (i := 3) rfl) dX9_wind_62 ?_
            refine xp_T10 C hi9 (List.mem_of_getElem? (i := 4) rfl) dX9_wind_65 ?_
            refine z_aload_n C 0 dX9_wind_68 rfl rfl ?_
            refine z_dup C dX9_wind_69 rfl ?_
            refine xg_T11 C hi9 (List.mem_of_getElem? (i := 5) rfl) dX9_wind_70 ?_
            refine z_iconst (v := 1) C dX9_wind_73 (by decide) ?_
            refine z_iadd C dX9_wind_74 ?_
            refine xp_T11 C hi9 (List.mem_of_getElem? (i := 5) rfl) dX9_wind_75 ?_
            refine z_aload_n C 0 dX9_wind_78 rfl rfl ?_
            refine xg_T9 C hi9 (List.mem_of_getElem? (i := 2) rfl) dX9_wind_79 ?_
            subst h
            exact z_iret C rfl ⟨rfl, rfl⟩ dX9_wind_82
          · replace h := zf c5 h
            refine z_bipush (v := (-103)) C dX9_wind_47 (by decide) ?_
            subst h
            exact z_iret C rfl ⟨rfl, rfl⟩ dX9_wind_49
      · replace h := zf c3 h
        refine z_bipush (v := (-102)) C dX9_wind_25 (by decide) ?_
        subst h
        exact z_iret C rfl ⟨rfl, rfl⟩ dX9_wind_27
    · replace h := zf c2 h
      refine z_aload_n C 0 dX9_wind_13 rfl rfl ?_
      refine xg_T7 C hi9 (List.mem_of_getElem? (i := 1) rfl) dX9_wind_14 ?_
      refine z_goto (tgt := 22) C dX9_wind_17 (by decide) ?_
      refine z_icmp_le (tgt := 28) C dX9_wind_22 (by decide) (fun c6 => ?_) (fun c6 => ?_)
      · replace h := zt c6 h
        refine z_aload_n C 0 dX9_wind_28 rfl rfl ?_
        refine z_goti1 C (z_runV C (c_X9_hasKitchen l G q P hp S X) (cwV 0 C.hts gX9_wind_X9_hasKitchen rfl rfl rfl (by decide +kernel) ⟨Nat.le_of_ble_eq_true rfl, Nat.le_of_ble_eq_true rfl⟩) 0 rfl rfl rfl rfl (Nat.le_of_ble_eq_true rfl) dX9_wind_29 ⟨Nat.le_of_ble_eq_true rfl, Nat.le_of_ble_eq_true rfl⟩) rfl rfl ?_
        refine z_if_eq (tgt := 47) C dX9_wind_32 (by decide) (fun c7 => ?_) (fun c7 => ?_)
        · replace h := zt c7 h
          refine z_bipush (v := (-103)) C dX9_wind_47 (by decide) ?_
          subst h
          exact z_iret C rfl ⟨rfl, rfl⟩ dX9_wind_49
        · replace h := zf c7 h
          refine z_aload_n C 0 dX9_wind_35 rfl rfl ?_
          refine xg_T9 C hi9 (List.mem_of_getElem? (i := 2) rfl) dX9_wind_36 ?_
          refine z_iload_n C 1 dX9_wind_39 rfl rfl ?_
          refine z_iadd C dX9_wind_40 ?_
          refine z_sipush (v := 999) C dX9_wind_41 (by decide) ?_
          refine z_icmp_le (tgt := 50) C dX9_wind_44 (by decide) (fun c8 => ?_) (fun c8 => ?_)
          · replace h := zt c8 h
            refine z_aload_n C 0 dX9_wind_50 rfl rfl ?_
            refine z_dup C dX9_wind_51 rfl ?_
            refine xg_T9 C hi9 (List.mem_of_getElem? (i := 2) rfl) dX9_wind_52 ?_
            refine z_iload_n C 1 dX9_wind_55 rfl rfl ?_
            refine z_iadd C dX9_wind_56 ?_
            refine xp_T9 C hi9 (List.mem_of_getElem? (i := 2) rfl) dX9_wind_57 ?_
            refine z_aload_n C 0 dX9_wind_60 rfl rfl ?_
            refine z_aload_n C 0 dX9_wind_61 rfl rfl ?_
            refine xg_T8 C hi9 (List.mem_of_getElem? (i := 3) rfl) dX9_wind_62 ?_
            refine xp_T10 C hi9 (List.mem_of_getElem? (i := 4) rfl) dX9_wind_65 ?_
            refine z_aload_n C 0 dX9_wind_68 rfl rfl ?_
            refine z_dup C dX9_wind_69 rfl ?_
            refine xg_T11 C hi9 (List.mem_of_getElem? (i := 5) rfl) dX9_wind_70 ?_
            refine z_iconst (v := 1) C dX9_wind_73 (by decide) ?_
            refine z_iadd C dX9_wind_74 ?_
            refine xp_T11 C hi9 (List.mem_of_getElem? (i := 5) rfl) dX9_wind_75 ?_
            refine z_aload_n C 0 dX9_wind_78 rfl rfl ?_
            refine xg_T9 C hi9 (List.mem_of_getElem? (i := 2) rfl) dX9_wind_79 ?_
            subst h
            exact z_iret C rfl ⟨rfl, rfl⟩ dX9_wind_82
          · replace h := zf c8 h
            refine z_bipush (v := (-103)) C dX9_wind_47 (by decide) ?_
            subst h
            exact z_iret C rfl ⟨rfl, rfl⟩ dX9_wind_49
      · replace h := zf c6 h
        refine z_bipush (v := (-102)) C dX9_wind_25 (by decide) ?_
        subst h
        exact z_iret C rfl ⟨rfl, rfl⟩ dX9_wind_27
def f_X9_take (P : XP) (S : XS) (a1 : Int32) : Int32 × XS := pm (f_X9_potAt P S a1) (((-101), S)) (fun j2 => if (f_X5_boils P S j2) = 0 then ((-103), S) else if 1 ≤ (xI S 10) then ((xR (f_X5_comeOut P (xsI S 10 ((xI S 10) - 1)) j2 (xI (xsI S 10 ((xI S 10) - 1)) 9)) j2 3), (f_X5_comeOut P (xsI S 10 ((xI S 10) - 1)) j2 (xI (xsI S 10 ((xI S 10) - 1)) 9))) else ((-103), S))
set_option maxHeartbeats 4000000 in
set_option maxRecDepth 100000 in
theorem c_X9_take (l : Launch) (G : zGT) (q : Nat → Nat) (P : XP) (hp : xOK P) (S : XS) (X : va_W) (a1 : Int32) : MG l yX9_take wsX9_take ({ frames := 4, cells := 0, slots := 0, locals := 82 }) G [.ref (q 0), .int a1] (XW G q P S ++ X) (va_Qi (fun r u => r = (f_X9_take P S a1).1 ∧ u = XW G q P ((f_X9_take P S a1).2) ++ X)) := by
  have hi0 : ∀ w ∈ u_ws RX0 TX0 7, w ∈ wsX9_take := fun _ h => List.mem_cons_of_mem _ (List.mem_append_left _ (List.mem_append_left _ (List.mem_append_left _ (List.mem_append_left _ (List.mem_append_right _ h)))))
  have hi2 : ∀ w ∈ u_ws RX2 TX2 7, w ∈ wsX9_take := fun _ h => List.mem_cons_of_mem _ (List.mem_append_left _ (List.mem_append_left _ (List.mem_append_left _ (List.mem_append_right _ h))))
  have hi5 : ∀ w ∈ u_ws RX5 TX5 7, w ∈ wsX9_take := fun _ h => List.mem_cons_of_mem _ (List.mem_append_left _ (List.mem_append_left _ (List.mem_append_right _ h)))
  have hi6 : ∀ w ∈ u_ws RX6 TX6 7, w ∈ wsX9_take := fun _ h => List.mem_cons_of_mem _ (List.mem_append_left _ (List.mem_append_right _ h))
  have hi7 : ∀ w ∈ u_ws RX7 TX7 7, w ∈ wsX9_take := fun _ h => List.mem_cons_of_mem _ (List.mem_append_right _ h)
  have hi9 : ∀ w ∈ u_ws RX9 TX9 18, w ∈ wsX9_take := fun _ h => List.mem_cons_of_mem _ (List.mem_append_left _ (List.mem_append_left _ (List.mem_append_left _ (List.mem_append_left _ (List.mem_append_left _ (List.mem_append_right _ h))))))
  refine MG.of (cc := cX9_take) (maxL := 3) (ret := (some .int)) (own := RX9) (nm := "take") (by decide) rfl rfl rfl (Nat.le_of_ble_eq_true rfl) ?_
  intro p e s m args below meth c A C
  obtain ⟨res, h⟩ : ∃ z, f_X9_take P S a1 = z := ⟨_, rfl⟩
  rw [h]
  rw [f_X9_take] at h
  refine z_eq (lv2 := [(0, .ref (q 0)), (1, .int a1)]) rfl rfl rfl rfl ?_
  refine z_aload_n C 0 dX9_take_0 rfl rfl ?_
  refine z_iload_n C 1 dX9_take_1 rfl rfl ?_
  refine z_gotq1 C (z_runV C (c_X9_potAt l G q P hp S X a1) (cwV 1 C.hts gX9_take_X9_potAt rfl rfl rfl (by decide +kernel) ⟨Nat.le_of_ble_eq_true rfl, Nat.le_of_ble_eq_true rfl⟩) 0 rfl rfl rfl rfl (Nat.le_of_ble_eq_true rfl) dX9_take_2 ⟨Nat.le_of_ble_eq_true rfl, Nat.le_of_ble_eq_true rfl⟩) rfl rfl ?_
  cases hq1 : (f_X9_potAt P S a1) with
  | none =>
    replace h := pm_n hq1 h
    refine z_eq (st2 := [.null]) rfl rfl rfl rfl ?_
    refine z_astore_nN (lv2 := [(2, .null), (0, .ref (q 0)), (1, .int a1)]) C dX9_take_5 rfl (by decide) rfl ?_
    refine z_aload_nN C 0 dX9_take_6 rfl rfl ?_
    refine z_ifnonnullN C dX9_take_7 ?_
    refine z_bipush (v := (-101)) C dX9_take_10 (by decide) ?_
    subst h
    exact z_iret C rfl ⟨rfl, rfl⟩ dX9_take_12
  | some j2 =>
    replace h := pm_s hq1 h
    have hi_j2 : j2 < P.1 := f_potAt_lt hq1
    refine z_eq (st2 := [.ref (P.2.1 j2)]) rfl rfl rfl rfl ?_
    refine z_astore_n (lv2 := [(2, .ref (P.2.1 j2)), (0, .ref (q 0)), (1, .int a1)]) C dX9_take_5 rfl (by decide) rfl ?_
    refine z_aload_n C 0 dX9_take_6 rfl rfl ?_
    refine z_ifnonnull (tgt := 13) C dX9_take_7 (by decide) ?_
    refine z_aload_n C 0 dX9_take_13 rfl rfl ?_
    refine z5 (hp.1 j2 hi_j2)
      (fun h5 kk => z_goti1 C (z_runU C (c_X5_boils l G q P hp S X j2 hi_j2) (va_cwU 0 C.hts gX9_take_X5_boils_u151X0 rfl rfl rfl rfl (by decide +kernel) ⟨Nat.le_of_ble_eq_true rfl, Nat.le_of_ble_eq_true rfl⟩) (18 + j2) (xw_pot hi_j2) (show vwCl[P.2.2.1 j2]? = some (RX0, TX0, 7) by rw [h5]; rfl) rfl rfl (Nat.le_of_ble_eq_true rfl) dX9_take_14 ⟨Nat.le_of_ble_eq_true rfl, Nat.le_of_ble_eq_true rfl⟩) rfl rfl kk)
      (fun h5 kk => z_goti1 C (z_runU C (c_X5_boils l G q P hp S X j2 hi_j2) (va_cwU 0 C.hts gX9_take_X5_boils_u151X2 rfl rfl rfl rfl (by decide +kernel) ⟨Nat.le_of_ble_eq_true rfl, Nat.le_of_ble_eq_true rfl⟩) (18 + j2) (xw_pot hi_j2) (show vwCl[P.2.2.1 j2]? = some (RX2, TX2, 7) by rw [h5]; rfl) rfl rfl (Nat.le_of_ble_eq_true rfl) dX9_take_14 ⟨Nat.le_of_ble_eq_true rfl, Nat.le_of_ble_eq_true rfl⟩) rfl rfl kk)
      (fun h5 kk => z_goti1 C (z_runV C (c_X5_boils l G q P hp S X j2 hi_j2) (cwV 0 C.hts gX9_take_X5_boils rfl rfl rfl (by decide +kernel) ⟨Nat.le_of_ble_eq_true rfl, Nat.le_of_ble_eq_true rfl⟩) (18 + j2) (xw_pot hi_j2) (show vwCl[P.2.2.1 j2]? = some (RX5, TX5, 7) by rw [h5]; rfl) rfl rfl (Nat.le_of_ble_eq_true rfl) dX9_take_14 ⟨Nat.le_of_ble_eq_true rfl, Nat.le_of_ble_eq_true rfl⟩) rfl rfl kk)
      (fun h5 kk => z_goti1 C (z_runU C (c_X5_boils l G q P hp S X j2 hi_j2) (va_cwU 0 C.hts gX9_take_X5_boils_u151X6 rfl rfl rfl rfl (by decide +kernel) ⟨Nat.le_of_ble_eq_true rfl, Nat.le_of_ble_eq_true rfl⟩) (18 + j2) (xw_pot hi_j2) (show vwCl[P.2.2.1 j2]? = some (RX6, TX6, 7) by rw [h5]; rfl) rfl rfl (Nat.le_of_ble_eq_true rfl) dX9_take_14 ⟨Nat.le_of_ble_eq_true rfl, Nat.le_of_ble_eq_true rfl⟩) rfl rfl kk)
      (fun h5 kk => z_goti1 C (z_runU C (c_X5_boils l G q P hp S X j2 hi_j2) (va_cwU 0 C.hts gX9_take_X5_boils_u151X7 rfl rfl rfl rfl (by decide +kernel) ⟨Nat.le_of_ble_eq_true rfl, Nat.le_of_ble_eq_true rfl⟩) (18 + j2) (xw_pot hi_j2) (show vwCl[P.2.2.1 j2]? = some (RX7, TX7, 7) by rw [h5]; rfl) rfl rfl (Nat.le_of_ble_eq_true rfl) dX9_take_14 ⟨Nat.le_of_ble_eq_true rfl, Nat.le_of_ble_eq_true rfl⟩) rfl rfl kk)
      ?_
    refine z_if_eq (tgt := 28) C dX9_take_17 (by decide) (fun c3 => ?_) (fun c3 => ?_)
    · replace h := zt c3 h
      refine z_bipush (v := (-103)) C dX9_take_28 (by decide) ?_
      subst h
      exact z_iret C rfl ⟨rfl, rfl⟩ dX9_take_30
    · replace h := zf c3 h
      refine z_aload_n C 1 dX9_take_20 rfl rfl ?_
      refine xg_T10 C hi9 (List.mem_of_getElem? (i := 1) rfl) dX9_take_21 ?_
      refine z_iconst (v := 1) C dX9_take_24 (by decide) ?_
      refine z_icmp_ge (tgt := 31) C dX9_take_25 (by decide) (fun c4 => ?_) (fun c4 => ?_)
      · replace h := zt c4 h
        refine z_aload_n C 1 dX9_take_31 rfl rfl ?_
        refine z_dup C dX9_take_32 rfl ?_
        refine xg_T10 C hi9 (List.mem_of_getElem? (i := 1) rfl) dX9_take_33 ?_
        refine z_iconst (v := 1) C dX9_take_36 (by decide) ?_
        refine z_isub C dX9_take_37 ?_
        refine xp_T10 C hi9 (List.mem_of_getElem? (i := 1) rfl) dX9_take_38 ?_
        refine z_aload_n C 0 dX9_take_41 rfl rfl ?_
        refine z_aload_n C 1 dX9_take_42 rfl rfl ?_
        refine xg_T9 C hi9 (List.mem_of_getElem? (i := 2) rfl) dX9_take_43 ?_
        refine z5 (hp.1 j2 hi_j2)
          (fun h5 kk => z_gotv1 C (z_runU C (c_X5_comeOut l G q P hp (xsI S 10 ((xI S 10) - 1)) X j2 hi_j2 (xI (xsI S 10 ((xI S 10) - 1)) 9)) (va_cwU 1 C.hts gX9_take_X5_comeOut_u173X0 rfl rfl rfl rfl (by decide +kernel) ⟨Nat.le_of_ble_eq_true rfl, Nat.le_of_ble_eq_true rfl⟩) (18 + j2) (xw_pot hi_j2) (show vwCl[P.2.2.1 j2]? = some (RX0, TX0, 7) by rw [h5]; rfl) rfl rfl (Nat.le_of_ble_eq_true rfl) dX9_take_46 ⟨Nat.le_of_ble_eq_true rfl, Nat.le_of_ble_eq_true rfl⟩) rfl rfl kk)
          (fun h5 kk => z_gotv1 C (z_runU C (c_X5_comeOut l G q P hp (xsI S 10 ((xI S 10) - 1)) X j2 hi_j2 (xI (xsI S 10 ((xI S 10) - 1)) 9)) (va_cwU 1 C.hts gX9_take_X5_comeOut_u173X2 rfl rfl rfl rfl (by decide +kernel) ⟨Nat.le_of_ble_eq_true rfl, Nat.le_of_ble_eq_true rfl⟩) (18 + j2) (xw_pot hi_j2) (show vwCl[P.2.2.1 j2]? = some (RX2, TX2, 7) by rw [h5]; rfl) rfl rfl (Nat.le_of_ble_eq_true rfl) dX9_take_46 ⟨Nat.le_of_ble_eq_true rfl, Nat.le_of_ble_eq_true rfl⟩) rfl rfl kk)
          (fun h5 kk => z_gotv1 C (z_runV C (c_X5_comeOut l G q P hp (xsI S 10 ((xI S 10) - 1)) X j2 hi_j2 (xI (xsI S 10 ((xI S 10) - 1)) 9)) (cwV 1 C.hts gX9_take_X5_comeOut rfl rfl rfl (by decide +kernel) ⟨Nat.le_of_ble_eq_true rfl, Nat.le_of_ble_eq_true rfl⟩) (18 + j2) (xw_pot hi_j2) (show vwCl[P.2.2.1 j2]? = some (RX5, TX5, 7) by rw [h5]; rfl) rfl rfl (Nat.le_of_ble_eq_true rfl) dX9_take_46 ⟨Nat.le_of_ble_eq_true rfl, Nat.le_of_ble_eq_true rfl⟩) rfl rfl kk)
          (fun h5 kk => z_gotv1 C (z_runU C (c_X5_comeOut l G q P hp (xsI S 10 ((xI S 10) - 1)) X j2 hi_j2 (xI (xsI S 10 ((xI S 10) - 1)) 9)) (va_cwU 1 C.hts gX9_take_X5_comeOut_u173X6 rfl rfl rfl rfl (by decide +kernel) ⟨Nat.le_of_ble_eq_true rfl, Nat.le_of_ble_eq_true rfl⟩) (18 + j2) (xw_pot hi_j2) (show vwCl[P.2.2.1 j2]? = some (RX6, TX6, 7) by rw [h5]; rfl) rfl rfl (Nat.le_of_ble_eq_true rfl) dX9_take_46 ⟨Nat.le_of_ble_eq_true rfl, Nat.le_of_ble_eq_true rfl⟩) rfl rfl kk)
          (fun h5 kk => z_gotv1 C (z_runU C (c_X5_comeOut l G q P hp (xsI S 10 ((xI S 10) - 1)) X j2 hi_j2 (xI (xsI S 10 ((xI S 10) - 1)) 9)) (va_cwU 1 C.hts gX9_take_X5_comeOut_u173X7 rfl rfl rfl rfl (by decide +kernel) ⟨Nat.le_of_ble_eq_true rfl, Nat.le_of_ble_eq_true rfl⟩) (18 + j2) (xw_pot hi_j2) (show vwCl[P.2.2.1 j2]? = some (RX7, TX7, 7) by rw [h5]; rfl) rfl rfl (Nat.le_of_ble_eq_true rfl) dX9_take_46 ⟨Nat.le_of_ble_eq_true rfl, Nat.le_of_ble_eq_true rfl⟩) rfl rfl kk)
          ?_
        refine z_aload_n C 0 dX9_take_49 rfl rfl ?_
        refine xpg_3 C hp hi_j2 hi0 hi2 hi5 hi6 hi7 (List.mem_of_getElem? (i := 3) rfl) dX9_take_50 ?_
        subst h
        exact z_iret C rfl ⟨rfl, rfl⟩ dX9_take_53
      · replace h := zf c4 h
        refine z_bipush (v := (-103)) C dX9_take_28 (by decide) ?_
        subst h
        exact z_iret C rfl ⟨rfl, rfl⟩ dX9_take_30
def f_X9_plan_L62 (fu : Nat) (P : XP) (v1 : Int32) : Nat → Int32 → XS → Option (Int32 × XS)
  | 0, _, _ => none
  | n + 1, v2, S => if (xI S 6) ≤ v2 then some (v2, S) else pm (f_X9_potAt P S v2) (f_X9_plan_L62 fu P v1 n (v2 + 1) S) (fun j7 => if (f_X5_boils P S j7) = 0 then f_X9_plan_L62 fu P v1 n (v2 + 1) S else (f_X4_add P S ((f_X5_due P S j7) - (xI S 9)) (kp (P.2.2.1 j7))).bind fun r10 => f_X9_plan_L62 fu P v1 n (v2 + 1) r10)
def f_X9_plan (fu : Nat) (P : XP) (S : XS) (a1 : Int32) : Option (Int32 × XS) := if a1 < 0 then some ((-102), S) else if a1 ≤ 1 then if (f_X9_hasKitchen P S) = 0 then some ((-103), S) else if (xI S 17) < 20 then (f_X9_plan_L62 fu P a1 fu 0 (f_X4_begin P (xsI S 17 ((xI S 17) + 1)) (xI (xsI S 17 ((xI S 17) + 1)) 7) (xI (xsI S 17 ((xI S 17) + 1)) 8) (xI (xsI S 17 ((xI S 17) + 1)) 10))).bind fun r11 => (f_X4_fill fu P r11.2).bind fun r14 => if a1 = 0 then (f_X4_howFew P r14).bind fun r19 => some (r19, r14) else (f_X4_first fu P r14).bind fun r17 => some (r17, r14) else some ((-103), S) else some ((-102), S)
set_option maxHeartbeats 4000000 in
set_option maxRecDepth 100000 in
theorem L_X9_plan_62 {p : Program} {l : Launch} {e : Env} {s : State} {m : MethodId} {args : Array Value} {below : List Frame} {meth : Method} {c : Code} {A : Nat → Prop} {G : zGT} {q : Nat → Nat} {P : XP} {X : va_W} {fu : Nat} {Q : State → Prop} (C : zC p s m args meth c A G cX9_plan 4 (some .int) RX9 "plan" wsX9_plan) (hp : xOK P) (v1 : Int32) : ∀ (n : Nat) (v2 : Int32) (S : XS) {res : Int32 × XS}, f_X9_plan_L62 fu P v1 n v2 S = some res → Z p l e ({ frames := 6, cells := 0, slots := 0, locals := 132 }) s m args below meth c A G 4 Q 0 0 (XW G q P res.2 ++ X) [(0, .ref (q 0)), (1, .int v1), (2, .int res.1)] 113 [] → Z p l e ({ frames := 6, cells := 0, slots := 0, locals := 132 }) s m args below meth c A G 4 Q 0 0 (XW G q P S ++ X) [(0, .ref (q 0)), (1, .int v1), (2, .int v2)] 62 [] := by
  have hi9 : ∀ w ∈ u_ws RX9 TX9 18, w ∈ wsX9_plan := fun _ h => List.mem_cons_of_mem _ (List.mem_append_left _ (List.mem_append_left _ (List.mem_append_left _ (List.mem_append_left _ (List.mem_append_left _ (List.mem_append_left _ (List.mem_append_right _ h)))))))
  intro n
  induction n with
  | zero =>
    intro v2 S res h kk
    exact nomatch (h : none = some _)
  | succ n ih =>
    intro v2 S res h kk
    rw [f_X9_plan_L62] at h
    refine z_iload_n C 2 dX9_plan_62 rfl rfl ?_
    refine z_aload_n C 0 dX9_plan_63 rfl rfl ?_
    refine xg_T6 C hi9 (List.mem_of_getElem? (i := 6) rfl) dX9_plan_64 ?_
    refine z_icmp_ge (tgt := 113) C dX9_plan_67 (by decide) (fun c5 => ?_) (fun c5 => ?_)
    · replace h := zt c5 h
      injection h with h
      subst h
      refine z_lv (lv2 := [(0, .ref (q 0)), (1, .int v1), (2, .int v2)]) [0, 1, 2] rfl ?_
      exact kk
    · replace h := zf c5 h
      refine z_aload_n C 0 dX9_plan_70 rfl rfl ?_
      refine z_iload_n C 2 dX9_plan_71 rfl rfl ?_
      refine z_gotq1 C (z_runV C (c_X9_potAt l G q P hp S X v2) (cwV 1 C.hts gX9_plan_X9_potAt rfl rfl rfl (by decide +kernel) ⟨Nat.le_of_ble_eq_true rfl, Nat.le_of_ble_eq_true rfl⟩) 0 rfl rfl rfl rfl (Nat.le_of_ble_eq_true rfl) dX9_plan_72 ⟨Nat.le_of_ble_eq_true rfl, Nat.le_of_ble_eq_true rfl⟩) rfl rfl ?_
      cases hq6 : (f_X9_potAt P S v2) with
      | none =>
        replace h := pm_n hq6 h
        refine z_eq (st2 := [.null]) rfl rfl rfl rfl ?_
        refine z_astore_nN (lv2 := [(3, .null), (0, .ref (q 0)), (1, .int v1), (2, .int v2)]) C dX9_plan_75 rfl (by decide) rfl ?_
        refine z_aload_nN C 0 dX9_plan_76 rfl rfl ?_
        refine z_ifnullN (tgt := 107) C dX9_plan_77 (by decide) ?_
        refine z_iinc (v := (v2 + 1)) (lv2 := [(2, .int (v2 + 1)), (3, .null), (0, .ref (q 0)), (1, .int v1)]) C 3 dX9_plan_107 rfl rfl (by decide) rfl ?_
        refine z_goto (tgt := 62) C dX9_plan_110 (by decide) ?_
        refine z_lv (lv2 := [(0, .ref (q 0)), (1, .int v1), (2, .int (v2 + 1))]) [2, 3, 0] rfl ?_
        exact ih (v2 + 1) S h kk
      | some j7 =>
        replace h := pm_s hq6 h
        have hi_j7 : j7 < P.1 := f_potAt_lt hq6
        refine z_eq (st2 := [.ref (P.2.1 j7)]) rfl rfl rfl rfl ?_
        refine z_astore_n (lv2 := [(3, .ref (P.2.1 j7)), (0, .ref (q 0)), (1, .int v1), (2, .int v2)]) C dX9_plan_75 rfl (by decide) rfl ?_
        refine z_aload_n C 0 dX9_plan_76 rfl rfl ?_
        refine z_ifnull C dX9_plan_77 ?_
        refine z_aload_n C 0 dX9_plan_80 rfl rfl ?_
        refine z5 (hp.1 j7 hi_j7)
          (fun h5 kk => z_goti1 C (z_runU C (c_X5_boils l G q P hp S X j7 hi_j7) (va_cwU 0 C.hts gX9_plan_X5_boils_u151X0 rfl rfl rfl rfl (by decide +kernel) ⟨Nat.le_of_ble_eq_true rfl, Nat.le_of_ble_eq_true rfl⟩) (18 + j7) (xw_pot hi_j7) (show vwCl[P.2.2.1 j7]? = some (RX0, TX0, 7) by rw [h5]; rfl) rfl rfl (Nat.le_of_ble_eq_true rfl) dX9_plan_81 ⟨Nat.le_of_ble_eq_true rfl, Nat.le_of_ble_eq_true rfl⟩) rfl rfl kk)
          (fun h5 kk => z_goti1 C (z_runU C (c_X5_boils l G q P hp S X j7 hi_j7) (va_cwU 0 C.hts gX9_plan_X5_boils_u151X2 rfl rfl rfl rfl (by decide +kernel) ⟨Nat.le_of_ble_eq_true rfl, Nat.le_of_ble_eq_true rfl⟩) (18 + j7) (xw_pot hi_j7) (show vwCl[P.2.2.1 j7]? = some (RX2, TX2, 7) by rw [h5]; rfl) rfl rfl (Nat.le_of_ble_eq_true rfl) dX9_plan_81 ⟨Nat.le_of_ble_eq_true rfl, Nat.le_of_ble_eq_true rfl⟩) rfl rfl kk)
          (fun h5 kk => z_goti1 C (z_runV C (c_X5_boils l G q P hp S X j7 hi_j7) (cwV 0 C.hts gX9_plan_X5_boils rfl rfl rfl (by decide +kernel) ⟨Nat.le_of_ble_eq_true rfl, Nat.le_of_ble_eq_true rfl⟩) (18 + j7) (xw_pot hi_j7) (show vwCl[P.2.2.1 j7]? = some (RX5, TX5, 7) by rw [h5]; rfl) rfl rfl (Nat.le_of_ble_eq_true rfl) dX9_plan_81 ⟨Nat.le_of_ble_eq_true rfl, Nat.le_of_ble_eq_true rfl⟩) rfl rfl kk)
          (fun h5 kk => z_goti1 C (z_runU C (c_X5_boils l G q P hp S X j7 hi_j7) (va_cwU 0 C.hts gX9_plan_X5_boils_u151X6 rfl rfl rfl rfl (by decide +kernel) ⟨Nat.le_of_ble_eq_true rfl, Nat.le_of_ble_eq_true rfl⟩) (18 + j7) (xw_pot hi_j7) (show vwCl[P.2.2.1 j7]? = some (RX6, TX6, 7) by rw [h5]; rfl) rfl rfl (Nat.le_of_ble_eq_true rfl) dX9_plan_81 ⟨Nat.le_of_ble_eq_true rfl, Nat.le_of_ble_eq_true rfl⟩) rfl rfl kk)
          (fun h5 kk => z_goti1 C (z_runU C (c_X5_boils l G q P hp S X j7 hi_j7) (va_cwU 0 C.hts gX9_plan_X5_boils_u151X7 rfl rfl rfl rfl (by decide +kernel) ⟨Nat.le_of_ble_eq_true rfl, Nat.le_of_ble_eq_true rfl⟩) (18 + j7) (xw_pot hi_j7) (show vwCl[P.2.2.1 j7]? = some (RX7, TX7, 7) by rw [h5]; rfl) rfl rfl (Nat.le_of_ble_eq_true rfl) dX9_plan_81 ⟨Nat.le_of_ble_eq_true rfl, Nat.le_of_ble_eq_true rfl⟩) rfl rfl kk)
          ?_
        refine z_if_eq (tgt := 107) C dX9_plan_84 (by decide) (fun c8 => ?_) (fun c8 => ?_)
        · replace h := zt c8 h
          refine z_iinc (v := (v2 + 1)) (lv2 := [(2, .int (v2 + 1)), (3, .ref (P.2.1 j7)), (0, .ref (q 0)), (1, .int v1)]) C 3 dX9_plan_107 rfl rfl (by decide) rfl ?_
          refine z_goto (tgt := 62) C dX9_plan_110 (by decide) ?_
          refine z_lv (lv2 := [(0, .ref (q 0)), (1, .int v1), (2, .int (v2 + 1))]) [2, 3, 0] rfl ?_
          exact ih (v2 + 1) S h kk
        · replace h := zf c8 h
          refine z_aload_n C 1 dX9_plan_87 rfl rfl ?_
          refine xg_T4 C hi9 (List.mem_of_getElem? (i := 2) rfl) dX9_plan_88 ?_
          refine z_aload_n C 0 dX9_plan_91 rfl rfl ?_
          refine z5 (hp.1 j7 hi_j7)
            (fun h5 kk => z_goti1 C (z_runU C (c_X5_due l G q P hp S X j7 hi_j7) (va_cwU 0 C.hts gX9_plan_X5_due_u154X0 rfl rfl rfl rfl (by decide +kernel) ⟨Nat.le_of_ble_eq_true rfl, Nat.le_of_ble_eq_true rfl⟩) (18 + j7) (xw_pot hi_j7) (show vwCl[P.2.2.1 j7]? = some (RX0, TX0, 7) by rw [h5]; rfl) rfl rfl (Nat.le_of_ble_eq_true rfl) dX9_plan_92 ⟨Nat.le_of_ble_eq_true rfl, Nat.le_of_ble_eq_true rfl⟩) rfl rfl kk)
            (fun h5 kk => z_goti1 C (z_runU C (c_X5_due l G q P hp S X j7 hi_j7) (va_cwU 0 C.hts gX9_plan_X5_due_u154X2 rfl rfl rfl rfl (by decide +kernel) ⟨Nat.le_of_ble_eq_true rfl, Nat.le_of_ble_eq_true rfl⟩) (18 + j7) (xw_pot hi_j7) (show vwCl[P.2.2.1 j7]? = some (RX2, TX2, 7) by rw [h5]; rfl) rfl rfl (Nat.le_of_ble_eq_true rfl) dX9_plan_92 ⟨Nat.le_of_ble_eq_true rfl, Nat.le_of_ble_eq_true rfl⟩) rfl rfl kk)
            (fun h5 kk => z_goti1 C (z_runV C (c_X5_due l G q P hp S X j7 hi_j7) (cwV 0 C.hts gX9_plan_X5_due rfl rfl rfl (by decide +kernel) ⟨Nat.le_of_ble_eq_true rfl, Nat.le_of_ble_eq_true rfl⟩) (18 + j7) (xw_pot hi_j7) (show vwCl[P.2.2.1 j7]? = some (RX5, TX5, 7) by rw [h5]; rfl) rfl rfl (Nat.le_of_ble_eq_true rfl) dX9_plan_92 ⟨Nat.le_of_ble_eq_true rfl, Nat.le_of_ble_eq_true rfl⟩) rfl rfl kk)
            (fun h5 kk => z_goti1 C (z_runU C (c_X5_due l G q P hp S X j7 hi_j7) (va_cwU 0 C.hts gX9_plan_X5_due_u154X6 rfl rfl rfl rfl (by decide +kernel) ⟨Nat.le_of_ble_eq_true rfl, Nat.le_of_ble_eq_true rfl⟩) (18 + j7) (xw_pot hi_j7) (show vwCl[P.2.2.1 j7]? = some (RX6, TX6, 7) by rw [h5]; rfl) rfl rfl (Nat.le_of_ble_eq_true rfl) dX9_plan_92 ⟨Nat.le_of_ble_eq_true rfl, Nat.le_of_ble_eq_true rfl⟩) rfl rfl kk)
            (fun h5 kk => z_goti1 C (z_runU C (c_X5_due l G q P hp S X j7 hi_j7) (va_cwU 0 C.hts gX9_plan_X5_due_u154X7 rfl rfl rfl rfl (by decide +kernel) ⟨Nat.le_of_ble_eq_true rfl, Nat.le_of_ble_eq_true rfl⟩) (18 + j7) (xw_pot hi_j7) (show vwCl[P.2.2.1 j7]? = some (RX7, TX7, 7) by rw [h5]; rfl) rfl rfl (Nat.le_of_ble_eq_true rfl) dX9_plan_92 ⟨Nat.le_of_ble_eq_true rfl, Nat.le_of_ble_eq_true rfl⟩) rfl rfl kk)
            ?_
          refine z_aload_n C 1 dX9_plan_95 rfl rfl ?_
          refine xg_T9 C hi9 (List.mem_of_getElem? (i := 7) rfl) dX9_plan_96 ?_
          refine z_isub C dX9_plan_99 ?_
          refine z_aload_n C 0 dX9_plan_100 rfl rfl ?_
          refine z5 (hp.1 j7 hi_j7)
            (fun h5 kk => z_goti1 C (z_runU C (k_X0_keeps l G q P hp S X j7 hi_j7 h5) (va_cwO 0 C.hts gX9_plan_X0_keeps_u145X0 rfl rfl rfl (h0 := (List.mem_of_getElem? (i := 64) rfl)) (by decide +kernel) ⟨Nat.le_of_ble_eq_true rfl, Nat.le_of_ble_eq_true rfl⟩) (18 + j7) (xw_pot hi_j7) (show vwCl[P.2.2.1 j7]? = some (RX0, TX0, 7) by rw [h5]; rfl) rfl rfl (Nat.le_of_ble_eq_true rfl) dX9_plan_101 ⟨Nat.le_of_ble_eq_true rfl, Nat.le_of_ble_eq_true rfl⟩) rfl rfl kk)
            (fun h5 kk => z_goti1 C (z_runU C (k_X2_keeps l G q P hp S X j7 hi_j7 h5) (va_cwO 0 C.hts gX9_plan_X2_keeps_u145X2 rfl rfl rfl (h0 := (List.mem_of_getElem? (i := 64) rfl)) (by decide +kernel) ⟨Nat.le_of_ble_eq_true rfl, Nat.le_of_ble_eq_true rfl⟩) (18 + j7) (xw_pot hi_j7) (show vwCl[P.2.2.1 j7]? = some (RX2, TX2, 7) by rw [h5]; rfl) rfl rfl (Nat.le_of_ble_eq_true rfl) dX9_plan_101 ⟨Nat.le_of_ble_eq_true rfl, Nat.le_of_ble_eq_true rfl⟩) rfl rfl kk)
            (fun h5 kk => z_goti1 C (z_runV C (k_X5_keeps l G q P hp S X j7 hi_j7 h5) (cwV 0 C.hts gX9_plan_X5_keeps rfl rfl rfl (by decide +kernel) ⟨Nat.le_of_ble_eq_true rfl, Nat.le_of_ble_eq_true rfl⟩) (18 + j7) (xw_pot hi_j7) (show vwCl[P.2.2.1 j7]? = some (RX5, TX5, 7) by rw [h5]; rfl) rfl rfl (Nat.le_of_ble_eq_true rfl) dX9_plan_101 ⟨Nat.le_of_ble_eq_true rfl, Nat.le_of_ble_eq_true rfl⟩) rfl rfl kk)
            (fun h5 kk => z_goti1 C (z_runU C (k_X6_keeps l G q P hp S X j7 hi_j7 h5) (va_cwO 0 C.hts gX9_plan_X6_keeps_u145X6 rfl rfl rfl (h0 := (List.mem_of_getElem? (i := 64) rfl)) (by decide +kernel) ⟨Nat.le_of_ble_eq_true rfl, Nat.le_of_ble_eq_true rfl⟩) (18 + j7) (xw_pot hi_j7) (show vwCl[P.2.2.1 j7]? = some (RX6, TX6, 7) by rw [h5]; rfl) rfl rfl (Nat.le_of_ble_eq_true rfl) dX9_plan_101 ⟨Nat.le_of_ble_eq_true rfl, Nat.le_of_ble_eq_true rfl⟩) rfl rfl kk)
            (fun h5 kk => z_goti1 C (z_runU C (k_X7_keeps l G q P hp S X j7 hi_j7 h5) (va_cwO 0 C.hts gX9_plan_X7_keeps_u145X7 rfl rfl rfl (h0 := (List.mem_of_getElem? (i := 64) rfl)) (by decide +kernel) ⟨Nat.le_of_ble_eq_true rfl, Nat.le_of_ble_eq_true rfl⟩) (18 + j7) (xw_pot hi_j7) (show vwCl[P.2.2.1 j7]? = some (RX7, TX7, 7) by rw [h5]; rfl) rfl rfl (Nat.le_of_ble_eq_true rfl) dX9_plan_101 ⟨Nat.le_of_ble_eq_true rfl, Nat.le_of_ble_eq_true rfl⟩) rfl rfl kk)
            ?_
          obtain ⟨r10, hf9, h⟩ := bd_some h
          refine z_gotv1 C (z_runV C (c_X4_add l G q P S X ((f_X5_due P S j7) - (xI S 9)) (kp (P.2.2.1 j7)) hf9) (cwV 2 C.hts gX9_plan_X4_add rfl rfl rfl (by decide +kernel) ⟨Nat.le_of_ble_eq_true rfl, Nat.le_of_ble_eq_true rfl⟩) 12 rfl rfl rfl rfl (Nat.le_of_ble_eq_true rfl) dX9_plan_104 ⟨Nat.le_of_ble_eq_true rfl, Nat.le_of_ble_eq_true rfl⟩) rfl rfl ?_
          refine z_iinc (v := (v2 + 1)) (lv2 := [(2, .int (v2 + 1)), (3, .ref (P.2.1 j7)), (0, .ref (q 0)), (1, .int v1)]) C 3 dX9_plan_107 rfl rfl (by decide) rfl ?_
          refine z_goto (tgt := 62) C dX9_plan_110 (by decide) ?_
          refine z_lv (lv2 := [(0, .ref (q 0)), (1, .int v1), (2, .int (v2 + 1))]) [2, 3, 0] rfl ?_
          exact ih (v2 + 1) r10 h kk
set_option maxHeartbeats 4000000 in
set_option maxRecDepth 100000 in
theorem c_X9_plan (l : Launch) (G : zGT) (q : Nat → Nat) (P : XP) (hp : xOK P) (S : XS) (X : va_W) (fu : Nat) (a1 : Int32) {res : Int32 × XS} (h : f_X9_plan fu P S a1 = some res) : MG l yX9_plan wsX9_plan ({ frames := 6, cells := 0, slots := 0, locals := 132 }) G [.ref (q 0), .int a1] (XW G q P S ++ X) (va_Qi (fun r u => r = res.1 ∧ u = XW G q P res.2 ++ X)) := by
  have hi9 : ∀ w ∈ u_ws RX9 TX9 18, w ∈ wsX9_plan := fun _ h => List.mem_cons_of_mem _ (List.mem_append_left _ (List.mem_append_left _ (List.mem_append_left _ (List.mem_append_left _ (List.mem_append_left _ (List.mem_append_left _ (List.mem_append_right _ h)))))))
  refine MG.of (cc := cX9_plan) (maxL := 4) (ret := (some .int)) (own := RX9) (nm := "plan") (by decide) rfl rfl rfl (Nat.le_of_ble_eq_true rfl) ?_
  intro p e s m args below meth c A C
  rw [f_X9_plan] at h
  refine z_eq (lv2 := [(0, .ref (q 0)), (1, .int a1)]) rfl rfl rfl rfl ?_
  refine z_iload_n C 1 dX9_plan_0 rfl rfl ?_
  refine z_if_lt (tgt := 9) C dX9_plan_1 (by decide) (fun c1 => ?_) (fun c1 => ?_)
  · replace h := zt c1 h
    refine z_bipush (v := (-102)) C dX9_plan_9 (by decide) ?_
    injection h with h
    subst h
    exact z_iret C rfl ⟨rfl, rfl⟩ dX9_plan_11
  · replace h := zf c1 h
    refine z_iload_n C 1 dX9_plan_4 rfl rfl ?_
    refine z_iconst (v := 1) C dX9_plan_5 (by decide) ?_
    refine z_icmp_le (tgt := 12) C dX9_plan_6 (by decide) (fun c2 => ?_) (fun c2 => ?_)
    · replace h := zt c2 h
      refine z_aload_n C 0 dX9_plan_12 rfl rfl ?_
      refine z_goti1 C (z_runV C (c_X9_hasKitchen l G q P hp S X) (cwV 0 C.hts gX9_plan_X9_hasKitchen rfl rfl rfl (by decide +kernel) ⟨Nat.le_of_ble_eq_true rfl, Nat.le_of_ble_eq_true rfl⟩) 0 rfl rfl rfl rfl (Nat.le_of_ble_eq_true rfl) dX9_plan_13 ⟨Nat.le_of_ble_eq_true rfl, Nat.le_of_ble_eq_true rfl⟩) rfl rfl ?_
      refine z_if_eq (tgt := 28) C dX9_plan_16 (by decide) (fun c3 => ?_) (fun c3 => ?_)
      · replace h := zt c3 h
        refine z_bipush (v := (-103)) C dX9_plan_28 (by decide) ?_
        injection h with h
        subst h
        exact z_iret C rfl ⟨rfl, rfl⟩ dX9_plan_30
      · replace h := zf c3 h
        refine z_aload_n C 0 dX9_plan_19 rfl rfl ?_
        refine xg_T17 C hi9 (List.mem_of_getElem? (i := 1) rfl) dX9_plan_20 ?_
        refine z_bipush (v := 20) C dX9_plan_23 (by decide) ?_
        refine z_icmp_lt (tgt := 31) C dX9_plan_25 (by decide) (fun c4 => ?_) (fun c4 => ?_)
        · replace h := zt c4 h
          refine z_aload_n C 0 dX9_plan_31 rfl rfl ?_
          refine z_dup C dX9_plan_32 rfl ?_
          refine xg_T17 C hi9 (List.mem_of_getElem? (i := 1) rfl) dX9_plan_33 ?_
          refine z_iconst (v := 1) C dX9_plan_36 (by decide) ?_
          refine z_iadd C dX9_plan_37 ?_
          refine xp_T17 C hi9 (List.mem_of_getElem? (i := 1) rfl) dX9_plan_38 ?_
          refine z_aload_n C 0 dX9_plan_41 rfl rfl ?_
          refine xg_T4 C hi9 (List.mem_of_getElem? (i := 2) rfl) dX9_plan_42 ?_
          refine z_aload_n C 0 dX9_plan_45 rfl rfl ?_
          refine xg_T7 C hi9 (List.mem_of_getElem? (i := 3) rfl) dX9_plan_46 ?_
          refine z_aload_n C 0 dX9_plan_49 rfl rfl ?_
          refine xg_T8 C hi9 (List.mem_of_getElem? (i := 4) rfl) dX9_plan_50 ?_
          refine z_aload_n C 0 dX9_plan_53 rfl rfl ?_
          refine xg_T10 C hi9 (List.mem_of_getElem? (i := 5) rfl) dX9_plan_54 ?_
          refine z_gotv1 C (z_runV C (c_X4_begin l G q P (xsI S 17 ((xI S 17) + 1)) X (xI (xsI S 17 ((xI S 17) + 1)) 7) (xI (xsI S 17 ((xI S 17) + 1)) 8) (xI (xsI S 17 ((xI S 17) + 1)) 10)) (cwV 3 C.hts gX9_plan_X4_begin rfl rfl rfl (by decide +kernel) ⟨Nat.le_of_ble_eq_true rfl, Nat.le_of_ble_eq_true rfl⟩) 12 rfl rfl rfl rfl (Nat.le_of_ble_eq_true rfl) dX9_plan_57 ⟨Nat.le_of_ble_eq_true rfl, Nat.le_of_ble_eq_true rfl⟩) rfl rfl ?_
          refine z_iconst (v := 0) C dX9_plan_60 (by decide) ?_
          refine z_istore_n (lv2 := [(2, .int 0), (0, .ref (q 0)), (1, .int a1)]) C dX9_plan_61 rfl (by decide) rfl ?_
          refine z_lv (lv2 := [(0, .ref (q 0)), (1, .int a1), (2, .int 0)]) [1, 2, 0] rfl ?_
          obtain ⟨r11, hf12, h⟩ := bd_some h
          refine L_X9_plan_62 C hp a1 fu 0 (f_X4_begin P (xsI S 17 ((xI S 17) + 1)) (xI (xsI S 17 ((xI S 17) + 1)) 7) (xI (xsI S 17 ((xI S 17) + 1)) 8) (xI (xsI S 17 ((xI S 17) + 1)) 10)) hf12 ?_
          refine z_aload_n C 0 dX9_plan_113 rfl rfl ?_
          refine xg_T4 C hi9 (List.mem_of_getElem? (i := 2) rfl) dX9_plan_114 ?_
          obtain ⟨r14, hf13, h⟩ := bd_some h
          refine z_gotv1 C (z_runV C (c_X4_fill l G q P r11.2 X fu hf13) (cwV 0 C.hts gX9_plan_X4_fill rfl rfl rfl (by decide +kernel) ⟨Nat.le_of_ble_eq_true rfl, Nat.le_of_ble_eq_true rfl⟩) 12 rfl rfl rfl rfl (Nat.le_of_ble_eq_true rfl) dX9_plan_117 ⟨Nat.le_of_ble_eq_true rfl, Nat.le_of_ble_eq_true rfl⟩) rfl rfl ?_
          refine z_iload_n C 1 dX9_plan_120 rfl rfl ?_
          refine z_if_ne (tgt := 134) C dX9_plan_121 (by decide) (fun c15 => ?_) (fun c15 => ?_)
          · replace h := zf c15 h
            refine z_aload_n C 0 dX9_plan_134 rfl rfl ?_
            refine xg_T4 C hi9 (List.mem_of_getElem? (i := 2) rfl) dX9_plan_135 ?_
            obtain ⟨r17, hf16, h⟩ := bd_some h
            refine z_goti1 C (z_runV C (c_X4_first l G q P r14 X fu hf16) (cwV 0 C.hts gX9_plan_X4_first rfl rfl rfl (by decide +kernel) ⟨Nat.le_of_ble_eq_true rfl, Nat.le_of_ble_eq_true rfl⟩) 12 rfl rfl rfl rfl (Nat.le_of_ble_eq_true rfl) dX9_plan_138 ⟨Nat.le_of_ble_eq_true rfl, Nat.le_of_ble_eq_true rfl⟩) rfl rfl ?_
            injection h with h
            subst h
            exact z_iret C rfl ⟨rfl, rfl⟩ dX9_plan_141
          · replace h := zt c15 h
            refine z_aload_n C 0 dX9_plan_124 rfl rfl ?_
            refine xg_T4 C hi9 (List.mem_of_getElem? (i := 2) rfl) dX9_plan_125 ?_
            obtain ⟨r19, hf18, h⟩ := bd_some h
            refine z_goti1 C (z_runV C (c_X4_howFew l G q P r14 X hf18) (cwV 0 C.hts gX9_plan_X4_howFew rfl rfl rfl (by decide +kernel) ⟨Nat.le_of_ble_eq_true rfl, Nat.le_of_ble_eq_true rfl⟩) 12 rfl rfl rfl rfl (Nat.le_of_ble_eq_true rfl) dX9_plan_128 ⟨Nat.le_of_ble_eq_true rfl, Nat.le_of_ble_eq_true rfl⟩) rfl rfl ?_
            refine z_goto (tgt := 141) C dX9_plan_131 (by decide) ?_
            injection h with h
            subst h
            exact z_iret C rfl ⟨rfl, rfl⟩ dX9_plan_141
        · replace h := zf c4 h
          refine z_bipush (v := (-103)) C dX9_plan_28 (by decide) ?_
          injection h with h
          subst h
          exact z_iret C rfl ⟨rfl, rfl⟩ dX9_plan_30
    · replace h := zf c2 h
      refine z_bipush (v := (-102)) C dX9_plan_9 (by decide) ?_
      injection h with h
      subst h
      exact z_iret C rfl ⟨rfl, rfl⟩ dX9_plan_11
def f_X9_sure (P : XP) (S : XS) (a1 : Int32) (a2 : Int32) : Int32 := pm (f_X9_potAt P S a1) ((-101)) (fun j2 => if a2 < 1 then (-102) else if a2 ≤ (xI S 7) then if (f_X5_boils P S j2) = 0 then (-103) else (f_X5_sureAt P S j2 ((xI S 9) + a2)) else (-102))
set_option maxHeartbeats 4000000 in
set_option maxRecDepth 100000 in
theorem c_X9_sure (l : Launch) (G : zGT) (q : Nat → Nat) (P : XP) (hp : xOK P) (S : XS) (X : va_W) (a1 : Int32) (a2 : Int32) : MG l yX9_sure wsX9_sure ({ frames := 4, cells := 0, slots := 0, locals := 83 }) G [.ref (q 0), .int a1, .int a2] (XW G q P S ++ X) (va_Qi (fun r u => r = (f_X9_sure P S a1 a2) ∧ u = XW G q P S ++ X)) := by
  have hi9 : ∀ w ∈ u_ws RX9 TX9 18, w ∈ wsX9_sure := fun _ h => List.mem_cons_of_mem _ (List.mem_append_left _ (List.mem_append_left _ (List.mem_append_left _ (List.mem_append_left _ (List.mem_append_left _ (List.mem_append_right _ h))))))
  refine MG.of (cc := cX9_sure) (maxL := 4) (ret := (some .int)) (own := RX9) (nm := "sure") (by decide) rfl rfl rfl (Nat.le_of_ble_eq_true rfl) ?_
  intro p e s m args below meth c A C
  obtain ⟨res, h⟩ : ∃ z, f_X9_sure P S a1 a2 = z := ⟨_, rfl⟩
  rw [h]
  rw [f_X9_sure] at h
  refine z_eq (lv2 := [(0, .ref (q 0)), (1, .int a1), (2, .int a2)]) rfl rfl rfl rfl ?_
  refine z_aload_n C 0 dX9_sure_0 rfl rfl ?_
  refine z_iload_n C 1 dX9_sure_1 rfl rfl ?_
  refine z_gotq1 C (z_runV C (c_X9_potAt l G q P hp S X a1) (cwV 1 C.hts gX9_sure_X9_potAt rfl rfl rfl (by decide +kernel) ⟨Nat.le_of_ble_eq_true rfl, Nat.le_of_ble_eq_true rfl⟩) 0 rfl rfl rfl rfl (Nat.le_of_ble_eq_true rfl) dX9_sure_2 ⟨Nat.le_of_ble_eq_true rfl, Nat.le_of_ble_eq_true rfl⟩) rfl rfl ?_
  cases hq1 : (f_X9_potAt P S a1) with
  | none =>
    replace h := pm_n hq1 h
    refine z_eq (st2 := [.null]) rfl rfl rfl rfl ?_
    refine z_astore_nN (lv2 := [(3, .null), (0, .ref (q 0)), (1, .int a1), (2, .int a2)]) C dX9_sure_5 rfl (by decide) rfl ?_
    refine z_aload_nN C 0 dX9_sure_6 rfl rfl ?_
    refine z_ifnonnullN C dX9_sure_7 ?_
    refine z_bipush (v := (-101)) C dX9_sure_10 (by decide) ?_
    subst h
    exact z_iret C rfl ⟨rfl, rfl⟩ dX9_sure_12
  | some j2 =>
    replace h := pm_s hq1 h
    have hi_j2 : j2 < P.1 := f_potAt_lt hq1
    refine z_eq (st2 := [.ref (P.2.1 j2)]) rfl rfl rfl rfl ?_
    refine z_astore_n (lv2 := [(3, .ref (P.2.1 j2)), (0, .ref (q 0)), (1, .int a1), (2, .int a2)]) C dX9_sure_5 rfl (by decide) rfl ?_
    refine z_aload_n C 0 dX9_sure_6 rfl rfl ?_
    refine z_ifnonnull (tgt := 13) C dX9_sure_7 (by decide) ?_
    refine z_iload_n C 3 dX9_sure_13 rfl rfl ?_
    refine z_iconst (v := 1) C dX9_sure_14 (by decide) ?_
    refine z_icmp_lt (tgt := 26) C dX9_sure_15 (by decide) (fun c3 => ?_) (fun c3 => ?_)
    · replace h := zt c3 h
      refine z_bipush (v := (-102)) C dX9_sure_26 (by decide) ?_
      subst h
      exact z_iret C rfl ⟨rfl, rfl⟩ dX9_sure_28
    · replace h := zf c3 h
      refine z_iload_n C 3 dX9_sure_18 rfl rfl ?_
      refine z_aload_n C 1 dX9_sure_19 rfl rfl ?_
      refine xg_T7 C hi9 (List.mem_of_getElem? (i := 1) rfl) dX9_sure_20 ?_
      refine z_icmp_le (tgt := 29) C dX9_sure_23 (by decide) (fun c4 => ?_) (fun c4 => ?_)
      · replace h := zt c4 h
        refine z_aload_n C 0 dX9_sure_29 rfl rfl ?_
        refine z5 (hp.1 j2 hi_j2)
          (fun h5 kk => z_goti1 C (z_runU C (c_X5_boils l G q P hp S X j2 hi_j2) (va_cwU 0 C.hts gX9_sure_X5_boils_u151X0 rfl rfl rfl rfl (by decide +kernel) ⟨Nat.le_of_ble_eq_true rfl, Nat.le_of_ble_eq_true rfl⟩) (18 + j2) (xw_pot hi_j2) (show vwCl[P.2.2.1 j2]? = some (RX0, TX0, 7) by rw [h5]; rfl) rfl rfl (Nat.le_of_ble_eq_true rfl) dX9_sure_30 ⟨Nat.le_of_ble_eq_true rfl, Nat.le_of_ble_eq_true rfl⟩) rfl rfl kk)
          (fun h5 kk => z_goti1 C (z_runU C (c_X5_boils l G q P hp S X j2 hi_j2) (va_cwU 0 C.hts gX9_sure_X5_boils_u151X2 rfl rfl rfl rfl (by decide +kernel) ⟨Nat.le_of_ble_eq_true rfl, Nat.le_of_ble_eq_true rfl⟩) (18 + j2) (xw_pot hi_j2) (show vwCl[P.2.2.1 j2]? = some (RX2, TX2, 7) by rw [h5]; rfl) rfl rfl (Nat.le_of_ble_eq_true rfl) dX9_sure_30 ⟨Nat.le_of_ble_eq_true rfl, Nat.le_of_ble_eq_true rfl⟩) rfl rfl kk)
          (fun h5 kk => z_goti1 C (z_runV C (c_X5_boils l G q P hp S X j2 hi_j2) (cwV 0 C.hts gX9_sure_X5_boils rfl rfl rfl (by decide +kernel) ⟨Nat.le_of_ble_eq_true rfl, Nat.le_of_ble_eq_true rfl⟩) (18 + j2) (xw_pot hi_j2) (show vwCl[P.2.2.1 j2]? = some (RX5, TX5, 7) by rw [h5]; rfl) rfl rfl (Nat.le_of_ble_eq_true rfl) dX9_sure_30 ⟨Nat.le_of_ble_eq_true rfl, Nat.le_of_ble_eq_true rfl⟩) rfl rfl kk)
          (fun h5 kk => z_goti1 C (z_runU C (c_X5_boils l G q P hp S X j2 hi_j2) (va_cwU 0 C.hts gX9_sure_X5_boils_u151X6 rfl rfl rfl rfl (by decide +kernel) ⟨Nat.le_of_ble_eq_true rfl, Nat.le_of_ble_eq_true rfl⟩) (18 + j2) (xw_pot hi_j2) (show vwCl[P.2.2.1 j2]? = some (RX6, TX6, 7) by rw [h5]; rfl) rfl rfl (Nat.le_of_ble_eq_true rfl) dX9_sure_30 ⟨Nat.le_of_ble_eq_true rfl, Nat.le_of_ble_eq_true rfl⟩) rfl rfl kk)
          (fun h5 kk => z_goti1 C (z_runU C (c_X5_boils l G q P hp S X j2 hi_j2) (va_cwU 0 C.hts gX9_sure_X5_boils_u151X7 rfl rfl rfl rfl (by decide +kernel) ⟨Nat.le_of_ble_eq_true rfl, Nat.le_of_ble_eq_true rfl⟩) (18 + j2) (xw_pot hi_j2) (show vwCl[P.2.2.1 j2]? = some (RX7, TX7, 7) by rw [h5]; rfl) rfl rfl (Nat.le_of_ble_eq_true rfl) dX9_sure_30 ⟨Nat.le_of_ble_eq_true rfl, Nat.le_of_ble_eq_true rfl⟩) rfl rfl kk)
          ?_
        refine z_if_eq (tgt := 49) C dX9_sure_33 (by decide) (fun c5 => ?_) (fun c5 => ?_)
        · replace h := zt c5 h
          refine z_bipush (v := (-103)) C dX9_sure_49 (by decide) ?_
          subst h
          exact z_iret C rfl ⟨rfl, rfl⟩ dX9_sure_51
        · replace h := zf c5 h
          refine z_aload_n C 0 dX9_sure_36 rfl rfl ?_
          refine z_aload_n C 1 dX9_sure_37 rfl rfl ?_
          refine xg_T9 C hi9 (List.mem_of_getElem? (i := 2) rfl) dX9_sure_38 ?_
          refine z_iload_n C 3 dX9_sure_41 rfl rfl ?_
          refine z_iadd C dX9_sure_42 ?_
          refine z5 (hp.1 j2 hi_j2)
            (fun h5 kk => z_goti1 C (z_runU C (c_X5_sureAt l G q P hp S X j2 hi_j2 ((xI S 9) + a2)) (va_cwU 1 C.hts gX9_sure_X5_sureAt_u196X0 rfl rfl rfl rfl (by decide +kernel) ⟨Nat.le_of_ble_eq_true rfl, Nat.le_of_ble_eq_true rfl⟩) (18 + j2) (xw_pot hi_j2) (show vwCl[P.2.2.1 j2]? = some (RX0, TX0, 7) by rw [h5]; rfl) rfl rfl (Nat.le_of_ble_eq_true rfl) dX9_sure_43 ⟨Nat.le_of_ble_eq_true rfl, Nat.le_of_ble_eq_true rfl⟩) rfl rfl kk)
            (fun h5 kk => z_goti1 C (z_runU C (c_X5_sureAt l G q P hp S X j2 hi_j2 ((xI S 9) + a2)) (va_cwU 1 C.hts gX9_sure_X5_sureAt_u196X2 rfl rfl rfl rfl (by decide +kernel) ⟨Nat.le_of_ble_eq_true rfl, Nat.le_of_ble_eq_true rfl⟩) (18 + j2) (xw_pot hi_j2) (show vwCl[P.2.2.1 j2]? = some (RX2, TX2, 7) by rw [h5]; rfl) rfl rfl (Nat.le_of_ble_eq_true rfl) dX9_sure_43 ⟨Nat.le_of_ble_eq_true rfl, Nat.le_of_ble_eq_true rfl⟩) rfl rfl kk)
            (fun h5 kk => z_goti1 C (z_runV C (c_X5_sureAt l G q P hp S X j2 hi_j2 ((xI S 9) + a2)) (cwV 1 C.hts gX9_sure_X5_sureAt rfl rfl rfl (by decide +kernel) ⟨Nat.le_of_ble_eq_true rfl, Nat.le_of_ble_eq_true rfl⟩) (18 + j2) (xw_pot hi_j2) (show vwCl[P.2.2.1 j2]? = some (RX5, TX5, 7) by rw [h5]; rfl) rfl rfl (Nat.le_of_ble_eq_true rfl) dX9_sure_43 ⟨Nat.le_of_ble_eq_true rfl, Nat.le_of_ble_eq_true rfl⟩) rfl rfl kk)
            (fun h5 kk => z_goti1 C (z_runU C (c_X5_sureAt l G q P hp S X j2 hi_j2 ((xI S 9) + a2)) (va_cwU 1 C.hts gX9_sure_X5_sureAt_u196X6 rfl rfl rfl rfl (by decide +kernel) ⟨Nat.le_of_ble_eq_true rfl, Nat.le_of_ble_eq_true rfl⟩) (18 + j2) (xw_pot hi_j2) (show vwCl[P.2.2.1 j2]? = some (RX6, TX6, 7) by rw [h5]; rfl) rfl rfl (Nat.le_of_ble_eq_true rfl) dX9_sure_43 ⟨Nat.le_of_ble_eq_true rfl, Nat.le_of_ble_eq_true rfl⟩) rfl rfl kk)
            (fun h5 kk => z_goti1 C (z_runU C (c_X5_sureAt l G q P hp S X j2 hi_j2 ((xI S 9) + a2)) (va_cwU 1 C.hts gX9_sure_X5_sureAt_u196X7 rfl rfl rfl rfl (by decide +kernel) ⟨Nat.le_of_ble_eq_true rfl, Nat.le_of_ble_eq_true rfl⟩) (18 + j2) (xw_pot hi_j2) (show vwCl[P.2.2.1 j2]? = some (RX7, TX7, 7) by rw [h5]; rfl) rfl rfl (Nat.le_of_ble_eq_true rfl) dX9_sure_43 ⟨Nat.le_of_ble_eq_true rfl, Nat.le_of_ble_eq_true rfl⟩) rfl rfl kk)
            ?_
          refine z_goto (tgt := 51) C dX9_sure_46 (by decide) ?_
          subst h
          exact z_iret C rfl ⟨rfl, rfl⟩ dX9_sure_51
      · replace h := zf c4 h
        refine z_bipush (v := (-102)) C dX9_sure_26 (by decide) ?_
        subst h
        exact z_iret C rfl ⟨rfl, rfl⟩ dX9_sure_28
def f_X9_bestWinding_L16 (fu : Nat) (P : XP) (v1 : Nat) : Nat → Int32 → Int32 → Int32 → XS → Option (Int32 × Int32 × Int32)
  | 0, _, _, _, _ => none
  | n + 1, v2, v3, v4, S => if (xI S 7) < v4 then some (v2, v3, v4) else if (f_X5_sureAt P S v1 ((xI S 9) + v4)) ≤ v3 then f_X9_bestWinding_L16 fu P v1 n v2 v3 (v4 + 1) S else f_X9_bestWinding_L16 fu P v1 n v4 (f_X5_sureAt P S v1 ((xI S 9) + v4)) (v4 + 1) S
def f_X9_bestWinding (fu : Nat) (P : XP) (S : XS) (i : Nat) : Option (Int32) := (f_X9_bestWinding_L16 fu P i fu 1 (f_X5_sureAt P S i ((xI S 9) + 1)) 2 S).bind fun r3 => some r3.1
set_option maxHeartbeats 4000000 in
set_option maxRecDepth 100000 in
theorem L_X9_bestWinding_16 {p : Program} {l : Launch} {e : Env} {s : State} {m : MethodId} {args : Array Value} {below : List Frame} {meth : Method} {c : Code} {A : Nat → Prop} {G : zGT} {q : Nat → Nat} {P : XP} {X : va_W} {fu : Nat} {Q : State → Prop} (C : zC p s m args meth c A G cX9_bestWinding 6 (some .int) RX9 "bestWinding" wsX9_bestWinding) (hp : xOK P) (v1 : Nat) (hi1 : v1 < P.1) : ∀ (n : Nat) (v2 : Int32) (v3 : Int32) (v4 : Int32) (S : XS) {res : Int32 × Int32 × Int32}, f_X9_bestWinding_L16 fu P v1 n v2 v3 v4 S = some res → Z p l e ({ frames := 4, cells := 0, slots := 0, locals := 83 }) s m args below meth c A G 6 Q 0 0 (XW G q P S ++ X) [(0, .ref (q 0)), (1, .ref (P.2.1 v1)), (2, .int res.1), (3, .int res.2.1), (4, .int res.2.2)] 56 [] → Z p l e ({ frames := 4, cells := 0, slots := 0, locals := 83 }) s m args below meth c A G 6 Q 0 0 (XW G q P S ++ X) [(0, .ref (q 0)), (1, .ref (P.2.1 v1)), (2, .int v2), (3, .int v3), (4, .int v4)] 16 [] := by
  have hi9 : ∀ w ∈ u_ws RX9 TX9 18, w ∈ wsX9_bestWinding := fun _ h => List.mem_cons_of_mem _ (List.mem_append_left _ (List.mem_append_left _ (List.mem_append_left _ (List.mem_append_left _ (List.mem_append_left _ (List.mem_append_right _ h))))))
  intro n
  induction n with
  | zero =>
    intro v2 v3 v4 S res h kk
    exact nomatch (h : none = some _)
  | succ n ih =>
    intro v2 v3 v4 S res h kk
    rw [f_X9_bestWinding_L16] at h
    refine z_iload C 4 dX9_bestWinding_16 rfl ?_
    refine z_aload_n C 0 dX9_bestWinding_18 rfl rfl ?_
    refine xg_T7 C hi9 (List.mem_of_getElem? (i := 2) rfl) dX9_bestWinding_19 ?_
    refine z_icmp_gt (tgt := 56) C dX9_bestWinding_22 (by decide) (fun c1 => ?_) (fun c1 => ?_)
    · replace h := zt c1 h
      injection h with h
      subst h
      refine z_lv (lv2 := [(0, .ref (q 0)), (1, .ref (P.2.1 v1)), (2, .int v2), (3, .int v3), (4, .int v4)]) [0, 1, 2, 3, 4] rfl ?_
      exact kk
    · replace h := zf c1 h
      refine z_aload_n C 1 dX9_bestWinding_25 rfl rfl ?_
      refine z_aload_n C 0 dX9_bestWinding_26 rfl rfl ?_
      refine xg_T9 C hi9 (List.mem_of_getElem? (i := 1) rfl) dX9_bestWinding_27 ?_
      refine z_iload C 4 dX9_bestWinding_30 rfl ?_
      refine z_iadd C dX9_bestWinding_32 ?_
      refine z5 (hp.1 v1 hi1)
        (fun h5 kk => z_goti1 C (z_runU C (c_X5_sureAt l G q P hp S X v1 hi1 ((xI S 9) + v4)) (va_cwU 1 C.hts gX9_bestWinding_X5_sureAt_u196X0 rfl rfl rfl rfl (by decide +kernel) ⟨Nat.le_of_ble_eq_true rfl, Nat.le_of_ble_eq_true rfl⟩) (18 + v1) (xw_pot hi1) (show vwCl[P.2.2.1 v1]? = some (RX0, TX0, 7) by rw [h5]; rfl) rfl rfl (Nat.le_of_ble_eq_true rfl) dX9_bestWinding_33 ⟨Nat.le_of_ble_eq_true rfl, Nat.le_of_ble_eq_true rfl⟩) rfl rfl kk)
        (fun h5 kk => z_goti1 C (z_runU C (c_X5_sureAt l G q P hp S X v1 hi1 ((xI S 9) + v4)) (va_cwU 1 C.hts gX9_bestWinding_X5_sureAt_u196X2 rfl rfl rfl rfl (by decide +kernel) ⟨Nat.le_of_ble_eq_true rfl, Nat.le_of_ble_eq_true rfl⟩) (18 + v1) (xw_pot hi1) (show vwCl[P.2.2.1 v1]? = some (RX2, TX2, 7) by rw [h5]; rfl) rfl rfl (Nat.le_of_ble_eq_true rfl) dX9_bestWinding_33 ⟨Nat.le_of_ble_eq_true rfl, Nat.le_of_ble_eq_true rfl⟩) rfl rfl kk)
        (fun h5 kk => z_goti1 C (z_runV C (c_X5_sureAt l G q P hp S X v1 hi1 ((xI S 9) + v4)) (cwV 1 C.hts gX9_bestWinding_X5_sureAt rfl rfl rfl (by decide +kernel) ⟨Nat.le_of_ble_eq_true rfl, Nat.le_of_ble_eq_true rfl⟩) (18 + v1) (xw_pot hi1) (show vwCl[P.2.2.1 v1]? = some (RX5, TX5, 7) by rw [h5]; rfl) rfl rfl (Nat.le_of_ble_eq_true rfl) dX9_bestWinding_33 ⟨Nat.le_of_ble_eq_true rfl, Nat.le_of_ble_eq_true rfl⟩) rfl rfl kk)
        (fun h5 kk => z_goti1 C (z_runU C (c_X5_sureAt l G q P hp S X v1 hi1 ((xI S 9) + v4)) (va_cwU 1 C.hts gX9_bestWinding_X5_sureAt_u196X6 rfl rfl rfl rfl (by decide +kernel) ⟨Nat.le_of_ble_eq_true rfl, Nat.le_of_ble_eq_true rfl⟩) (18 + v1) (xw_pot hi1) (show vwCl[P.2.2.1 v1]? = some (RX6, TX6, 7) by rw [h5]; rfl) rfl rfl (Nat.le_of_ble_eq_true rfl) dX9_bestWinding_33 ⟨Nat.le_of_ble_eq_true rfl, Nat.le_of_ble_eq_true rfl⟩) rfl rfl kk)
        (fun h5 kk => z_goti1 C (z_runU C (c_X5_sureAt l G q P hp S X v1 hi1 ((xI S 9) + v4)) (va_cwU 1 C.hts gX9_bestWinding_X5_sureAt_u196X7 rfl rfl rfl rfl (by decide +kernel) ⟨Nat.le_of_ble_eq_true rfl, Nat.le_of_ble_eq_true rfl⟩) (18 + v1) (xw_pot hi1) (show vwCl[P.2.2.1 v1]? = some (RX7, TX7, 7) by rw [h5]; rfl) rfl rfl (Nat.le_of_ble_eq_true rfl) dX9_bestWinding_33 ⟨Nat.le_of_ble_eq_true rfl, Nat.le_of_ble_eq_true rfl⟩) rfl rfl kk)
        ?_
      refine z_istore (lv2 := [(5, .int (f_X5_sureAt P S v1 ((xI S 9) + v4))), (0, .ref (q 0)), (1, .ref (P.2.1 v1)), (2, .int v2), (3, .int v3), (4, .int v4)]) C dX9_bestWinding_36 (by decide) rfl ?_
      refine z_iload C 0 dX9_bestWinding_38 rfl ?_
      refine z_iload_n C 4 dX9_bestWinding_40 rfl rfl ?_
      refine z_icmp_le (tgt := 50) C dX9_bestWinding_41 (by decide) (fun c2 => ?_) (fun c2 => ?_)
      · replace h := zt c2 h
        refine z_iinc (v := (v4 + 1)) (lv2 := [(4, .int (v4 + 1)), (5, .int (f_X5_sureAt P S v1 ((xI S 9) + v4))), (0, .ref (q 0)), (1, .ref (P.2.1 v1)), (2, .int v2), (3, .int v3)]) C 5 dX9_bestWinding_50 rfl rfl (by decide) rfl ?_
        refine z_goto (tgt := 16) C dX9_bestWinding_53 (by decide) ?_
        refine z_lv (lv2 := [(0, .ref (q 0)), (1, .ref (P.2.1 v1)), (2, .int v2), (3, .int v3), (4, .int (v4 + 1))]) [2, 3, 4, 5, 0] rfl ?_
        exact ih v2 v3 (v4 + 1) S h kk
      · replace h := zf c2 h
        refine z_iload C 0 dX9_bestWinding_44 rfl ?_
        refine z_istore_n (lv2 := [(3, .int (f_X5_sureAt P S v1 ((xI S 9) + v4))), (5, .int (f_X5_sureAt P S v1 ((xI S 9) + v4))), (0, .ref (q 0)), (1, .ref (P.2.1 v1)), (2, .int v2), (4, .int v4)]) C dX9_bestWinding_46 rfl (by decide) rfl ?_
        refine z_iload C 5 dX9_bestWinding_47 rfl ?_
        refine z_istore_n (lv2 := [(2, .int v4), (3, .int (f_X5_sureAt P S v1 ((xI S 9) + v4))), (5, .int (f_X5_sureAt P S v1 ((xI S 9) + v4))), (0, .ref (q 0)), (1, .ref (P.2.1 v1)), (4, .int v4)]) C dX9_bestWinding_49 rfl (by decide) rfl ?_
        refine z_iinc (v := (v4 + 1)) (lv2 := [(4, .int (v4 + 1)), (2, .int v4), (3, .int (f_X5_sureAt P S v1 ((xI S 9) + v4))), (5, .int (f_X5_sureAt P S v1 ((xI S 9) + v4))), (0, .ref (q 0)), (1, .ref (P.2.1 v1))]) C 5 dX9_bestWinding_50 rfl rfl (by decide) rfl ?_
        refine z_goto (tgt := 16) C dX9_bestWinding_53 (by decide) ?_
        refine z_lv (lv2 := [(0, .ref (q 0)), (1, .ref (P.2.1 v1)), (2, .int v4), (3, .int (f_X5_sureAt P S v1 ((xI S 9) + v4))), (4, .int (v4 + 1))]) [4, 5, 1, 2, 0] rfl ?_
        exact ih v4 (f_X5_sureAt P S v1 ((xI S 9) + v4)) (v4 + 1) S h kk
set_option maxHeartbeats 4000000 in
set_option maxRecDepth 100000 in
theorem c_X9_bestWinding (l : Launch) (G : zGT) (q : Nat → Nat) (P : XP) (hp : xOK P) (S : XS) (X : va_W) (fu : Nat) (i : Nat) (hi : i < P.1) {res : Int32} (h : f_X9_bestWinding fu P S i = some res) : MG l yX9_bestWinding wsX9_bestWinding ({ frames := 4, cells := 0, slots := 0, locals := 83 }) G [.ref (q 0), .ref (P.2.1 i)] (XW G q P S ++ X) (va_Qi (fun r u => r = res ∧ u = XW G q P S ++ X)) := by
  have hi9 : ∀ w ∈ u_ws RX9 TX9 18, w ∈ wsX9_bestWinding := fun _ h => List.mem_cons_of_mem _ (List.mem_append_left _ (List.mem_append_left _ (List.mem_append_left _ (List.mem_append_left _ (List.mem_append_left _ (List.mem_append_right _ h))))))
  refine MG.of (cc := cX9_bestWinding) (maxL := 6) (ret := (some .int)) (own := RX9) (nm := "bestWinding") (by decide) rfl rfl rfl (Nat.le_of_ble_eq_true rfl) ?_
  intro p e s m args below meth c A C
  rw [f_X9_bestWinding] at h
  refine z_eq (lv2 := [(0, .ref (q 0)), (1, .ref (P.2.1 i))]) rfl rfl rfl rfl ?_
  refine z_iconst (v := 1) C dX9_bestWinding_0 (by decide) ?_
  refine z_istore_n (lv2 := [(2, .int 1), (0, .ref (q 0)), (1, .ref (P.2.1 i))]) C dX9_bestWinding_1 rfl (by decide) rfl ?_
  refine z_aload_n C 2 dX9_bestWinding_2 rfl rfl ?_
  refine z_aload_n C 1 dX9_bestWinding_3 rfl rfl ?_
  refine xg_T9 C hi9 (List.mem_of_getElem? (i := 1) rfl) dX9_bestWinding_4 ?_
  refine z_iconst (v := 1) C dX9_bestWinding_7 (by decide) ?_
  refine z_iadd C dX9_bestWinding_8 ?_
  refine z5 (hp.1 i hi)
    (fun h5 kk => z_goti1 C (z_runU C (c_X5_sureAt l G q P hp S X i hi ((xI S 9) + 1)) (va_cwU 1 C.hts gX9_bestWinding_X5_sureAt_u196X0 rfl rfl rfl rfl (by decide +kernel) ⟨Nat.le_of_ble_eq_true rfl, Nat.le_of_ble_eq_true rfl⟩) (18 + i) (xw_pot hi) (show vwCl[P.2.2.1 i]? = some (RX0, TX0, 7) by rw [h5]; rfl) rfl rfl (Nat.le_of_ble_eq_true rfl) dX9_bestWinding_9 ⟨Nat.le_of_ble_eq_true rfl, Nat.le_of_ble_eq_true rfl⟩) rfl rfl kk)
    (fun h5 kk => z_goti1 C (z_runU C (c_X5_sureAt l G q P hp S X i hi ((xI S 9) + 1)) (va_cwU 1 C.hts gX9_bestWinding_X5_sureAt_u196X2 rfl rfl rfl rfl (by decide +kernel) ⟨Nat.le_of_ble_eq_true rfl, Nat.le_of_ble_eq_true rfl⟩) (18 + i) (xw_pot hi) (show vwCl[P.2.2.1 i]? = some (RX2, TX2, 7) by rw [h5]; rfl) rfl rfl (Nat.le_of_ble_eq_true rfl) dX9_bestWinding_9 ⟨Nat.le_of_ble_eq_true rfl, Nat.le_of_ble_eq_true rfl⟩) rfl rfl kk)
    (fun h5 kk => z_goti1 C (z_runV C (c_X5_sureAt l G q P hp S X i hi ((xI S 9) + 1)) (cwV 1 C.hts gX9_bestWinding_X5_sureAt rfl rfl rfl (by decide +kernel) ⟨Nat.le_of_ble_eq_true rfl, Nat.le_of_ble_eq_true rfl⟩) (18 + i) (xw_pot hi) (show vwCl[P.2.2.1 i]? = some (RX5, TX5, 7) by rw [h5]; rfl) rfl rfl (Nat.le_of_ble_eq_true rfl) dX9_bestWinding_9 ⟨Nat.le_of_ble_eq_true rfl, Nat.le_of_ble_eq_true rfl⟩) rfl rfl kk)
    (fun h5 kk => z_goti1 C (z_runU C (c_X5_sureAt l G q P hp S X i hi ((xI S 9) + 1)) (va_cwU 1 C.hts gX9_bestWinding_X5_sureAt_u196X6 rfl rfl rfl rfl (by decide +kernel) ⟨Nat.le_of_ble_eq_true rfl, Nat.le_of_ble_eq_true rfl⟩) (18 + i) (xw_pot hi) (show vwCl[P.2.2.1 i]? = some (RX6, TX6, 7) by rw [h5]; rfl) rfl rfl (Nat.le_of_ble_eq_true rfl) dX9_bestWinding_9 ⟨Nat.le_of_ble_eq_true rfl, Nat.le_of_ble_eq_true rfl⟩) rfl rfl kk)
    (fun h5 kk => z_goti1 C (z_runU C (c_X5_sureAt l G q P hp S X i hi ((xI S 9) + 1)) (va_cwU 1 C.hts gX9_bestWinding_X5_sureAt_u196X7 rfl rfl rfl rfl (by decide +kernel) ⟨Nat.le_of_ble_eq_true rfl, Nat.le_of_ble_eq_true rfl⟩) (18 + i) (xw_pot hi) (show vwCl[P.2.2.1 i]? = some (RX7, TX7, 7) by rw [h5]; rfl) rfl rfl (Nat.le_of_ble_eq_true rfl) dX9_bestWinding_9 ⟨Nat.le_of_ble_eq_true rfl, Nat.le_of_ble_eq_true rfl⟩) rfl rfl kk)
    ?_
  refine z_istore_n (lv2 := [(3, .int (f_X5_sureAt P S i ((xI S 9) + 1))), (2, .int 1), (0, .ref (q 0)), (1, .ref (P.2.1 i))]) C dX9_bestWinding_12 rfl (by decide) rfl ?_
  refine z_iconst (v := 2) C dX9_bestWinding_13 (by decide) ?_
  refine z_istore (lv2 := [(4, .int 2), (3, .int (f_X5_sureAt P S i ((xI S 9) + 1))), (2, .int 1), (0, .ref (q 0)), (1, .ref (P.2.1 i))]) C dX9_bestWinding_14 (by decide) rfl ?_
  refine z_lv (lv2 := [(0, .ref (q 0)), (1, .ref (P.2.1 i)), (2, .int 1), (3, .int (f_X5_sureAt P S i ((xI S 9) + 1))), (4, .int 2)]) [3, 4, 2, 1, 0] rfl ?_
  obtain ⟨r3, hf4, h⟩ := bd_some h
  refine L_X9_bestWinding_16 C hp i hi fu 1 (f_X5_sureAt P S i ((xI S 9) + 1)) 2 S hf4 ?_
  refine z_iload_n C 2 dX9_bestWinding_56 rfl rfl ?_
  injection h with h
  subst h
  exact z_iret C rfl ⟨rfl, rfl⟩ dX9_bestWinding_57
def f_X9_best (fu : Nat) (P : XP) (S : XS) (a1 : Int32) : Option (Int32) := pm (f_X9_potAt P S a1) (some (-101)) (fun j2 => if (f_X5_boils P S j2) = 0 then some (-103) else (f_X9_bestWinding fu P S j2).bind fun r5 => some r5)
set_option maxHeartbeats 4000000 in
set_option maxRecDepth 100000 in
theorem c_X9_best (l : Launch) (G : zGT) (q : Nat → Nat) (P : XP) (hp : xOK P) (S : XS) (X : va_W) (fu : Nat) (a1 : Int32) {res : Int32} (h : f_X9_best fu P S a1 = some res) : MG l yX9_best wsX9_best ({ frames := 5, cells := 0, slots := 0, locals := 108 }) G [.ref (q 0), .int a1] (XW G q P S ++ X) (va_Qi (fun r u => r = res ∧ u = XW G q P S ++ X)) := by
  refine MG.of (cc := cX9_best) (maxL := 3) (ret := (some .int)) (own := RX9) (nm := "best") (by decide) rfl rfl rfl (Nat.le_of_ble_eq_true rfl) ?_
  intro p e s m args below meth c A C
  rw [f_X9_best] at h
  refine z_eq (lv2 := [(0, .ref (q 0)), (1, .int a1)]) rfl rfl rfl rfl ?_
  refine z_aload_n C 0 dX9_best_0 rfl rfl ?_
  refine z_iload_n C 1 dX9_best_1 rfl rfl ?_
  refine z_gotq1 C (z_runV C (c_X9_potAt l G q P hp S X a1) (cwV 1 C.hts gX9_best_X9_potAt rfl rfl rfl (by decide +kernel) ⟨Nat.le_of_ble_eq_true rfl, Nat.le_of_ble_eq_true rfl⟩) 0 rfl rfl rfl rfl (Nat.le_of_ble_eq_true rfl) dX9_best_2 ⟨Nat.le_of_ble_eq_true rfl, Nat.le_of_ble_eq_true rfl⟩) rfl rfl ?_
  cases hq1 : (f_X9_potAt P S a1) with
  | none =>
    replace h := pm_n hq1 h
    refine z_eq (st2 := [.null]) rfl rfl rfl rfl ?_
    refine z_astore_nN (lv2 := [(2, .null), (0, .ref (q 0)), (1, .int a1)]) C dX9_best_5 rfl (by decide) rfl ?_
    refine z_aload_nN C 0 dX9_best_6 rfl rfl ?_
    refine z_ifnonnullN C dX9_best_7 ?_
    refine z_bipush (v := (-101)) C dX9_best_10 (by decide) ?_
    injection h with h
    subst h
    exact z_iret C rfl ⟨rfl, rfl⟩ dX9_best_12
  | some j2 =>
    replace h := pm_s hq1 h
    have hi_j2 : j2 < P.1 := f_potAt_lt hq1
    refine z_eq (st2 := [.ref (P.2.1 j2)]) rfl rfl rfl rfl ?_
    refine z_astore_n (lv2 := [(2, .ref (P.2.1 j2)), (0, .ref (q 0)), (1, .int a1)]) C dX9_best_5 rfl (by decide) rfl ?_
    refine z_aload_n C 0 dX9_best_6 rfl rfl ?_
    refine z_ifnonnull (tgt := 13) C dX9_best_7 (by decide) ?_
    refine z_aload_n C 0 dX9_best_13 rfl rfl ?_
    refine z5 (hp.1 j2 hi_j2)
      (fun h5 kk => z_goti1 C (z_runU C (c_X5_boils l G q P hp S X j2 hi_j2) (va_cwU 0 C.hts gX9_best_X5_boils_u151X0 rfl rfl rfl rfl (by decide +kernel) ⟨Nat.le_of_ble_eq_true rfl, Nat.le_of_ble_eq_true rfl⟩) (18 + j2) (xw_pot hi_j2) (show vwCl[P.2.2.1 j2]? = some (RX0, TX0, 7) by rw [h5]; rfl) rfl rfl (Nat.le_of_ble_eq_true rfl) dX9_best_14 ⟨Nat.le_of_ble_eq_true rfl, Nat.le_of_ble_eq_true rfl⟩) rfl rfl kk)
      (fun h5 kk => z_goti1 C (z_runU C (c_X5_boils l G q P hp S X j2 hi_j2) (va_cwU 0 C.hts gX9_best_X5_boils_u151X2 rfl rfl rfl rfl (by decide +kernel) ⟨Nat.le_of_ble_eq_true rfl, Nat.le_of_ble_eq_true rfl⟩) (18 + j2) (xw_pot hi_j2) (show vwCl[P.2.2.1 j2]? = some (RX2, TX2, 7) by rw [h5]; rfl) rfl rfl (Nat.le_of_ble_eq_true rfl) dX9_best_14 ⟨Nat.le_of_ble_eq_true rfl, Nat.le_of_ble_eq_true rfl⟩) rfl rfl kk)
      (fun h5 kk => z_goti1 C (z_runV C (c_X5_boils l G q P hp S X j2 hi_j2) (cwV 0 C.hts gX9_best_X5_boils rfl rfl rfl (by decide +kernel) ⟨Nat.le_of_ble_eq_true rfl, Nat.le_of_ble_eq_true rfl⟩) (18 + j2) (xw_pot hi_j2) (show vwCl[P.2.2.1 j2]? = some (RX5, TX5, 7) by rw [h5]; rfl) rfl rfl (Nat.le_of_ble_eq_true rfl) dX9_best_14 ⟨Nat.le_of_ble_eq_true rfl, Nat.le_of_ble_eq_true rfl⟩) rfl rfl kk)
      (fun h5 kk => z_goti1 C (z_runU C (c_X5_boils l G q P hp S X j2 hi_j2) (va_cwU 0 C.hts gX9_best_X5_boils_u151X6 rfl rfl rfl rfl (by decide +kernel) ⟨Nat.le_of_ble_eq_true rfl, Nat.le_of_ble_eq_true rfl⟩) (18 + j2) (xw_pot hi_j2) (show vwCl[P.2.2.1 j2]? = some (RX6, TX6, 7) by rw [h5]; rfl) rfl rfl (Nat.le_of_ble_eq_true rfl) dX9_best_14 ⟨Nat.le_of_ble_eq_true rfl, Nat.le_of_ble_eq_true rfl⟩) rfl rfl kk)
      (fun h5 kk => z_goti1 C (z_runU C (c_X5_boils l G q P hp S X j2 hi_j2) (va_cwU 0 C.hts gX9_best_X5_boils_u151X7 rfl rfl rfl rfl (by decide +kernel) ⟨Nat.le_of_ble_eq_true rfl, Nat.le_of_ble_eq_true rfl⟩) (18 + j2) (xw_pot hi_j2) (show vwCl[P.2.2.1 j2]? = some (RX7, TX7, 7) by rw [h5]; rfl) rfl rfl (Nat.le_of_ble_eq_true rfl) dX9_best_14 ⟨Nat.le_of_ble_eq_true rfl, Nat.le_of_ble_eq_true rfl⟩) rfl rfl kk)
      ?_
    refine z_if_eq (tgt := 28) C dX9_best_17 (by decide) (fun c3 => ?_) (fun c3 => ?_)
    · replace h := zt c3 h
      refine z_bipush (v := (-103)) C dX9_best_28 (by decide) ?_
      injection h with h
      subst h
      exact z_iret C rfl ⟨rfl, rfl⟩ dX9_best_30
    · replace h := zf c3 h
      refine z_aload_n C 1 dX9_best_20 rfl rfl ?_
      refine z_aload_n C 0 dX9_best_21 rfl rfl ?_
      obtain ⟨r5, hf4, h⟩ := bd_some h
      refine z_goti1 C (z_runV C (c_X9_bestWinding l G q P hp S X fu j2 hi_j2 hf4) (cwV 1 C.hts gX9_best_X9_bestWinding rfl rfl rfl (by decide +kernel) ⟨Nat.le_of_ble_eq_true rfl, Nat.le_of_ble_eq_true rfl⟩) 0 rfl rfl rfl rfl (Nat.le_of_ble_eq_true rfl) dX9_best_22 ⟨Nat.le_of_ble_eq_true rfl, Nat.le_of_ble_eq_true rfl⟩) rfl rfl ?_
      refine z_goto (tgt := 30) C dX9_best_25 (by decide) ?_
      injection h with h
      subst h
      exact z_iret C rfl ⟨rfl, rfl⟩ dX9_best_30
def f_X9_together (P : XP) (S : XS) (a1 : Int32) (a2 : Int32) : Int32 := pm (f_X9_potAt P S a1) ((-101)) (fun j2 => if a2 < 0 then (-102) else if a2 ≤ 1200 then if (a2 - (xR S j2 0)) < (xI S 9) then (-1) else (a2 - (xR S j2 0)) else (-102))
set_option maxHeartbeats 4000000 in
set_option maxRecDepth 100000 in
theorem c_X9_together (l : Launch) (G : zGT) (q : Nat → Nat) (P : XP) (hp : xOK P) (S : XS) (X : va_W) (a1 : Int32) (a2 : Int32) : MG l yX9_together wsX9_together ({ frames := 1, cells := 0, slots := 0, locals := 21 }) G [.ref (q 0), .int a1, .int a2] (XW G q P S ++ X) (va_Qi (fun r u => r = (f_X9_together P S a1 a2) ∧ u = XW G q P S ++ X)) := by
  have hi0 : ∀ w ∈ u_ws RX0 TX0 7, w ∈ wsX9_together := fun _ h => List.mem_cons_of_mem _ (List.mem_append_left _ (List.mem_append_left _ (List.mem_append_left _ (List.mem_append_left _ (List.mem_append_left _ (List.mem_append_right _ h))))))
  have hi2 : ∀ w ∈ u_ws RX2 TX2 7, w ∈ wsX9_together := fun _ h => List.mem_cons_of_mem _ (List.mem_append_left _ (List.mem_append_left _ (List.mem_append_left _ (List.mem_append_left _ (List.mem_append_right _ h)))))
  have hi5 : ∀ w ∈ u_ws RX5 TX5 7, w ∈ wsX9_together := fun _ h => List.mem_cons_of_mem _ (List.mem_append_left _ (List.mem_append_left _ (List.mem_append_left _ (List.mem_append_right _ h))))
  have hi6 : ∀ w ∈ u_ws RX6 TX6 7, w ∈ wsX9_together := fun _ h => List.mem_cons_of_mem _ (List.mem_append_left _ (List.mem_append_left _ (List.mem_append_right _ h)))
  have hi7 : ∀ w ∈ u_ws RX7 TX7 7, w ∈ wsX9_together := fun _ h => List.mem_cons_of_mem _ (List.mem_append_left _ (List.mem_append_right _ h))
  have hi9 : ∀ w ∈ u_ws RX9 TX9 18, w ∈ wsX9_together := fun _ h => List.mem_cons_of_mem _ (List.mem_append_right _ h)
  refine MG.of (cc := cX9_together) (maxL := 5) (ret := (some .int)) (own := RX9) (nm := "together") (by decide) rfl rfl rfl (Nat.le_of_ble_eq_true rfl) ?_
  intro p e s m args below meth c A C
  obtain ⟨res, h⟩ : ∃ z, f_X9_together P S a1 a2 = z := ⟨_, rfl⟩
  rw [h]
  rw [f_X9_together] at h
  refine z_eq (lv2 := [(0, .ref (q 0)), (1, .int a1), (2, .int a2)]) rfl rfl rfl rfl ?_
  refine z_aload_n C 0 dX9_together_0 rfl rfl ?_
  refine z_iload_n C 1 dX9_together_1 rfl rfl ?_
  refine z_gotq1 C (z_runV C (c_X9_potAt l G q P hp S X a1) (cwV 1 C.hts gX9_together_X9_potAt rfl rfl rfl (by decide +kernel) ⟨Nat.le_of_ble_eq_true rfl, Nat.le_of_ble_eq_true rfl⟩) 0 rfl rfl rfl rfl (Nat.le_of_ble_eq_true rfl) dX9_together_2 ⟨Nat.le_of_ble_eq_true rfl, Nat.le_of_ble_eq_true rfl⟩) rfl rfl ?_
  cases hq1 : (f_X9_potAt P S a1) with
  | none =>
    replace h := pm_n hq1 h
    refine z_eq (st2 := [.null]) rfl rfl rfl rfl ?_
    refine z_astore_nN (lv2 := [(3, .null), (0, .ref (q 0)), (1, .int a1), (2, .int a2)]) C dX9_together_5 rfl (by decide) rfl ?_
    refine z_aload_nN C 0 dX9_together_6 rfl rfl ?_
    refine z_ifnonnullN C dX9_together_7 ?_
    refine z_bipush (v := (-101)) C dX9_together_10 (by decide) ?_
    subst h
    exact z_iret C rfl ⟨rfl, rfl⟩ dX9_together_12
  | some j2 =>
    replace h := pm_s hq1 h
    have hi_j2 : j2 < P.1 := f_potAt_lt hq1
    refine z_eq (st2 := [.ref (P.2.1 j2)]) rfl rfl rfl rfl ?_
    refine z_astore_n (lv2 := [(3, .ref (P.2.1 j2)), (0, .ref (q 0)), (1, .int a1), (2, .int a2)]) C dX9_together_5 rfl (by decide) rfl ?_
    refine z_aload_n C 0 dX9_together_6 rfl rfl ?_
    refine z_ifnonnull (tgt := 13) C dX9_together_7 (by decide) ?_
    refine z_iload_n C 3 dX9_together_13 rfl rfl ?_
    refine z_if_lt (tgt := 24) C dX9_together_14 (by decide) (fun c3 => ?_) (fun c3 => ?_)
    · replace h := zt c3 h
      refine z_bipush (v := (-102)) C dX9_together_24 (by decide) ?_
      subst h
      exact z_iret C rfl ⟨rfl, rfl⟩ dX9_together_26
    · replace h := zf c3 h
      refine z_iload_n C 3 dX9_together_17 rfl rfl ?_
      refine z_sipush (v := 1200) C dX9_together_18 (by decide) ?_
      refine z_icmp_le (tgt := 27) C dX9_together_21 (by decide) (fun c4 => ?_) (fun c4 => ?_)
      · replace h := zt c4 h
        refine z_iload_n C 3 dX9_together_27 rfl rfl ?_
        refine z_aload_n C 0 dX9_together_28 rfl rfl ?_
        refine xpg_0 C hp hi_j2 hi0 hi2 hi5 hi6 hi7 (List.mem_of_getElem? (i := 1) rfl) dX9_together_29 ?_
        refine z_isub C dX9_together_32 ?_
        refine z_istore (lv2 := [(4, .int (a2 - (xR S j2 0))), (3, .ref (P.2.1 j2)), (0, .ref (q 0)), (1, .int a1), (2, .int a2)]) C dX9_together_33 (by decide) rfl ?_
        refine z_iload C 0 dX9_together_35 rfl ?_
        refine z_aload_n C 2 dX9_together_37 rfl rfl ?_
        refine xg_T9 C hi9 (List.mem_of_getElem? (i := 2) rfl) dX9_together_38 ?_
        refine z_icmp_lt (tgt := 49) C dX9_together_41 (by decide) (fun c5 => ?_) (fun c5 => ?_)
        · replace h := zt c5 h
          refine z_iconst (v := (-1)) C dX9_together_49 (by decide) ?_
          subst h
          exact z_iret C rfl ⟨rfl, rfl⟩ dX9_together_50
        · replace h := zf c5 h
          refine z_iload C 0 dX9_together_44 rfl ?_
          refine z_goto (tgt := 50) C dX9_together_46 (by decide) ?_
          subst h
          exact z_iret C rfl ⟨rfl, rfl⟩ dX9_together_50
      · replace h := zf c4 h
        refine z_bipush (v := (-102)) C dX9_together_24 (by decide) ?_
        subst h
        exact z_iret C rfl ⟨rfl, rfl⟩ dX9_together_26
def f_X9_tell (P : XP) (S : XS) (a1 : Int32) (a2 : Int32) : Option (Int32 × XS) := pm (f_X9_potAt P S a1) (some ((-101), S)) (fun j2 => if a2 < 50 then some ((-102), S) else if a2 ≤ 199 then if (f_X5_boils P S j2) = 0 then some ((-103), S) else (f_X8_add P S ((f_X5_due P S j2) - (xI S 9)) (kp (P.2.2.1 j2)) a2).bind fun r7 => if r7.1 = 0 then some ((-104), r7.2) else some ((xI r7.2 21), r7.2) else some ((-102), S))
set_option maxHeartbeats 4000000 in
set_option maxRecDepth 100000 in
theorem c_X9_tell (l : Launch) (G : zGT) (q : Nat → Nat) (P : XP) (hp : xOK P) (S : XS) (X : va_W) (a1 : Int32) (a2 : Int32) {res : Int32 × XS} (h : f_X9_tell P S a1 a2 = some res) : MG l yX9_tell wsX9_tell ({ frames := 2, cells := 0, slots := 0, locals := 40 }) G [.ref (q 0), .int a1, .int a2] (XW G q P S ++ X) (va_Qi (fun r u => r = res.1 ∧ u = XW G q P res.2 ++ X)) := by
  have hi8 : ∀ w ∈ u_ws RX8 TX8 4, w ∈ wsX9_tell := fun _ h => List.mem_cons_of_mem _ (List.mem_append_left _ (List.mem_append_left _ (List.mem_append_left _ (List.mem_append_left _ (List.mem_append_left _ (List.mem_append_right _ h))))))
  have hi9 : ∀ w ∈ u_ws RX9 TX9 18, w ∈ wsX9_tell := fun _ h => List.mem_cons_of_mem _ (List.mem_append_left _ (List.mem_append_left _ (List.mem_append_left _ (List.mem_append_left _ (List.mem_append_left _ (List.mem_append_left _ (List.mem_append_right _ h)))))))
  refine MG.of (cc := cX9_tell) (maxL := 4) (ret := (some .int)) (own := RX9) (nm := "tell") (by decide) rfl rfl rfl (Nat.le_of_ble_eq_true rfl) ?_
  intro p e s m args below meth c A C
  rw [f_X9_tell] at h
  refine z_eq (lv2 := [(0, .ref (q 0)), (1, .int a1), (2, .int a2)]) rfl rfl rfl rfl ?_
  refine z_aload_n C 0 dX9_tell_0 rfl rfl ?_
  refine z_iload_n C 1 dX9_tell_1 rfl rfl ?_
  refine z_gotq1 C (z_runV C (c_X9_potAt l G q P hp S X a1) (cwV 1 C.hts gX9_tell_X9_potAt rfl rfl rfl (by decide +kernel) ⟨Nat.le_of_ble_eq_true rfl, Nat.le_of_ble_eq_true rfl⟩) 0 rfl rfl rfl rfl (Nat.le_of_ble_eq_true rfl) dX9_tell_2 ⟨Nat.le_of_ble_eq_true rfl, Nat.le_of_ble_eq_true rfl⟩) rfl rfl ?_
  cases hq1 : (f_X9_potAt P S a1) with
  | none =>
    replace h := pm_n hq1 h
    refine z_eq (st2 := [.null]) rfl rfl rfl rfl ?_
    refine z_astore_nN (lv2 := [(3, .null), (0, .ref (q 0)), (1, .int a1), (2, .int a2)]) C dX9_tell_5 rfl (by decide) rfl ?_
    refine z_aload_nN C 0 dX9_tell_6 rfl rfl ?_
    refine z_ifnonnullN C dX9_tell_7 ?_
    refine z_bipush (v := (-101)) C dX9_tell_10 (by decide) ?_
    injection h with h
    subst h
    exact z_iret C rfl ⟨rfl, rfl⟩ dX9_tell_12
  | some j2 =>
    replace h := pm_s hq1 h
    have hi_j2 : j2 < P.1 := f_potAt_lt hq1
    refine z_eq (st2 := [.ref (P.2.1 j2)]) rfl rfl rfl rfl ?_
    refine z_astore_n (lv2 := [(3, .ref (P.2.1 j2)), (0, .ref (q 0)), (1, .int a1), (2, .int a2)]) C dX9_tell_5 rfl (by decide) rfl ?_
    refine z_aload_n C 0 dX9_tell_6 rfl rfl ?_
    refine z_ifnonnull (tgt := 13) C dX9_tell_7 (by decide) ?_
    refine z_iload_n C 3 dX9_tell_13 rfl rfl ?_
    refine z_bipush (v := 50) C dX9_tell_14 (by decide) ?_
    refine z_icmp_lt (tgt := 26) C dX9_tell_16 (by decide) (fun c3 => ?_) (fun c3 => ?_)
    · replace h := zt c3 h
      refine z_bipush (v := (-102)) C dX9_tell_26 (by decide) ?_
      injection h with h
      subst h
      exact z_iret C rfl ⟨rfl, rfl⟩ dX9_tell_28
    · replace h := zf c3 h
      refine z_iload_n C 3 dX9_tell_19 rfl rfl ?_
      refine z_sipush (v := 199) C dX9_tell_20 (by decide) ?_
      refine z_icmp_le (tgt := 29) C dX9_tell_23 (by decide) (fun c4 => ?_) (fun c4 => ?_)
      · replace h := zt c4 h
        refine z_aload_n C 0 dX9_tell_29 rfl rfl ?_
        refine z5 (hp.1 j2 hi_j2)
          (fun h5 kk => z_goti1 C (z_runU C (c_X5_boils l G q P hp S X j2 hi_j2) (va_cwU 0 C.hts gX9_tell_X5_boils_u151X0 rfl rfl rfl rfl (by decide +kernel) ⟨Nat.le_of_ble_eq_true rfl, Nat.le_of_ble_eq_true rfl⟩) (18 + j2) (xw_pot hi_j2) (show vwCl[P.2.2.1 j2]? = some (RX0, TX0, 7) by rw [h5]; rfl) rfl rfl (Nat.le_of_ble_eq_true rfl) dX9_tell_30 ⟨Nat.le_of_ble_eq_true rfl, Nat.le_of_ble_eq_true rfl⟩) rfl rfl kk)
          (fun h5 kk => z_goti1 C (z_runU C (c_X5_boils l G q P hp S X j2 hi_j2) (va_cwU 0 C.hts gX9_tell_X5_boils_u151X2 rfl rfl rfl rfl (by decide +kernel) ⟨Nat.le_of_ble_eq_true rfl, Nat.le_of_ble_eq_true rfl⟩) (18 + j2) (xw_pot hi_j2) (show vwCl[P.2.2.1 j2]? = some (RX2, TX2, 7) by rw [h5]; rfl) rfl rfl (Nat.le_of_ble_eq_true rfl) dX9_tell_30 ⟨Nat.le_of_ble_eq_true rfl, Nat.le_of_ble_eq_true rfl⟩) rfl rfl kk)
          (fun h5 kk => z_goti1 C (z_runV C (c_X5_boils l G q P hp S X j2 hi_j2) (cwV 0 C.hts gX9_tell_X5_boils rfl rfl rfl (by decide +kernel) ⟨Nat.le_of_ble_eq_true rfl, Nat.le_of_ble_eq_true rfl⟩) (18 + j2) (xw_pot hi_j2) (show vwCl[P.2.2.1 j2]? = some (RX5, TX5, 7) by rw [h5]; rfl) rfl rfl (Nat.le_of_ble_eq_true rfl) dX9_tell_30 ⟨Nat.le_of_ble_eq_true rfl, Nat.le_of_ble_eq_true rfl⟩) rfl rfl kk)
          (fun h5 kk => z_goti1 C (z_runU C (c_X5_boils l G q P hp S X j2 hi_j2) (va_cwU 0 C.hts gX9_tell_X5_boils_u151X6 rfl rfl rfl rfl (by decide +kernel) ⟨Nat.le_of_ble_eq_true rfl, Nat.le_of_ble_eq_true rfl⟩) (18 + j2) (xw_pot hi_j2) (show vwCl[P.2.2.1 j2]? = some (RX6, TX6, 7) by rw [h5]; rfl) rfl rfl (Nat.le_of_ble_eq_true rfl) dX9_tell_30 ⟨Nat.le_of_ble_eq_true rfl, Nat.le_of_ble_eq_true rfl⟩) rfl rfl kk)
          (fun h5 kk => z_goti1 C (z_runU C (c_X5_boils l G q P hp S X j2 hi_j2) (va_cwU 0 C.hts gX9_tell_X5_boils_u151X7 rfl rfl rfl rfl (by decide +kernel) ⟨Nat.le_of_ble_eq_true rfl, Nat.le_of_ble_eq_true rfl⟩) (18 + j2) (xw_pot hi_j2) (show vwCl[P.2.2.1 j2]? = some (RX7, TX7, 7) by rw [h5]; rfl) rfl rfl (Nat.le_of_ble_eq_true rfl) dX9_tell_30 ⟨Nat.le_of_ble_eq_true rfl, Nat.le_of_ble_eq_true rfl⟩) rfl rfl kk)
          ?_
        refine z_if_ne (tgt := 39) C dX9_tell_33 (by decide) (fun c5 => ?_) (fun c5 => ?_)
        · replace h := zf c5 h
          refine z_aload_n C 1 dX9_tell_39 rfl rfl ?_
          refine xg_T2 C hi9 (List.mem_of_getElem? (i := 1) rfl) dX9_tell_40 ?_
          refine z_aload_n C 0 dX9_tell_43 rfl rfl ?_
          refine z5 (hp.1 j2 hi_j2)
            (fun h5 kk => z_goti1 C (z_runU C (c_X5_due l G q P hp S X j2 hi_j2) (va_cwU 0 C.hts gX9_tell_X5_due_u154X0 rfl rfl rfl rfl (by decide +kernel) ⟨Nat.le_of_ble_eq_true rfl, Nat.le_of_ble_eq_true rfl⟩) (18 + j2) (xw_pot hi_j2) (show vwCl[P.2.2.1 j2]? = some (RX0, TX0, 7) by rw [h5]; rfl) rfl rfl (Nat.le_of_ble_eq_true rfl) dX9_tell_44 ⟨Nat.le_of_ble_eq_true rfl, Nat.le_of_ble_eq_true rfl⟩) rfl rfl kk)
            (fun h5 kk => z_goti1 C (z_runU C (c_X5_due l G q P hp S X j2 hi_j2) (va_cwU 0 C.hts gX9_tell_X5_due_u154X2 rfl rfl rfl rfl (by decide +kernel) ⟨Nat.le_of_ble_eq_true rfl, Nat.le_of_ble_eq_true rfl⟩) (18 + j2) (xw_pot hi_j2) (show vwCl[P.2.2.1 j2]? = some (RX2, TX2, 7) by rw [h5]; rfl) rfl rfl (Nat.le_of_ble_eq_true rfl) dX9_tell_44 ⟨Nat.le_of_ble_eq_true rfl, Nat.le_of_ble_eq_true rfl⟩) rfl rfl kk)
            (fun h5 kk => z_goti1 C (z_runV C (c_X5_due l G q P hp S X j2 hi_j2) (cwV 0 C.hts gX9_tell_X5_due rfl rfl rfl (by decide +kernel) ⟨Nat.le_of_ble_eq_true rfl, Nat.le_of_ble_eq_true rfl⟩) (18 + j2) (xw_pot hi_j2) (show vwCl[P.2.2.1 j2]? = some (RX5, TX5, 7) by rw [h5]; rfl) rfl rfl (Nat.le_of_ble_eq_true rfl) dX9_tell_44 ⟨Nat.le_of_ble_eq_true rfl, Nat.le_of_ble_eq_true rfl⟩) rfl rfl kk)
            (fun h5 kk => z_goti1 C (z_runU C (c_X5_due l G q P hp S X j2 hi_j2) (va_cwU 0 C.hts gX9_tell_X5_due_u154X6 rfl rfl rfl rfl (by decide +kernel) ⟨Nat.le_of_ble_eq_true rfl, Nat.le_of_ble_eq_true rfl⟩) (18 + j2) (xw_pot hi_j2) (show vwCl[P.2.2.1 j2]? = some (RX6, TX6, 7) by rw [h5]; rfl) rfl rfl (Nat.le_of_ble_eq_true rfl) dX9_tell_44 ⟨Nat.le_of_ble_eq_true rfl, Nat.le_of_ble_eq_true rfl⟩) rfl rfl kk)
            (fun h5 kk => z_goti1 C (z_runU C (c_X5_due l G q P hp S X j2 hi_j2) (va_cwU 0 C.hts gX9_tell_X5_due_u154X7 rfl rfl rfl rfl (by decide +kernel) ⟨Nat.le_of_ble_eq_true rfl, Nat.le_of_ble_eq_true rfl⟩) (18 + j2) (xw_pot hi_j2) (show vwCl[P.2.2.1 j2]? = some (RX7, TX7, 7) by rw [h5]; rfl) rfl rfl (Nat.le_of_ble_eq_true rfl) dX9_tell_44 ⟨Nat.le_of_ble_eq_true rfl, Nat.le_of_ble_eq_true rfl⟩) rfl rfl kk)
            ?_
          refine z_aload_n C 1 dX9_tell_47 rfl rfl ?_
          refine xg_T9 C hi9 (List.mem_of_getElem? (i := 2) rfl) dX9_tell_48 ?_
          refine z_isub C dX9_tell_51 ?_
          refine z_aload_n C 0 dX9_tell_52 rfl rfl ?_
          refine z5 (hp.1 j2 hi_j2)
            (fun h5 kk => z_goti1 C (z_runU C (k_X0_keeps l G q P hp S X j2 hi_j2 h5) (va_cwO 0 C.hts gX9_tell_X0_keeps_u145X0 rfl rfl rfl (h0 := (List.mem_of_getElem? (i := 47) rfl)) (by decide +kernel) ⟨Nat.le_of_ble_eq_true rfl, Nat.le_of_ble_eq_true rfl⟩) (18 + j2) (xw_pot hi_j2) (show vwCl[P.2.2.1 j2]? = some (RX0, TX0, 7) by rw [h5]; rfl) rfl rfl (Nat.le_of_ble_eq_true rfl) dX9_tell_53 ⟨Nat.le_of_ble_eq_true rfl, Nat.le_of_ble_eq_true rfl⟩) rfl rfl kk)
            (fun h5 kk => z_goti1 C (z_runU C (k_X2_keeps l G q P hp S X j2 hi_j2 h5) (va_cwO 0 C.hts gX9_tell_X2_keeps_u145X2 rfl rfl rfl (h0 := (List.mem_of_getElem? (i := 47) rfl)) (by decide +kernel) ⟨Nat.le_of_ble_eq_true rfl, Nat.le_of_ble_eq_true rfl⟩) (18 + j2) (xw_pot hi_j2) (show vwCl[P.2.2.1 j2]? = some (RX2, TX2, 7) by rw [h5]; rfl) rfl rfl (Nat.le_of_ble_eq_true rfl) dX9_tell_53 ⟨Nat.le_of_ble_eq_true rfl, Nat.le_of_ble_eq_true rfl⟩) rfl rfl kk)
            (fun h5 kk => z_goti1 C (z_runV C (k_X5_keeps l G q P hp S X j2 hi_j2 h5) (cwV 0 C.hts gX9_tell_X5_keeps rfl rfl rfl (by decide +kernel) ⟨Nat.le_of_ble_eq_true rfl, Nat.le_of_ble_eq_true rfl⟩) (18 + j2) (xw_pot hi_j2) (show vwCl[P.2.2.1 j2]? = some (RX5, TX5, 7) by rw [h5]; rfl) rfl rfl (Nat.le_of_ble_eq_true rfl) dX9_tell_53 ⟨Nat.le_of_ble_eq_true rfl, Nat.le_of_ble_eq_true rfl⟩) rfl rfl kk)
            (fun h5 kk => z_goti1 C (z_runU C (k_X6_keeps l G q P hp S X j2 hi_j2 h5) (va_cwO 0 C.hts gX9_tell_X6_keeps_u145X6 rfl rfl rfl (h0 := (List.mem_of_getElem? (i := 47) rfl)) (by decide +kernel) ⟨Nat.le_of_ble_eq_true rfl, Nat.le_of_ble_eq_true rfl⟩) (18 + j2) (xw_pot hi_j2) (show vwCl[P.2.2.1 j2]? = some (RX6, TX6, 7) by rw [h5]; rfl) rfl rfl (Nat.le_of_ble_eq_true rfl) dX9_tell_53 ⟨Nat.le_of_ble_eq_true rfl, Nat.le_of_ble_eq_true rfl⟩) rfl rfl kk)
            (fun h5 kk => z_goti1 C (z_runU C (k_X7_keeps l G q P hp S X j2 hi_j2 h5) (va_cwO 0 C.hts gX9_tell_X7_keeps_u145X7 rfl rfl rfl (h0 := (List.mem_of_getElem? (i := 47) rfl)) (by decide +kernel) ⟨Nat.le_of_ble_eq_true rfl, Nat.le_of_ble_eq_true rfl⟩) (18 + j2) (xw_pot hi_j2) (show vwCl[P.2.2.1 j2]? = some (RX7, TX7, 7) by rw [h5]; rfl) rfl rfl (Nat.le_of_ble_eq_true rfl) dX9_tell_53 ⟨Nat.le_of_ble_eq_true rfl, Nat.le_of_ble_eq_true rfl⟩) rfl rfl kk)
            ?_
          refine z_iload_n C 3 dX9_tell_56 rfl rfl ?_
          obtain ⟨r7, hf6, h⟩ := bd_some h
          refine z_goti1 C (z_runV C (c_X8_add l G q P S X ((f_X5_due P S j2) - (xI S 9)) (kp (P.2.2.1 j2)) a2 hf6) (cwV 3 C.hts gX9_tell_X8_add rfl rfl rfl (by decide +kernel) ⟨Nat.le_of_ble_eq_true rfl, Nat.le_of_ble_eq_true rfl⟩) 4 rfl rfl rfl rfl (Nat.le_of_ble_eq_true rfl) dX9_tell_57 ⟨Nat.le_of_ble_eq_true rfl, Nat.le_of_ble_eq_true rfl⟩) rfl rfl ?_
          refine z_if_eq (tgt := 73) C dX9_tell_60 (by decide) (fun c8 => ?_) (fun c8 => ?_)
          · replace h := zt c8 h
            refine z_bipush (v := (-104)) C dX9_tell_73 (by decide) ?_
            injection h with h
            subst h
            exact z_iret C rfl ⟨rfl, rfl⟩ dX9_tell_75
          · replace h := zf c8 h
            refine z_aload_n C 1 dX9_tell_63 rfl rfl ?_
            refine xg_T2 C hi9 (List.mem_of_getElem? (i := 1) rfl) dX9_tell_64 ?_
            refine xg_D3 C hi8 (List.mem_of_getElem? (i := 3) rfl) dX9_tell_67 ?_
            refine z_goto (tgt := 75) C dX9_tell_70 (by decide) ?_
            injection h with h
            subst h
            exact z_iret C rfl ⟨rfl, rfl⟩ dX9_tell_75
        · replace h := zt c5 h
          refine z_bipush (v := (-103)) C dX9_tell_36 (by decide) ?_
          injection h with h
          subst h
          exact z_iret C rfl ⟨rfl, rfl⟩ dX9_tell_38
      · replace h := zf c4 h
        refine z_bipush (v := (-102)) C dX9_tell_26 (by decide) ?_
        injection h with h
        subst h
        exact z_iret C rfl ⟨rfl, rfl⟩ dX9_tell_28
def f_X9_forget (P : XP) (S : XS) : Int32 × XS := ((xI S 21), xsI S 21 0)
set_option maxHeartbeats 4000000 in
set_option maxRecDepth 100000 in
theorem c_X9_forget (l : Launch) (G : zGT) (q : Nat → Nat) (P : XP) (hp : xOK P) (S : XS) (X : va_W) : MG l yX9_forget wsX9_forget ({ frames := 0, cells := 0, slots := 0, locals := 0 }) G [.ref (q 0)] (XW G q P S ++ X) (va_Qi (fun r u => r = (f_X9_forget P S).1 ∧ u = XW G q P ((f_X9_forget P S).2) ++ X)) := by
  have hi8 : ∀ w ∈ u_ws RX8 TX8 4, w ∈ wsX9_forget := fun _ h => List.mem_cons_of_mem _ (List.mem_append_right _ h)
  have hi9 : ∀ w ∈ u_ws RX9 TX9 18, w ∈ wsX9_forget := fun _ h => List.mem_cons_of_mem _ (List.mem_append_left _ (List.mem_append_right _ h))
  refine MG.of (cc := cX9_forget) (maxL := 2) (ret := (some .int)) (own := RX9) (nm := "forget") (by decide) rfl rfl rfl (Nat.le_of_ble_eq_true rfl) ?_
  intro p e s m args below meth c A C
  obtain ⟨res, h⟩ : ∃ z, f_X9_forget P S = z := ⟨_, rfl⟩
  rw [h]
  rw [f_X9_forget] at h
  refine z_eq (lv2 := [(0, .ref (q 0))]) rfl rfl rfl rfl ?_
  refine z_aload_n C 0 dX9_forget_0 rfl rfl ?_
  refine xg_T2 C hi9 (List.mem_of_getElem? (i := 1) rfl) dX9_forget_1 ?_
  refine xg_D3 C hi8 (List.mem_of_getElem? (i := 2) rfl) dX9_forget_4 ?_
  refine z_istore_n (lv2 := [(1, .int (xI S 21)), (0, .ref (q 0))]) C dX9_forget_7 rfl (by decide) rfl ?_
  refine z_aload_n C 1 dX9_forget_8 rfl rfl ?_
  refine xg_T2 C hi9 (List.mem_of_getElem? (i := 1) rfl) dX9_forget_9 ?_
  refine z_iconst (v := 0) C dX9_forget_12 (by decide) ?_
  refine xp_D3 C hi8 (List.mem_of_getElem? (i := 2) rfl) dX9_forget_13 ?_
  refine z_iload_n C 0 dX9_forget_16 rfl rfl ?_
  subst h
  exact z_iret C rfl ⟨rfl, rfl⟩ dX9_forget_17
