def f_X8_add (P : XP) (S : XS) (a1 : Int32) (a2 : Int32) (a3 : Int32) : Option (Int32 × XS) := if (xI S 21) < 0 then some (0, S) else if (xI S 21) < 6 then gd (xI S 21) 6 (gd (xI (xsA S 5 (xI S 21).toNatClampNeg a1) 21) 6 (gd (xI (xsA (xsA S 5 (xI S 21).toNatClampNeg a1) 6 (xI (xsA S 5 (xI S 21).toNatClampNeg a1) 21).toNatClampNeg a2) 21) 6 (some (1, xsI (xsA (xsA (xsA S 5 (xI S 21).toNatClampNeg a1) 6 (xI (xsA S 5 (xI S 21).toNatClampNeg a1) 21).toNatClampNeg a2) 7 (xI (xsA (xsA S 5 (xI S 21).toNatClampNeg a1) 6 (xI (xsA S 5 (xI S 21).toNatClampNeg a1) 21).toNatClampNeg a2) 21).toNatClampNeg a3) 21 ((xI (xsA (xsA (xsA S 5 (xI S 21).toNatClampNeg a1) 6 (xI (xsA S 5 (xI S 21).toNatClampNeg a1) 21).toNatClampNeg a2) 7 (xI (xsA (xsA S 5 (xI S 21).toNatClampNeg a1) 6 (xI (xsA S 5 (xI S 21).toNatClampNeg a1) 21).toNatClampNeg a2) 21).toNatClampNeg a3) 21) + 1))))) else some (0, S)
set_option maxHeartbeats 4000000 in
set_option maxRecDepth 100000 in
theorem c_X8_add (l : Launch) (G : zGT) (q : Nat → Nat) (P : XP) (S : XS) (X : va_W) (a1 : Int32) (a2 : Int32) (a3 : Int32) {res : Int32 × XS} (h : f_X8_add P S a1 a2 a3 = some res) : MG l yX8_add wsX8_add ({ frames := 0, cells := 0, slots := 0, locals := 0 }) G [.ref (q 4), .int a1, .int a2, .int a3] (XW G q P S ++ X) (va_Qi (fun r u => r = res.1 ∧ u = XW G q P res.2 ++ X)) := by
  have hi8 : ∀ w ∈ u_ws RX8 TX8 4, w ∈ wsX8_add := fun _ h => List.mem_cons_of_mem _ (List.mem_append_right _ h)
  refine MG.of (cc := cX8_add) (maxL := 4) (ret := (some .boolean)) (own := RX8) (nm := "add") (by decide) rfl rfl rfl (Nat.le_of_ble_eq_true rfl) ?_
  intro p e s m args below meth c A C
  rw [f_X8_add] at h
  refine z_eq (lv2 := [(0, .ref (q 4)), (1, .int a1), (2, .int a2), (3, .int a3)]) rfl rfl rfl rfl ?_
  refine z_aload_n C 0 dX8_add_0 rfl rfl ?_
  refine xg_D3 C hi8 (List.mem_of_getElem? (i := 1) rfl) dX8_add_1 ?_
  refine z_if_lt (tgt := 16) C dX8_add_4 (by decide) (fun c1 => ?_) (fun c1 => ?_)
  · replace h := zt c1 h
    refine z_iconst (v := 0) C dX8_add_16 (by decide) ?_
    injection h with h
    subst h
    exact z_zret C rfl (Or.inl rfl) ⟨rfl, rfl⟩ dX8_add_17
  · replace h := zf c1 h
    refine z_aload_n C 0 dX8_add_7 rfl rfl ?_
    refine xg_D3 C hi8 (List.mem_of_getElem? (i := 1) rfl) dX8_add_8 ?_
    refine z_bipush (v := 6) C dX8_add_11 (by decide) ?_
    refine z_icmp_lt (tgt := 18) C dX8_add_13 (by decide) (fun c2 => ?_) (fun c2 => ?_)
    · replace h := zt c2 h
      refine z_aload_n C 0 dX8_add_18 rfl rfl ?_
      refine xg_D0 C hi8 (List.mem_of_getElem? (i := 2) rfl) dX8_add_19 ?_
      refine z_aload_n C 0 dX8_add_22 rfl rfl ?_
      refine xg_D3 C hi8 (List.mem_of_getElem? (i := 1) rfl) dX8_add_23 ?_
      refine z_iload_n C 1 dX8_add_26 rfl rfl ?_
      obtain ⟨hg3, h⟩ := gd_some h
      refine xt_5 C hg3 dX8_add_27 ?_
      refine z_aload_n C 0 dX8_add_28 rfl rfl ?_
      refine xg_D1 C hi8 (List.mem_of_getElem? (i := 3) rfl) dX8_add_29 ?_
      refine z_aload_n C 0 dX8_add_32 rfl rfl ?_
      refine xg_D3 C hi8 (List.mem_of_getElem? (i := 1) rfl) dX8_add_33 ?_
      refine z_iload_n C 2 dX8_add_36 rfl rfl ?_
      obtain ⟨hg4, h⟩ := gd_some h
      refine xt_6 C hg4 dX8_add_37 ?_
      refine z_aload_n C 0 dX8_add_38 rfl rfl ?_
      refine xg_D2 C hi8 (List.mem_of_getElem? (i := 4) rfl) dX8_add_39 ?_
      refine z_aload_n C 0 dX8_add_42 rfl rfl ?_
      refine xg_D3 C hi8 (List.mem_of_getElem? (i := 1) rfl) dX8_add_43 ?_
      refine z_iload_n C 3 dX8_add_46 rfl rfl ?_
      obtain ⟨hg5, h⟩ := gd_some h
      refine xt_7 C hg5 dX8_add_47 ?_
      refine z_aload_n C 0 dX8_add_48 rfl rfl ?_
      refine z_dup C dX8_add_49 rfl ?_
      refine xg_D3 C hi8 (List.mem_of_getElem? (i := 1) rfl) dX8_add_50 ?_
      refine z_iconst (v := 1) C dX8_add_53 (by decide) ?_
      refine z_iadd C dX8_add_54 ?_
      refine xp_D3 C hi8 (List.mem_of_getElem? (i := 1) rfl) dX8_add_55 ?_
      refine z_iconst (v := 1) C dX8_add_58 (by decide) ?_
      injection h with h
      subst h
      exact z_zret C rfl (Or.inr rfl) ⟨rfl, rfl⟩ dX8_add_59
    · replace h := zf c2 h
      refine z_iconst (v := 0) C dX8_add_16 (by decide) ?_
      injection h with h
      subst h
      exact z_zret C rfl (Or.inl rfl) ⟨rfl, rfl⟩ dX8_add_17
def f_X8_fits_L2 (fu : Nat) (P : XP) (v1 : Int32) : Nat → Int32 → XS → Option (Int32)
  | 0, _, _ => none
  | n + 1, v2, S => if (xI S 21) ≤ v2 then some 1 else if 6 ≤ v2 then some 1 else gd v2 6 (gd v2 6 (gd v2 6 (if (f_X9_outBy (v1 - (xA S 5 v2.toNatClampNeg)) (xA S 6 v2.toNatClampNeg)) = (xA S 7 v2.toNatClampNeg) then f_X8_fits_L2 fu P v1 n (v2 + 1) S else some 0)))
def f_X8_fits (fu : Nat) (P : XP) (S : XS) (a1 : Int32) : Option (Int32) := f_X8_fits_L2 fu P a1 fu 0 S
set_option maxHeartbeats 4000000 in
set_option maxRecDepth 100000 in
theorem L_X8_fits_2 {p : Program} {l : Launch} {e : Env} {s : State} {m : MethodId} {args : Array Value} {below : List Frame} {meth : Method} {c : Code} {A : Nat → Prop} {G : zGT} {q : Nat → Nat} {P : XP} {X : va_W} {fu : Nat} (C : zC p s m args meth c A G cX8_fits 3 (some .boolean) RX8 "fits" wsX8_fits) (v1 : Int32) : ∀ (n : Nat) (v2 : Int32) (S : XS) {res : Int32}, f_X8_fits_L2 fu P v1 n v2 S = some res → Z p l e ({ frames := 1, cells := 0, slots := 0, locals := 21 }) s m args below meth c A G 3 (MQ below (va_Qi (fun r u => r = res ∧ u = XW G q P S ++ X) (zPost G A) A) args s 0 0 A) 0 0 (XW G q P S ++ X) [(0, .ref (q 4)), (1, .int v1), (2, .int v2)] 2 [] := by
  have hi8 : ∀ w ∈ u_ws RX8 TX8 4, w ∈ wsX8_fits := fun _ h => List.mem_cons_of_mem _ (List.mem_append_right _ h)
  intro n
  induction n with
  | zero =>
    intro v2 S res h
    exact nomatch (h : none = some _)
  | succ n ih =>
    intro v2 S res h
    rw [f_X8_fits_L2] at h
    refine z_iload_n C 2 dX8_fits_2 rfl rfl ?_
    refine z_aload_n C 0 dX8_fits_3 rfl rfl ?_
    refine xg_D3 C hi8 (List.mem_of_getElem? (i := 1) rfl) dX8_fits_4 ?_
    refine z_icmp_ge (tgt := 50) C dX8_fits_7 (by decide) (fun c1 => ?_) (fun c1 => ?_)
    · replace h := zt c1 h
      refine z_iconst (v := 1) C dX8_fits_50 (by decide) ?_
      injection h with h
      subst h
      exact z_zret C rfl (Or.inr rfl) ⟨rfl, rfl⟩ dX8_fits_51
    · replace h := zf c1 h
      refine z_iload_n C 2 dX8_fits_10 rfl rfl ?_
      refine z_bipush (v := 6) C dX8_fits_11 (by decide) ?_
      refine z_icmp_ge (tgt := 50) C dX8_fits_13 (by decide) (fun c2 => ?_) (fun c2 => ?_)
      · replace h := zt c2 h
        refine z_iconst (v := 1) C dX8_fits_50 (by decide) ?_
        injection h with h
        subst h
        exact z_zret C rfl (Or.inr rfl) ⟨rfl, rfl⟩ dX8_fits_51
      · replace h := zf c2 h
        refine z_iload_n C 1 dX8_fits_16 rfl rfl ?_
        refine z_aload_n C 0 dX8_fits_17 rfl rfl ?_
        refine xg_D0 C hi8 (List.mem_of_getElem? (i := 2) rfl) dX8_fits_18 ?_
        refine z_iload_n C 2 dX8_fits_21 rfl rfl ?_
        obtain ⟨hg3, h⟩ := gd_some h
        refine xl_5 C hg3 dX8_fits_22 ?_
        refine z_isub C dX8_fits_23 ?_
        refine z_aload_n C 0 dX8_fits_24 rfl rfl ?_
        refine xg_D1 C hi8 (List.mem_of_getElem? (i := 3) rfl) dX8_fits_25 ?_
        refine z_iload_n C 2 dX8_fits_28 rfl rfl ?_
        obtain ⟨hg4, h⟩ := gd_some h
        refine xl_6 C hg4 dX8_fits_29 ?_
        refine z_goti1 C (z_runSN (host := "OneTimer") C (c_X9_outBy l G (XW G q P S ++ X) (v1 - (xA S 5 v2.toNatClampNeg)) (xA S 6 v2.toNatClampNeg)) ⟨va_cnB 2 C.hts gX8_fits_X9_outBy_n23 rfl rfl rfl (C.hG.2.1 _ (List.mem_of_getElem? (i := 5) rfl)) (C.hts _ (List.mem_of_getElem? (i := 6) rfl)) (by decide +kernel) ⟨Nat.le_of_ble_eq_true rfl, Nat.le_of_ble_eq_true rfl⟩, C.hts _ (List.mem_of_getElem? (i := 5) rfl), trivial⟩ rfl rfl (Nat.le_of_ble_eq_true rfl) dX8_fits_30 ⟨Nat.le_of_ble_eq_true rfl, Nat.le_of_ble_eq_true rfl⟩) rfl rfl ?_
        refine z_aload_n C 0 dX8_fits_33 rfl rfl ?_
        refine xg_D2 C hi8 (List.mem_of_getElem? (i := 4) rfl) dX8_fits_34 ?_
        refine z_iload_n C 2 dX8_fits_37 rfl rfl ?_
        obtain ⟨hg5, h⟩ := gd_some h
        refine xl_7 C hg5 dX8_fits_38 ?_
        refine z_icmp_eq (tgt := 44) C dX8_fits_39 (by decide) (fun c6 => ?_) (fun c6 => ?_)
        · replace h := zt c6 h
          refine z_iinc (v := (v2 + 1)) (lv2 := [(2, .int (v2 + 1)), (0, .ref (q 4)), (1, .int v1)]) C 2 dX8_fits_44 rfl rfl (by decide) rfl ?_
          refine z_goto (tgt := 2) C dX8_fits_47 (by decide) ?_
          refine z_lv (lv2 := [(0, .ref (q 4)), (1, .int v1), (2, .int (v2 + 1))]) [1, 2, 0] rfl ?_
          exact ih (v2 + 1) S h
        · replace h := zf c6 h
          refine z_iconst (v := 0) C dX8_fits_42 (by decide) ?_
          injection h with h
          subst h
          exact z_zret C rfl (Or.inl rfl) ⟨rfl, rfl⟩ dX8_fits_43
set_option maxHeartbeats 4000000 in
set_option maxRecDepth 100000 in
theorem c_X8_fits (l : Launch) (G : zGT) (q : Nat → Nat) (P : XP) (S : XS) (X : va_W) (fu : Nat) (a1 : Int32) {res : Int32} (h : f_X8_fits fu P S a1 = some res) : MG l yX8_fits wsX8_fits ({ frames := 1, cells := 0, slots := 0, locals := 21 }) G [.ref (q 4), .int a1] (XW G q P S ++ X) (va_Qi (fun r u => r = res ∧ u = XW G q P S ++ X)) := by
  have hi8 : ∀ w ∈ u_ws RX8 TX8 4, w ∈ wsX8_fits := fun _ h => List.mem_cons_of_mem _ (List.mem_append_right _ h)
  refine MG.of (cc := cX8_fits) (maxL := 3) (ret := (some .boolean)) (own := RX8) (nm := "fits") (by decide) rfl rfl rfl (Nat.le_of_ble_eq_true rfl) ?_
  intro p e s m args below meth c A C
  rw [f_X8_fits] at h
  refine z_eq (lv2 := [(0, .ref (q 4)), (1, .int a1)]) rfl rfl rfl rfl ?_
  refine z_iconst (v := 0) C dX8_fits_0 (by decide) ?_
  refine z_istore_n (lv2 := [(2, .int 0), (0, .ref (q 4)), (1, .int a1)]) C dX8_fits_1 rfl (by decide) rfl ?_
  refine z_lv (lv2 := [(0, .ref (q 4)), (1, .int a1), (2, .int 0)]) [1, 2, 0] rfl ?_
  exact L_X8_fits_2 C a1 fu 0 S h
def f_X8_copyFrom_DK_L2 (fu : Nat) (P : XP)  : Nat → Int32 → XS → Option (Int32 × XS)
  | 0, _, _ => none
  | n + 1, v2, S => if 6 ≤ v2 then some (v2, S) else gd v2 6 (gd v2 6 (gd v2 6 (gd v2 6 (gd v2 6 (gd v2 6 (f_X8_copyFrom_DK_L2 fu P n (v2 + 1) (xsA (xsA (xsA S 5 v2.toNatClampNeg (xA S 9 v2.toNatClampNeg)) 6 v2.toNatClampNeg (xA (xsA S 5 v2.toNatClampNeg (xA S 9 v2.toNatClampNeg)) 10 v2.toNatClampNeg)) 7 v2.toNatClampNeg (xA (xsA (xsA S 5 v2.toNatClampNeg (xA S 9 v2.toNatClampNeg)) 6 v2.toNatClampNeg (xA (xsA S 5 v2.toNatClampNeg (xA S 9 v2.toNatClampNeg)) 10 v2.toNatClampNeg)) 11 v2.toNatClampNeg))))))))
def f_X8_copyFrom_DK (fu : Nat) (P : XP) (S : XS) : Option (XS) := (f_X8_copyFrom_DK_L2 fu P fu 0 S).bind fun r8 => some (xsI r8.2 21 (xI r8.2 22))
set_option maxHeartbeats 4000000 in
set_option maxRecDepth 100000 in
theorem L_X8_copyFrom_DK_2 {p : Program} {l : Launch} {e : Env} {s : State} {m : MethodId} {args : Array Value} {below : List Frame} {meth : Method} {c : Code} {A : Nat → Prop} {G : zGT} {q : Nat → Nat} {P : XP} {X : va_W} {fu : Nat} {Q : State → Prop} (C : zC p s m args meth c A G cX8_copyFrom 3 none RX8 "copyFrom" wsX8_copyFrom) : ∀ (n : Nat) (v2 : Int32) (S : XS) {res : Int32 × XS}, f_X8_copyFrom_DK_L2 fu P n v2 S = some res → Z p l e ({ frames := 0, cells := 0, slots := 0, locals := 0 }) s m args below meth c A G 3 Q 0 0 (XW G q P res.2 ++ X) [(0, .ref (q 4)), (1, .ref (q 8)), (2, .int res.1)] 50 [] → Z p l e ({ frames := 0, cells := 0, slots := 0, locals := 0 }) s m args below meth c A G 3 Q 0 0 (XW G q P S ++ X) [(0, .ref (q 4)), (1, .ref (q 8)), (2, .int v2)] 2 [] := by
  have hi8 : ∀ w ∈ u_ws RX8 TX8 4, w ∈ wsX8_copyFrom := fun _ h => List.mem_cons_of_mem _ (List.mem_append_right _ h)
  intro n
  induction n with
  | zero =>
    intro v2 S res h kk
    exact nomatch (h : none = some _)
  | succ n ih =>
    intro v2 S res h kk
    rw [f_X8_copyFrom_DK_L2] at h
    refine z_iload_n C 2 dX8_copyFrom_2 rfl rfl ?_
    refine z_bipush (v := 6) C dX8_copyFrom_3 (by decide) ?_
    refine z_icmp_ge (tgt := 50) C dX8_copyFrom_5 (by decide) (fun c1 => ?_) (fun c1 => ?_)
    · replace h := zt c1 h
      injection h with h
      subst h
      refine z_lv (lv2 := [(0, .ref (q 4)), (1, .ref (q 8)), (2, .int v2)]) [0, 1, 2] rfl ?_
      exact kk
    · replace h := zf c1 h
      refine z_aload_n C 0 dX8_copyFrom_8 rfl rfl ?_
      refine xg_D0 C hi8 (List.mem_of_getElem? (i := 1) rfl) dX8_copyFrom_9 ?_
      refine z_iload_n C 2 dX8_copyFrom_12 rfl rfl ?_
      refine z_aload_n C 1 dX8_copyFrom_13 rfl rfl ?_
      refine xg_K0 C hi8 (List.mem_of_getElem? (i := 1) rfl) dX8_copyFrom_14 ?_
      refine z_iload_n C 2 dX8_copyFrom_17 rfl rfl ?_
      obtain ⟨hg2, h⟩ := gd_some h
      refine xl_9 C hg2 dX8_copyFrom_18 ?_
      obtain ⟨hg3, h⟩ := gd_some h
      refine xt_5 C hg3 dX8_copyFrom_19 ?_
      refine z_aload_n C 0 dX8_copyFrom_20 rfl rfl ?_
      refine xg_D1 C hi8 (List.mem_of_getElem? (i := 2) rfl) dX8_copyFrom_21 ?_
      refine z_iload_n C 2 dX8_copyFrom_24 rfl rfl ?_
      refine z_aload_n C 1 dX8_copyFrom_25 rfl rfl ?_
      refine xg_K1 C hi8 (List.mem_of_getElem? (i := 2) rfl) dX8_copyFrom_26 ?_
      refine z_iload_n C 2 dX8_copyFrom_29 rfl rfl ?_
      obtain ⟨hg4, h⟩ := gd_some h
      refine xl_10 C hg4 dX8_copyFrom_30 ?_
      obtain ⟨hg5, h⟩ := gd_some h
      refine xt_6 C hg5 dX8_copyFrom_31 ?_
      refine z_aload_n C 0 dX8_copyFrom_32 rfl rfl ?_
      refine xg_D2 C hi8 (List.mem_of_getElem? (i := 3) rfl) dX8_copyFrom_33 ?_
      refine z_iload_n C 2 dX8_copyFrom_36 rfl rfl ?_
      refine z_aload_n C 1 dX8_copyFrom_37 rfl rfl ?_
      refine xg_K2 C hi8 (List.mem_of_getElem? (i := 3) rfl) dX8_copyFrom_38 ?_
      refine z_iload_n C 2 dX8_copyFrom_41 rfl rfl ?_
      obtain ⟨hg6, h⟩ := gd_some h
      refine xl_11 C hg6 dX8_copyFrom_42 ?_
      obtain ⟨hg7, h⟩ := gd_some h
      refine xt_7 C hg7 dX8_copyFrom_43 ?_
      refine z_iinc (v := (v2 + 1)) (lv2 := [(2, .int (v2 + 1)), (0, .ref (q 4)), (1, .ref (q 8))]) C 2 dX8_copyFrom_44 rfl rfl (by decide) rfl ?_
      refine z_goto (tgt := 2) C dX8_copyFrom_47 (by decide) ?_
      refine z_lv (lv2 := [(0, .ref (q 4)), (1, .ref (q 8)), (2, .int (v2 + 1))]) [1, 2, 0] rfl ?_
      exact ih (v2 + 1) (xsA (xsA (xsA S 5 v2.toNatClampNeg (xA S 9 v2.toNatClampNeg)) 6 v2.toNatClampNeg (xA (xsA S 5 v2.toNatClampNeg (xA S 9 v2.toNatClampNeg)) 10 v2.toNatClampNeg)) 7 v2.toNatClampNeg (xA (xsA (xsA S 5 v2.toNatClampNeg (xA S 9 v2.toNatClampNeg)) 6 v2.toNatClampNeg (xA (xsA S 5 v2.toNatClampNeg (xA S 9 v2.toNatClampNeg)) 10 v2.toNatClampNeg)) 11 v2.toNatClampNeg)) h kk
set_option maxHeartbeats 4000000 in
set_option maxRecDepth 100000 in
theorem c_X8_copyFrom_DK (l : Launch) (G : zGT) (q : Nat → Nat) (P : XP) (S : XS) (X : va_W) (fu : Nat) {res : XS} (h : f_X8_copyFrom_DK fu P S = some res) : MG l yX8_copyFrom wsX8_copyFrom ({ frames := 0, cells := 0, slots := 0, locals := 0 }) G [.ref (q 4), .ref (q 8)] (XW G q P S ++ X) (va_Qv (fun u => u = XW G q P res ++ X)) := by
  have hi8 : ∀ w ∈ u_ws RX8 TX8 4, w ∈ wsX8_copyFrom := fun _ h => List.mem_cons_of_mem _ (List.mem_append_right _ h)
  refine MG.of (cc := cX8_copyFrom) (maxL := 3) (ret := none) (own := RX8) (nm := "copyFrom") (by decide) rfl rfl rfl (Nat.le_of_ble_eq_true rfl) ?_
  intro p e s m args below meth c A C
  rw [f_X8_copyFrom_DK] at h
  refine z_eq (lv2 := [(0, .ref (q 4)), (1, .ref (q 8))]) rfl rfl rfl rfl ?_
  refine z_iconst (v := 0) C dX8_copyFrom_0 (by decide) ?_
  refine z_istore_n (lv2 := [(2, .int 0), (0, .ref (q 4)), (1, .ref (q 8))]) C dX8_copyFrom_1 rfl (by decide) rfl ?_
  refine z_lv (lv2 := [(0, .ref (q 4)), (1, .ref (q 8)), (2, .int 0)]) [1, 2, 0] rfl ?_
  obtain ⟨r8, hf9, h⟩ := bd_some h
  refine L_X8_copyFrom_DK_2 C  fu 0 S hf9 ?_
  refine z_aload_n C 0 dX8_copyFrom_50 rfl rfl ?_
  refine z_aload_n C 1 dX8_copyFrom_51 rfl rfl ?_
  refine xg_K3 C hi8 (List.mem_of_getElem? (i := 4) rfl) dX8_copyFrom_52 ?_
  refine xp_D3 C hi8 (List.mem_of_getElem? (i := 4) rfl) dX8_copyFrom_55 ?_
  injection h with h
  subst h
  exact z_ret C rfl rfl dX8_copyFrom_58
def f_X8_copyFrom_KD_L2 (fu : Nat) (P : XP)  : Nat → Int32 → XS → Option (Int32 × XS)
  | 0, _, _ => none
  | n + 1, v2, S => if 6 ≤ v2 then some (v2, S) else gd v2 6 (gd v2 6 (gd v2 6 (gd v2 6 (gd v2 6 (gd v2 6 (f_X8_copyFrom_KD_L2 fu P n (v2 + 1) (xsA (xsA (xsA S 9 v2.toNatClampNeg (xA S 5 v2.toNatClampNeg)) 10 v2.toNatClampNeg (xA (xsA S 9 v2.toNatClampNeg (xA S 5 v2.toNatClampNeg)) 6 v2.toNatClampNeg)) 11 v2.toNatClampNeg (xA (xsA (xsA S 9 v2.toNatClampNeg (xA S 5 v2.toNatClampNeg)) 10 v2.toNatClampNeg (xA (xsA S 9 v2.toNatClampNeg (xA S 5 v2.toNatClampNeg)) 6 v2.toNatClampNeg)) 7 v2.toNatClampNeg))))))))
def f_X8_copyFrom_KD (fu : Nat) (P : XP) (S : XS) : Option (XS) := (f_X8_copyFrom_KD_L2 fu P fu 0 S).bind fun r8 => some (xsI r8.2 22 (xI r8.2 21))
set_option maxHeartbeats 4000000 in
set_option maxRecDepth 100000 in
theorem L_X8_copyFrom_KD_2 {p : Program} {l : Launch} {e : Env} {s : State} {m : MethodId} {args : Array Value} {below : List Frame} {meth : Method} {c : Code} {A : Nat → Prop} {G : zGT} {q : Nat → Nat} {P : XP} {X : va_W} {fu : Nat} {Q : State → Prop} (C : zC p s m args meth c A G cX8_copyFrom 3 none RX8 "copyFrom" wsX8_copyFrom) : ∀ (n : Nat) (v2 : Int32) (S : XS) {res : Int32 × XS}, f_X8_copyFrom_KD_L2 fu P n v2 S = some res → Z p l e ({ frames := 0, cells := 0, slots := 0, locals := 0 }) s m args below meth c A G 3 Q 0 0 (XW G q P res.2 ++ X) [(0, .ref (q 8)), (1, .ref (q 4)), (2, .int res.1)] 50 [] → Z p l e ({ frames := 0, cells := 0, slots := 0, locals := 0 }) s m args below meth c A G 3 Q 0 0 (XW G q P S ++ X) [(0, .ref (q 8)), (1, .ref (q 4)), (2, .int v2)] 2 [] := by
  have hi8 : ∀ w ∈ u_ws RX8 TX8 4, w ∈ wsX8_copyFrom := fun _ h => List.mem_cons_of_mem _ (List.mem_append_right _ h)
  intro n
  induction n with
  | zero =>
    intro v2 S res h kk
    exact nomatch (h : none = some _)
  | succ n ih =>
    intro v2 S res h kk
    rw [f_X8_copyFrom_KD_L2] at h
    refine z_iload_n C 2 dX8_copyFrom_2 rfl rfl ?_
    refine z_bipush (v := 6) C dX8_copyFrom_3 (by decide) ?_
    refine z_icmp_ge (tgt := 50) C dX8_copyFrom_5 (by decide) (fun c1 => ?_) (fun c1 => ?_)
    · replace h := zt c1 h
      injection h with h
      subst h
      refine z_lv (lv2 := [(0, .ref (q 8)), (1, .ref (q 4)), (2, .int v2)]) [0, 1, 2] rfl ?_
      exact kk
    · replace h := zf c1 h
      refine z_aload_n C 0 dX8_copyFrom_8 rfl rfl ?_
      refine xg_K0 C hi8 (List.mem_of_getElem? (i := 1) rfl) dX8_copyFrom_9 ?_
      refine z_iload_n C 2 dX8_copyFrom_12 rfl rfl ?_
      refine z_aload_n C 1 dX8_copyFrom_13 rfl rfl ?_
      refine xg_D0 C hi8 (List.mem_of_getElem? (i := 1) rfl) dX8_copyFrom_14 ?_
      refine z_iload_n C 2 dX8_copyFrom_17 rfl rfl ?_
      obtain ⟨hg2, h⟩ := gd_some h
      refine xl_5 C hg2 dX8_copyFrom_18 ?_
      obtain ⟨hg3, h⟩ := gd_some h
      refine xt_9 C hg3 dX8_copyFrom_19 ?_
      refine z_aload_n C 0 dX8_copyFrom_20 rfl rfl ?_
      refine xg_K1 C hi8 (List.mem_of_getElem? (i := 2) rfl) dX8_copyFrom_21 ?_
      refine z_iload_n C 2 dX8_copyFrom_24 rfl rfl ?_
      refine z_aload_n C 1 dX8_copyFrom_25 rfl rfl ?_
      refine xg_D1 C hi8 (List.mem_of_getElem? (i := 2) rfl) dX8_copyFrom_26 ?_
      refine z_iload_n C 2 dX8_copyFrom_29 rfl rfl ?_
      obtain ⟨hg4, h⟩ := gd_some h
      refine xl_6 C hg4 dX8_copyFrom_30 ?_
      obtain ⟨hg5, h⟩ := gd_some h
      refine xt_10 C hg5 dX8_copyFrom_31 ?_
      refine z_aload_n C 0 dX8_copyFrom_32 rfl rfl ?_
      refine xg_K2 C hi8 (List.mem_of_getElem? (i := 3) rfl) dX8_copyFrom_33 ?_
      refine z_iload_n C 2 dX8_copyFrom_36 rfl rfl ?_
      refine z_aload_n C 1 dX8_copyFrom_37 rfl rfl ?_
      refine xg_D2 C hi8 (List.mem_of_getElem? (i := 3) rfl) dX8_copyFrom_38 ?_
      refine z_iload_n C 2 dX8_copyFrom_41 rfl rfl ?_
      obtain ⟨hg6, h⟩ := gd_some h
      refine xl_7 C hg6 dX8_copyFrom_42 ?_
      obtain ⟨hg7, h⟩ := gd_some h
      refine xt_11 C hg7 dX8_copyFrom_43 ?_
      refine z_iinc (v := (v2 + 1)) (lv2 := [(2, .int (v2 + 1)), (0, .ref (q 8)), (1, .ref (q 4))]) C 2 dX8_copyFrom_44 rfl rfl (by decide) rfl ?_
      refine z_goto (tgt := 2) C dX8_copyFrom_47 (by decide) ?_
      refine z_lv (lv2 := [(0, .ref (q 8)), (1, .ref (q 4)), (2, .int (v2 + 1))]) [1, 2, 0] rfl ?_
      exact ih (v2 + 1) (xsA (xsA (xsA S 9 v2.toNatClampNeg (xA S 5 v2.toNatClampNeg)) 10 v2.toNatClampNeg (xA (xsA S 9 v2.toNatClampNeg (xA S 5 v2.toNatClampNeg)) 6 v2.toNatClampNeg)) 11 v2.toNatClampNeg (xA (xsA (xsA S 9 v2.toNatClampNeg (xA S 5 v2.toNatClampNeg)) 10 v2.toNatClampNeg (xA (xsA S 9 v2.toNatClampNeg (xA S 5 v2.toNatClampNeg)) 6 v2.toNatClampNeg)) 7 v2.toNatClampNeg)) h kk
set_option maxHeartbeats 4000000 in
set_option maxRecDepth 100000 in
theorem c_X8_copyFrom_KD (l : Launch) (G : zGT) (q : Nat → Nat) (P : XP) (S : XS) (X : va_W) (fu : Nat) {res : XS} (h : f_X8_copyFrom_KD fu P S = some res) : MG l yX8_copyFrom wsX8_copyFrom ({ frames := 0, cells := 0, slots := 0, locals := 0 }) G [.ref (q 8), .ref (q 4)] (XW G q P S ++ X) (va_Qv (fun u => u = XW G q P res ++ X)) := by
  have hi8 : ∀ w ∈ u_ws RX8 TX8 4, w ∈ wsX8_copyFrom := fun _ h => List.mem_cons_of_mem _ (List.mem_append_right _ h)
  refine MG.of (cc := cX8_copyFrom) (maxL := 3) (ret := none) (own := RX8) (nm := "copyFrom") (by decide) rfl rfl rfl (Nat.le_of_ble_eq_true rfl) ?_
  intro p e s m args below meth c A C
  rw [f_X8_copyFrom_KD] at h
  refine z_eq (lv2 := [(0, .ref (q 8)), (1, .ref (q 4))]) rfl rfl rfl rfl ?_
  refine z_iconst (v := 0) C dX8_copyFrom_0 (by decide) ?_
  refine z_istore_n (lv2 := [(2, .int 0), (0, .ref (q 8)), (1, .ref (q 4))]) C dX8_copyFrom_1 rfl (by decide) rfl ?_
  refine z_lv (lv2 := [(0, .ref (q 8)), (1, .ref (q 4)), (2, .int 0)]) [1, 2, 0] rfl ?_
  obtain ⟨r8, hf9, h⟩ := bd_some h
  refine L_X8_copyFrom_KD_2 C  fu 0 S hf9 ?_
  refine z_aload_n C 0 dX8_copyFrom_50 rfl rfl ?_
  refine z_aload_n C 1 dX8_copyFrom_51 rfl rfl ?_
  refine xg_D3 C hi8 (List.mem_of_getElem? (i := 4) rfl) dX8_copyFrom_52 ?_
  refine xp_K3 C hi8 (List.mem_of_getElem? (i := 4) rfl) dX8_copyFrom_55 ?_
  injection h with h
  subst h
  exact z_ret C rfl rfl dX8_copyFrom_58
def f_X4_begin (P : XP) (S : XS) (a1 : Int32) (a2 : Int32) (a3 : Int32) : XS := xsI (xsI (xsI (xsI (xsI S 24 0) 28 0) 25 a1) 26 a2) 27 a3
set_option maxHeartbeats 4000000 in
set_option maxRecDepth 100000 in
theorem c_X4_begin (l : Launch) (G : zGT) (q : Nat → Nat) (P : XP) (S : XS) (X : va_W) (a1 : Int32) (a2 : Int32) (a3 : Int32) : MG l yX4_begin wsX4_begin ({ frames := 0, cells := 0, slots := 0, locals := 0 }) G [.ref (q 12), .int a1, .int a2, .int a3] (XW G q P S ++ X) (va_Qv (fun u => u = XW G q P (f_X4_begin P S a1 a2 a3) ++ X)) := by
  have hi4 : ∀ w ∈ u_ws RX4 TX4 9, w ∈ wsX4_begin := fun _ h => List.mem_cons_of_mem _ (List.mem_append_right _ h)
  refine MG.of (cc := cX4_begin) (maxL := 4) (ret := none) (own := RX4) (nm := "begin") (by decide) rfl rfl rfl (Nat.le_of_ble_eq_true rfl) ?_
  intro p e s m args below meth c A C
  obtain ⟨res, h⟩ : ∃ z, f_X4_begin P S a1 a2 a3 = z := ⟨_, rfl⟩
  rw [h]
  rw [f_X4_begin] at h
  refine z_eq (lv2 := [(0, .ref (q 12)), (1, .int a1), (2, .int a2), (3, .int a3)]) rfl rfl rfl rfl ?_
  refine z_aload_n C 0 dX4_begin_0 rfl rfl ?_
  refine z_iconst (v := 0) C dX4_begin_1 (by decide) ?_
  refine xp_N4 C hi4 (List.mem_of_getElem? (i := 1) rfl) dX4_begin_2 ?_
  refine z_aload_n C 0 dX4_begin_5 rfl rfl ?_
  refine z_iconst (v := 0) C dX4_begin_6 (by decide) ?_
  refine xp_N8 C hi4 (List.mem_of_getElem? (i := 2) rfl) dX4_begin_7 ?_
  refine z_aload_n C 0 dX4_begin_10 rfl rfl ?_
  refine z_iload_n C 1 dX4_begin_11 rfl rfl ?_
  refine xp_N5 C hi4 (List.mem_of_getElem? (i := 3) rfl) dX4_begin_12 ?_
  refine z_aload_n C 0 dX4_begin_15 rfl rfl ?_
  refine z_iload_n C 2 dX4_begin_16 rfl rfl ?_
  refine xp_N6 C hi4 (List.mem_of_getElem? (i := 4) rfl) dX4_begin_17 ?_
  refine z_aload_n C 0 dX4_begin_20 rfl rfl ?_
  refine z_iload_n C 3 dX4_begin_21 rfl rfl ?_
  refine xp_N7 C hi4 (List.mem_of_getElem? (i := 5) rfl) dX4_begin_22 ?_
  subst h
  exact z_ret C rfl rfl dX4_begin_25
def f_X4_add (P : XP) (S : XS) (a1 : Int32) (a2 : Int32) : Option (XS) := if (xI S 24) < 0 then some S else if (xI S 24) < 4 then gd (xI S 24) 4 (gd (xI (xsA S 15 (xI S 24).toNatClampNeg a1) 24) 4 (gd (xI (xsA (xsA S 15 (xI S 24).toNatClampNeg a1) 16 (xI (xsA S 15 (xI S 24).toNatClampNeg a1) 24).toNatClampNeg (a1 + a2)) 24) 4 (some (xsI (xsI (xsA (xsA S 15 (xI S 24).toNatClampNeg a1) 16 (xI (xsA S 15 (xI S 24).toNatClampNeg a1) 24).toNatClampNeg (a1 + a2)) 28 (if (if (xI (xsA (xsA S 15 (xI S 24).toNatClampNeg a1) 16 (xI (xsA S 15 (xI S 24).toNatClampNeg a1) 24).toNatClampNeg (a1 + a2)) 28) < (xA (xsA (xsA S 15 (xI S 24).toNatClampNeg a1) 16 (xI (xsA S 15 (xI S 24).toNatClampNeg a1) 24).toNatClampNeg (a1 + a2)) 16 (xI (xsA (xsA S 15 (xI S 24).toNatClampNeg a1) 16 (xI (xsA S 15 (xI S 24).toNatClampNeg a1) 24).toNatClampNeg (a1 + a2)) 24).toNatClampNeg) then (xA (xsA (xsA S 15 (xI S 24).toNatClampNeg a1) 16 (xI (xsA S 15 (xI S 24).toNatClampNeg a1) 24).toNatClampNeg (a1 + a2)) 16 (xI (xsA (xsA S 15 (xI S 24).toNatClampNeg a1) 16 (xI (xsA S 15 (xI S 24).toNatClampNeg a1) 24).toNatClampNeg (a1 + a2)) 24).toNatClampNeg) else (xI (xsA (xsA S 15 (xI S 24).toNatClampNeg a1) 16 (xI (xsA S 15 (xI S 24).toNatClampNeg a1) 24).toNatClampNeg (a1 + a2)) 28)) < 120 then (if (xI (xsA (xsA S 15 (xI S 24).toNatClampNeg a1) 16 (xI (xsA S 15 (xI S 24).toNatClampNeg a1) 24).toNatClampNeg (a1 + a2)) 28) < (xA (xsA (xsA S 15 (xI S 24).toNatClampNeg a1) 16 (xI (xsA S 15 (xI S 24).toNatClampNeg a1) 24).toNatClampNeg (a1 + a2)) 16 (xI (xsA (xsA S 15 (xI S 24).toNatClampNeg a1) 16 (xI (xsA S 15 (xI S 24).toNatClampNeg a1) 24).toNatClampNeg (a1 + a2)) 24).toNatClampNeg) then (xA (xsA (xsA S 15 (xI S 24).toNatClampNeg a1) 16 (xI (xsA S 15 (xI S 24).toNatClampNeg a1) 24).toNatClampNeg (a1 + a2)) 16 (xI (xsA (xsA S 15 (xI S 24).toNatClampNeg a1) 16 (xI (xsA S 15 (xI S 24).toNatClampNeg a1) 24).toNatClampNeg (a1 + a2)) 24).toNatClampNeg) else (xI (xsA (xsA S 15 (xI S 24).toNatClampNeg a1) 16 (xI (xsA S 15 (xI S 24).toNatClampNeg a1) 24).toNatClampNeg (a1 + a2)) 28)) else 120)) 24 ((xI (xsI (xsA (xsA S 15 (xI S 24).toNatClampNeg a1) 16 (xI (xsA S 15 (xI S 24).toNatClampNeg a1) 24).toNatClampNeg (a1 + a2)) 28 (if (if (xI (xsA (xsA S 15 (xI S 24).toNatClampNeg a1) 16 (xI (xsA S 15 (xI S 24).toNatClampNeg a1) 24).toNatClampNeg (a1 + a2)) 28) < (xA (xsA (xsA S 15 (xI S 24).toNatClampNeg a1) 16 (xI (xsA S 15 (xI S 24).toNatClampNeg a1) 24).toNatClampNeg (a1 + a2)) 16 (xI (xsA (xsA S 15 (xI S 24).toNatClampNeg a1) 16 (xI (xsA S 15 (xI S 24).toNatClampNeg a1) 24).toNatClampNeg (a1 + a2)) 24).toNatClampNeg) then (xA (xsA (xsA S 15 (xI S 24).toNatClampNeg a1) 16 (xI (xsA S 15 (xI S 24).toNatClampNeg a1) 24).toNatClampNeg (a1 + a2)) 16 (xI (xsA (xsA S 15 (xI S 24).toNatClampNeg a1) 16 (xI (xsA S 15 (xI S 24).toNatClampNeg a1) 24).toNatClampNeg (a1 + a2)) 24).toNatClampNeg) else (xI (xsA (xsA S 15 (xI S 24).toNatClampNeg a1) 16 (xI (xsA S 15 (xI S 24).toNatClampNeg a1) 24).toNatClampNeg (a1 + a2)) 28)) < 120 then (if (xI (xsA (xsA S 15 (xI S 24).toNatClampNeg a1) 16 (xI (xsA S 15 (xI S 24).toNatClampNeg a1) 24).toNatClampNeg (a1 + a2)) 28) < (xA (xsA (xsA S 15 (xI S 24).toNatClampNeg a1) 16 (xI (xsA S 15 (xI S 24).toNatClampNeg a1) 24).toNatClampNeg (a1 + a2)) 16 (xI (xsA (xsA S 15 (xI S 24).toNatClampNeg a1) 16 (xI (xsA S 15 (xI S 24).toNatClampNeg a1) 24).toNatClampNeg (a1 + a2)) 24).toNatClampNeg) then (xA (xsA (xsA S 15 (xI S 24).toNatClampNeg a1) 16 (xI (xsA S 15 (xI S 24).toNatClampNeg a1) 24).toNatClampNeg (a1 + a2)) 16 (xI (xsA (xsA S 15 (xI S 24).toNatClampNeg a1) 16 (xI (xsA S 15 (xI S 24).toNatClampNeg a1) 24).toNatClampNeg (a1 + a2)) 24).toNatClampNeg) else (xI (xsA (xsA S 15 (xI S 24).toNatClampNeg a1) 16 (xI (xsA S 15 (xI S 24).toNatClampNeg a1) 24).toNatClampNeg (a1 + a2)) 28)) else 120)) 24) + 1))))) else some S
set_option maxHeartbeats 4000000 in
set_option maxRecDepth 100000 in
theorem c_X4_add (l : Launch) (G : zGT) (q : Nat → Nat) (P : XP) (S : XS) (X : va_W) (a1 : Int32) (a2 : Int32) {res : XS} (h : f_X4_add P S a1 a2 = some res) : MG l yX4_add wsX4_add ({ frames := 1, cells := 0, slots := 0, locals := 21 }) G [.ref (q 12), .int a1, .int a2] (XW G q P S ++ X) (va_Qv (fun u => u = XW G q P res ++ X)) := by
  have hi4 : ∀ w ∈ u_ws RX4 TX4 9, w ∈ wsX4_add := fun _ h => List.mem_cons_of_mem _ (List.mem_append_right _ h)
  refine MG.of (cc := cX4_add) (maxL := 3) (ret := none) (own := RX4) (nm := "add") (by decide) rfl rfl rfl (Nat.le_of_ble_eq_true rfl) ?_
  intro p e s m args below meth c A C
  rw [f_X4_add] at h
  refine z_eq (lv2 := [(0, .ref (q 12)), (1, .int a1), (2, .int a2)]) rfl rfl rfl rfl ?_
  refine z_aload_n C 0 dX4_add_0 rfl rfl ?_
  refine xg_N4 C hi4 (List.mem_of_getElem? (i := 1) rfl) dX4_add_1 ?_
  refine z_if_lt (tgt := 15) C dX4_add_4 (by decide) (fun c1 => ?_) (fun c1 => ?_)
  · replace h := zt c1 h
    injection h with h
    subst h
    exact z_ret C rfl rfl dX4_add_15
  · replace h := zf c1 h
    refine z_aload_n C 0 dX4_add_7 rfl rfl ?_
    refine xg_N4 C hi4 (List.mem_of_getElem? (i := 1) rfl) dX4_add_8 ?_
    refine z_iconst (v := 4) C dX4_add_11 (by decide) ?_
    refine z_icmp_lt (tgt := 16) C dX4_add_12 (by decide) (fun c2 => ?_) (fun c2 => ?_)
    · replace h := zt c2 h
      refine z_aload_n C 0 dX4_add_16 rfl rfl ?_
      refine xg_N2 C hi4 (List.mem_of_getElem? (i := 2) rfl) dX4_add_17 ?_
      refine z_aload_n C 0 dX4_add_20 rfl rfl ?_
      refine xg_N4 C hi4 (List.mem_of_getElem? (i := 1) rfl) dX4_add_21 ?_
      refine z_iload_n C 1 dX4_add_24 rfl rfl ?_
      obtain ⟨hg3, h⟩ := gd_some h
      refine xt_15 C hg3 dX4_add_25 ?_
      refine z_aload_n C 0 dX4_add_26 rfl rfl ?_
      refine xg_N3 C hi4 (List.mem_of_getElem? (i := 3) rfl) dX4_add_27 ?_
      refine z_aload_n C 0 dX4_add_30 rfl rfl ?_
      refine xg_N4 C hi4 (List.mem_of_getElem? (i := 1) rfl) dX4_add_31 ?_
      refine z_iload_n C 1 dX4_add_34 rfl rfl ?_
      refine z_iload_n C 2 dX4_add_35 rfl rfl ?_
      refine z_iadd C dX4_add_36 ?_
      obtain ⟨hg4, h⟩ := gd_some h
      refine xt_16 C hg4 dX4_add_37 ?_
      refine z_aload_n C 0 dX4_add_38 rfl rfl ?_
      refine z_bipush (v := 120) C dX4_add_39 (by decide) ?_
      refine z_aload_n C 0 dX4_add_41 rfl rfl ?_
      refine xg_N8 C hi4 (List.mem_of_getElem? (i := 4) rfl) dX4_add_42 ?_
      refine z_aload_n C 0 dX4_add_45 rfl rfl ?_
      refine xg_N3 C hi4 (List.mem_of_getElem? (i := 3) rfl) dX4_add_46 ?_
      refine z_aload_n C 0 dX4_add_49 rfl rfl ?_
      refine xg_N4 C hi4 (List.mem_of_getElem? (i := 1) rfl) dX4_add_50 ?_
      obtain ⟨hg5, h⟩ := gd_some h
      refine xl_16 C hg5 dX4_add_53 ?_
      refine z_mmax C (List.mem_of_getElem? (i := 5) rfl) (List.mem_of_getElem? (i := 6) rfl) (List.mem_of_getElem? (i := 7) rfl) (List.mem_of_getElem? (i := 8) rfl) (by decide) (Nat.le_of_ble_eq_true rfl) (by decide) (by decide) dX4_add_54 ?_
      refine z_mmin C (List.mem_of_getElem? (i := 9) rfl) (List.mem_of_getElem? (i := 10) rfl) (List.mem_of_getElem? (i := 7) rfl) (List.mem_of_getElem? (i := 11) rfl) (by decide) (Nat.le_of_ble_eq_true rfl) (by decide) (by decide) dX4_add_57 ?_
      refine xp_N8 C hi4 (List.mem_of_getElem? (i := 4) rfl) dX4_add_60 ?_
      refine z_aload_n C 0 dX4_add_63 rfl rfl ?_
      refine z_dup C dX4_add_64 rfl ?_
      refine xg_N4 C hi4 (List.mem_of_getElem? (i := 1) rfl) dX4_add_65 ?_
      refine z_iconst (v := 1) C dX4_add_68 (by decide) ?_
      refine z_iadd C dX4_add_69 ?_
      refine xp_N4 C hi4 (List.mem_of_getElem? (i := 1) rfl) dX4_add_70 ?_
      injection h with h
      subst h
      exact z_ret C rfl rfl dX4_add_73
    · replace h := zf c2 h
      injection h with h
      subst h
      exact z_ret C rfl rfl dX4_add_15
def f_X4_allPots (P : XP) (S : XS) : Int32 := ((1 <<< ((xI S 24) &&& 31)) - 1)
set_option maxHeartbeats 4000000 in
set_option maxRecDepth 100000 in
theorem c_X4_allPots (l : Launch) (G : zGT) (q : Nat → Nat) (P : XP) (S : XS) (X : va_W) : MG l yX4_allPots wsX4_allPots ({ frames := 0, cells := 0, slots := 0, locals := 0 }) G [.ref (q 12)] (XW G q P S ++ X) (va_Qi (fun r u => r = (f_X4_allPots P S) ∧ u = XW G q P S ++ X)) := by
  have hi4 : ∀ w ∈ u_ws RX4 TX4 9, w ∈ wsX4_allPots := fun _ h => List.mem_cons_of_mem _ (List.mem_append_right _ h)
  refine MG.of (cc := cX4_allPots) (maxL := 1) (ret := (some .int)) (own := RX4) (nm := "allPots") (by decide) rfl rfl rfl (Nat.le_of_ble_eq_true rfl) ?_
  intro p e s m args below meth c A C
  obtain ⟨res, h⟩ : ∃ z, f_X4_allPots P S = z := ⟨_, rfl⟩
  rw [h]
  rw [f_X4_allPots] at h
  refine z_eq (lv2 := [(0, .ref (q 12))]) rfl rfl rfl rfl ?_
  refine z_iconst (v := 1) C dX4_allPots_0 (by decide) ?_
  refine z_aload_n C 0 dX4_allPots_1 rfl rfl ?_
  refine xg_N4 C hi4 (List.mem_of_getElem? (i := 1) rfl) dX4_allPots_2 ?_
  refine z_ishl C dX4_allPots_5 ?_
  refine z_iconst (v := 1) C dX4_allPots_6 (by decide) ?_
  refine z_isub C dX4_allPots_7 ?_
  subst h
  exact z_iret C rfl ⟨rfl, rfl⟩ dX4_allPots_8
def f_X4_fewestAt (P : XP) (S : XS) (a1 : Int32) (a2 : Int32) : Option (Int32) := if (f_X4_isInRow a1 a2) = 0 then some 1000 else gd ((a1 * 16) + a2) 1936 (some (xA S 13 ((a1 * 16) + a2).toNatClampNeg))
set_option maxHeartbeats 4000000 in
set_option maxRecDepth 100000 in
theorem c_X4_fewestAt (l : Launch) (G : zGT) (q : Nat → Nat) (P : XP) (S : XS) (X : va_W) (a1 : Int32) (a2 : Int32) {res : Int32} (h : f_X4_fewestAt P S a1 a2 = some res) : MG l yX4_fewestAt wsX4_fewestAt ({ frames := 2, cells := 0, slots := 0, locals := 41 }) G [.ref (q 12), .int a1, .int a2] (XW G q P S ++ X) (va_Qi (fun r u => r = res ∧ u = XW G q P S ++ X)) := by
  have hi4 : ∀ w ∈ u_ws RX4 TX4 9, w ∈ wsX4_fewestAt := fun _ h => List.mem_cons_of_mem _ (List.mem_append_right _ h)
  refine MG.of (cc := cX4_fewestAt) (maxL := 3) (ret := (some .int)) (own := RX4) (nm := "fewestAt") (by decide) rfl rfl rfl (Nat.le_of_ble_eq_true rfl) ?_
  intro p e s m args below meth c A C
  rw [f_X4_fewestAt] at h
  refine z_eq (lv2 := [(0, .ref (q 12)), (1, .int a1), (2, .int a2)]) rfl rfl rfl rfl ?_
  refine z_iload_n C 1 dX4_fewestAt_0 rfl rfl ?_
  refine z_iload_n C 2 dX4_fewestAt_1 rfl rfl ?_
  refine z_goti1 C (z_runS C (c_X4_isInRow l G (XW G q P S ++ X) a1 a2) (va_cwS 2 C.hts gX4_fewestAt_X4_isInRow rfl rfl rfl (by decide +kernel) ⟨Nat.le_of_ble_eq_true rfl, Nat.le_of_ble_eq_true rfl⟩) rfl rfl (Nat.le_of_ble_eq_true rfl) dX4_fewestAt_2 ⟨Nat.le_of_ble_eq_true rfl, Nat.le_of_ble_eq_true rfl⟩) rfl rfl ?_
  refine z_if_eq (tgt := 22) C dX4_fewestAt_5 (by decide) (fun c1 => ?_) (fun c1 => ?_)
  · replace h := zt c1 h
    refine z_sipush (v := 1000) C dX4_fewestAt_22 (by decide) ?_
    injection h with h
    subst h
    exact z_iret C rfl ⟨rfl, rfl⟩ dX4_fewestAt_25
  · replace h := zf c1 h
    refine z_aload_n C 0 dX4_fewestAt_8 rfl rfl ?_
    refine xg_N0 C hi4 (List.mem_of_getElem? (i := 1) rfl) dX4_fewestAt_9 ?_
    refine z_iload_n C 1 dX4_fewestAt_12 rfl rfl ?_
    refine z_bipush (v := 16) C dX4_fewestAt_13 (by decide) ?_
    refine z_imul C dX4_fewestAt_15 ?_
    refine z_iload_n C 2 dX4_fewestAt_16 rfl rfl ?_
    refine z_iadd C dX4_fewestAt_17 ?_
    obtain ⟨hg2, h⟩ := gd_some h
    refine xl_13 C hg2 dX4_fewestAt_18 ?_
    refine z_goto (tgt := 25) C dX4_fewestAt_19 (by decide) ?_
    injection h with h
    subst h
    exact z_iret C rfl ⟨rfl, rfl⟩ dX4_fewestAt_25
def f_X4_fewestAfterTaking (P : XP) (S : XS) (a1 : Int32) : Option (Int32) := if (f_X4_isSet a1) = 0 then some 1000 else gd a1 16 (some (xA S 14 a1.toNatClampNeg))
set_option maxHeartbeats 4000000 in
set_option maxRecDepth 100000 in
theorem c_X4_fewestAfterTaking (l : Launch) (G : zGT) (q : Nat → Nat) (P : XP) (S : XS) (X : va_W) (a1 : Int32) {res : Int32} (h : f_X4_fewestAfterTaking P S a1 = some res) : MG l yX4_fewestAfterTaking wsX4_fewestAfterTaking ({ frames := 1, cells := 0, slots := 0, locals := 20 }) G [.ref (q 12), .int a1] (XW G q P S ++ X) (va_Qi (fun r u => r = res ∧ u = XW G q P S ++ X)) := by
  have hi4 : ∀ w ∈ u_ws RX4 TX4 9, w ∈ wsX4_fewestAfterTaking := fun _ h => List.mem_cons_of_mem _ (List.mem_append_right _ h)
  refine MG.of (cc := cX4_fewestAfterTaking) (maxL := 2) (ret := (some .int)) (own := RX4) (nm := "fewestAfterTaking") (by decide) rfl rfl rfl (Nat.le_of_ble_eq_true rfl) ?_
  intro p e s m args below meth c A C
  rw [f_X4_fewestAfterTaking] at h
  refine z_eq (lv2 := [(0, .ref (q 12)), (1, .int a1)]) rfl rfl rfl rfl ?_
  refine z_iload_n C 1 dX4_fewestAfterTaking_0 rfl rfl ?_
  refine z_goti1 C (z_runS C (c_X4_isSet l G (XW G q P S ++ X) a1) (va_cwS 1 C.hts gX4_fewestAfterTaking_X4_isSet rfl rfl rfl (by decide +kernel) ⟨Nat.le_of_ble_eq_true rfl, Nat.le_of_ble_eq_true rfl⟩) rfl rfl (Nat.le_of_ble_eq_true rfl) dX4_fewestAfterTaking_1 ⟨Nat.le_of_ble_eq_true rfl, Nat.le_of_ble_eq_true rfl⟩) rfl rfl ?_
  refine z_if_eq (tgt := 16) C dX4_fewestAfterTaking_4 (by decide) (fun c1 => ?_) (fun c1 => ?_)
  · replace h := zt c1 h
    refine z_sipush (v := 1000) C dX4_fewestAfterTaking_16 (by decide) ?_
    injection h with h
    subst h
    exact z_iret C rfl ⟨rfl, rfl⟩ dX4_fewestAfterTaking_19
  · replace h := zf c1 h
    refine z_aload_n C 0 dX4_fewestAfterTaking_7 rfl rfl ?_
    refine xg_N1 C hi4 (List.mem_of_getElem? (i := 1) rfl) dX4_fewestAfterTaking_8 ?_
    refine z_iload_n C 1 dX4_fewestAfterTaking_11 rfl rfl ?_
    obtain ⟨hg2, h⟩ := gd_some h
    refine xl_14 C hg2 dX4_fewestAfterTaking_12 ?_
    refine z_goto (tgt := 19) C dX4_fewestAfterTaking_13 (by decide) ?_
    injection h with h
    subst h
    exact z_iret C rfl ⟨rfl, rfl⟩ dX4_fewestAfterTaking_19
def f_X4_goodAt_L4 (fu : Nat) (P : XP) (v1 : Int32) : Nat → Int32 → Int32 → XS → Option (Int32 × Int32)
  | 0, _, _, _ => none
  | n + 1, v2, v3, S => if (xI S 24) ≤ v3 then some (v2, v3) else if 4 ≤ v3 then some (v2, v3) else gd v3 4 (if v1 < (xA S 15 v3.toNatClampNeg) then f_X4_goodAt_L4 fu P v1 n v2 (v3 + 1) S else gd v3 4 (if (xA S 16 v3.toNatClampNeg) < v1 then f_X4_goodAt_L4 fu P v1 n v2 (v3 + 1) S else f_X4_goodAt_L4 fu P v1 n (v2 ||| (1 <<< (v3 &&& 31))) (v3 + 1) S))
def f_X4_goodAt (fu : Nat) (P : XP) (S : XS) (a1 : Int32) : Option (Int32) := (f_X4_goodAt_L4 fu P a1 fu 0 0 S).bind fun r7 => some r7.1
set_option maxHeartbeats 4000000 in
set_option maxRecDepth 100000 in
theorem L_X4_goodAt_4 {p : Program} {l : Launch} {e : Env} {s : State} {m : MethodId} {args : Array Value} {below : List Frame} {meth : Method} {c : Code} {A : Nat → Prop} {G : zGT} {q : Nat → Nat} {P : XP} {X : va_W} {fu : Nat} {Q : State → Prop} (C : zC p s m args meth c A G cX4_goodAt 4 (some .int) RX4 "goodAt" wsX4_goodAt) (v1 : Int32) : ∀ (n : Nat) (v2 : Int32) (v3 : Int32) (S : XS) {res : Int32 × Int32}, f_X4_goodAt_L4 fu P v1 n v2 v3 S = some res → Z p l e ({ frames := 0, cells := 0, slots := 0, locals := 0 }) s m args below meth c A G 4 Q 0 0 (XW G q P S ++ X) [(0, .ref (q 12)), (1, .int v1), (2, .int res.1), (3, .int res.2)] 49 [] → Z p l e ({ frames := 0, cells := 0, slots := 0, locals := 0 }) s m args below meth c A G 4 Q 0 0 (XW G q P S ++ X) [(0, .ref (q 12)), (1, .int v1), (2, .int v2), (3, .int v3)] 4 [] := by
  have hi4 : ∀ w ∈ u_ws RX4 TX4 9, w ∈ wsX4_goodAt := fun _ h => List.mem_cons_of_mem _ (List.mem_append_right _ h)
  intro n
  induction n with
  | zero =>
    intro v2 v3 S res h kk
    exact nomatch (h : none = some _)
  | succ n ih =>
    intro v2 v3 S res h kk
    rw [f_X4_goodAt_L4] at h
    refine z_iload_n C 3 dX4_goodAt_4 rfl rfl ?_
    refine z_aload_n C 0 dX4_goodAt_5 rfl rfl ?_
    refine xg_N4 C hi4 (List.mem_of_getElem? (i := 1) rfl) dX4_goodAt_6 ?_
    refine z_icmp_ge (tgt := 49) C dX4_goodAt_9 (by decide) (fun c1 => ?_) (fun c1 => ?_)
    · replace h := zt c1 h
      injection h with h
      subst h
      refine z_lv (lv2 := [(0, .ref (q 12)), (1, .int v1), (2, .int v2), (3, .int v3)]) [0, 1, 2, 3] rfl ?_
      exact kk
    · replace h := zf c1 h
      refine z_iload_n C 3 dX4_goodAt_12 rfl rfl ?_
      refine z_iconst (v := 4) C dX4_goodAt_13 (by decide) ?_
      refine z_icmp_ge (tgt := 49) C dX4_goodAt_14 (by decide) (fun c2 => ?_) (fun c2 => ?_)
      · replace h := zt c2 h
        injection h with h
        subst h
        refine z_lv (lv2 := [(0, .ref (q 12)), (1, .int v1), (2, .int v2), (3, .int v3)]) [0, 1, 2, 3] rfl ?_
        exact kk
      · replace h := zf c2 h
        refine z_aload_n C 0 dX4_goodAt_17 rfl rfl ?_
        refine xg_N2 C hi4 (List.mem_of_getElem? (i := 2) rfl) dX4_goodAt_18 ?_
        refine z_iload_n C 3 dX4_goodAt_21 rfl rfl ?_
        obtain ⟨hg3, h⟩ := gd_some h
        refine xl_15 C hg3 dX4_goodAt_22 ?_
        refine z_iload_n C 1 dX4_goodAt_23 rfl rfl ?_
        refine z_icmp_gt (tgt := 43) C dX4_goodAt_24 (by decide) (fun c4 => ?_) (fun c4 => ?_)
        · replace h := zt c4 h
          refine z_iinc (v := (v3 + 1)) (lv2 := [(3, .int (v3 + 1)), (0, .ref (q 12)), (1, .int v1), (2, .int v2)]) C 3 dX4_goodAt_43 rfl rfl (by decide) rfl ?_
          refine z_goto (tgt := 4) C dX4_goodAt_46 (by decide) ?_
          refine z_lv (lv2 := [(0, .ref (q 12)), (1, .int v1), (2, .int v2), (3, .int (v3 + 1))]) [1, 2, 3, 0] rfl ?_
          exact ih v2 (v3 + 1) S h kk
        · replace h := zf c4 h
          refine z_iload_n C 1 dX4_goodAt_27 rfl rfl ?_
          refine z_aload_n C 0 dX4_goodAt_28 rfl rfl ?_
          refine xg_N3 C hi4 (List.mem_of_getElem? (i := 3) rfl) dX4_goodAt_29 ?_
          refine z_iload_n C 3 dX4_goodAt_32 rfl rfl ?_
          obtain ⟨hg5, h⟩ := gd_some h
          refine xl_16 C hg5 dX4_goodAt_33 ?_
          refine z_icmp_gt (tgt := 43) C dX4_goodAt_34 (by decide) (fun c6 => ?_) (fun c6 => ?_)
          · replace h := zt c6 h
            refine z_iinc (v := (v3 + 1)) (lv2 := [(3, .int (v3 + 1)), (0, .ref (q 12)), (1, .int v1), (2, .int v2)]) C 3 dX4_goodAt_43 rfl rfl (by decide) rfl ?_
            refine z_goto (tgt := 4) C dX4_goodAt_46 (by decide) ?_
            refine z_lv (lv2 := [(0, .ref (q 12)), (1, .int v1), (2, .int v2), (3, .int (v3 + 1))]) [1, 2, 3, 0] rfl ?_
            exact ih v2 (v3 + 1) S h kk
          · replace h := zf c6 h
            refine z_iload_n C 2 dX4_goodAt_37 rfl rfl ?_
            refine z_iconst (v := 1) C dX4_goodAt_38 (by decide) ?_
            refine z_iload_n C 3 dX4_goodAt_39 rfl rfl ?_
            refine z_ishl C dX4_goodAt_40 ?_
            refine z_ior C dX4_goodAt_41 ?_
            refine z_istore_n (lv2 := [(2, .int (v2 ||| (1 <<< (v3 &&& 31)))), (0, .ref (q 12)), (1, .int v1), (3, .int v3)]) C dX4_goodAt_42 rfl (by decide) rfl ?_
            refine z_iinc (v := (v3 + 1)) (lv2 := [(3, .int (v3 + 1)), (2, .int (v2 ||| (1 <<< (v3 &&& 31)))), (0, .ref (q 12)), (1, .int v1)]) C 3 dX4_goodAt_43 rfl rfl (by decide) rfl ?_
            refine z_goto (tgt := 4) C dX4_goodAt_46 (by decide) ?_
            refine z_lv (lv2 := [(0, .ref (q 12)), (1, .int v1), (2, .int (v2 ||| (1 <<< (v3 &&& 31)))), (3, .int (v3 + 1))]) [2, 3, 1, 0] rfl ?_
            exact ih (v2 ||| (1 <<< (v3 &&& 31))) (v3 + 1) S h kk
set_option maxHeartbeats 4000000 in
set_option maxRecDepth 100000 in
theorem c_X4_goodAt (l : Launch) (G : zGT) (q : Nat → Nat) (P : XP) (S : XS) (X : va_W) (fu : Nat) (a1 : Int32) {res : Int32} (h : f_X4_goodAt fu P S a1 = some res) : MG l yX4_goodAt wsX4_goodAt ({ frames := 0, cells := 0, slots := 0, locals := 0 }) G [.ref (q 12), .int a1] (XW G q P S ++ X) (va_Qi (fun r u => r = res ∧ u = XW G q P S ++ X)) := by
  have hi4 : ∀ w ∈ u_ws RX4 TX4 9, w ∈ wsX4_goodAt := fun _ h => List.mem_cons_of_mem _ (List.mem_append_right _ h)
  refine MG.of (cc := cX4_goodAt) (maxL := 4) (ret := (some .int)) (own := RX4) (nm := "goodAt") (by decide) rfl rfl rfl (Nat.le_of_ble_eq_true rfl) ?_
  intro p e s m args below meth c A C
  rw [f_X4_goodAt] at h
  refine z_eq (lv2 := [(0, .ref (q 12)), (1, .int a1)]) rfl rfl rfl rfl ?_
  refine z_iconst (v := 0) C dX4_goodAt_0 (by decide) ?_
  refine z_istore_n (lv2 := [(2, .int 0), (0, .ref (q 12)), (1, .int a1)]) C dX4_goodAt_1 rfl (by decide) rfl ?_
  refine z_iconst (v := 0) C dX4_goodAt_2 (by decide) ?_
  refine z_istore_n (lv2 := [(3, .int 0), (2, .int 0), (0, .ref (q 12)), (1, .int a1)]) C dX4_goodAt_3 rfl (by decide) rfl ?_
  refine z_lv (lv2 := [(0, .ref (q 12)), (1, .int a1), (2, .int 0), (3, .int 0)]) [2, 3, 1, 0] rfl ?_
  obtain ⟨r7, hf8, h⟩ := bd_some h
  refine L_X4_goodAt_4 C a1 fu 0 0 S hf8 ?_
  refine z_iload_n C 2 dX4_goodAt_49 rfl rfl ?_
  injection h with h
  subst h
  exact z_iret C rfl ⟨rfl, rfl⟩ dX4_goodAt_50
def f_X4_byWinding_L15 (fu : Nat) (P : XP) (v1 : Int32) (v2 : Int32) : Nat → Int32 → Int32 → XS → Option (Int32 × Int32)
  | 0, _, _, _ => none
  | n + 1, v3, v4, S => if (v1 + (xI S 25)) < v4 then some (v3, v4) else if (xI S 28) < v4 then some (v3, v4) else (f_X4_fewestAt P S v4 v2).bind fun r5 => f_X4_byWinding_L15 fu P v1 v2 n (if r5 < v3 then r5 else v3) (v4 + 1) S
def f_X4_byWinding (fu : Nat) (P : XP) (S : XS) (a1 : Int32) (a2 : Int32) : Option (Int32) := if a2 = 0 then some 0 else (f_X4_byWinding_L15 fu P a1 a2 fu 1000 (a1 + 1) S).bind fun r6 => if r6.1 = 1000 then some 1000 else some (r6.1 + 1)
set_option maxHeartbeats 4000000 in
set_option maxRecDepth 100000 in
theorem L_X4_byWinding_15 {p : Program} {l : Launch} {e : Env} {s : State} {m : MethodId} {args : Array Value} {below : List Frame} {meth : Method} {c : Code} {A : Nat → Prop} {G : zGT} {q : Nat → Nat} {P : XP} {X : va_W} {fu : Nat} {Q : State → Prop} (C : zC p s m args meth c A G cX4_byWinding 5 (some .int) RX4 "byWinding" wsX4_byWinding) (v1 : Int32) (v2 : Int32) : ∀ (n : Nat) (v3 : Int32) (v4 : Int32) (S : XS) {res : Int32 × Int32}, f_X4_byWinding_L15 fu P v1 v2 n v3 v4 S = some res → Z p l e ({ frames := 3, cells := 0, slots := 0, locals := 63 }) s m args below meth c A G 5 Q 0 0 (XW G q P S ++ X) [(0, .ref (q 12)), (1, .int v1), (2, .int v2), (3, .int res.1), (4, .int res.2)] 53 [] → Z p l e ({ frames := 3, cells := 0, slots := 0, locals := 63 }) s m args below meth c A G 5 Q 0 0 (XW G q P S ++ X) [(0, .ref (q 12)), (1, .int v1), (2, .int v2), (3, .int v3), (4, .int v4)] 15 [] := by
  have hi4 : ∀ w ∈ u_ws RX4 TX4 9, w ∈ wsX4_byWinding := fun _ h => List.mem_cons_of_mem _ (List.mem_append_right _ h)
  intro n
  induction n with
  | zero =>
    intro v3 v4 S res h kk
    exact nomatch (h : none = some _)
  | succ n ih =>
    intro v3 v4 S res h kk
    rw [f_X4_byWinding_L15] at h
    refine z_iload C 4 dX4_byWinding_15 rfl ?_
    refine z_iload_n C 1 dX4_byWinding_17 rfl rfl ?_
    refine z_aload_n C 0 dX4_byWinding_18 rfl rfl ?_
    refine xg_N5 C hi4 (List.mem_of_getElem? (i := 1) rfl) dX4_byWinding_19 ?_
    refine z_iadd C dX4_byWinding_22 ?_
    refine z_icmp_gt (tgt := 53) C dX4_byWinding_23 (by decide) (fun c2 => ?_) (fun c2 => ?_)
    · replace h := zt c2 h
      injection h with h
      subst h
      refine z_lv (lv2 := [(0, .ref (q 12)), (1, .int v1), (2, .int v2), (3, .int v3), (4, .int v4)]) [0, 1, 2, 3, 4] rfl ?_
      exact kk
    · replace h := zf c2 h
      refine z_iload C 4 dX4_byWinding_26 rfl ?_
      refine z_aload_n C 0 dX4_byWinding_28 rfl rfl ?_
      refine xg_N8 C hi4 (List.mem_of_getElem? (i := 2) rfl) dX4_byWinding_29 ?_
      refine z_icmp_gt (tgt := 53) C dX4_byWinding_32 (by decide) (fun c3 => ?_) (fun c3 => ?_)
      · replace h := zt c3 h
        injection h with h
        subst h
        refine z_lv (lv2 := [(0, .ref (q 12)), (1, .int v1), (2, .int v2), (3, .int v3), (4, .int v4)]) [0, 1, 2, 3, 4] rfl ?_
        exact kk
      · replace h := zf c3 h
        refine z_iload_n C 3 dX4_byWinding_35 rfl rfl ?_
        refine z_aload_n C 0 dX4_byWinding_36 rfl rfl ?_
        refine z_iload C 4 dX4_byWinding_37 rfl ?_
        refine z_iload_n C 2 dX4_byWinding_39 rfl rfl ?_
        obtain ⟨r5, hf4, h⟩ := bd_some h
        refine z_goti1 C (z_runV C (c_X4_fewestAt l G q P S X v4 v2 hf4) (cwV 2 C.hts gX4_byWinding_X4_fewestAt rfl rfl rfl (by decide +kernel) ⟨Nat.le_of_ble_eq_true rfl, Nat.le_of_ble_eq_true rfl⟩) 12 rfl rfl rfl rfl (Nat.le_of_ble_eq_true rfl) dX4_byWinding_40 ⟨Nat.le_of_ble_eq_true rfl, Nat.le_of_ble_eq_true rfl⟩) rfl rfl ?_
        refine z_mmin C (List.mem_of_getElem? (i := 3) rfl) (List.mem_of_getElem? (i := 4) rfl) (List.mem_of_getElem? (i := 5) rfl) (List.mem_of_getElem? (i := 6) rfl) (by decide) (Nat.le_of_ble_eq_true rfl) (by decide) (by decide) dX4_byWinding_43 ?_
        refine z_istore_n (lv2 := [(3, .int (if r5 < v3 then r5 else v3)), (0, .ref (q 12)), (1, .int v1), (2, .int v2), (4, .int v4)]) C dX4_byWinding_46 rfl (by decide) rfl ?_
        refine z_iinc (v := (v4 + 1)) (lv2 := [(4, .int (v4 + 1)), (3, .int (if r5 < v3 then r5 else v3)), (0, .ref (q 12)), (1, .int v1), (2, .int v2)]) C 4 dX4_byWinding_47 rfl rfl (by decide) rfl ?_
        refine z_goto (tgt := 15) C dX4_byWinding_50 (by decide) ?_
        refine z_lv (lv2 := [(0, .ref (q 12)), (1, .int v1), (2, .int v2), (3, .int (if r5 < v3 then r5 else v3)), (4, .int (v4 + 1))]) [2, 3, 4, 1, 0] rfl ?_
        exact ih (if r5 < v3 then r5 else v3) (v4 + 1) S h kk
set_option maxHeartbeats 4000000 in
set_option maxRecDepth 100000 in
theorem c_X4_byWinding (l : Launch) (G : zGT) (q : Nat → Nat) (P : XP) (S : XS) (X : va_W) (fu : Nat) (a1 : Int32) (a2 : Int32) {res : Int32} (h : f_X4_byWinding fu P S a1 a2 = some res) : MG l yX4_byWinding wsX4_byWinding ({ frames := 3, cells := 0, slots := 0, locals := 63 }) G [.ref (q 12), .int a1, .int a2] (XW G q P S ++ X) (va_Qi (fun r u => r = res ∧ u = XW G q P S ++ X)) := by
  have hi4 : ∀ w ∈ u_ws RX4 TX4 9, w ∈ wsX4_byWinding := fun _ h => List.mem_cons_of_mem _ (List.mem_append_right _ h)
  refine MG.of (cc := cX4_byWinding) (maxL := 5) (ret := (some .int)) (own := RX4) (nm := "byWinding") (by decide) rfl rfl rfl (Nat.le_of_ble_eq_true rfl) ?_
  intro p e s m args below meth c A C
  rw [f_X4_byWinding] at h
  refine z_eq (lv2 := [(0, .ref (q 12)), (1, .int a1), (2, .int a2)]) rfl rfl rfl rfl ?_
  refine z_iload_n C 2 dX4_byWinding_0 rfl rfl ?_
  refine z_if_ne (tgt := 6) C dX4_byWinding_1 (by decide) (fun c1 => ?_) (fun c1 => ?_)
  · replace h := zf c1 h
    refine z_sipush (v := 1000) C dX4_byWinding_6 (by decide) ?_
    refine z_istore_n (lv2 := [(3, .int 1000), (0, .ref (q 12)), (1, .int a1), (2, .int a2)]) C dX4_byWinding_9 rfl (by decide) rfl ?_
    refine z_iload_n C 2 dX4_byWinding_10 rfl rfl ?_
    refine z_iconst (v := 1) C dX4_byWinding_11 (by decide) ?_
    refine z_iadd C dX4_byWinding_12 ?_
    refine z_istore (lv2 := [(4, .int (a1 + 1)), (3, .int 1000), (0, .ref (q 12)), (1, .int a1), (2, .int a2)]) C dX4_byWinding_13 (by decide) rfl ?_
    refine z_lv (lv2 := [(0, .ref (q 12)), (1, .int a1), (2, .int a2), (3, .int 1000), (4, .int (a1 + 1))]) [2, 3, 4, 1, 0] rfl ?_
    obtain ⟨r6, hf7, h⟩ := bd_some h
    refine L_X4_byWinding_15 C a1 a2 fu 1000 (a1 + 1) S hf7 ?_
    refine z_iload_n C 3 dX4_byWinding_53 rfl rfl ?_
    refine z_sipush (v := 1000) C dX4_byWinding_54 (by decide) ?_
    refine z_icmp_ne (tgt := 66) C dX4_byWinding_57 (by decide) (fun c8 => ?_) (fun c8 => ?_)
    · replace h := zf c8 h
      refine z_iload_n C 3 dX4_byWinding_66 rfl rfl ?_
      refine z_iconst (v := 1) C dX4_byWinding_67 (by decide) ?_
      refine z_iadd C dX4_byWinding_68 ?_
      injection h with h
      subst h
      exact z_iret C rfl ⟨rfl, rfl⟩ dX4_byWinding_69
    · replace h := zt c8 h
      refine z_sipush (v := 1000) C dX4_byWinding_60 (by decide) ?_
      refine z_goto (tgt := 69) C dX4_byWinding_63 (by decide) ?_
      injection h with h
      subst h
      exact z_iret C rfl ⟨rfl, rfl⟩ dX4_byWinding_69
  · replace h := zt c1 h
    refine z_iconst (v := 0) C dX4_byWinding_4 (by decide) ?_
    injection h with h
    subst h
    exact z_iret C rfl ⟨rfl, rfl⟩ dX4_byWinding_5
def f_X4_byTaking_L8 (fu : Nat) (P : XP) (v1 : Int32) (v2 : Int32) (v3 : Int32) : Nat → Int32 → Int32 → XS → Option (Int32 × Int32)
  | 0, _, _, _ => none
  | n + 1, v4, v5, S => if v2 < v5 then some (v4, v5) else if (f_X4_canTake v5 v2 v3) = 0 then f_X4_byTaking_L8 fu P v1 v2 v3 n v4 (v5 + 1) S else (f_X4_fewestAfterTaking P S (v1 &&& (v5 ^^^ (-1)))).bind fun r4 => f_X4_byTaking_L8 fu P v1 v2 v3 n (if r4 < v4 then r4 else v4) (v5 + 1) S
def f_X4_byTaking (fu : Nat) (P : XP) (S : XS) (a1 : Int32) (a2 : Int32) (a3 : Int32) : Option (Int32) := (f_X4_byTaking_L8 fu P a1 a2 a3 fu 1000 0 S).bind fun r5 => some r5.1
set_option maxHeartbeats 4000000 in
set_option maxRecDepth 100000 in
theorem L_X4_byTaking_8 {p : Program} {l : Launch} {e : Env} {s : State} {m : MethodId} {args : Array Value} {below : List Frame} {meth : Method} {c : Code} {A : Nat → Prop} {G : zGT} {q : Nat → Nat} {P : XP} {X : va_W} {fu : Nat} {Q : State → Prop} (C : zC p s m args meth c A G cX4_byTaking 6 (some .int) RX4 "byTaking" wsX4_byTaking) (v1 : Int32) (v2 : Int32) (v3 : Int32) : ∀ (n : Nat) (v4 : Int32) (v5 : Int32) (S : XS) {res : Int32 × Int32}, f_X4_byTaking_L8 fu P v1 v2 v3 n v4 v5 S = some res → Z p l e ({ frames := 2, cells := 0, slots := 0, locals := 42 }) s m args below meth c A G 6 Q 0 0 (XW G q P S ++ X) [(0, .ref (q 12)), (1, .int v1), (2, .int v2), (3, .int v3), (4, .int res.1), (5, .int res.2)] 47 [] → Z p l e ({ frames := 2, cells := 0, slots := 0, locals := 42 }) s m args below meth c A G 6 Q 0 0 (XW G q P S ++ X) [(0, .ref (q 12)), (1, .int v1), (2, .int v2), (3, .int v3), (4, .int v4), (5, .int v5)] 8 [] := by
  intro n
  induction n with
  | zero =>
    intro v4 v5 S res h kk
    exact nomatch (h : none = some _)
  | succ n ih =>
    intro v4 v5 S res h kk
    rw [f_X4_byTaking_L8] at h
    refine z_iload C 5 dX4_byTaking_8 rfl ?_
    refine z_iload_n C 2 dX4_byTaking_10 rfl rfl ?_
    refine z_icmp_gt (tgt := 47) C dX4_byTaking_11 (by decide) (fun c1 => ?_) (fun c1 => ?_)
    · replace h := zt c1 h
      injection h with h
      subst h
      refine z_lv (lv2 := [(0, .ref (q 12)), (1, .int v1), (2, .int v2), (3, .int v3), (4, .int v4), (5, .int v5)]) [0, 1, 2, 3, 4, 5] rfl ?_
      exact kk
    · replace h := zf c1 h
      refine z_iload C 5 dX4_byTaking_14 rfl ?_
      refine z_iload_n C 2 dX4_byTaking_16 rfl rfl ?_
      refine z_iload_n C 3 dX4_byTaking_17 rfl rfl ?_
      refine z_goti1 C (z_runS C (c_X4_canTake l G (XW G q P S ++ X) v5 v2 v3) (va_cwS 3 C.hts gX4_byTaking_X4_canTake rfl rfl rfl (by decide +kernel) ⟨Nat.le_of_ble_eq_true rfl, Nat.le_of_ble_eq_true rfl⟩) rfl rfl (Nat.le_of_ble_eq_true rfl) dX4_byTaking_18 ⟨Nat.le_of_ble_eq_true rfl, Nat.le_of_ble_eq_true rfl⟩) rfl rfl ?_
      refine z_if_eq (tgt := 41) C dX4_byTaking_21 (by decide) (fun c2 => ?_) (fun c2 => ?_)
      · replace h := zt c2 h
        refine z_iinc (v := (v5 + 1)) (lv2 := [(5, .int (v5 + 1)), (0, .ref (q 12)), (1, .int v1), (2, .int v2), (3, .int v3), (4, .int v4)]) C 5 dX4_byTaking_41 rfl rfl (by decide) rfl ?_
        refine z_goto (tgt := 8) C dX4_byTaking_44 (by decide) ?_
        refine z_lv (lv2 := [(0, .ref (q 12)), (1, .int v1), (2, .int v2), (3, .int v3), (4, .int v4), (5, .int (v5 + 1))]) [1, 2, 3, 4, 5, 0] rfl ?_
        exact ih v4 (v5 + 1) S h kk
      · replace h := zf c2 h
        refine z_iload C 4 dX4_byTaking_24 rfl ?_
        refine z_aload_n C 0 dX4_byTaking_26 rfl rfl ?_
        refine z_iload_n C 1 dX4_byTaking_27 rfl rfl ?_
        refine z_iload C 5 dX4_byTaking_28 rfl ?_
        refine z_iconst (v := (-1)) C dX4_byTaking_30 (by decide) ?_
        refine z_ixor C dX4_byTaking_31 ?_
        refine z_iand C dX4_byTaking_32 ?_
        obtain ⟨r4, hf3, h⟩ := bd_some h
        refine z_goti1 C (z_runV C (c_X4_fewestAfterTaking l G q P S X (v1 &&& (v5 ^^^ (-1))) hf3) (cwV 1 C.hts gX4_byTaking_X4_fewestAfterTaking rfl rfl rfl (by decide +kernel) ⟨Nat.le_of_ble_eq_true rfl, Nat.le_of_ble_eq_true rfl⟩) 12 rfl rfl rfl rfl (Nat.le_of_ble_eq_true rfl) dX4_byTaking_33 ⟨Nat.le_of_ble_eq_true rfl, Nat.le_of_ble_eq_true rfl⟩) rfl rfl ?_
        refine z_mmin C (List.mem_of_getElem? (i := 1) rfl) (List.mem_of_getElem? (i := 2) rfl) (List.mem_of_getElem? (i := 3) rfl) (List.mem_of_getElem? (i := 4) rfl) (by decide) (Nat.le_of_ble_eq_true rfl) (by decide) (by decide) dX4_byTaking_36 ?_
        refine z_istore (lv2 := [(4, .int (if r4 < v4 then r4 else v4)), (0, .ref (q 12)), (1, .int v1), (2, .int v2), (3, .int v3), (5, .int v5)]) C dX4_byTaking_39 (by decide) rfl ?_
        refine z_iinc (v := (v5 + 1)) (lv2 := [(5, .int (v5 + 1)), (4, .int (if r4 < v4 then r4 else v4)), (0, .ref (q 12)), (1, .int v1), (2, .int v2), (3, .int v3)]) C 5 dX4_byTaking_41 rfl rfl (by decide) rfl ?_
        refine z_goto (tgt := 8) C dX4_byTaking_44 (by decide) ?_
        refine z_lv (lv2 := [(0, .ref (q 12)), (1, .int v1), (2, .int v2), (3, .int v3), (4, .int (if r4 < v4 then r4 else v4)), (5, .int (v5 + 1))]) [2, 3, 4, 5, 1, 0] rfl ?_
        exact ih (if r4 < v4 then r4 else v4) (v5 + 1) S h kk
set_option maxHeartbeats 4000000 in
set_option maxRecDepth 100000 in
theorem c_X4_byTaking (l : Launch) (G : zGT) (q : Nat → Nat) (P : XP) (S : XS) (X : va_W) (fu : Nat) (a1 : Int32) (a2 : Int32) (a3 : Int32) {res : Int32} (h : f_X4_byTaking fu P S a1 a2 a3 = some res) : MG l yX4_byTaking wsX4_byTaking ({ frames := 2, cells := 0, slots := 0, locals := 42 }) G [.ref (q 12), .int a1, .int a2, .int a3] (XW G q P S ++ X) (va_Qi (fun r u => r = res ∧ u = XW G q P S ++ X)) := by
  refine MG.of (cc := cX4_byTaking) (maxL := 6) (ret := (some .int)) (own := RX4) (nm := "byTaking") (by decide) rfl rfl rfl (Nat.le_of_ble_eq_true rfl) ?_
  intro p e s m args below meth c A C
  rw [f_X4_byTaking] at h
  refine z_eq (lv2 := [(0, .ref (q 12)), (1, .int a1), (2, .int a2), (3, .int a3)]) rfl rfl rfl rfl ?_
  refine z_sipush (v := 1000) C dX4_byTaking_0 (by decide) ?_
  refine z_istore (lv2 := [(4, .int 1000), (0, .ref (q 12)), (1, .int a1), (2, .int a2), (3, .int a3)]) C dX4_byTaking_3 (by decide) rfl ?_
  refine z_iconst (v := 0) C dX4_byTaking_5 (by decide) ?_
  refine z_istore (lv2 := [(5, .int 0), (4, .int 1000), (0, .ref (q 12)), (1, .int a1), (2, .int a2), (3, .int a3)]) C dX4_byTaking_6 (by decide) rfl ?_
  refine z_lv (lv2 := [(0, .ref (q 12)), (1, .int a1), (2, .int a2), (3, .int a3), (4, .int 1000), (5, .int 0)]) [2, 3, 4, 5, 1, 0] rfl ?_
  obtain ⟨r5, hf6, h⟩ := bd_some h
  refine L_X4_byTaking_8 C a1 a2 a3 fu 1000 0 S hf6 ?_
  refine z_iload C 4 dX4_byTaking_47 rfl ?_
  injection h with h
  subst h
  exact z_iret C rfl ⟨rfl, rfl⟩ dX4_byTaking_49
def f_X4_fillMinute_L14 (fu : Nat) (P : XP) (v1 : Int32) (v2 : Int32) (v3 : Int32) : Nat → Int32 → XS → Option (Int32 × XS)
  | 0, _, _ => none
  | n + 1, v4, S => if v2 < v4 then some (v4, S) else if (f_X4_isSet v4) = 0 then some (v4, S) else (f_X4_byWinding fu P S v1 v4).bind fun r6 => gd v4 16 (f_X4_fillMinute_L14 fu P v1 v2 v3 n (v4 + 1) (xsA S 14 v4.toNatClampNeg r6))
def f_X4_fillMinute_L51 (fu : Nat) (P : XP) (v1 : Int32) (v2 : Int32) (v3 : Int32) : Nat → Int32 → XS → Option (Int32 × XS)
  | 0, _, _ => none
  | n + 1, v4, S => if v2 < v4 then some (v4, S) else if (f_X4_isInRow v1 v4) = 0 then some (v4, S) else if v1 = 0 then (f_X4_byTaking fu P S v4 (v4 &&& v3) (xI S 27)).bind fun r17 => gd ((v1 * 16) + v4) 1936 (f_X4_fillMinute_L51 fu P v1 v2 v3 n (v4 + 1) (xsA S 13 ((v1 * 16) + v4).toNatClampNeg r17)) else (f_X4_byTaking fu P S v4 (v4 &&& v3) (xI S 26)).bind fun r14 => gd ((v1 * 16) + v4) 1936 (f_X4_fillMinute_L51 fu P v1 v2 v3 n (v4 + 1) (xsA S 13 ((v1 * 16) + v4).toNatClampNeg r14))
def f_X4_fillMinute (fu : Nat) (P : XP) (S : XS) (a1 : Int32) : Option (XS) := (f_X4_goodAt fu P S a1).bind fun r2 => (f_X4_fillMinute_L14 fu P a1 (f_X4_allPots P S) r2 fu 0 S).bind fun r8 => (f_X4_fillMinute_L51 fu P a1 (f_X4_allPots P S) r2 fu 0 r8.2).bind fun r19 => some r19.2
set_option maxHeartbeats 4000000 in
set_option maxRecDepth 100000 in
theorem L_X4_fillMinute_14 {p : Program} {l : Launch} {e : Env} {s : State} {m : MethodId} {args : Array Value} {below : List Frame} {meth : Method} {c : Code} {A : Nat → Prop} {G : zGT} {q : Nat → Nat} {P : XP} {X : va_W} {fu : Nat} {Q : State → Prop} (C : zC p s m args meth c A G cX4_fillMinute 5 none RX4 "fillMinute" wsX4_fillMinute) (v1 : Int32) (v2 : Int32) (v3 : Int32) : ∀ (n : Nat) (v4 : Int32) (S : XS) {res : Int32 × XS}, f_X4_fillMinute_L14 fu P v1 v2 v3 n v4 S = some res → Z p l e ({ frames := 4, cells := 0, slots := 0, locals := 87 }) s m args below meth c A G 5 Q 0 0 (XW G q P res.2 ++ X) [(0, .ref (q 12)), (1, .int v1), (2, .int v2), (3, .int v3), (4, .int res.1)] 48 [] → Z p l e ({ frames := 4, cells := 0, slots := 0, locals := 87 }) s m args below meth c A G 5 Q 0 0 (XW G q P S ++ X) [(0, .ref (q 12)), (1, .int v1), (2, .int v2), (3, .int v3), (4, .int v4)] 14 [] := by
  have hi4 : ∀ w ∈ u_ws RX4 TX4 9, w ∈ wsX4_fillMinute := fun _ h => List.mem_cons_of_mem _ (List.mem_append_right _ h)
  intro n
  induction n with
  | zero =>
    intro v4 S res h kk
    exact nomatch (h : none = some _)
  | succ n ih =>
    intro v4 S res h kk
    rw [f_X4_fillMinute_L14] at h
    refine z_iload C 4 dX4_fillMinute_14 rfl ?_
    refine z_iload_n C 2 dX4_fillMinute_16 rfl rfl ?_
    refine z_icmp_gt (tgt := 48) C dX4_fillMinute_17 (by decide) (fun c3 => ?_) (fun c3 => ?_)
    · replace h := zt c3 h
      injection h with h
      subst h
      refine z_lv (lv2 := [(0, .ref (q 12)), (1, .int v1), (2, .int v2), (3, .int v3), (4, .int v4)]) [0, 1, 2, 3, 4] rfl ?_
      exact kk
    · replace h := zf c3 h
      refine z_iload C 4 dX4_fillMinute_20 rfl ?_
      refine z_goti1 C (z_runS C (c_X4_isSet l G (XW G q P S ++ X) v4) (va_cwS 1 C.hts gX4_fillMinute_X4_isSet rfl rfl rfl (by decide +kernel) ⟨Nat.le_of_ble_eq_true rfl, Nat.le_of_ble_eq_true rfl⟩) rfl rfl (Nat.le_of_ble_eq_true rfl) dX4_fillMinute_22 ⟨Nat.le_of_ble_eq_true rfl, Nat.le_of_ble_eq_true rfl⟩) rfl rfl ?_
      refine z_if_eq (tgt := 48) C dX4_fillMinute_25 (by decide) (fun c4 => ?_) (fun c4 => ?_)
      · replace h := zt c4 h
        injection h with h
        subst h
        refine z_lv (lv2 := [(0, .ref (q 12)), (1, .int v1), (2, .int v2), (3, .int v3), (4, .int v4)]) [0, 1, 2, 3, 4] rfl ?_
        exact kk
      · replace h := zf c4 h
        refine z_aload_n C 0 dX4_fillMinute_28 rfl rfl ?_
        refine xg_N1 C hi4 (List.mem_of_getElem? (i := 1) rfl) dX4_fillMinute_29 ?_
        refine z_iload C 4 dX4_fillMinute_32 rfl ?_
        refine z_aload_n C 0 dX4_fillMinute_34 rfl rfl ?_
        refine z_iload_n C 1 dX4_fillMinute_35 rfl rfl ?_
        refine z_iload C 4 dX4_fillMinute_36 rfl ?_
        obtain ⟨r6, hf5, h⟩ := bd_some h
        refine z_goti1 C (z_runV C (c_X4_byWinding l G q P S X fu v1 v4 hf5) (cwV 2 C.hts gX4_fillMinute_X4_byWinding rfl rfl rfl (by decide +kernel) ⟨Nat.le_of_ble_eq_true rfl, Nat.le_of_ble_eq_true rfl⟩) 12 rfl rfl rfl rfl (Nat.le_of_ble_eq_true rfl) dX4_fillMinute_38 ⟨Nat.le_of_ble_eq_true rfl, Nat.le_of_ble_eq_true rfl⟩) rfl rfl ?_
        obtain ⟨hg7, h⟩ := gd_some h
        refine xt_14 C hg7 dX4_fillMinute_41 ?_
        refine z_iinc (v := (v4 + 1)) (lv2 := [(4, .int (v4 + 1)), (0, .ref (q 12)), (1, .int v1), (2, .int v2), (3, .int v3)]) C 4 dX4_fillMinute_42 rfl rfl (by decide) rfl ?_
        refine z_goto (tgt := 14) C dX4_fillMinute_45 (by decide) ?_
        refine z_lv (lv2 := [(0, .ref (q 12)), (1, .int v1), (2, .int v2), (3, .int v3), (4, .int (v4 + 1))]) [1, 2, 3, 4, 0] rfl ?_
        exact ih (v4 + 1) (xsA S 14 v4.toNatClampNeg r6) h kk
set_option maxHeartbeats 4000000 in
set_option maxRecDepth 100000 in
theorem L_X4_fillMinute_51 {p : Program} {l : Launch} {e : Env} {s : State} {m : MethodId} {args : Array Value} {below : List Frame} {meth : Method} {c : Code} {A : Nat → Prop} {G : zGT} {q : Nat → Nat} {P : XP} {X : va_W} {fu : Nat} {Q : State → Prop} (C : zC p s m args meth c A G cX4_fillMinute 5 none RX4 "fillMinute" wsX4_fillMinute) (v1 : Int32) (v2 : Int32) (v3 : Int32) : ∀ (n : Nat) (v4 : Int32) (S : XS) {res : Int32 × XS}, f_X4_fillMinute_L51 fu P v1 v2 v3 n v4 S = some res → Z p l e ({ frames := 4, cells := 0, slots := 0, locals := 87 }) s m args below meth c A G 5 Q 0 0 (XW G q P res.2 ++ X) [(0, .ref (q 12)), (1, .int v1), (2, .int v2), (3, .int v3), (4, .int res.1)] 109 [] → Z p l e ({ frames := 4, cells := 0, slots := 0, locals := 87 }) s m args below meth c A G 5 Q 0 0 (XW G q P S ++ X) [(0, .ref (q 12)), (1, .int v1), (2, .int v2), (3, .int v3), (4, .int v4)] 51 [] := by
  have hi4 : ∀ w ∈ u_ws RX4 TX4 9, w ∈ wsX4_fillMinute := fun _ h => List.mem_cons_of_mem _ (List.mem_append_right _ h)
  intro n
  induction n with
  | zero =>
    intro v4 S res h kk
    exact nomatch (h : none = some _)
  | succ n ih =>
    intro v4 S res h kk
    rw [f_X4_fillMinute_L51] at h
    refine z_iload C 4 dX4_fillMinute_51 rfl ?_
    refine z_iload_n C 2 dX4_fillMinute_53 rfl rfl ?_
    refine z_icmp_gt (tgt := 109) C dX4_fillMinute_54 (by decide) (fun c10 => ?_) (fun c10 => ?_)
    · replace h := zt c10 h
      injection h with h
      subst h
      refine z_lv (lv2 := [(0, .ref (q 12)), (1, .int v1), (2, .int v2), (3, .int v3), (4, .int v4)]) [0, 1, 2, 3, 4] rfl ?_
      exact kk
    · replace h := zf c10 h
      refine z_iload_n C 1 dX4_fillMinute_57 rfl rfl ?_
      refine z_iload C 4 dX4_fillMinute_58 rfl ?_
      refine z_goti1 C (z_runS C (c_X4_isInRow l G (XW G q P S ++ X) v1 v4) (va_cwS 2 C.hts gX4_fillMinute_X4_isInRow rfl rfl rfl (by decide +kernel) ⟨Nat.le_of_ble_eq_true rfl, Nat.le_of_ble_eq_true rfl⟩) rfl rfl (Nat.le_of_ble_eq_true rfl) dX4_fillMinute_60 ⟨Nat.le_of_ble_eq_true rfl, Nat.le_of_ble_eq_true rfl⟩) rfl rfl ?_
      refine z_if_eq (tgt := 109) C dX4_fillMinute_63 (by decide) (fun c11 => ?_) (fun c11 => ?_)
      · replace h := zt c11 h
        injection h with h
        subst h
        refine z_lv (lv2 := [(0, .ref (q 12)), (1, .int v1), (2, .int v2), (3, .int v3), (4, .int v4)]) [0, 1, 2, 3, 4] rfl ?_
        exact kk
      · replace h := zf c11 h
        refine z_aload_n C 0 dX4_fillMinute_66 rfl rfl ?_
        refine xg_N0 C hi4 (List.mem_of_getElem? (i := 2) rfl) dX4_fillMinute_67 ?_
        refine z_iload_n C 1 dX4_fillMinute_70 rfl rfl ?_
        refine z_bipush (v := 16) C dX4_fillMinute_71 (by decide) ?_
        refine z_imul C dX4_fillMinute_73 ?_
        refine z_iload C 4 dX4_fillMinute_74 rfl ?_
        refine z_iadd C dX4_fillMinute_76 ?_
        refine z_aload_n C 0 dX4_fillMinute_77 rfl rfl ?_
        refine z_iload C 4 dX4_fillMinute_78 rfl ?_
        refine z_iload C 4 dX4_fillMinute_80 rfl ?_
        refine z_iload_n C 3 dX4_fillMinute_82 rfl rfl ?_
        refine z_iand C dX4_fillMinute_83 ?_
        refine z_iload_n C 1 dX4_fillMinute_84 rfl rfl ?_
        refine z_if_ne (tgt := 95) C dX4_fillMinute_85 (by decide) (fun c12 => ?_) (fun c12 => ?_)
        · replace h := zf c12 h
          refine z_aload_n C 0 dX4_fillMinute_95 rfl rfl ?_
          refine xg_N6 C hi4 (List.mem_of_getElem? (i := 4) rfl) dX4_fillMinute_96 ?_
          obtain ⟨r14, hf13, h⟩ := bd_some h
          refine z_goti1 C (z_runV C (c_X4_byTaking l G q P S X fu v4 (v4 &&& v3) (xI S 26) hf13) (cwV 3 C.hts gX4_fillMinute_X4_byTaking rfl rfl rfl (by decide +kernel) ⟨Nat.le_of_ble_eq_true rfl, Nat.le_of_ble_eq_true rfl⟩) 12 rfl rfl rfl rfl (Nat.le_of_ble_eq_true rfl) dX4_fillMinute_99 ⟨Nat.le_of_ble_eq_true rfl, Nat.le_of_ble_eq_true rfl⟩) rfl rfl ?_
          obtain ⟨hg15, h⟩ := gd_some h
          refine xt_13 C hg15 dX4_fillMinute_102 ?_
          refine z_iinc (v := (v4 + 1)) (lv2 := [(4, .int (v4 + 1)), (0, .ref (q 12)), (1, .int v1), (2, .int v2), (3, .int v3)]) C 4 dX4_fillMinute_103 rfl rfl (by decide) rfl ?_
          refine z_goto (tgt := 51) C dX4_fillMinute_106 (by decide) ?_
          refine z_lv (lv2 := [(0, .ref (q 12)), (1, .int v1), (2, .int v2), (3, .int v3), (4, .int (v4 + 1))]) [1, 2, 3, 4, 0] rfl ?_
          exact ih (v4 + 1) (xsA S 13 ((v1 * 16) + v4).toNatClampNeg r14) h kk
        · replace h := zt c12 h
          refine z_aload_n C 0 dX4_fillMinute_88 rfl rfl ?_
          refine xg_N7 C hi4 (List.mem_of_getElem? (i := 3) rfl) dX4_fillMinute_89 ?_
          refine z_goto (tgt := 99) C dX4_fillMinute_92 (by decide) ?_
          obtain ⟨r17, hf16, h⟩ := bd_some h
          refine z_goti1 C (z_runV C (c_X4_byTaking l G q P S X fu v4 (v4 &&& v3) (xI S 27) hf16) (cwV 3 C.hts gX4_fillMinute_X4_byTaking rfl rfl rfl (by decide +kernel) ⟨Nat.le_of_ble_eq_true rfl, Nat.le_of_ble_eq_true rfl⟩) 12 rfl rfl rfl rfl (Nat.le_of_ble_eq_true rfl) dX4_fillMinute_99 ⟨Nat.le_of_ble_eq_true rfl, Nat.le_of_ble_eq_true rfl⟩) rfl rfl ?_
          obtain ⟨hg18, h⟩ := gd_some h
          refine xt_13 C hg18 dX4_fillMinute_102 ?_
          refine z_iinc (v := (v4 + 1)) (lv2 := [(4, .int (v4 + 1)), (0, .ref (q 12)), (1, .int v1), (2, .int v2), (3, .int v3)]) C 4 dX4_fillMinute_103 rfl rfl (by decide) rfl ?_
          refine z_goto (tgt := 51) C dX4_fillMinute_106 (by decide) ?_
          refine z_lv (lv2 := [(0, .ref (q 12)), (1, .int v1), (2, .int v2), (3, .int v3), (4, .int (v4 + 1))]) [1, 2, 3, 4, 0] rfl ?_
          exact ih (v4 + 1) (xsA S 13 ((v1 * 16) + v4).toNatClampNeg r17) h kk
set_option maxHeartbeats 4000000 in
set_option maxRecDepth 100000 in
theorem c_X4_fillMinute (l : Launch) (G : zGT) (q : Nat → Nat) (P : XP) (S : XS) (X : va_W) (fu : Nat) (a1 : Int32) {res : XS} (h : f_X4_fillMinute fu P S a1 = some res) : MG l yX4_fillMinute wsX4_fillMinute ({ frames := 4, cells := 0, slots := 0, locals := 87 }) G [.ref (q 12), .int a1] (XW G q P S ++ X) (va_Qv (fun u => u = XW G q P res ++ X)) := by
  have hi4 : ∀ w ∈ u_ws RX4 TX4 9, w ∈ wsX4_fillMinute := fun _ h => List.mem_cons_of_mem _ (List.mem_append_right _ h)
  refine MG.of (cc := cX4_fillMinute) (maxL := 5) (ret := none) (own := RX4) (nm := "fillMinute") (by decide) rfl rfl rfl (Nat.le_of_ble_eq_true rfl) ?_
  intro p e s m args below meth c A C
  rw [f_X4_fillMinute] at h
  refine z_eq (lv2 := [(0, .ref (q 12)), (1, .int a1)]) rfl rfl rfl rfl ?_
  refine z_aload_n C 0 dX4_fillMinute_0 rfl rfl ?_
  refine z_goti1 C (z_runV C (c_X4_allPots l G q P S X) (cwV 0 C.hts gX4_fillMinute_X4_allPots rfl rfl rfl (by decide +kernel) ⟨Nat.le_of_ble_eq_true rfl, Nat.le_of_ble_eq_true rfl⟩) 12 rfl rfl rfl rfl (Nat.le_of_ble_eq_true rfl) dX4_fillMinute_1 ⟨Nat.le_of_ble_eq_true rfl, Nat.le_of_ble_eq_true rfl⟩) rfl rfl ?_
  refine z_istore_n (lv2 := [(2, .int (f_X4_allPots P S)), (0, .ref (q 12)), (1, .int a1)]) C dX4_fillMinute_4 rfl (by decide) rfl ?_
  refine z_aload_n C 1 dX4_fillMinute_5 rfl rfl ?_
  refine z_iload_n C 2 dX4_fillMinute_6 rfl rfl ?_
  obtain ⟨r2, hf1, h⟩ := bd_some h
  refine z_goti1 C (z_runV C (c_X4_goodAt l G q P S X fu a1 hf1) (cwV 1 C.hts gX4_fillMinute_X4_goodAt rfl rfl rfl (by decide +kernel) ⟨Nat.le_of_ble_eq_true rfl, Nat.le_of_ble_eq_true rfl⟩) 12 rfl rfl rfl rfl (Nat.le_of_ble_eq_true rfl) dX4_fillMinute_7 ⟨Nat.le_of_ble_eq_true rfl, Nat.le_of_ble_eq_true rfl⟩) rfl rfl ?_
  refine z_istore_n (lv2 := [(3, .int r2), (2, .int (f_X4_allPots P S)), (0, .ref (q 12)), (1, .int a1)]) C dX4_fillMinute_10 rfl (by decide) rfl ?_
  refine z_iconst (v := 0) C dX4_fillMinute_11 (by decide) ?_
  refine z_istore (lv2 := [(4, .int 0), (3, .int r2), (2, .int (f_X4_allPots P S)), (0, .ref (q 12)), (1, .int a1)]) C dX4_fillMinute_12 (by decide) rfl ?_
  refine z_lv (lv2 := [(0, .ref (q 12)), (1, .int a1), (2, .int (f_X4_allPots P S)), (3, .int r2), (4, .int 0)]) [3, 4, 2, 1, 0] rfl ?_
  obtain ⟨r8, hf9, h⟩ := bd_some h
  refine L_X4_fillMinute_14 C a1 (f_X4_allPots P S) r2 fu 0 S hf9 ?_
  refine z_iconst (v := 0) C dX4_fillMinute_48 (by decide) ?_
  refine z_istore (lv2 := [(4, .int 0), (0, .ref (q 12)), (1, .int a1), (2, .int (f_X4_allPots P S)), (3, .int r2)]) C dX4_fillMinute_49 (by decide) rfl ?_
  refine z_lv (lv2 := [(0, .ref (q 12)), (1, .int a1), (2, .int (f_X4_allPots P S)), (3, .int r2), (4, .int 0)]) [1, 2, 3, 4, 0] rfl ?_
  obtain ⟨r19, hf20, h⟩ := bd_some h
  refine L_X4_fillMinute_51 C a1 (f_X4_allPots P S) r2 fu 0 r8.2 hf20 ?_
  injection h with h
  subst h
  exact z_ret C rfl rfl dX4_fillMinute_109
def f_X4_fill_L5 (fu : Nat) (P : XP)  : Nat → Int32 → XS → Option (Int32 × XS)
  | 0, _, _ => none
  | n + 1, v1, S => if v1 < 0 then some (v1, S) else (f_X4_fillMinute fu P S v1).bind fun r3 => f_X4_fill_L5 fu P n (v1 + (-1)) r3
def f_X4_fill (fu : Nat) (P : XP) (S : XS) : Option (XS) := (f_X4_fill_L5 fu P fu (xI S 28) S).bind fun r4 => some r4.2
set_option maxHeartbeats 4000000 in
set_option maxRecDepth 100000 in
theorem L_X4_fill_5 {p : Program} {l : Launch} {e : Env} {s : State} {m : MethodId} {args : Array Value} {below : List Frame} {meth : Method} {c : Code} {A : Nat → Prop} {G : zGT} {q : Nat → Nat} {P : XP} {X : va_W} {fu : Nat} {Q : State → Prop} (C : zC p s m args meth c A G cX4_fill 2 none RX4 "fill" wsX4_fill) : ∀ (n : Nat) (v1 : Int32) (S : XS) {res : Int32 × XS}, f_X4_fill_L5 fu P n v1 S = some res → Z p l e ({ frames := 5, cells := 0, slots := 0, locals := 111 }) s m args below meth c A G 2 Q 0 0 (XW G q P res.2 ++ X) [(0, .ref (q 12)), (1, .int res.1)] 20 [] → Z p l e ({ frames := 5, cells := 0, slots := 0, locals := 111 }) s m args below meth c A G 2 Q 0 0 (XW G q P S ++ X) [(0, .ref (q 12)), (1, .int v1)] 5 [] := by
  have hi4 : ∀ w ∈ u_ws RX4 TX4 9, w ∈ wsX4_fill := fun _ h => List.mem_cons_of_mem _ (List.mem_append_right _ h)
  intro n
  induction n with
  | zero =>
    intro v1 S res h kk
    exact nomatch (h : none = some _)
  | succ n ih =>
    intro v1 S res h kk
    rw [f_X4_fill_L5] at h
    refine z_iload_n C 1 dX4_fill_5 rfl rfl ?_
    refine z_if_lt (tgt := 20) C dX4_fill_6 (by decide) (fun c1 => ?_) (fun c1 => ?_)
    · replace h := zt c1 h
      injection h with h
      subst h
      refine z_lv (lv2 := [(0, .ref (q 12)), (1, .int v1)]) [0, 1] rfl ?_
      exact kk
    · replace h := zf c1 h
      refine z_aload_n C 0 dX4_fill_9 rfl rfl ?_
      refine z_iload_n C 1 dX4_fill_10 rfl rfl ?_
      obtain ⟨r3, hf2, h⟩ := bd_some h
      refine z_gotv1 C (z_runV C (c_X4_fillMinute l G q P S X fu v1 hf2) (cwV 1 C.hts gX4_fill_X4_fillMinute rfl rfl rfl (by decide +kernel) ⟨Nat.le_of_ble_eq_true rfl, Nat.le_of_ble_eq_true rfl⟩) 12 rfl rfl rfl rfl (Nat.le_of_ble_eq_true rfl) dX4_fill_11 ⟨Nat.le_of_ble_eq_true rfl, Nat.le_of_ble_eq_true rfl⟩) rfl rfl ?_
      refine z_iinc (v := (v1 + (-1))) (lv2 := [(1, .int (v1 + (-1))), (0, .ref (q 12))]) C 1 dX4_fill_14 rfl rfl (by decide) rfl ?_
      refine z_goto (tgt := 5) C dX4_fill_17 (by decide) ?_
      refine z_lv (lv2 := [(0, .ref (q 12)), (1, .int (v1 + (-1)))]) [1, 0] rfl ?_
      exact ih (v1 + (-1)) r3 h kk
set_option maxHeartbeats 4000000 in
set_option maxRecDepth 100000 in
theorem c_X4_fill (l : Launch) (G : zGT) (q : Nat → Nat) (P : XP) (S : XS) (X : va_W) (fu : Nat) {res : XS} (h : f_X4_fill fu P S = some res) : MG l yX4_fill wsX4_fill ({ frames := 5, cells := 0, slots := 0, locals := 111 }) G [.ref (q 12)] (XW G q P S ++ X) (va_Qv (fun u => u = XW G q P res ++ X)) := by
  have hi4 : ∀ w ∈ u_ws RX4 TX4 9, w ∈ wsX4_fill := fun _ h => List.mem_cons_of_mem _ (List.mem_append_right _ h)
  refine MG.of (cc := cX4_fill) (maxL := 2) (ret := none) (own := RX4) (nm := "fill") (by decide) rfl rfl rfl (Nat.le_of_ble_eq_true rfl) ?_
  intro p e s m args below meth c A C
  rw [f_X4_fill] at h
  refine z_eq (lv2 := [(0, .ref (q 12))]) rfl rfl rfl rfl ?_
  refine z_aload_n C 0 dX4_fill_0 rfl rfl ?_
  refine xg_N8 C hi4 (List.mem_of_getElem? (i := 1) rfl) dX4_fill_1 ?_
  refine z_istore_n (lv2 := [(1, .int (xI S 28)), (0, .ref (q 12))]) C dX4_fill_4 rfl (by decide) rfl ?_
  refine z_lv (lv2 := [(0, .ref (q 12)), (1, .int (xI S 28))]) [1, 0] rfl ?_
  obtain ⟨r4, hf5, h⟩ := bd_some h
  refine L_X4_fill_5 C  fu (xI S 28) S hf5 ?_
  injection h with h
  subst h
  exact z_ret C rfl rfl dX4_fill_20
def f_X4_howFew (P : XP) (S : XS) : Option (Int32) := (f_X4_fewestAt P S 0 (f_X4_allPots P S)).bind fun r2 => if r2 = 1000 then some (-1) else some r2
set_option maxHeartbeats 4000000 in
set_option maxRecDepth 100000 in
theorem c_X4_howFew (l : Launch) (G : zGT) (q : Nat → Nat) (P : XP) (S : XS) (X : va_W) {res : Int32} (h : f_X4_howFew P S = some res) : MG l yX4_howFew wsX4_howFew ({ frames := 3, cells := 0, slots := 0, locals := 63 }) G [.ref (q 12)] (XW G q P S ++ X) (va_Qi (fun r u => r = res ∧ u = XW G q P S ++ X)) := by
  refine MG.of (cc := cX4_howFew) (maxL := 2) (ret := (some .int)) (own := RX4) (nm := "howFew") (by decide) rfl rfl rfl (Nat.le_of_ble_eq_true rfl) ?_
  intro p e s m args below meth c A C
  rw [f_X4_howFew] at h
  refine z_eq (lv2 := [(0, .ref (q 12))]) rfl rfl rfl rfl ?_
  refine z_aload_n C 0 dX4_howFew_0 rfl rfl ?_
  refine z_iconst (v := 0) C dX4_howFew_1 (by decide) ?_
  refine z_aload_n C 0 dX4_howFew_2 rfl rfl ?_
  refine z_goti1 C (z_runV C (c_X4_allPots l G q P S X) (cwV 0 C.hts gX4_howFew_X4_allPots rfl rfl rfl (by decide +kernel) ⟨Nat.le_of_ble_eq_true rfl, Nat.le_of_ble_eq_true rfl⟩) 12 rfl rfl rfl rfl (Nat.le_of_ble_eq_true rfl) dX4_howFew_3 ⟨Nat.le_of_ble_eq_true rfl, Nat.le_of_ble_eq_true rfl⟩) rfl rfl ?_
  obtain ⟨r2, hf1, h⟩ := bd_some h
  refine z_goti1 C (z_runV C (c_X4_fewestAt l G q P S X 0 (f_X4_allPots P S) hf1) (cwV 2 C.hts gX4_howFew_X4_fewestAt rfl rfl rfl (by decide +kernel) ⟨Nat.le_of_ble_eq_true rfl, Nat.le_of_ble_eq_true rfl⟩) 12 rfl rfl rfl rfl (Nat.le_of_ble_eq_true rfl) dX4_howFew_6 ⟨Nat.le_of_ble_eq_true rfl, Nat.le_of_ble_eq_true rfl⟩) rfl rfl ?_
  refine z_istore_n (lv2 := [(1, .int r2), (0, .ref (q 12))]) C dX4_howFew_9 rfl (by decide) rfl ?_
  refine z_iload_n C 0 dX4_howFew_10 rfl rfl ?_
  refine z_sipush (v := 1000) C dX4_howFew_11 (by decide) ?_
  refine z_icmp_ne (tgt := 21) C dX4_howFew_14 (by decide) (fun c3 => ?_) (fun c3 => ?_)
  · replace h := zf c3 h
    refine z_iload_n C 0 dX4_howFew_21 rfl rfl ?_
    injection h with h
    subst h
    exact z_iret C rfl ⟨rfl, rfl⟩ dX4_howFew_22
  · replace h := zt c3 h
    refine z_iconst (v := (-1)) C dX4_howFew_17 (by decide) ?_
    refine z_goto (tgt := 22) C dX4_howFew_18 (by decide) ?_
    injection h with h
    subst h
    exact z_iret C rfl ⟨rfl, rfl⟩ dX4_howFew_22
def f_X4_leadsOn_L9 (fu : Nat) (P : XP) (v1 : Int32) (v2 : Int32) (v3 : Int32) : Nat → Int32 → XS → Option (Int32)
  | 0, _, _ => none
  | n + 1, v4, S => if v3 < v4 then some 0 else if (f_X4_canTake v4 v3 (xI S 27)) = 0 then f_X4_leadsOn_L9 fu P v1 v2 v3 n (v4 + 1) S else (f_X4_fewestAt P S v1 ((f_X4_allPots P S) &&& (v4 ^^^ (-1)))).bind fun r6 => if r6 = v2 then some 1 else f_X4_leadsOn_L9 fu P v1 v2 v3 n (v4 + 1) S
def f_X4_leadsOn (fu : Nat) (P : XP) (S : XS) (a1 : Int32) (a2 : Int32) : Option (Int32) := (f_X4_goodAt fu P S 0).bind fun r2 => f_X4_leadsOn_L9 fu P a1 a2 r2 fu 0 S
set_option maxHeartbeats 4000000 in
set_option maxRecDepth 100000 in
theorem L_X4_leadsOn_9 {p : Program} {l : Launch} {e : Env} {s : State} {m : MethodId} {args : Array Value} {below : List Frame} {meth : Method} {c : Code} {A : Nat → Prop} {G : zGT} {q : Nat → Nat} {P : XP} {X : va_W} {fu : Nat} (C : zC p s m args meth c A G cX4_leadsOn 5 (some .boolean) RX4 "leadsOn" wsX4_leadsOn) (v1 : Int32) (v2 : Int32) (v3 : Int32) : ∀ (n : Nat) (v4 : Int32) (S : XS) {res : Int32}, f_X4_leadsOn_L9 fu P v1 v2 v3 n v4 S = some res → Z p l e ({ frames := 3, cells := 0, slots := 0, locals := 63 }) s m args below meth c A G 5 (MQ below (va_Qi (fun r u => r = res ∧ u = XW G q P S ++ X) (zPost G A) A) args s 0 0 A) 0 0 (XW G q P S ++ X) [(0, .ref (q 12)), (1, .int v1), (2, .int v2), (3, .int v3), (4, .int v4)] 9 [] := by
  have hi4 : ∀ w ∈ u_ws RX4 TX4 9, w ∈ wsX4_leadsOn := fun _ h => List.mem_cons_of_mem _ (List.mem_append_right _ h)
  intro n
  induction n with
  | zero =>
    intro v4 S res h
    exact nomatch (h : none = some _)
  | succ n ih =>
    intro v4 S res h
    rw [f_X4_leadsOn_L9] at h
    refine z_iload C 4 dX4_leadsOn_9 rfl ?_
    refine z_iload_n C 3 dX4_leadsOn_11 rfl rfl ?_
    refine z_icmp_gt (tgt := 54) C dX4_leadsOn_12 (by decide) (fun c3 => ?_) (fun c3 => ?_)
    · replace h := zt c3 h
      refine z_iconst (v := 0) C dX4_leadsOn_54 (by decide) ?_
      injection h with h
      subst h
      exact z_zret C rfl (Or.inl rfl) ⟨rfl, rfl⟩ dX4_leadsOn_55
    · replace h := zf c3 h
      refine z_iload C 4 dX4_leadsOn_15 rfl ?_
      refine z_iload_n C 3 dX4_leadsOn_17 rfl rfl ?_
      refine z_aload_n C 0 dX4_leadsOn_18 rfl rfl ?_
      refine xg_N7 C hi4 (List.mem_of_getElem? (i := 1) rfl) dX4_leadsOn_19 ?_
      refine z_goti1 C (z_runS C (c_X4_canTake l G (XW G q P S ++ X) v4 v3 (xI S 27)) (va_cwS 3 C.hts gX4_leadsOn_X4_canTake rfl rfl rfl (by decide +kernel) ⟨Nat.le_of_ble_eq_true rfl, Nat.le_of_ble_eq_true rfl⟩) rfl rfl (Nat.le_of_ble_eq_true rfl) dX4_leadsOn_22 ⟨Nat.le_of_ble_eq_true rfl, Nat.le_of_ble_eq_true rfl⟩) rfl rfl ?_
      refine z_if_eq (tgt := 48) C dX4_leadsOn_25 (by decide) (fun c4 => ?_) (fun c4 => ?_)
      · replace h := zt c4 h
        refine z_iinc (v := (v4 + 1)) (lv2 := [(4, .int (v4 + 1)), (0, .ref (q 12)), (1, .int v1), (2, .int v2), (3, .int v3)]) C 4 dX4_leadsOn_48 rfl rfl (by decide) rfl ?_
        refine z_goto (tgt := 9) C dX4_leadsOn_51 (by decide) ?_
        refine z_lv (lv2 := [(0, .ref (q 12)), (1, .int v1), (2, .int v2), (3, .int v3), (4, .int (v4 + 1))]) [1, 2, 3, 4, 0] rfl ?_
        exact ih (v4 + 1) S h
      · replace h := zf c4 h
        refine z_aload_n C 0 dX4_leadsOn_28 rfl rfl ?_
        refine z_iload_n C 1 dX4_leadsOn_29 rfl rfl ?_
        refine z_aload_n C 0 dX4_leadsOn_30 rfl rfl ?_
        refine z_goti1 C (z_runV C (c_X4_allPots l G q P S X) (cwV 0 C.hts gX4_leadsOn_X4_allPots rfl rfl rfl (by decide +kernel) ⟨Nat.le_of_ble_eq_true rfl, Nat.le_of_ble_eq_true rfl⟩) 12 rfl rfl rfl rfl (Nat.le_of_ble_eq_true rfl) dX4_leadsOn_31 ⟨Nat.le_of_ble_eq_true rfl, Nat.le_of_ble_eq_true rfl⟩) rfl rfl ?_
        refine z_iload C 4 dX4_leadsOn_34 rfl ?_
        refine z_iconst (v := (-1)) C dX4_leadsOn_36 (by decide) ?_
        refine z_ixor C dX4_leadsOn_37 ?_
        refine z_iand C dX4_leadsOn_38 ?_
        obtain ⟨r6, hf5, h⟩ := bd_some h
        refine z_goti1 C (z_runV C (c_X4_fewestAt l G q P S X v1 ((f_X4_allPots P S) &&& (v4 ^^^ (-1))) hf5) (cwV 2 C.hts gX4_leadsOn_X4_fewestAt rfl rfl rfl (by decide +kernel) ⟨Nat.le_of_ble_eq_true rfl, Nat.le_of_ble_eq_true rfl⟩) 12 rfl rfl rfl rfl (Nat.le_of_ble_eq_true rfl) dX4_leadsOn_39 ⟨Nat.le_of_ble_eq_true rfl, Nat.le_of_ble_eq_true rfl⟩) rfl rfl ?_
        refine z_iload_n C 2 dX4_leadsOn_42 rfl rfl ?_
        refine z_icmp_ne (tgt := 48) C dX4_leadsOn_43 (by decide) (fun c7 => ?_) (fun c7 => ?_)
        · replace h := zf c7 h
          refine z_iinc (v := (v4 + 1)) (lv2 := [(4, .int (v4 + 1)), (0, .ref (q 12)), (1, .int v1), (2, .int v2), (3, .int v3)]) C 4 dX4_leadsOn_48 rfl rfl (by decide) rfl ?_
          refine z_goto (tgt := 9) C dX4_leadsOn_51 (by decide) ?_
          refine z_lv (lv2 := [(0, .ref (q 12)), (1, .int v1), (2, .int v2), (3, .int v3), (4, .int (v4 + 1))]) [1, 2, 3, 4, 0] rfl ?_
          exact ih (v4 + 1) S h
        · replace h := zt c7 h
          refine z_iconst (v := 1) C dX4_leadsOn_46 (by decide) ?_
          injection h with h
          subst h
          exact z_zret C rfl (Or.inr rfl) ⟨rfl, rfl⟩ dX4_leadsOn_47
set_option maxHeartbeats 4000000 in
set_option maxRecDepth 100000 in
theorem c_X4_leadsOn (l : Launch) (G : zGT) (q : Nat → Nat) (P : XP) (S : XS) (X : va_W) (fu : Nat) (a1 : Int32) (a2 : Int32) {res : Int32} (h : f_X4_leadsOn fu P S a1 a2 = some res) : MG l yX4_leadsOn wsX4_leadsOn ({ frames := 3, cells := 0, slots := 0, locals := 63 }) G [.ref (q 12), .int a1, .int a2] (XW G q P S ++ X) (va_Qi (fun r u => r = res ∧ u = XW G q P S ++ X)) := by
  have hi4 : ∀ w ∈ u_ws RX4 TX4 9, w ∈ wsX4_leadsOn := fun _ h => List.mem_cons_of_mem _ (List.mem_append_right _ h)
  refine MG.of (cc := cX4_leadsOn) (maxL := 5) (ret := (some .boolean)) (own := RX4) (nm := "leadsOn") (by decide) rfl rfl rfl (Nat.le_of_ble_eq_true rfl) ?_
  intro p e s m args below meth c A C
  rw [f_X4_leadsOn] at h
  refine z_eq (lv2 := [(0, .ref (q 12)), (1, .int a1), (2, .int a2)]) rfl rfl rfl rfl ?_
  refine z_aload_n C 0 dX4_leadsOn_0 rfl rfl ?_
  refine z_iconst (v := 0) C dX4_leadsOn_1 (by decide) ?_
  obtain ⟨r2, hf1, h⟩ := bd_some h
  refine z_goti1 C (z_runV C (c_X4_goodAt l G q P S X fu 0 hf1) (cwV 1 C.hts gX4_leadsOn_X4_goodAt rfl rfl rfl (by decide +kernel) ⟨Nat.le_of_ble_eq_true rfl, Nat.le_of_ble_eq_true rfl⟩) 12 rfl rfl rfl rfl (Nat.le_of_ble_eq_true rfl) dX4_leadsOn_2 ⟨Nat.le_of_ble_eq_true rfl, Nat.le_of_ble_eq_true rfl⟩) rfl rfl ?_
  refine z_istore_n (lv2 := [(3, .int r2), (0, .ref (q 12)), (1, .int a1), (2, .int a2)]) C dX4_leadsOn_5 rfl (by decide) rfl ?_
  refine z_iconst (v := 0) C dX4_leadsOn_6 (by decide) ?_
  refine z_istore (lv2 := [(4, .int 0), (3, .int r2), (0, .ref (q 12)), (1, .int a1), (2, .int a2)]) C dX4_leadsOn_7 (by decide) rfl ?_
  refine z_lv (lv2 := [(0, .ref (q 12)), (1, .int a1), (2, .int a2), (3, .int r2), (4, .int 0)]) [2, 3, 4, 1, 0] rfl ?_
  exact L_X4_leadsOn_9 C a1 a2 r2 fu 0 S h
def f_X4_first_L13 (fu : Nat) (P : XP) (v1 : Int32) : Nat → Int32 → XS → Option (Int32)
  | 0, _, _ => none
  | n + 1, v2, S => if (xI S 25) < v2 then some (-1) else if (xI S 28) < v2 then some (-1) else (f_X4_leadsOn fu P S v2 (v1 - 1)).bind fun r7 => if r7 = 0 then f_X4_first_L13 fu P v1 n (v2 + 1) S else some v2
def f_X4_first (fu : Nat) (P : XP) (S : XS) : Option (Int32) := (f_X4_howFew P S).bind fun r2 => if 0 < r2 then f_X4_first_L13 fu P r2 fu 1 S else some (-1)
set_option maxHeartbeats 4000000 in
set_option maxRecDepth 100000 in
theorem L_X4_first_13 {p : Program} {l : Launch} {e : Env} {s : State} {m : MethodId} {args : Array Value} {below : List Frame} {meth : Method} {c : Code} {A : Nat → Prop} {G : zGT} {q : Nat → Nat} {P : XP} {X : va_W} {fu : Nat} (C : zC p s m args meth c A G cX4_first 3 (some .int) RX4 "first" wsX4_first) (v1 : Int32) : ∀ (n : Nat) (v2 : Int32) (S : XS) {res : Int32}, f_X4_first_L13 fu P v1 n v2 S = some res → Z p l e ({ frames := 4, cells := 0, slots := 0, locals := 87 }) s m args below meth c A G 3 (MQ below (va_Qi (fun r u => r = res ∧ u = XW G q P S ++ X) (zPost G A) A) args s 0 0 A) 0 0 (XW G q P S ++ X) [(0, .ref (q 12)), (1, .int v1), (2, .int v2)] 13 [] := by
  have hi4 : ∀ w ∈ u_ws RX4 TX4 9, w ∈ wsX4_first := fun _ h => List.mem_cons_of_mem _ (List.mem_append_right _ h)
  intro n
  induction n with
  | zero =>
    intro v2 S res h
    exact nomatch (h : none = some _)
  | succ n ih =>
    intro v2 S res h
    rw [f_X4_first_L13] at h
    refine z_iload_n C 2 dX4_first_13 rfl rfl ?_
    refine z_aload_n C 0 dX4_first_14 rfl rfl ?_
    refine xg_N5 C hi4 (List.mem_of_getElem? (i := 1) rfl) dX4_first_15 ?_
    refine z_icmp_gt (tgt := 48) C dX4_first_18 (by decide) (fun c4 => ?_) (fun c4 => ?_)
    · replace h := zt c4 h
      refine z_iconst (v := (-1)) C dX4_first_48 (by decide) ?_
      injection h with h
      subst h
      exact z_iret C rfl ⟨rfl, rfl⟩ dX4_first_49
    · replace h := zf c4 h
      refine z_iload_n C 2 dX4_first_21 rfl rfl ?_
      refine z_aload_n C 0 dX4_first_22 rfl rfl ?_
      refine xg_N8 C hi4 (List.mem_of_getElem? (i := 2) rfl) dX4_first_23 ?_
      refine z_icmp_gt (tgt := 48) C dX4_first_26 (by decide) (fun c5 => ?_) (fun c5 => ?_)
      · replace h := zt c5 h
        refine z_iconst (v := (-1)) C dX4_first_48 (by decide) ?_
        injection h with h
        subst h
        exact z_iret C rfl ⟨rfl, rfl⟩ dX4_first_49
      · replace h := zf c5 h
        refine z_aload_n C 0 dX4_first_29 rfl rfl ?_
        refine z_iload_n C 2 dX4_first_30 rfl rfl ?_
        refine z_iload_n C 1 dX4_first_31 rfl rfl ?_
        refine z_iconst (v := 1) C dX4_first_32 (by decide) ?_
        refine z_isub C dX4_first_33 ?_
        obtain ⟨r7, hf6, h⟩ := bd_some h
        refine z_goti1 C (z_runV C (c_X4_leadsOn l G q P S X fu v2 (v1 - 1) hf6) (cwV 2 C.hts gX4_first_X4_leadsOn rfl rfl rfl (by decide +kernel) ⟨Nat.le_of_ble_eq_true rfl, Nat.le_of_ble_eq_true rfl⟩) 12 rfl rfl rfl rfl (Nat.le_of_ble_eq_true rfl) dX4_first_34 ⟨Nat.le_of_ble_eq_true rfl, Nat.le_of_ble_eq_true rfl⟩) rfl rfl ?_
        refine z_if_eq (tgt := 42) C dX4_first_37 (by decide) (fun c8 => ?_) (fun c8 => ?_)
        · replace h := zt c8 h
          refine z_iinc (v := (v2 + 1)) (lv2 := [(2, .int (v2 + 1)), (0, .ref (q 12)), (1, .int v1)]) C 2 dX4_first_42 rfl rfl (by decide) rfl ?_
          refine z_goto (tgt := 13) C dX4_first_45 (by decide) ?_
          refine z_lv (lv2 := [(0, .ref (q 12)), (1, .int v1), (2, .int (v2 + 1))]) [1, 2, 0] rfl ?_
          exact ih (v2 + 1) S h
        · replace h := zf c8 h
          refine z_iload_n C 2 dX4_first_40 rfl rfl ?_
          injection h with h
          subst h
          exact z_iret C rfl ⟨rfl, rfl⟩ dX4_first_41
set_option maxHeartbeats 4000000 in
set_option maxRecDepth 100000 in
theorem c_X4_first (l : Launch) (G : zGT) (q : Nat → Nat) (P : XP) (S : XS) (X : va_W) (fu : Nat) {res : Int32} (h : f_X4_first fu P S = some res) : MG l yX4_first wsX4_first ({ frames := 4, cells := 0, slots := 0, locals := 87 }) G [.ref (q 12)] (XW G q P S ++ X) (va_Qi (fun r u => r = res ∧ u = XW G q P S ++ X)) := by
  have hi4 : ∀ w ∈ u_ws RX4 TX4 9, w ∈ wsX4_first := fun _ h => List.mem_cons_of_mem _ (List.mem_append_right _ h)
  refine MG.of (cc := cX4_first) (maxL := 3) (ret := (some .int)) (own := RX4) (nm := "first") (by decide) rfl rfl rfl (Nat.le_of_ble_eq_true rfl) ?_
  intro p e s m args below meth c A C
  rw [f_X4_first] at h
  refine z_eq (lv2 := [(0, .ref (q 12))]) rfl rfl rfl rfl ?_
  refine z_aload_n C 0 dX4_first_0 rfl rfl ?_
  obtain ⟨r2, hf1, h⟩ := bd_some h
  refine z_goti1 C (z_runV C (c_X4_howFew l G q P S X hf1) (cwV 0 C.hts gX4_first_X4_howFew rfl rfl rfl (by decide +kernel) ⟨Nat.le_of_ble_eq_true rfl, Nat.le_of_ble_eq_true rfl⟩) 12 rfl rfl rfl rfl (Nat.le_of_ble_eq_true rfl) dX4_first_1 ⟨Nat.le_of_ble_eq_true rfl, Nat.le_of_ble_eq_true rfl⟩) rfl rfl ?_
  refine z_istore_n (lv2 := [(1, .int r2), (0, .ref (q 12))]) C dX4_first_4 rfl (by decide) rfl ?_
  refine z_iload_n C 0 dX4_first_5 rfl rfl ?_
  refine z_if_gt (tgt := 11) C dX4_first_6 (by decide) (fun c3 => ?_) (fun c3 => ?_)
  · replace h := zt c3 h
    refine z_iconst (v := 1) C dX4_first_11 (by decide) ?_
    refine z_istore_n (lv2 := [(2, .int 1), (1, .int r2), (0, .ref (q 12))]) C dX4_first_12 rfl (by decide) rfl ?_
    refine z_lv (lv2 := [(0, .ref (q 12)), (1, .int r2), (2, .int 1)]) [2, 1, 0] rfl ?_
    exact L_X4_first_13 C r2 fu 1 S h
  · replace h := zf c3 h
    refine z_iconst (v := (-1)) C dX4_first_9 (by decide) ?_
    injection h with h
    subst h
    exact z_iret C rfl ⟨rfl, rfl⟩ dX4_first_10
