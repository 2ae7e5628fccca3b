def f_X10_tell (S : MS) (a1 : Int32) (a2 : Int32) : Option (Int32 × MS) := if (f_X10_isPot S a1) = 0 then some ((-101), S) else if (f_X10_within a2 50 199) = 0 then some ((-102), S) else (f_X10_boils S a1).bind fun r4 => if r4 = 0 then some ((-103), S) else if (mI S 12) = 6 then some ((-104), S) else gd (mI S 12) 6 ((f_X10_dueOf (msA S 13 (mI S 12).toNatClampNeg (mI S 6)) a1).bind fun r9 => gd (mI (msA S 13 (mI S 12).toNatClampNeg (mI S 6)) 12) 6 ((f_X10_keepsOf (msA (msA S 13 (mI S 12).toNatClampNeg (mI S 6)) 14 (mI (msA S 13 (mI S 12).toNatClampNeg (mI S 6)) 12).toNatClampNeg r9) a1).bind fun r12 => gd (mI (msA (msA S 13 (mI S 12).toNatClampNeg (mI S 6)) 14 (mI (msA S 13 (mI S 12).toNatClampNeg (mI S 6)) 12).toNatClampNeg r9) 12) 6 (gd (mI (msA (msA (msA S 13 (mI S 12).toNatClampNeg (mI S 6)) 14 (mI (msA S 13 (mI S 12).toNatClampNeg (mI S 6)) 12).toNatClampNeg r9) 15 (mI (msA (msA S 13 (mI S 12).toNatClampNeg (mI S 6)) 14 (mI (msA S 13 (mI S 12).toNatClampNeg (mI S 6)) 12).toNatClampNeg r9) 12).toNatClampNeg r12) 12) 6 (some ((mI (msI (msA (msA (msA (msA S 13 (mI S 12).toNatClampNeg (mI S 6)) 14 (mI (msA S 13 (mI S 12).toNatClampNeg (mI S 6)) 12).toNatClampNeg r9) 15 (mI (msA (msA S 13 (mI S 12).toNatClampNeg (mI S 6)) 14 (mI (msA S 13 (mI S 12).toNatClampNeg (mI S 6)) 12).toNatClampNeg r9) 12).toNatClampNeg r12) 16 (mI (msA (msA (msA S 13 (mI S 12).toNatClampNeg (mI S 6)) 14 (mI (msA S 13 (mI S 12).toNatClampNeg (mI S 6)) 12).toNatClampNeg r9) 15 (mI (msA (msA S 13 (mI S 12).toNatClampNeg (mI S 6)) 14 (mI (msA S 13 (mI S 12).toNatClampNeg (mI S 6)) 12).toNatClampNeg r9) 12).toNatClampNeg r12) 12).toNatClampNeg a2) 12 ((mI (msA (msA (msA (msA S 13 (mI S 12).toNatClampNeg (mI S 6)) 14 (mI (msA S 13 (mI S 12).toNatClampNeg (mI S 6)) 12).toNatClampNeg r9) 15 (mI (msA (msA S 13 (mI S 12).toNatClampNeg (mI S 6)) 14 (mI (msA S 13 (mI S 12).toNatClampNeg (mI S 6)) 12).toNatClampNeg r9) 12).toNatClampNeg r12) 16 (mI (msA (msA (msA S 13 (mI S 12).toNatClampNeg (mI S 6)) 14 (mI (msA S 13 (mI S 12).toNatClampNeg (mI S 6)) 12).toNatClampNeg r9) 15 (mI (msA (msA S 13 (mI S 12).toNatClampNeg (mI S 6)) 14 (mI (msA S 13 (mI S 12).toNatClampNeg (mI S 6)) 12).toNatClampNeg r9) 12).toNatClampNeg r12) 12).toNatClampNeg a2) 12) + 1)) 12), msI (msA (msA (msA (msA S 13 (mI S 12).toNatClampNeg (mI S 6)) 14 (mI (msA S 13 (mI S 12).toNatClampNeg (mI S 6)) 12).toNatClampNeg r9) 15 (mI (msA (msA S 13 (mI S 12).toNatClampNeg (mI S 6)) 14 (mI (msA S 13 (mI S 12).toNatClampNeg (mI S 6)) 12).toNatClampNeg r9) 12).toNatClampNeg r12) 16 (mI (msA (msA (msA S 13 (mI S 12).toNatClampNeg (mI S 6)) 14 (mI (msA S 13 (mI S 12).toNatClampNeg (mI S 6)) 12).toNatClampNeg r9) 15 (mI (msA (msA S 13 (mI S 12).toNatClampNeg (mI S 6)) 14 (mI (msA S 13 (mI S 12).toNatClampNeg (mI S 6)) 12).toNatClampNeg r9) 12).toNatClampNeg r12) 12).toNatClampNeg a2) 12 ((mI (msA (msA (msA (msA S 13 (mI S 12).toNatClampNeg (mI S 6)) 14 (mI (msA S 13 (mI S 12).toNatClampNeg (mI S 6)) 12).toNatClampNeg r9) 15 (mI (msA (msA S 13 (mI S 12).toNatClampNeg (mI S 6)) 14 (mI (msA S 13 (mI S 12).toNatClampNeg (mI S 6)) 12).toNatClampNeg r9) 12).toNatClampNeg r12) 16 (mI (msA (msA (msA S 13 (mI S 12).toNatClampNeg (mI S 6)) 14 (mI (msA S 13 (mI S 12).toNatClampNeg (mI S 6)) 12).toNatClampNeg r9) 15 (mI (msA (msA S 13 (mI S 12).toNatClampNeg (mI S 6)) 14 (mI (msA S 13 (mI S 12).toNatClampNeg (mI S 6)) 12).toNatClampNeg r9) 12).toNatClampNeg r12) 12).toNatClampNeg a2) 12) + 1))))))
set_option maxHeartbeats 4000000 in
set_option maxRecDepth 100000 in
theorem c_X10_tell (l : Launch) (G : zGT) (q : Nat → Nat) (S : MS) (X : va_W) (a1 : Int32) (a2 : Int32) {res : Int32 × MS} (h : f_X10_tell S a1 a2 = some res) : MG l yX10_tell wsX10_tell ({ frames := 2, cells := 0, slots := 0, locals := 43 }) G [.ref (q 0), .int a1, .int a2] (MW G q S ++ X) (va_Qi (fun r u => r = res.1 ∧ u = MW G q res.2 ++ X)) := by
  have hi10 : ∀ w ∈ u_ws RX10 TX10 39, w ∈ wsX10_tell := fun _ h => List.mem_cons_of_mem _ (List.mem_append_right _ h)
  refine MG.of (cc := cX10_tell) (maxL := 3) (ret := (some .int)) (own := RX10) (nm := "tell") (by decide) rfl rfl rfl (Nat.le_of_ble_eq_true rfl) ?_
  intro p e s m args below meth c A C
  rw [f_X10_tell] at h
  refine z_eq (lv2 := [(0, .ref (q 0)), (1, .int a1), (2, .int a2)]) rfl rfl rfl rfl ?_
  refine z_aload_n C 0 dX10_tell_0 rfl rfl ?_
  refine z_iload_n C 1 dX10_tell_1 rfl rfl ?_
  refine z_goti1 C (z_runV C (c_X10_isPot l G q S X a1) (cwV 1 C.hts gX10_tell_X10_isPot rfl rfl rfl (by decide +kernel) ⟨Nat.le_of_ble_eq_true rfl, Nat.le_of_ble_eq_true rfl⟩) 0 rfl rfl rfl rfl (Nat.le_of_ble_eq_true rfl) dX10_tell_2 ⟨Nat.le_of_ble_eq_true rfl, Nat.le_of_ble_eq_true rfl⟩) rfl rfl ?_
  refine z_if_ne (tgt := 11) C dX10_tell_5 (by decide) (fun c1 => ?_) (fun c1 => ?_)
  · replace h := zf c1 h
    refine z_iload_n C 2 dX10_tell_11 rfl rfl ?_
    refine z_bipush (v := 50) C dX10_tell_12 (by decide) ?_
    refine z_sipush (v := 199) C dX10_tell_14 (by decide) ?_
    refine z_goti1 C (z_runS C (c_X10_within l G (MW G q S ++ X) a2 50 199) (va_cwS 3 C.hts gX10_tell_X10_within rfl rfl rfl (by decide +kernel) ⟨Nat.le_of_ble_eq_true rfl, Nat.le_of_ble_eq_true rfl⟩) rfl rfl (Nat.le_of_ble_eq_true rfl) dX10_tell_17 ⟨Nat.le_of_ble_eq_true rfl, Nat.le_of_ble_eq_true rfl⟩) rfl rfl ?_
    refine z_if_ne (tgt := 26) C dX10_tell_20 (by decide) (fun c2 => ?_) (fun c2 => ?_)
    · replace h := zf c2 h
      refine z_aload_n C 0 dX10_tell_26 rfl rfl ?_
      refine z_iload_n C 1 dX10_tell_27 rfl rfl ?_
      obtain ⟨r4, hf3, h⟩ := bd_some h
      refine z_goti1 C (z_runV C (c_X10_boils l G q S X a1 hf3) (cwV 1 C.hts gX10_tell_X10_boils rfl rfl rfl (by decide +kernel) ⟨Nat.le_of_ble_eq_true rfl, Nat.le_of_ble_eq_true rfl⟩) 0 rfl rfl rfl rfl (Nat.le_of_ble_eq_true rfl) dX10_tell_28 ⟨Nat.le_of_ble_eq_true rfl, Nat.le_of_ble_eq_true rfl⟩) rfl rfl ?_
      refine z_if_ne (tgt := 37) C dX10_tell_31 (by decide) (fun c5 => ?_) (fun c5 => ?_)
      · replace h := zf c5 h
        refine z_aload_n C 0 dX10_tell_37 rfl rfl ?_
        refine mg_12 C hi10 (List.mem_of_getElem? (i := 1) rfl) dX10_tell_38 ?_
        refine z_bipush (v := 6) C dX10_tell_41 (by decide) ?_
        refine z_icmp_ne (tgt := 49) C dX10_tell_43 (by decide) (fun c6 => ?_) (fun c6 => ?_)
        · replace h := zf c6 h
          refine z_aload_n C 0 dX10_tell_49 rfl rfl ?_
          refine mg_13 C hi10 (List.mem_of_getElem? (i := 2) rfl) dX10_tell_50 ?_
          refine z_aload_n C 0 dX10_tell_53 rfl rfl ?_
          refine mg_12 C hi10 (List.mem_of_getElem? (i := 1) rfl) dX10_tell_54 ?_
          refine z_aload_n C 0 dX10_tell_57 rfl rfl ?_
          refine mg_6 C hi10 (List.mem_of_getElem? (i := 3) rfl) dX10_tell_58 ?_
          obtain ⟨hg7, h⟩ := gd_some h
          refine mt_13 C hg7 dX10_tell_61 ?_
          refine z_aload_n C 0 dX10_tell_62 rfl rfl ?_
          refine mg_14 C hi10 (List.mem_of_getElem? (i := 4) rfl) dX10_tell_63 ?_
          refine z_aload_n C 0 dX10_tell_66 rfl rfl ?_
          refine mg_12 C hi10 (List.mem_of_getElem? (i := 1) rfl) dX10_tell_67 ?_
          refine z_aload_n C 0 dX10_tell_70 rfl rfl ?_
          refine z_iload_n C 1 dX10_tell_71 rfl rfl ?_
          obtain ⟨r9, hf8, h⟩ := bd_some h
          refine z_goti1 C (z_runV C (c_X10_dueOf l G q (msA S 13 (mI S 12).toNatClampNeg (mI S 6)) X a1 hf8) (cwV 1 C.hts gX10_tell_X10_dueOf rfl rfl rfl (by decide +kernel) ⟨Nat.le_of_ble_eq_true rfl, Nat.le_of_ble_eq_true rfl⟩) 0 rfl rfl rfl rfl (Nat.le_of_ble_eq_true rfl) dX10_tell_72 ⟨Nat.le_of_ble_eq_true rfl, Nat.le_of_ble_eq_true rfl⟩) rfl rfl ?_
          obtain ⟨hg10, h⟩ := gd_some h
          refine mt_14 C hg10 dX10_tell_75 ?_
          refine z_aload_n C 0 dX10_tell_76 rfl rfl ?_
          refine mg_15 C hi10 (List.mem_of_getElem? (i := 5) rfl) dX10_tell_77 ?_
          refine z_aload_n C 0 dX10_tell_80 rfl rfl ?_
          refine mg_12 C hi10 (List.mem_of_getElem? (i := 1) rfl) dX10_tell_81 ?_
          refine z_aload_n C 0 dX10_tell_84 rfl rfl ?_
          refine z_iload_n C 1 dX10_tell_85 rfl rfl ?_
          obtain ⟨r12, hf11, h⟩ := bd_some h
          refine z_goti1 C (z_runV C (c_X10_keepsOf l G q (msA (msA S 13 (mI S 12).toNatClampNeg (mI S 6)) 14 (mI (msA S 13 (mI S 12).toNatClampNeg (mI S 6)) 12).toNatClampNeg r9) X a1 hf11) (cwV 1 C.hts gX10_tell_X10_keepsOf rfl rfl rfl (by decide +kernel) ⟨Nat.le_of_ble_eq_true rfl, Nat.le_of_ble_eq_true rfl⟩) 0 rfl rfl rfl rfl (Nat.le_of_ble_eq_true rfl) dX10_tell_86 ⟨Nat.le_of_ble_eq_true rfl, Nat.le_of_ble_eq_true rfl⟩) rfl rfl ?_
          obtain ⟨hg13, h⟩ := gd_some h
          refine mt_15 C hg13 dX10_tell_89 ?_
          refine z_aload_n C 0 dX10_tell_90 rfl rfl ?_
          refine mg_16 C hi10 (List.mem_of_getElem? (i := 6) rfl) dX10_tell_91 ?_
          refine z_aload_n C 0 dX10_tell_94 rfl rfl ?_
          refine mg_12 C hi10 (List.mem_of_getElem? (i := 1) rfl) dX10_tell_95 ?_
          refine z_iload_n C 2 dX10_tell_98 rfl rfl ?_
          obtain ⟨hg14, h⟩ := gd_some h
          refine mt_16 C hg14 dX10_tell_99 ?_
          refine z_aload_n C 0 dX10_tell_100 rfl rfl ?_
          refine z_dup C dX10_tell_101 rfl ?_
          refine mg_12 C hi10 (List.mem_of_getElem? (i := 1) rfl) dX10_tell_102 ?_
          refine z_iconst (v := 1) C dX10_tell_105 (by decide) ?_
          refine z_iadd C dX10_tell_106 ?_
          refine mp_12 C hi10 (List.mem_of_getElem? (i := 1) rfl) dX10_tell_107 ?_
          refine z_aload_n C 0 dX10_tell_110 rfl rfl ?_
          refine mg_12 C hi10 (List.mem_of_getElem? (i := 1) rfl) dX10_tell_111 ?_
          injection h with h
          subst h
          exact z_iret C rfl ⟨rfl, rfl⟩ dX10_tell_114
        · replace h := zt c6 h
          refine z_bipush (v := (-104)) C dX10_tell_46 (by decide) ?_
          injection h with h
          subst h
          exact z_iret C rfl ⟨rfl, rfl⟩ dX10_tell_48
      · replace h := zt c5 h
        refine z_bipush (v := (-103)) C dX10_tell_34 (by decide) ?_
        injection h with h
        subst h
        exact z_iret C rfl ⟨rfl, rfl⟩ dX10_tell_36
    · replace h := zt c2 h
      refine z_bipush (v := (-102)) C dX10_tell_23 (by decide) ?_
      injection h with h
      subst h
      exact z_iret C rfl ⟨rfl, rfl⟩ dX10_tell_25
  · replace h := zt c1 h
    refine z_bipush (v := (-101)) C dX10_tell_8 (by decide) ?_
    injection h with h
    subst h
    exact z_iret C rfl ⟨rfl, rfl⟩ dX10_tell_10
def f_X10_forget (S : MS) : Int32 × MS := ((mI S 12), msI S 12 0)
set_option maxHeartbeats 4000000 in
set_option maxRecDepth 100000 in
theorem c_X10_forget (l : Launch) (G : zGT) (q : Nat → Nat) (S : MS) (X : va_W) : MG l yX10_forget wsX10_forget ({ frames := 0, cells := 0, slots := 0, locals := 0 }) G [.ref (q 0)] (MW G q S ++ X) (va_Qi (fun r u => r = (f_X10_forget S).1 ∧ u = MW G q ((f_X10_forget S).2) ++ X)) := by
  have hi10 : ∀ w ∈ u_ws RX10 TX10 39, w ∈ wsX10_forget := fun _ h => List.mem_cons_of_mem _ (List.mem_append_right _ h)
  refine MG.of (cc := cX10_forget) (maxL := 2) (ret := (some .int)) (own := RX10) (nm := "forget") (by decide) rfl rfl rfl (Nat.le_of_ble_eq_true rfl) ?_
  intro p e s m args below meth c A C
  obtain ⟨res, h⟩ : ∃ z, f_X10_forget S = z := ⟨_, rfl⟩
  rw [h]
  rw [f_X10_forget] at h
  refine z_eq (lv2 := [(0, .ref (q 0))]) rfl rfl rfl rfl ?_
  refine z_aload_n C 0 dX10_forget_0 rfl rfl ?_
  refine mg_12 C hi10 (List.mem_of_getElem? (i := 1) rfl) dX10_forget_1 ?_
  refine z_istore_n (lv2 := [(1, .int (mI S 12)), (0, .ref (q 0))]) C dX10_forget_4 rfl (by decide) rfl ?_
  refine z_aload_n C 1 dX10_forget_5 rfl rfl ?_
  refine z_iconst (v := 0) C dX10_forget_6 (by decide) ?_
  refine mp_12 C hi10 (List.mem_of_getElem? (i := 1) rfl) dX10_forget_7 ?_
  refine z_iload_n C 0 dX10_forget_10 rfl rfl ?_
  subst h
  exact z_iret C rfl ⟨rfl, rfl⟩ dX10_forget_11
def f_X10_couldBe_L4 (fu : Nat) (v1 : Int32) : Nat → Int32 → Int32 → MS → Option (Int32 × Int32)
  | 0, _, _, _ => none
  | n + 1, v2, v3, S => if (mI S 12) ≤ v3 then some (v2, v3) else if v2 = 0 then f_X10_couldBe_L4 fu v1 n 0 (v3 + 1) S else gd v3 6 (gd v3 6 (gd v3 6 (gd v3 6 (if (f_X10_out ((mA S 13 v3.toNatClampNeg) + v1) (mA S 14 v3.toNatClampNeg) (mA S 15 v3.toNatClampNeg)) = (mA S 16 v3.toNatClampNeg) then f_X10_couldBe_L4 fu v1 n 1 (v3 + 1) S else f_X10_couldBe_L4 fu v1 n 0 (v3 + 1) S))))
def f_X10_couldBe (fu : Nat) (S : MS) (a1 : Int32) : Option (Int32) := (f_X10_couldBe_L4 fu a1 fu 1 0 S).bind fun r8 => gb r8.1 (some r8.1)
set_option maxHeartbeats 4000000 in
set_option maxRecDepth 100000 in
theorem L_X10_couldBe_4 {p : Program} {l : Launch} {e : Env} {s : State} {m : MethodId} {args : Array Value} {below : List Frame} {meth : Method} {c : Code} {A : Nat → Prop} {G : zGT} {q : Nat → Nat} {X : va_W} {fu : Nat} {Q : State → Prop} (C : zC p s m args meth c A G cX10_couldBe 4 (some .boolean) RX10 "couldBe" wsX10_couldBe) (v1 : Int32) : ∀ (n : Nat) (v2 : Int32) (v3 : Int32) (S : MS) {res : Int32 × Int32}, f_X10_couldBe_L4 fu v1 n v2 v3 S = some res → Z p l e ({ frames := 1, cells := 0, slots := 0, locals := 22 }) s m args below meth c A G 4 Q 0 0 (MW G q S ++ X) [(0, .ref (q 0)), (1, .int v1), (2, .int res.1), (3, .int res.2)] 60 [] → Z p l e ({ frames := 1, cells := 0, slots := 0, locals := 22 }) s m args below meth c A G 4 Q 0 0 (MW G q S ++ X) [(0, .ref (q 0)), (1, .int v1), (2, .int v2), (3, .int v3)] 4 [] := by
  have hi10 : ∀ w ∈ u_ws RX10 TX10 39, w ∈ wsX10_couldBe := fun _ h => List.mem_cons_of_mem _ (List.mem_append_right _ h)
  intro n
  induction n with
  | zero =>
    intro v2 v3 S res h kk
    exact nomatch (h : none = some _)
  | succ n ih =>
    intro v2 v3 S res h kk
    rw [f_X10_couldBe_L4] at h
    refine z_iload_n C 3 dX10_couldBe_4 rfl rfl ?_
    refine z_aload_n C 0 dX10_couldBe_5 rfl rfl ?_
    refine mg_12 C hi10 (List.mem_of_getElem? (i := 1) rfl) dX10_couldBe_6 ?_
    refine z_icmp_ge (tgt := 60) C dX10_couldBe_9 (by decide) (fun c1 => ?_) (fun c1 => ?_)
    · replace h := zt c1 h
      injection h with h
      subst h
      refine z_lv (lv2 := [(0, .ref (q 0)), (1, .int v1), (2, .int v2), (3, .int v3)]) [0, 1, 2, 3] rfl ?_
      exact kk
    · replace h := zf c1 h
      refine z_iload_n C 2 dX10_couldBe_12 rfl rfl ?_
      refine z_if_eq (tgt := 52) C dX10_couldBe_13 (by decide) (fun c2 => ?_) (fun c2 => ?_)
      · replace h := zt c2 h
        refine z_iconst (v := 0) C dX10_couldBe_52 (by decide) ?_
        refine z_istore_n (lv2 := [(2, .int 0), (0, .ref (q 0)), (1, .int v1), (3, .int v3)]) C dX10_couldBe_53 rfl (by decide) rfl ?_
        refine z_iinc (v := (v3 + 1)) (lv2 := [(3, .int (v3 + 1)), (2, .int 0), (0, .ref (q 0)), (1, .int v1)]) C 3 dX10_couldBe_54 rfl rfl (by decide) rfl ?_
        refine z_goto (tgt := 4) C dX10_couldBe_57 (by decide) ?_
        refine z_lv (lv2 := [(0, .ref (q 0)), (1, .int v1), (2, .int 0), (3, .int (v3 + 1))]) [2, 3, 1, 0] rfl ?_
        exact ih 0 (v3 + 1) S h kk
      · replace h := zf c2 h
        refine z_aload_n C 0 dX10_couldBe_16 rfl rfl ?_
        refine mg_13 C hi10 (List.mem_of_getElem? (i := 2) rfl) dX10_couldBe_17 ?_
        refine z_iload_n C 3 dX10_couldBe_20 rfl rfl ?_
        obtain ⟨hg3, h⟩ := gd_some h
        refine ml_13 C hg3 dX10_couldBe_21 ?_
        refine z_iload_n C 1 dX10_couldBe_22 rfl rfl ?_
        refine z_iadd C dX10_couldBe_23 ?_
        refine z_aload_n C 0 dX10_couldBe_24 rfl rfl ?_
        refine mg_14 C hi10 (List.mem_of_getElem? (i := 3) rfl) dX10_couldBe_25 ?_
        refine z_iload_n C 3 dX10_couldBe_28 rfl rfl ?_
        obtain ⟨hg4, h⟩ := gd_some h
        refine ml_14 C hg4 dX10_couldBe_29 ?_
        refine z_aload_n C 0 dX10_couldBe_30 rfl rfl ?_
        refine mg_15 C hi10 (List.mem_of_getElem? (i := 4) rfl) dX10_couldBe_31 ?_
        refine z_iload_n C 3 dX10_couldBe_34 rfl rfl ?_
        obtain ⟨hg5, h⟩ := gd_some h
        refine ml_15 C hg5 dX10_couldBe_35 ?_
        refine z_goti1 C (z_runS C (c_X10_out l G (MW G q S ++ X) ((mA S 13 v3.toNatClampNeg) + v1) (mA S 14 v3.toNatClampNeg) (mA S 15 v3.toNatClampNeg)) (va_cwS 3 C.hts gX10_couldBe_X10_out rfl rfl rfl (by decide +kernel) ⟨Nat.le_of_ble_eq_true rfl, Nat.le_of_ble_eq_true rfl⟩) rfl rfl (Nat.le_of_ble_eq_true rfl) dX10_couldBe_36 ⟨Nat.le_of_ble_eq_true rfl, Nat.le_of_ble_eq_true rfl⟩) rfl rfl ?_
        refine z_aload_n C 0 dX10_couldBe_39 rfl rfl ?_
        refine mg_16 C hi10 (List.mem_of_getElem? (i := 5) rfl) dX10_couldBe_40 ?_
        refine z_iload_n C 3 dX10_couldBe_43 rfl rfl ?_
        obtain ⟨hg6, h⟩ := gd_some h
        refine ml_16 C hg6 dX10_couldBe_44 ?_
        refine z_icmp_ne (tgt := 52) C dX10_couldBe_45 (by decide) (fun c7 => ?_) (fun c7 => ?_)
        · replace h := zf c7 h
          refine z_iconst (v := 0) C dX10_couldBe_52 (by decide) ?_
          refine z_istore_n (lv2 := [(2, .int 0), (0, .ref (q 0)), (1, .int v1), (3, .int v3)]) C dX10_couldBe_53 rfl (by decide) rfl ?_
          refine z_iinc (v := (v3 + 1)) (lv2 := [(3, .int (v3 + 1)), (2, .int 0), (0, .ref (q 0)), (1, .int v1)]) C 3 dX10_couldBe_54 rfl rfl (by decide) rfl ?_
          refine z_goto (tgt := 4) C dX10_couldBe_57 (by decide) ?_
          refine z_lv (lv2 := [(0, .ref (q 0)), (1, .int v1), (2, .int 0), (3, .int (v3 + 1))]) [2, 3, 1, 0] rfl ?_
          exact ih 0 (v3 + 1) S h kk
        · replace h := zt c7 h
          refine z_iconst (v := 1) C dX10_couldBe_48 (by decide) ?_
          refine z_goto (tgt := 53) C dX10_couldBe_49 (by decide) ?_
          refine z_istore_n (lv2 := [(2, .int 1), (0, .ref (q 0)), (1, .int v1), (3, .int v3)]) C dX10_couldBe_53 rfl (by decide) rfl ?_
          refine z_iinc (v := (v3 + 1)) (lv2 := [(3, .int (v3 + 1)), (2, .int 1), (0, .ref (q 0)), (1, .int v1)]) C 3 dX10_couldBe_54 rfl rfl (by decide) rfl ?_
          refine z_goto (tgt := 4) C dX10_couldBe_57 (by decide) ?_
          refine z_lv (lv2 := [(0, .ref (q 0)), (1, .int v1), (2, .int 1), (3, .int (v3 + 1))]) [2, 3, 1, 0] rfl ?_
          exact ih 1 (v3 + 1) S h kk
set_option maxHeartbeats 4000000 in
set_option maxRecDepth 100000 in
theorem c_X10_couldBe (l : Launch) (G : zGT) (q : Nat → Nat) (S : MS) (X : va_W) (fu : Nat) (a1 : Int32) {res : Int32} (h : f_X10_couldBe fu S a1 = some res) : MG l yX10_couldBe wsX10_couldBe ({ frames := 1, cells := 0, slots := 0, locals := 22 }) G [.ref (q 0), .int a1] (MW G q S ++ X) (va_Qi (fun r u => r = res ∧ u = MW G q S ++ X)) := by
  have hi10 : ∀ w ∈ u_ws RX10 TX10 39, w ∈ wsX10_couldBe := fun _ h => List.mem_cons_of_mem _ (List.mem_append_right _ h)
  refine MG.of (cc := cX10_couldBe) (maxL := 4) (ret := (some .boolean)) (own := RX10) (nm := "couldBe") (by decide) rfl rfl rfl (Nat.le_of_ble_eq_true rfl) ?_
  intro p e s m args below meth c A C
  rw [f_X10_couldBe] at h
  refine z_eq (lv2 := [(0, .ref (q 0)), (1, .int a1)]) rfl rfl rfl rfl ?_
  refine z_iconst (v := 1) C dX10_couldBe_0 (by decide) ?_
  refine z_istore_n (lv2 := [(2, .int 1), (0, .ref (q 0)), (1, .int a1)]) C dX10_couldBe_1 rfl (by decide) rfl ?_
  refine z_iconst (v := 0) C dX10_couldBe_2 (by decide) ?_
  refine z_istore_n (lv2 := [(3, .int 0), (2, .int 1), (0, .ref (q 0)), (1, .int a1)]) C dX10_couldBe_3 rfl (by decide) rfl ?_
  refine z_lv (lv2 := [(0, .ref (q 0)), (1, .int a1), (2, .int 1), (3, .int 0)]) [2, 3, 1, 0] rfl ?_
  obtain ⟨r8, hf9, h⟩ := bd_some h
  refine L_X10_couldBe_4 C a1 fu 1 0 S hf9 ?_
  refine z_iload_n C 2 dX10_couldBe_60 rfl rfl ?_
  obtain ⟨hb10, h⟩ := gb_some h
  injection h with h
  subst h
  exact z_zret C rfl hb10 ⟨rfl, rfl⟩ dX10_couldBe_61
def f_X10_woundNow_L10 (fu : Nat) (v1 : Int32) : Nat → Int32 → Int32 → Int32 → MS → Option (Int32 × Int32 × Int32)
  | 0, _, _, _, _ => none
  | n + 1, v2, v3, v4, S => if v4 ≤ 0 then some (v2, v3, v4) else (f_X10_couldBe fu S v4).bind fun r3 => if r3 = 0 then if r3 = 0 then f_X10_woundNow_L10 fu v1 n (v2 + 0) v3 (v4 + (-1)) S else f_X10_woundNow_L10 fu v1 n (v2 + 0) v4 (v4 + (-1)) S else if r3 = 0 then f_X10_woundNow_L10 fu v1 n (v2 + 1) v3 (v4 + (-1)) S else f_X10_woundNow_L10 fu v1 n (v2 + 1) v4 (v4 + (-1)) S
def f_X10_woundNow (fu : Nat) (S : MS) (a1 : Int32) : Option (Int32) := (f_X10_woundNow_L10 fu a1 fu 0 (-1) (mI S 2) S).bind fun r7 => if a1 = 0 then some r7.1 else some r7.2.1
set_option maxHeartbeats 4000000 in
set_option maxRecDepth 100000 in
theorem L_X10_woundNow_10 {p : Program} {l : Launch} {e : Env} {s : State} {m : MethodId} {args : Array Value} {below : List Frame} {meth : Method} {c : Code} {A : Nat → Prop} {G : zGT} {q : Nat → Nat} {X : va_W} {fu : Nat} {Q : State → Prop} (C : zC p s m args meth c A G cX10_woundNow 6 (some .int) RX10 "woundNow" wsX10_woundNow) (v1 : Int32) : ∀ (n : Nat) (v2 : Int32) (v3 : Int32) (v4 : Int32) (S : MS) {res : Int32 × Int32 × Int32}, f_X10_woundNow_L10 fu v1 n v2 v3 v4 S = some res → Z p l e ({ frames := 2, cells := 0, slots := 0, locals := 45 }) s m args below meth c A G 6 Q 0 0 (MW G q S ++ X) [(0, .ref (q 0)), (1, .int v1), (2, .int res.1), (3, .int res.2.1), (4, .int res.2.2)] 54 [] → Z p l e ({ frames := 2, cells := 0, slots := 0, locals := 45 }) s m args below meth c A G 6 Q 0 0 (MW G q S ++ X) [(0, .ref (q 0)), (1, .int v1), (2, .int v2), (3, .int v3), (4, .int v4)] 10 [] := by
  have hi10 : ∀ w ∈ u_ws RX10 TX10 39, w ∈ wsX10_woundNow := fun _ h => List.mem_cons_of_mem _ (List.mem_append_right _ h)
  intro n
  induction n with
  | zero =>
    intro v2 v3 v4 S res h kk
    exact nomatch (h : none = some _)
  | succ n ih =>
    intro v2 v3 v4 S res h kk
    rw [f_X10_woundNow_L10] at h
    refine z_iload C 4 dX10_woundNow_10 rfl ?_
    refine z_if_le (tgt := 54) C dX10_woundNow_12 (by decide) (fun c1 => ?_) (fun c1 => ?_)
    · replace h := zt c1 h
      injection h with h
      subst h
      refine z_lv (lv2 := [(0, .ref (q 0)), (1, .int v1), (2, .int v2), (3, .int v3), (4, .int v4)]) [0, 1, 2, 3, 4] rfl ?_
      exact kk
    · replace h := zf c1 h
      refine z_aload_n C 0 dX10_woundNow_15 rfl rfl ?_
      refine z_iload C 4 dX10_woundNow_16 rfl ?_
      obtain ⟨r3, hf2, h⟩ := bd_some h
      refine z_goti1 C (z_runV C (c_X10_couldBe l G q S X fu v4 hf2) (cwV 1 C.hts gX10_woundNow_X10_couldBe rfl rfl rfl (by decide +kernel) ⟨Nat.le_of_ble_eq_true rfl, Nat.le_of_ble_eq_true rfl⟩) 0 rfl rfl rfl rfl (Nat.le_of_ble_eq_true rfl) dX10_woundNow_18 ⟨Nat.le_of_ble_eq_true rfl, Nat.le_of_ble_eq_true rfl⟩) rfl rfl ?_
      refine z_istore (lv2 := [(5, .int r3), (0, .ref (q 0)), (1, .int v1), (2, .int v2), (3, .int v3), (4, .int v4)]) C dX10_woundNow_21 (by decide) rfl ?_
      refine z_iload_n C 3 dX10_woundNow_23 rfl rfl ?_
      refine z_iload C 0 dX10_woundNow_24 rfl ?_
      refine z_if_eq (tgt := 33) C dX10_woundNow_26 (by decide) (fun c4 => ?_) (fun c4 => ?_)
      · replace h := zt c4 h
        refine z_iconst (v := 0) C dX10_woundNow_33 (by decide) ?_
        refine z_iadd C dX10_woundNow_34 ?_
        refine z_istore_n (lv2 := [(2, .int (v2 + 0)), (5, .int r3), (0, .ref (q 0)), (1, .int v1), (3, .int v3), (4, .int v4)]) C dX10_woundNow_35 rfl (by decide) rfl ?_
        refine z_iload C 1 dX10_woundNow_36 rfl ?_
        refine z_if_eq (tgt := 46) C dX10_woundNow_38 (by decide) (fun c5 => ?_) (fun c5 => ?_)
        · replace h := zt c5 h
          refine z_iload_n C 4 dX10_woundNow_46 rfl rfl ?_
          refine z_istore_n (lv2 := [(3, .int v3), (2, .int (v2 + 0)), (5, .int r3), (0, .ref (q 0)), (1, .int v1), (4, .int v4)]) C dX10_woundNow_47 rfl (by decide) rfl ?_
          refine z_iinc (v := (v4 + (-1))) (lv2 := [(4, .int (v4 + (-1))), (3, .int v3), (2, .int (v2 + 0)), (5, .int r3), (0, .ref (q 0)), (1, .int v1)]) C 5 dX10_woundNow_48 rfl rfl (by decide) rfl ?_
          refine z_goto (tgt := 10) C dX10_woundNow_51 (by decide) ?_
          refine z_lv (lv2 := [(0, .ref (q 0)), (1, .int v1), (2, .int (v2 + 0)), (3, .int v3), (4, .int (v4 + (-1)))]) [4, 5, 2, 1, 0] rfl ?_
          exact ih (v2 + 0) v3 (v4 + (-1)) S h kk
        · replace h := zf c5 h
          refine z_iload C 5 dX10_woundNow_41 rfl ?_
          refine z_goto (tgt := 47) C dX10_woundNow_43 (by decide) ?_
          refine z_istore_n (lv2 := [(3, .int v4), (2, .int (v2 + 0)), (5, .int r3), (0, .ref (q 0)), (1, .int v1), (4, .int v4)]) C dX10_woundNow_47 rfl (by decide) rfl ?_
          refine z_iinc (v := (v4 + (-1))) (lv2 := [(4, .int (v4 + (-1))), (3, .int v4), (2, .int (v2 + 0)), (5, .int r3), (0, .ref (q 0)), (1, .int v1)]) C 5 dX10_woundNow_48 rfl rfl (by decide) rfl ?_
          refine z_goto (tgt := 10) C dX10_woundNow_51 (by decide) ?_
          refine z_lv (lv2 := [(0, .ref (q 0)), (1, .int v1), (2, .int (v2 + 0)), (3, .int v4), (4, .int (v4 + (-1)))]) [4, 5, 2, 1, 0] rfl ?_
          exact ih (v2 + 0) v4 (v4 + (-1)) S h kk
      · replace h := zf c4 h
        refine z_iconst (v := 1) C dX10_woundNow_29 (by decide) ?_
        refine z_goto (tgt := 34) C dX10_woundNow_30 (by decide) ?_
        refine z_iadd C dX10_woundNow_34 ?_
        refine z_istore_n (lv2 := [(2, .int (v2 + 1)), (5, .int r3), (0, .ref (q 0)), (1, .int v1), (3, .int v3), (4, .int v4)]) C dX10_woundNow_35 rfl (by decide) rfl ?_
        refine z_iload C 1 dX10_woundNow_36 rfl ?_
        refine z_if_eq (tgt := 46) C dX10_woundNow_38 (by decide) (fun c6 => ?_) (fun c6 => ?_)
        · replace h := zt c6 h
          refine z_iload_n C 4 dX10_woundNow_46 rfl rfl ?_
          refine z_istore_n (lv2 := [(3, .int v3), (2, .int (v2 + 1)), (5, .int r3), (0, .ref (q 0)), (1, .int v1), (4, .int v4)]) C dX10_woundNow_47 rfl (by decide) rfl ?_
          refine z_iinc (v := (v4 + (-1))) (lv2 := [(4, .int (v4 + (-1))), (3, .int v3), (2, .int (v2 + 1)), (5, .int r3), (0, .ref (q 0)), (1, .int v1)]) C 5 dX10_woundNow_48 rfl rfl (by decide) rfl ?_
          refine z_goto (tgt := 10) C dX10_woundNow_51 (by decide) ?_
          refine z_lv (lv2 := [(0, .ref (q 0)), (1, .int v1), (2, .int (v2 + 1)), (3, .int v3), (4, .int (v4 + (-1)))]) [4, 5, 2, 1, 0] rfl ?_
          exact ih (v2 + 1) v3 (v4 + (-1)) S h kk
        · replace h := zf c6 h
          refine z_iload C 5 dX10_woundNow_41 rfl ?_
          refine z_goto (tgt := 47) C dX10_woundNow_43 (by decide) ?_
          refine z_istore_n (lv2 := [(3, .int v4), (2, .int (v2 + 1)), (5, .int r3), (0, .ref (q 0)), (1, .int v1), (4, .int v4)]) C dX10_woundNow_47 rfl (by decide) rfl ?_
          refine z_iinc (v := (v4 + (-1))) (lv2 := [(4, .int (v4 + (-1))), (3, .int v4), (2, .int (v2 + 1)), (5, .int r3), (0, .ref (q 0)), (1, .int v1)]) C 5 dX10_woundNow_48 rfl rfl (by decide) rfl ?_
          refine z_goto (tgt := 10) C dX10_woundNow_51 (by decide) ?_
          refine z_lv (lv2 := [(0, .ref (q 0)), (1, .int v1), (2, .int (v2 + 1)), (3, .int v4), (4, .int (v4 + (-1)))]) [4, 5, 2, 1, 0] rfl ?_
          exact ih (v2 + 1) v4 (v4 + (-1)) S h kk
set_option maxHeartbeats 4000000 in
set_option maxRecDepth 100000 in
theorem c_X10_woundNow (l : Launch) (G : zGT) (q : Nat → Nat) (S : MS) (X : va_W) (fu : Nat) (a1 : Int32) {res : Int32} (h : f_X10_woundNow fu S a1 = some res) : MG l yX10_woundNow wsX10_woundNow ({ frames := 2, cells := 0, slots := 0, locals := 45 }) G [.ref (q 0), .int a1] (MW G q S ++ X) (va_Qi (fun r u => r = res ∧ u = MW G q S ++ X)) := by
  have hi10 : ∀ w ∈ u_ws RX10 TX10 39, w ∈ wsX10_woundNow := fun _ h => List.mem_cons_of_mem _ (List.mem_append_right _ h)
  refine MG.of (cc := cX10_woundNow) (maxL := 6) (ret := (some .int)) (own := RX10) (nm := "woundNow") (by decide) rfl rfl rfl (Nat.le_of_ble_eq_true rfl) ?_
  intro p e s m args below meth c A C
  rw [f_X10_woundNow] at h
  refine z_eq (lv2 := [(0, .ref (q 0)), (1, .int a1)]) rfl rfl rfl rfl ?_
  refine z_iconst (v := 0) C dX10_woundNow_0 (by decide) ?_
  refine z_istore_n (lv2 := [(2, .int 0), (0, .ref (q 0)), (1, .int a1)]) C dX10_woundNow_1 rfl (by decide) rfl ?_
  refine z_iconst (v := (-1)) C dX10_woundNow_2 (by decide) ?_
  refine z_istore_n (lv2 := [(3, .int (-1)), (2, .int 0), (0, .ref (q 0)), (1, .int a1)]) C dX10_woundNow_3 rfl (by decide) rfl ?_
  refine z_aload_n C 2 dX10_woundNow_4 rfl rfl ?_
  refine mg_2 C hi10 (List.mem_of_getElem? (i := 1) rfl) dX10_woundNow_5 ?_
  refine z_istore (lv2 := [(4, .int (mI S 2)), (3, .int (-1)), (2, .int 0), (0, .ref (q 0)), (1, .int a1)]) C dX10_woundNow_8 (by decide) rfl ?_
  refine z_lv (lv2 := [(0, .ref (q 0)), (1, .int a1), (2, .int 0), (3, .int (-1)), (4, .int (mI S 2))]) [3, 4, 2, 1, 0] rfl ?_
  obtain ⟨r7, hf8, h⟩ := bd_some h
  refine L_X10_woundNow_10 C a1 fu 0 (-1) (mI S 2) S hf8 ?_
  refine z_iload_n C 1 dX10_woundNow_54 rfl rfl ?_
  refine z_if_ne (tgt := 62) C dX10_woundNow_55 (by decide) (fun c9 => ?_) (fun c9 => ?_)
  · replace h := zf c9 h
    refine z_iload_n C 3 dX10_woundNow_62 rfl rfl ?_
    injection h with h
    subst h
    exact z_iret C rfl ⟨rfl, rfl⟩ dX10_woundNow_63
  · replace h := zt c9 h
    refine z_iload_n C 2 dX10_woundNow_58 rfl rfl ?_
    refine z_goto (tgt := 63) C dX10_woundNow_59 (by decide) ?_
    injection h with h
    subst h
    exact z_iret C rfl ⟨rfl, rfl⟩ dX10_woundNow_63
def f_X10_wound (fu : Nat) (S : MS) (a1 : Int32) : Option (Int32) := if (f_X10_within a1 0 1) = 0 then some (-102) else if (mI S 1) = 0 then some (-103) else (f_X10_woundNow fu S a1).bind fun r4 => some r4
set_option maxHeartbeats 4000000 in
set_option maxRecDepth 100000 in
theorem c_X10_wound (l : Launch) (G : zGT) (q : Nat → Nat) (S : MS) (X : va_W) (fu : Nat) (a1 : Int32) {res : Int32} (h : f_X10_wound fu S a1 = some res) : MG l yX10_wound wsX10_wound ({ frames := 3, cells := 0, slots := 0, locals := 70 }) G [.ref (q 0), .int a1] (MW G q S ++ X) (va_Qi (fun r u => r = res ∧ u = MW G q S ++ X)) := by
  have hi10 : ∀ w ∈ u_ws RX10 TX10 39, w ∈ wsX10_wound := fun _ h => List.mem_cons_of_mem _ (List.mem_append_right _ h)
  refine MG.of (cc := cX10_wound) (maxL := 2) (ret := (some .int)) (own := RX10) (nm := "wound") (by decide) rfl rfl rfl (Nat.le_of_ble_eq_true rfl) ?_
  intro p e s m args below meth c A C
  rw [f_X10_wound] at h
  refine z_eq (lv2 := [(0, .ref (q 0)), (1, .int a1)]) rfl rfl rfl rfl ?_
  refine z_iload_n C 1 dX10_wound_0 rfl rfl ?_
  refine z_iconst (v := 0) C dX10_wound_1 (by decide) ?_
  refine z_iconst (v := 1) C dX10_wound_2 (by decide) ?_
  refine z_goti1 C (z_runS C (c_X10_within l G (MW G q S ++ X) a1 0 1) (va_cwS 3 C.hts gX10_wound_X10_within rfl rfl rfl (by decide +kernel) ⟨Nat.le_of_ble_eq_true rfl, Nat.le_of_ble_eq_true rfl⟩) rfl rfl (Nat.le_of_ble_eq_true rfl) dX10_wound_3 ⟨Nat.le_of_ble_eq_true rfl, Nat.le_of_ble_eq_true rfl⟩) rfl rfl ?_
  refine z_if_ne (tgt := 12) C dX10_wound_6 (by decide) (fun c1 => ?_) (fun c1 => ?_)
  · replace h := zf c1 h
    refine z_aload_n C 0 dX10_wound_12 rfl rfl ?_
    refine mg_1 C hi10 (List.mem_of_getElem? (i := 1) rfl) dX10_wound_13 ?_
    refine z_if_ne (tgt := 24) C dX10_wound_16 (by decide) (fun c2 => ?_) (fun c2 => ?_)
    · replace h := zf c2 h
      refine z_aload_n C 0 dX10_wound_24 rfl rfl ?_
      refine z_iload_n C 1 dX10_wound_25 rfl rfl ?_
      obtain ⟨r4, hf3, h⟩ := bd_some h
      refine z_goti1 C (z_runV C (c_X10_woundNow l G q S X fu a1 hf3) (cwV 1 C.hts gX10_wound_X10_woundNow rfl rfl rfl (by decide +kernel) ⟨Nat.le_of_ble_eq_true rfl, Nat.le_of_ble_eq_true rfl⟩) 0 rfl rfl rfl rfl (Nat.le_of_ble_eq_true rfl) dX10_wound_26 ⟨Nat.le_of_ble_eq_true rfl, Nat.le_of_ble_eq_true rfl⟩) rfl rfl ?_
      injection h with h
      subst h
      exact z_iret C rfl ⟨rfl, rfl⟩ dX10_wound_29
    · replace h := zt c2 h
      refine z_bipush (v := (-103)) C dX10_wound_19 (by decide) ?_
      refine z_goto (tgt := 29) C dX10_wound_21 (by decide) ?_
      injection h with h
      subst h
      exact z_iret C rfl ⟨rfl, rfl⟩ dX10_wound_29
  · replace h := zt c1 h
    refine z_bipush (v := (-102)) C dX10_wound_9 (by decide) ?_
    injection h with h
    subst h
    exact z_iret C rfl ⟨rfl, rfl⟩ dX10_wound_11
def f_X10_draw (S : MS) (a1 : Int32) : Option (Int32 × MS) := gzl a1.toInt64 (some ((((mL (msL S 24 (((1103515245 * (mL S 24)) + 12345) &&& 2147483647)) 24) / 65536) - ((mL (msL S 24 (((1103515245 * (mL S 24)) + 12345) &&& 2147483647)) 24) / 65536) / a1.toInt64 * a1.toInt64).toInt32, msL S 24 (((1103515245 * (mL S 24)) + 12345) &&& 2147483647)))
set_option maxHeartbeats 4000000 in
set_option maxRecDepth 100000 in
theorem c_X10_draw (l : Launch) (G : zGT) (q : Nat → Nat) (S : MS) (X : va_W) (a1 : Int32) {res : Int32 × MS} (h : f_X10_draw S a1 = some res) : MG l yX10_draw wsX10_draw ({ frames := 0, cells := 0, slots := 0, locals := 0 }) G [.ref (q 0), .int a1] (MW G q S ++ X) (va_Qi (fun r u => r = res.1 ∧ u = MW G q res.2 ++ X)) := by
  have hi10 : ∀ w ∈ u_ws RX10 TX10 39, w ∈ wsX10_draw := fun _ h => List.mem_cons_of_mem _ (List.mem_append_right _ h)
  refine MG.of (cc := cX10_draw) (maxL := 2) (ret := (some .int)) (own := RX10) (nm := "draw") (by decide) rfl rfl rfl (Nat.le_of_ble_eq_true rfl) ?_
  intro p e s m args below meth c A C
  rw [f_X10_draw] at h
  refine z_eq (lv2 := [(0, .ref (q 0)), (1, .int a1)]) rfl rfl rfl rfl ?_
  refine z_aload_n C 0 dX10_draw_0 rfl rfl ?_
  refine z_ldc2 (v := 1103515245) C (List.mem_of_getElem? (i := 1) rfl) dX10_draw_1 ?_
  refine z_aload_n C 0 dX10_draw_4 rfl rfl ?_
  refine mg_24 C hi10 (List.mem_of_getElem? (i := 2) rfl) dX10_draw_5 ?_
  refine z_lmul C dX10_draw_8 ?_
  refine z_ldc2 (v := 12345) C (List.mem_of_getElem? (i := 3) rfl) dX10_draw_9 ?_
  refine z_ladd C dX10_draw_12 ?_
  refine z_ldc2 (v := 2147483647) C (List.mem_of_getElem? (i := 4) rfl) dX10_draw_13 ?_
  refine z_land C dX10_draw_16 ?_
  refine mp_24 C hi10 (List.mem_of_getElem? (i := 2) rfl) dX10_draw_17 ?_
  refine z_aload_n C 0 dX10_draw_20 rfl rfl ?_
  refine mg_24 C hi10 (List.mem_of_getElem? (i := 2) rfl) dX10_draw_21 ?_
  refine z_ldc2 (v := 65536) C (List.mem_of_getElem? (i := 5) rfl) dX10_draw_24 ?_
  refine z_ldiv C dX10_draw_27 (by decide) ?_
  refine z_iload_n C 1 dX10_draw_28 rfl rfl ?_
  refine z_i2l C dX10_draw_29 ?_
  obtain ⟨hz1, h⟩ := gzl_some h
  refine z_lrem C dX10_draw_30 hz1 ?_
  refine z_l2i C dX10_draw_31 ?_
  injection h with h
  subst h
  exact z_iret C rfl ⟨rfl, rfl⟩ dX10_draw_32
def f_X10_eveningsNow_L21 (fu : Nat) (v1 : Int32) (v2 : Int32) (v3 : Int32) : Nat → Int32 → Int32 → Int32 → Int32 → Int32 → MS → Option (Int32 × Int32 × Int32 × Int32 × Int32 × MS)
  | 0, _, _, _, _, _, _ => none
  | n + 1, v4, v5, v6, v7, v8, S => if v1 ≤ v8 then some (v4, v5, v6, v7, v8, S) else (f_X10_draw S (mI S 2)).bind fun r3 => (f_X10_draw r3.2 (mI r3.2 1)).bind fun r5 => gd r5.1 4 ((f_X10_keepsOf r5.2 r5.1).bind fun r8 => if ((v5 >>> (r5.1 &&& 31)) &&& 1) = 0 then if (f_X10_out (v4 + (1 + r3.1)) (mA r5.2 5 r5.1.toNatClampNeg) r8) = 100 then if (f_X10_out (v4 + (1 + r3.1)) (mA r5.2 5 r5.1.toNatClampNeg) r8) ≤ 100 then f_X10_eveningsNow_L21 fu v1 v2 v3 n (v4 + (1 + r3.1)) (v5 ||| (1 <<< (r5.1 &&& 31))) (v6 + 1) (v7 + 0) (v8 + 1) r5.2 else f_X10_eveningsNow_L21 fu v1 v2 v3 n (v4 + (1 + r3.1)) (v5 ||| (1 <<< (r5.1 &&& 31))) (v6 + 1) (v7 + 1) (v8 + 1) r5.2 else if (f_X10_out (v4 + (1 + r3.1)) (mA r5.2 5 r5.1.toNatClampNeg) r8) ≤ 100 then f_X10_eveningsNow_L21 fu v1 v2 v3 n (v4 + (1 + r3.1)) (v5 ||| (1 <<< (r5.1 &&& 31))) (v6 + 0) (v7 + 0) (v8 + 1) r5.2 else f_X10_eveningsNow_L21 fu v1 v2 v3 n (v4 + (1 + r3.1)) (v5 ||| (1 <<< (r5.1 &&& 31))) (v6 + 0) (v7 + 1) (v8 + 1) r5.2 else f_X10_eveningsNow_L21 fu v1 v2 v3 n (v4 + (1 + r3.1)) (v5 ||| (1 <<< (r5.1 &&& 31))) (v6 + 0) (v7 + 0) (v8 + 1) r5.2)
def f_X10_eveningsNow (fu : Nat) (S : MS) (a1 : Int32) (a2 : Int32) (a3 : Int32) : Option (Int32 × MS) := (f_X10_eveningsNow_L21 fu a1 a2 a3 fu 0 0 0 0 0 (msL S 24 a2.toInt64)).bind fun r13 => if a3 = 0 then some (r13.2.2.1, r13.2.2.2.2.2) else if a3 = 1 then some (r13.2.2.2.1, r13.2.2.2.2.2) else some ((mL r13.2.2.2.2.2 24).toInt32, r13.2.2.2.2.2)
set_option maxHeartbeats 4000000 in
set_option maxRecDepth 100000 in
theorem L_X10_eveningsNow_21 {p : Program} {l : Launch} {e : Env} {s : State} {m : MethodId} {args : Array Value} {below : List Frame} {meth : Method} {c : Code} {A : Nat → Prop} {G : zGT} {q : Nat → Nat} {X : va_W} {fu : Nat} {Q : State → Prop} (C : zC p s m args meth c A G cX10_eveningsNow 12 (some .int) RX10 "eveningsNow" wsX10_eveningsNow) (v1 : Int32) (v2 : Int32) (v3 : Int32) : ∀ (n : Nat) (v4 : Int32) (v5 : Int32) (v6 : Int32) (v7 : Int32) (v8 : Int32) (S : MS) {res : Int32 × Int32 × Int32 × Int32 × Int32 × MS}, f_X10_eveningsNow_L21 fu v1 v2 v3 n v4 v5 v6 v7 v8 S = some res → Z p l e ({ frames := 1, cells := 0, slots := 0, locals := 22 }) s m args below meth c A G 12 Q 0 0 (MW G q res.2.2.2.2.2 ++ X) [(0, .ref (q 0)), (1, .int v1), (2, .int v2), (3, .int v3), (4, .int res.1), (5, .int res.2.1), (6, .int res.2.2.1), (7, .int res.2.2.2.1), (8, .int res.2.2.2.2.1)] 148 [] → Z p l e ({ frames := 1, cells := 0, slots := 0, locals := 22 }) s m args below meth c A G 12 Q 0 0 (MW G q S ++ X) [(0, .ref (q 0)), (1, .int v1), (2, .int v2), (3, .int v3), (4, .int v4), (5, .int v5), (6, .int v6), (7, .int v7), (8, .int v8)] 21 [] := by
  have hi10 : ∀ w ∈ u_ws RX10 TX10 39, w ∈ wsX10_eveningsNow := fun _ h => List.mem_cons_of_mem _ (List.mem_append_right _ h)
  intro n
  induction n with
  | zero =>
    intro v4 v5 v6 v7 v8 S res h kk
    exact nomatch (h : none = some _)
  | succ n ih =>
    intro v4 v5 v6 v7 v8 S res h kk
    rw [f_X10_eveningsNow_L21] at h
    refine z_iload C 8 dX10_eveningsNow_21 rfl ?_
    refine z_iload_n C 1 dX10_eveningsNow_23 rfl rfl ?_
    refine z_icmp_ge (tgt := 148) C dX10_eveningsNow_24 (by decide) (fun c1 => ?_) (fun c1 => ?_)
    · replace h := zt c1 h
      injection h with h
      subst h
      refine z_lv (lv2 := [(0, .ref (q 0)), (1, .int v1), (2, .int v2), (3, .int v3), (4, .int v4), (5, .int v5), (6, .int v6), (7, .int v7), (8, .int v8)]) [0, 1, 2, 3, 4, 5, 6, 7, 8] rfl ?_
      exact kk
    · replace h := zf c1 h
      refine z_iload C 4 dX10_eveningsNow_27 rfl ?_
      refine z_iconst (v := 1) C dX10_eveningsNow_29 (by decide) ?_
      refine z_aload_n C 0 dX10_eveningsNow_30 rfl rfl ?_
      refine z_aload_n C 0 dX10_eveningsNow_31 rfl rfl ?_
      refine mg_2 C hi10 (List.mem_of_getElem? (i := 2) rfl) dX10_eveningsNow_32 ?_
      obtain ⟨r3, hf2, h⟩ := bd_some h
      refine z_goti1 C (z_runV C (c_X10_draw l G q S X (mI S 2) hf2) (cwV 1 C.hts gX10_eveningsNow_X10_draw rfl rfl rfl (by decide +kernel) ⟨Nat.le_of_ble_eq_true rfl, Nat.le_of_ble_eq_true rfl⟩) 0 rfl rfl rfl rfl (Nat.le_of_ble_eq_true rfl) dX10_eveningsNow_35 ⟨Nat.le_of_ble_eq_true rfl, Nat.le_of_ble_eq_true rfl⟩) rfl rfl ?_
      refine z_iadd C dX10_eveningsNow_38 ?_
      refine z_iadd C dX10_eveningsNow_39 ?_
      refine z_istore (lv2 := [(4, .int (v4 + (1 + r3.1))), (0, .ref (q 0)), (1, .int v1), (2, .int v2), (3, .int v3), (5, .int v5), (6, .int v6), (7, .int v7), (8, .int v8)]) C dX10_eveningsNow_40 (by decide) rfl ?_
      refine z_aload_n C 1 dX10_eveningsNow_42 rfl rfl ?_
      refine z_aload_n C 1 dX10_eveningsNow_43 rfl rfl ?_
      refine mg_1 C hi10 (List.mem_of_getElem? (i := 3) rfl) dX10_eveningsNow_44 ?_
      obtain ⟨r5, hf4, h⟩ := bd_some h
      refine z_goti1 C (z_runV C (c_X10_draw l G q r3.2 X (mI r3.2 1) hf4) (cwV 1 C.hts gX10_eveningsNow_X10_draw rfl rfl rfl (by decide +kernel) ⟨Nat.le_of_ble_eq_true rfl, Nat.le_of_ble_eq_true rfl⟩) 0 rfl rfl rfl rfl (Nat.le_of_ble_eq_true rfl) dX10_eveningsNow_47 ⟨Nat.le_of_ble_eq_true rfl, Nat.le_of_ble_eq_true rfl⟩) rfl rfl ?_
      refine z_istore (lv2 := [(9, .int r5.1), (4, .int (v4 + (1 + r3.1))), (0, .ref (q 0)), (1, .int v1), (2, .int v2), (3, .int v3), (5, .int v5), (6, .int v6), (7, .int v7), (8, .int v8)]) C dX10_eveningsNow_50 (by decide) rfl ?_
      refine z_iload C 1 dX10_eveningsNow_52 rfl ?_
      refine z_aload_n C 2 dX10_eveningsNow_54 rfl rfl ?_
      refine mg_5 C hi10 (List.mem_of_getElem? (i := 4) rfl) dX10_eveningsNow_55 ?_
      refine z_iload C 0 dX10_eveningsNow_58 rfl ?_
      obtain ⟨hg6, h⟩ := gd_some h
      refine ml_5 C hg6 dX10_eveningsNow_60 ?_
      refine z_aload_n C 2 dX10_eveningsNow_61 rfl rfl ?_
      refine z_iload C 0 dX10_eveningsNow_62 rfl ?_
      obtain ⟨r8, hf7, h⟩ := bd_some h
      refine z_goti1 C (z_runV C (c_X10_keepsOf l G q r5.2 X r5.1 hf7) (cwV 1 C.hts gX10_eveningsNow_X10_keepsOf rfl rfl rfl (by decide +kernel) ⟨Nat.le_of_ble_eq_true rfl, Nat.le_of_ble_eq_true rfl⟩) 0 rfl rfl rfl rfl (Nat.le_of_ble_eq_true rfl) dX10_eveningsNow_64 ⟨Nat.le_of_ble_eq_true rfl, Nat.le_of_ble_eq_true rfl⟩) rfl rfl ?_
      refine z_goti1 C (z_runS C (c_X10_out l G (MW G q r5.2 ++ X) (v4 + (1 + r3.1)) (mA r5.2 5 r5.1.toNatClampNeg) r8) (va_cwS 3 C.hts gX10_eveningsNow_X10_out rfl rfl rfl (by decide +kernel) ⟨Nat.le_of_ble_eq_true rfl, Nat.le_of_ble_eq_true rfl⟩) rfl rfl (Nat.le_of_ble_eq_true rfl) dX10_eveningsNow_67 ⟨Nat.le_of_ble_eq_true rfl, Nat.le_of_ble_eq_true rfl⟩) rfl rfl ?_
      refine z_istore (lv2 := [(10, .int (f_X10_out (v4 + (1 + r3.1)) (mA r5.2 5 r5.1.toNatClampNeg) r8)), (9, .int r5.1), (4, .int (v4 + (1 + r3.1))), (0, .ref (q 0)), (1, .int v1), (2, .int v2), (3, .int v3), (5, .int v5), (6, .int v6), (7, .int v7), (8, .int v8)]) C dX10_eveningsNow_70 (by decide) rfl ?_
      refine z_iload C 7 dX10_eveningsNow_72 rfl ?_
      refine z_iload C 1 dX10_eveningsNow_74 rfl ?_
      refine z_ishr C dX10_eveningsNow_76 ?_
      refine z_iconst (v := 1) C dX10_eveningsNow_77 (by decide) ?_
      refine z_iand C dX10_eveningsNow_78 ?_
      refine z_if_ne (tgt := 86) C dX10_eveningsNow_79 (by decide) (fun c9 => ?_) (fun c9 => ?_)
      · replace h := zf c9 h
        refine z_iconst (v := 0) C dX10_eveningsNow_86 (by decide) ?_
        refine z_istore (lv2 := [(11, .int 0), (10, .int (f_X10_out (v4 + (1 + r3.1)) (mA r5.2 5 r5.1.toNatClampNeg) r8)), (9, .int r5.1), (4, .int (v4 + (1 + r3.1))), (0, .ref (q 0)), (1, .int v1), (2, .int v2), (3, .int v3), (5, .int v5), (6, .int v6), (7, .int v7), (8, .int v8)]) C dX10_eveningsNow_87 (by decide) rfl ?_
        refine z_iload C 9 dX10_eveningsNow_89 rfl ?_
        refine z_iload C 0 dX10_eveningsNow_91 rfl ?_
        refine z_if_eq (tgt := 107) C dX10_eveningsNow_93 (by decide) (fun _ => ?_) (fun c => absurd (by decide) c)
        refine z_iconst (v := 0) C dX10_eveningsNow_107 (by decide) ?_
        refine z_iadd C dX10_eveningsNow_108 ?_
        refine z_istore (lv2 := [(6, .int (v6 + 0)), (11, .int 0), (10, .int (f_X10_out (v4 + (1 + r3.1)) (mA r5.2 5 r5.1.toNatClampNeg) r8)), (9, .int r5.1), (4, .int (v4 + (1 + r3.1))), (0, .ref (q 0)), (1, .int v1), (2, .int v2), (3, .int v3), (5, .int v5), (7, .int v7), (8, .int v8)]) C dX10_eveningsNow_109 (by decide) rfl ?_
        refine z_iload C 10 dX10_eveningsNow_111 rfl ?_
        refine z_iload C 1 dX10_eveningsNow_113 rfl ?_
        refine z_if_eq (tgt := 129) C dX10_eveningsNow_115 (by decide) (fun _ => ?_) (fun c => absurd (by decide) c)
        refine z_iconst (v := 0) C dX10_eveningsNow_129 (by decide) ?_
        refine z_iadd C dX10_eveningsNow_130 ?_
        refine z_istore (lv2 := [(7, .int (v7 + 0)), (6, .int (v6 + 0)), (11, .int 0), (10, .int (f_X10_out (v4 + (1 + r3.1)) (mA r5.2 5 r5.1.toNatClampNeg) r8)), (9, .int r5.1), (4, .int (v4 + (1 + r3.1))), (0, .ref (q 0)), (1, .int v1), (2, .int v2), (3, .int v3), (5, .int v5), (8, .int v8)]) C dX10_eveningsNow_131 (by decide) rfl ?_
        refine z_iload C 10 dX10_eveningsNow_133 rfl ?_
        refine z_iconst (v := 1) C dX10_eveningsNow_135 (by decide) ?_
        refine z_iload C 4 dX10_eveningsNow_136 rfl ?_
        refine z_ishl C dX10_eveningsNow_138 ?_
        refine z_ior C dX10_eveningsNow_139 ?_
        refine z_istore (lv2 := [(5, .int (v5 ||| (1 <<< (r5.1 &&& 31)))), (7, .int (v7 + 0)), (6, .int (v6 + 0)), (11, .int 0), (10, .int (f_X10_out (v4 + (1 + r3.1)) (mA r5.2 5 r5.1.toNatClampNeg) r8)), (9, .int r5.1), (4, .int (v4 + (1 + r3.1))), (0, .ref (q 0)), (1, .int v1), (2, .int v2), (3, .int v3), (8, .int v8)]) C dX10_eveningsNow_140 (by decide) rfl ?_
        refine z_iinc (v := (v8 + 1)) (lv2 := [(8, .int (v8 + 1)), (5, .int (v5 ||| (1 <<< (r5.1 &&& 31)))), (7, .int (v7 + 0)), (6, .int (v6 + 0)), (11, .int 0), (10, .int (f_X10_out (v4 + (1 + r3.1)) (mA r5.2 5 r5.1.toNatClampNeg) r8)), (9, .int r5.1), (4, .int (v4 + (1 + r3.1))), (0, .ref (q 0)), (1, .int v1), (2, .int v2), (3, .int v3)]) C 11 dX10_eveningsNow_142 rfl rfl (by decide) rfl ?_
        refine z_goto (tgt := 21) C dX10_eveningsNow_145 (by decide) ?_
        refine z_lv (lv2 := [(0, .ref (q 0)), (1, .int v1), (2, .int v2), (3, .int v3), (4, .int (v4 + (1 + r3.1))), (5, .int (v5 ||| (1 <<< (r5.1 &&& 31)))), (6, .int (v6 + 0)), (7, .int (v7 + 0)), (8, .int (v8 + 1))]) [8, 9, 10, 11, 7, 1, 3, 2, 0] rfl ?_
        exact ih (v4 + (1 + r3.1)) (v5 ||| (1 <<< (r5.1 &&& 31))) (v6 + 0) (v7 + 0) (v8 + 1) r5.2 h kk
      · replace h := zt c9 h
        refine z_iconst (v := 1) C dX10_eveningsNow_82 (by decide) ?_
        refine z_goto (tgt := 87) C dX10_eveningsNow_83 (by decide) ?_
        refine z_istore (lv2 := [(11, .int 1), (10, .int (f_X10_out (v4 + (1 + r3.1)) (mA r5.2 5 r5.1.toNatClampNeg) r8)), (9, .int r5.1), (4, .int (v4 + (1 + r3.1))), (0, .ref (q 0)), (1, .int v1), (2, .int v2), (3, .int v3), (5, .int v5), (6, .int v6), (7, .int v7), (8, .int v8)]) C dX10_eveningsNow_87 (by decide) rfl ?_
        refine z_iload C 9 dX10_eveningsNow_89 rfl ?_
        refine z_iload C 0 dX10_eveningsNow_91 rfl ?_
        refine z_if_eq (tgt := 107) C dX10_eveningsNow_93 (by decide) (fun c => absurd c (by decide)) (fun _ => ?_)
        refine z_iload C 1 dX10_eveningsNow_96 rfl ?_
        refine z_bipush (v := 100) C dX10_eveningsNow_98 (by decide) ?_
        refine z_icmp_ne (tgt := 107) C dX10_eveningsNow_100 (by decide) (fun c10 => ?_) (fun c10 => ?_)
        · replace h := zf c10 h
          refine z_iconst (v := 0) C dX10_eveningsNow_107 (by decide) ?_
          refine z_iadd C dX10_eveningsNow_108 ?_
          refine z_istore (lv2 := [(6, .int (v6 + 0)), (11, .int 1), (10, .int (f_X10_out (v4 + (1 + r3.1)) (mA r5.2 5 r5.1.toNatClampNeg) r8)), (9, .int r5.1), (4, .int (v4 + (1 + r3.1))), (0, .ref (q 0)), (1, .int v1), (2, .int v2), (3, .int v3), (5, .int v5), (7, .int v7), (8, .int v8)]) C dX10_eveningsNow_109 (by decide) rfl ?_
          refine z_iload C 10 dX10_eveningsNow_111 rfl ?_
          refine z_iload C 1 dX10_eveningsNow_113 rfl ?_
          refine z_if_eq (tgt := 129) C dX10_eveningsNow_115 (by decide) (fun c => absurd c (by decide)) (fun _ => ?_)
          refine z_iload C 2 dX10_eveningsNow_118 rfl ?_
          refine z_bipush (v := 100) C dX10_eveningsNow_120 (by decide) ?_
          refine z_icmp_le (tgt := 129) C dX10_eveningsNow_122 (by decide) (fun c11 => ?_) (fun c11 => ?_)
          · replace h := zt c11 h
            refine z_iconst (v := 0) C dX10_eveningsNow_129 (by decide) ?_
            refine z_iadd C dX10_eveningsNow_130 ?_
            refine z_istore (lv2 := [(7, .int (v7 + 0)), (6, .int (v6 + 0)), (11, .int 1), (10, .int (f_X10_out (v4 + (1 + r3.1)) (mA r5.2 5 r5.1.toNatClampNeg) r8)), (9, .int r5.1), (4, .int (v4 + (1 + r3.1))), (0, .ref (q 0)), (1, .int v1), (2, .int v2), (3, .int v3), (5, .int v5), (8, .int v8)]) C dX10_eveningsNow_131 (by decide) rfl ?_
            refine z_iload C 10 dX10_eveningsNow_133 rfl ?_
            refine z_iconst (v := 1) C dX10_eveningsNow_135 (by decide) ?_
            refine z_iload C 4 dX10_eveningsNow_136 rfl ?_
            refine z_ishl C dX10_eveningsNow_138 ?_
            refine z_ior C dX10_eveningsNow_139 ?_
            refine z_istore (lv2 := [(5, .int (v5 ||| (1 <<< (r5.1 &&& 31)))), (7, .int (v7 + 0)), (6, .int (v6 + 0)), (11, .int 1), (10, .int (f_X10_out (v4 + (1 + r3.1)) (mA r5.2 5 r5.1.toNatClampNeg) r8)), (9, .int r5.1), (4, .int (v4 + (1 + r3.1))), (0, .ref (q 0)), (1, .int v1), (2, .int v2), (3, .int v3), (8, .int v8)]) C dX10_eveningsNow_140 (by decide) rfl ?_
            refine z_iinc (v := (v8 + 1)) (lv2 := [(8, .int (v8 + 1)), (5, .int (v5 ||| (1 <<< (r5.1 &&& 31)))), (7, .int (v7 + 0)), (6, .int (v6 + 0)), (11, .int 1), (10, .int (f_X10_out (v4 + (1 + r3.1)) (mA r5.2 5 r5.1.toNatClampNeg) r8)), (9, .int r5.1), (4, .int (v4 + (1 + r3.1))), (0, .ref (q 0)), (1, .int v1), (2, .int v2), (3, .int v3)]) C 11 dX10_eveningsNow_142 rfl rfl (by decide) rfl ?_
            refine z_goto (tgt := 21) C dX10_eveningsNow_145 (by decide) ?_
            refine z_lv (lv2 := [(0, .ref (q 0)), (1, .int v1), (2, .int v2), (3, .int v3), (4, .int (v4 + (1 + r3.1))), (5, .int (v5 ||| (1 <<< (r5.1 &&& 31)))), (6, .int (v6 + 0)), (7, .int (v7 + 0)), (8, .int (v8 + 1))]) [8, 9, 10, 11, 7, 1, 3, 2, 0] rfl ?_
            exact ih (v4 + (1 + r3.1)) (v5 ||| (1 <<< (r5.1 &&& 31))) (v6 + 0) (v7 + 0) (v8 + 1) r5.2 h kk
          · replace h := zf c11 h
            refine z_iconst (v := 1) C dX10_eveningsNow_125 (by decide) ?_
            refine z_goto (tgt := 130) C dX10_eveningsNow_126 (by decide) ?_
            refine z_iadd C dX10_eveningsNow_130 ?_
            refine z_istore (lv2 := [(7, .int (v7 + 1)), (6, .int (v6 + 0)), (11, .int 1), (10, .int (f_X10_out (v4 + (1 + r3.1)) (mA r5.2 5 r5.1.toNatClampNeg) r8)), (9, .int r5.1), (4, .int (v4 + (1 + r3.1))), (0, .ref (q 0)), (1, .int v1), (2, .int v2), (3, .int v3), (5, .int v5), (8, .int v8)]) C dX10_eveningsNow_131 (by decide) rfl ?_
            refine z_iload C 10 dX10_eveningsNow_133 rfl ?_
            refine z_iconst (v := 1) C dX10_eveningsNow_135 (by decide) ?_
            refine z_iload C 4 dX10_eveningsNow_136 rfl ?_
            refine z_ishl C dX10_eveningsNow_138 ?_
            refine z_ior C dX10_eveningsNow_139 ?_
            refine z_istore (lv2 := [(5, .int (v5 ||| (1 <<< (r5.1 &&& 31)))), (7, .int (v7 + 1)), (6, .int (v6 + 0)), (11, .int 1), (10, .int (f_X10_out (v4 + (1 + r3.1)) (mA r5.2 5 r5.1.toNatClampNeg) r8)), (9, .int r5.1), (4, .int (v4 + (1 + r3.1))), (0, .ref (q 0)), (1, .int v1), (2, .int v2), (3, .int v3), (8, .int v8)]) C dX10_eveningsNow_140 (by decide) rfl ?_
            refine z_iinc (v := (v8 + 1)) (lv2 := [(8, .int (v8 + 1)), (5, .int (v5 ||| (1 <<< (r5.1 &&& 31)))), (7, .int (v7 + 1)), (6, .int (v6 + 0)), (11, .int 1), (10, .int (f_X10_out (v4 + (1 + r3.1)) (mA r5.2 5 r5.1.toNatClampNeg) r8)), (9, .int r5.1), (4, .int (v4 + (1 + r3.1))), (0, .ref (q 0)), (1, .int v1), (2, .int v2), (3, .int v3)]) C 11 dX10_eveningsNow_142 rfl rfl (by decide) rfl ?_
            refine z_goto (tgt := 21) C dX10_eveningsNow_145 (by decide) ?_
            refine z_lv (lv2 := [(0, .ref (q 0)), (1, .int v1), (2, .int v2), (3, .int v3), (4, .int (v4 + (1 + r3.1))), (5, .int (v5 ||| (1 <<< (r5.1 &&& 31)))), (6, .int (v6 + 0)), (7, .int (v7 + 1)), (8, .int (v8 + 1))]) [8, 9, 10, 11, 7, 1, 3, 2, 0] rfl ?_
            exact ih (v4 + (1 + r3.1)) (v5 ||| (1 <<< (r5.1 &&& 31))) (v6 + 0) (v7 + 1) (v8 + 1) r5.2 h kk
        · replace h := zt c10 h
          refine z_iconst (v := 1) C dX10_eveningsNow_103 (by decide) ?_
          refine z_goto (tgt := 108) C dX10_eveningsNow_104 (by decide) ?_
          refine z_iadd C dX10_eveningsNow_108 ?_
          refine z_istore (lv2 := [(6, .int (v6 + 1)), (11, .int 1), (10, .int (f_X10_out (v4 + (1 + r3.1)) (mA r5.2 5 r5.1.toNatClampNeg) r8)), (9, .int r5.1), (4, .int (v4 + (1 + r3.1))), (0, .ref (q 0)), (1, .int v1), (2, .int v2), (3, .int v3), (5, .int v5), (7, .int v7), (8, .int v8)]) C dX10_eveningsNow_109 (by decide) rfl ?_
          refine z_iload C 10 dX10_eveningsNow_111 rfl ?_
          refine z_iload C 1 dX10_eveningsNow_113 rfl ?_
          refine z_if_eq (tgt := 129) C dX10_eveningsNow_115 (by decide) (fun c => absurd c (by decide)) (fun _ => ?_)
          refine z_iload C 2 dX10_eveningsNow_118 rfl ?_
          refine z_bipush (v := 100) C dX10_eveningsNow_120 (by decide) ?_
          refine z_icmp_le (tgt := 129) C dX10_eveningsNow_122 (by decide) (fun c12 => ?_) (fun c12 => ?_)
          · replace h := zt c12 h
            refine z_iconst (v := 0) C dX10_eveningsNow_129 (by decide) ?_
            refine z_iadd C dX10_eveningsNow_130 ?_
            refine z_istore (lv2 := [(7, .int (v7 + 0)), (6, .int (v6 + 1)), (11, .int 1), (10, .int (f_X10_out (v4 + (1 + r3.1)) (mA r5.2 5 r5.1.toNatClampNeg) r8)), (9, .int r5.1), (4, .int (v4 + (1 + r3.1))), (0, .ref (q 0)), (1, .int v1), (2, .int v2), (3, .int v3), (5, .int v5), (8, .int v8)]) C dX10_eveningsNow_131 (by decide) rfl ?_
            refine z_iload C 10 dX10_eveningsNow_133 rfl ?_
            refine z_iconst (v := 1) C dX10_eveningsNow_135 (by decide) ?_
            refine z_iload C 4 dX10_eveningsNow_136 rfl ?_
            refine z_ishl C dX10_eveningsNow_138 ?_
            refine z_ior C dX10_eveningsNow_139 ?_
            refine z_istore (lv2 := [(5, .int (v5 ||| (1 <<< (r5.1 &&& 31)))), (7, .int (v7 + 0)), (6, .int (v6 + 1)), (11, .int 1), (10, .int (f_X10_out (v4 + (1 + r3.1)) (mA r5.2 5 r5.1.toNatClampNeg) r8)), (9, .int r5.1), (4, .int (v4 + (1 + r3.1))), (0, .ref (q 0)), (1, .int v1), (2, .int v2), (3, .int v3), (8, .int v8)]) C dX10_eveningsNow_140 (by decide) rfl ?_
            refine z_iinc (v := (v8 + 1)) (lv2 := [(8, .int (v8 + 1)), (5, .int (v5 ||| (1 <<< (r5.1 &&& 31)))), (7, .int (v7 + 0)), (6, .int (v6 + 1)), (11, .int 1), (10, .int (f_X10_out (v4 + (1 + r3.1)) (mA r5.2 5 r5.1.toNatClampNeg) r8)), (9, .int r5.1), (4, .int (v4 + (1 + r3.1))), (0, .ref (q 0)), (1, .int v1), (2, .int v2), (3, .int v3)]) C 11 dX10_eveningsNow_142 rfl rfl (by decide) rfl ?_
            refine z_goto (tgt := 21) C dX10_eveningsNow_145 (by decide) ?_
            refine z_lv (lv2 := [(0, .ref (q 0)), (1, .int v1), (2, .int v2), (3, .int v3), (4, .int (v4 + (1 + r3.1))), (5, .int (v5 ||| (1 <<< (r5.1 &&& 31)))), (6, .int (v6 + 1)), (7, .int (v7 + 0)), (8, .int (v8 + 1))]) [8, 9, 10, 11, 7, 1, 3, 2, 0] rfl ?_
            exact ih (v4 + (1 + r3.1)) (v5 ||| (1 <<< (r5.1 &&& 31))) (v6 + 1) (v7 + 0) (v8 + 1) r5.2 h kk
          · replace h := zf c12 h
            refine z_iconst (v := 1) C dX10_eveningsNow_125 (by decide) ?_
            refine z_goto (tgt := 130) C dX10_eveningsNow_126 (by decide) ?_
            refine z_iadd C dX10_eveningsNow_130 ?_
            refine z_istore (lv2 := [(7, .int (v7 + 1)), (6, .int (v6 + 1)), (11, .int 1), (10, .int (f_X10_out (v4 + (1 + r3.1)) (mA r5.2 5 r5.1.toNatClampNeg) r8)), (9, .int r5.1), (4, .int (v4 + (1 + r3.1))), (0, .ref (q 0)), (1, .int v1), (2, .int v2), (3, .int v3), (5, .int v5), (8, .int v8)]) C dX10_eveningsNow_131 (by decide) rfl ?_
            refine z_iload C 10 dX10_eveningsNow_133 rfl ?_
            refine z_iconst (v := 1) C dX10_eveningsNow_135 (by decide) ?_
            refine z_iload C 4 dX10_eveningsNow_136 rfl ?_
            refine z_ishl C dX10_eveningsNow_138 ?_
            refine z_ior C dX10_eveningsNow_139 ?_
            refine z_istore (lv2 := [(5, .int (v5 ||| (1 <<< (r5.1 &&& 31)))), (7, .int (v7 + 1)), (6, .int (v6 + 1)), (11, .int 1), (10, .int (f_X10_out (v4 + (1 + r3.1)) (mA r5.2 5 r5.1.toNatClampNeg) r8)), (9, .int r5.1), (4, .int (v4 + (1 + r3.1))), (0, .ref (q 0)), (1, .int v1), (2, .int v2), (3, .int v3), (8, .int v8)]) C dX10_eveningsNow_140 (by decide) rfl ?_
            refine z_iinc (v := (v8 + 1)) (lv2 := [(8, .int (v8 + 1)), (5, .int (v5 ||| (1 <<< (r5.1 &&& 31)))), (7, .int (v7 + 1)), (6, .int (v6 + 1)), (11, .int 1), (10, .int (f_X10_out (v4 + (1 + r3.1)) (mA r5.2 5 r5.1.toNatClampNeg) r8)), (9, .int r5.1), (4, .int (v4 + (1 + r3.1))), (0, .ref (q 0)), (1, .int v1), (2, .int v2), (3, .int v3)]) C 11 dX10_eveningsNow_142 rfl rfl (by decide) rfl ?_
            refine z_goto (tgt := 21) C dX10_eveningsNow_145 (by decide) ?_
            refine z_lv (lv2 := [(0, .ref (q 0)), (1, .int v1), (2, .int v2), (3, .int v3), (4, .int (v4 + (1 + r3.1))), (5, .int (v5 ||| (1 <<< (r5.1 &&& 31)))), (6, .int (v6 + 1)), (7, .int (v7 + 1)), (8, .int (v8 + 1))]) [8, 9, 10, 11, 7, 1, 3, 2, 0] rfl ?_
            exact ih (v4 + (1 + r3.1)) (v5 ||| (1 <<< (r5.1 &&& 31))) (v6 + 1) (v7 + 1) (v8 + 1) r5.2 h kk
set_option maxHeartbeats 4000000 in
set_option maxRecDepth 100000 in
theorem c_X10_eveningsNow (l : Launch) (G : zGT) (q : Nat → Nat) (S : MS) (X : va_W) (fu : Nat) (a1 : Int32) (a2 : Int32) (a3 : Int32) {res : Int32 × MS} (h : f_X10_eveningsNow fu S a1 a2 a3 = some res) : MG l yX10_eveningsNow wsX10_eveningsNow ({ frames := 1, cells := 0, slots := 0, locals := 22 }) G [.ref (q 0), .int a1, .int a2, .int a3] (MW G q S ++ X) (va_Qi (fun r u => r = res.1 ∧ u = MW G q res.2 ++ X)) := by
  have hi10 : ∀ w ∈ u_ws RX10 TX10 39, w ∈ wsX10_eveningsNow := fun _ h => List.mem_cons_of_mem _ (List.mem_append_right _ h)
  refine MG.of (cc := cX10_eveningsNow) (maxL := 12) (ret := (some .int)) (own := RX10) (nm := "eveningsNow") (by decide) rfl rfl rfl (Nat.le_of_ble_eq_true rfl) ?_
  intro p e s m args below meth c A C
  rw [f_X10_eveningsNow] at h
  refine z_eq (lv2 := [(0, .ref (q 0)), (1, .int a1), (2, .int a2), (3, .int a3)]) rfl rfl rfl rfl ?_
  refine z_aload_n C 0 dX10_eveningsNow_0 rfl rfl ?_
  refine z_iload_n C 2 dX10_eveningsNow_1 rfl rfl ?_
  refine z_i2l C dX10_eveningsNow_2 ?_
  refine mp_24 C hi10 (List.mem_of_getElem? (i := 1) rfl) dX10_eveningsNow_3 ?_
  refine z_iconst (v := 0) C dX10_eveningsNow_6 (by decide) ?_
  refine z_istore (lv2 := [(4, .int 0), (0, .ref (q 0)), (1, .int a1), (2, .int a2), (3, .int a3)]) C dX10_eveningsNow_7 (by decide) rfl ?_
  refine z_iconst (v := 0) C dX10_eveningsNow_9 (by decide) ?_
  refine z_istore (lv2 := [(5, .int 0), (4, .int 0), (0, .ref (q 0)), (1, .int a1), (2, .int a2), (3, .int a3)]) C dX10_eveningsNow_10 (by decide) rfl ?_
  refine z_iconst (v := 0) C dX10_eveningsNow_12 (by decide) ?_
  refine z_istore (lv2 := [(6, .int 0), (5, .int 0), (4, .int 0), (0, .ref (q 0)), (1, .int a1), (2, .int a2), (3, .int a3)]) C dX10_eveningsNow_13 (by decide) rfl ?_
  refine z_iconst (v := 0) C dX10_eveningsNow_15 (by decide) ?_
  refine z_istore (lv2 := [(7, .int 0), (6, .int 0), (5, .int 0), (4, .int 0), (0, .ref (q 0)), (1, .int a1), (2, .int a2), (3, .int a3)]) C dX10_eveningsNow_16 (by decide) rfl ?_
  refine z_iconst (v := 0) C dX10_eveningsNow_18 (by decide) ?_
  refine z_istore (lv2 := [(8, .int 0), (7, .int 0), (6, .int 0), (5, .int 0), (4, .int 0), (0, .ref (q 0)), (1, .int a1), (2, .int a2), (3, .int a3)]) C dX10_eveningsNow_19 (by decide) rfl ?_
  refine z_lv (lv2 := [(0, .ref (q 0)), (1, .int a1), (2, .int a2), (3, .int a3), (4, .int 0), (5, .int 0), (6, .int 0), (7, .int 0), (8, .int 0)]) [5, 6, 7, 8, 4, 3, 2, 1, 0] rfl ?_
  obtain ⟨r13, hf14, h⟩ := bd_some h
  refine L_X10_eveningsNow_21 C a1 a2 a3 fu 0 0 0 0 0 (msL S 24 a2.toInt64) hf14 ?_
  refine z_iload_n C 3 dX10_eveningsNow_148 rfl rfl ?_
  refine z_if_ne (tgt := 157) C dX10_eveningsNow_149 (by decide) (fun c15 => ?_) (fun c15 => ?_)
  · replace h := zf c15 h
    refine z_iload_n C 3 dX10_eveningsNow_157 rfl rfl ?_
    refine z_iconst (v := 1) C dX10_eveningsNow_158 (by decide) ?_
    refine z_icmp_ne (tgt := 167) C dX10_eveningsNow_159 (by decide) (fun c16 => ?_) (fun c16 => ?_)
    · replace h := zf c16 h
      refine z_aload_n C 0 dX10_eveningsNow_167 rfl rfl ?_
      refine mg_24 C hi10 (List.mem_of_getElem? (i := 1) rfl) dX10_eveningsNow_168 ?_
      refine z_l2i C dX10_eveningsNow_171 ?_
      injection h with h
      subst h
      exact z_iret C rfl ⟨rfl, rfl⟩ dX10_eveningsNow_172
    · replace h := zt c16 h
      refine z_iload C 7 dX10_eveningsNow_162 rfl ?_
      refine z_goto (tgt := 172) C dX10_eveningsNow_164 (by decide) ?_
      injection h with h
      subst h
      exact z_iret C rfl ⟨rfl, rfl⟩ dX10_eveningsNow_172
  · replace h := zt c15 h
    refine z_iload C 6 dX10_eveningsNow_152 rfl ?_
    refine z_goto (tgt := 172) C dX10_eveningsNow_154 (by decide) ?_
    injection h with h
    subst h
    exact z_iret C rfl ⟨rfl, rfl⟩ dX10_eveningsNow_172
def f_X10_evenings (fu : Nat) (S : MS) (a1 : Int32) (a2 : Int32) (a3 : Int32) : Option (Int32 × MS) := if (f_X10_within a1 1 30) = 0 then some ((-102), S) else if a2 < 0 then some ((-102), S) else if (f_X10_within a3 0 2) = 0 then some ((-102), S) else if (mI S 1) = 0 then some ((-103), S) else (f_X10_eveningsNow fu S a1 a2 a3).bind fun r6 => some (r6.1, r6.2)
set_option maxHeartbeats 4000000 in
set_option maxRecDepth 100000 in
theorem c_X10_evenings (l : Launch) (G : zGT) (q : Nat → Nat) (S : MS) (X : va_W) (fu : Nat) (a1 : Int32) (a2 : Int32) (a3 : Int32) {res : Int32 × MS} (h : f_X10_evenings fu S a1 a2 a3 = some res) : MG l yX10_evenings wsX10_evenings ({ frames := 2, cells := 0, slots := 0, locals := 53 }) G [.ref (q 0), .int a1, .int a2, .int a3] (MW G q S ++ X) (va_Qi (fun r u => r = res.1 ∧ u = MW G q res.2 ++ X)) := by
  have hi10 : ∀ w ∈ u_ws RX10 TX10 39, w ∈ wsX10_evenings := fun _ h => List.mem_cons_of_mem _ (List.mem_append_right _ h)
  refine MG.of (cc := cX10_evenings) (maxL := 4) (ret := (some .int)) (own := RX10) (nm := "evenings") (by decide) rfl rfl rfl (Nat.le_of_ble_eq_true rfl) ?_
  intro p e s m args below meth c A C
  rw [f_X10_evenings] at h
  refine z_eq (lv2 := [(0, .ref (q 0)), (1, .int a1), (2, .int a2), (3, .int a3)]) rfl rfl rfl rfl ?_
  refine z_iload_n C 1 dX10_evenings_0 rfl rfl ?_
  refine z_iconst (v := 1) C dX10_evenings_1 (by decide) ?_
  refine z_bipush (v := 30) C dX10_evenings_2 (by decide) ?_
  refine z_goti1 C (z_runS C (c_X10_within l G (MW G q S ++ X) a1 1 30) (va_cwS 3 C.hts gX10_evenings_X10_within rfl rfl rfl (by decide +kernel) ⟨Nat.le_of_ble_eq_true rfl, Nat.le_of_ble_eq_true rfl⟩) rfl rfl (Nat.le_of_ble_eq_true rfl) dX10_evenings_4 ⟨Nat.le_of_ble_eq_true rfl, Nat.le_of_ble_eq_true rfl⟩) rfl rfl ?_
  refine z_if_eq (tgt := 23) C dX10_evenings_7 (by decide) (fun c1 => ?_) (fun c1 => ?_)
  · replace h := zt c1 h
    refine z_bipush (v := (-102)) C dX10_evenings_23 (by decide) ?_
    injection h with h
    subst h
    exact z_iret C rfl ⟨rfl, rfl⟩ dX10_evenings_25
  · replace h := zf c1 h
    refine z_iload_n C 2 dX10_evenings_10 rfl rfl ?_
    refine z_if_lt (tgt := 23) C dX10_evenings_11 (by decide) (fun c2 => ?_) (fun c2 => ?_)
    · replace h := zt c2 h
      refine z_bipush (v := (-102)) C dX10_evenings_23 (by decide) ?_
      injection h with h
      subst h
      exact z_iret C rfl ⟨rfl, rfl⟩ dX10_evenings_25
    · replace h := zf c2 h
      refine z_iload_n C 3 dX10_evenings_14 rfl rfl ?_
      refine z_iconst (v := 0) C dX10_evenings_15 (by decide) ?_
      refine z_iconst (v := 2) C dX10_evenings_16 (by decide) ?_
      refine z_goti1 C (z_runS C (c_X10_within l G (MW G q S ++ X) a3 0 2) (va_cwS 3 C.hts gX10_evenings_X10_within rfl rfl rfl (by decide +kernel) ⟨Nat.le_of_ble_eq_true rfl, Nat.le_of_ble_eq_true rfl⟩) rfl rfl (Nat.le_of_ble_eq_true rfl) dX10_evenings_17 ⟨Nat.le_of_ble_eq_true rfl, Nat.le_of_ble_eq_true rfl⟩) rfl rfl ?_
      refine z_if_ne (tgt := 26) C dX10_evenings_20 (by decide) (fun c3 => ?_) (fun c3 => ?_)
      · replace h := zf c3 h
        refine z_aload_n C 0 dX10_evenings_26 rfl rfl ?_
        refine mg_1 C hi10 (List.mem_of_getElem? (i := 1) rfl) dX10_evenings_27 ?_
        refine z_if_ne (tgt := 38) C dX10_evenings_30 (by decide) (fun c4 => ?_) (fun c4 => ?_)
        · replace h := zf c4 h
          refine z_aload_n C 0 dX10_evenings_38 rfl rfl ?_
          refine z_iload_n C 1 dX10_evenings_39 rfl rfl ?_
          refine z_iload_n C 2 dX10_evenings_40 rfl rfl ?_
          refine z_iload_n C 3 dX10_evenings_41 rfl rfl ?_
          obtain ⟨r6, hf5, h⟩ := bd_some h
          refine z_goti1 C (z_runV C (c_X10_eveningsNow l G q S X fu a1 a2 a3 hf5) (cwV 3 C.hts gX10_evenings_X10_eveningsNow rfl rfl rfl (by decide +kernel) ⟨Nat.le_of_ble_eq_true rfl, Nat.le_of_ble_eq_true rfl⟩) 0 rfl rfl rfl rfl (Nat.le_of_ble_eq_true rfl) dX10_evenings_42 ⟨Nat.le_of_ble_eq_true rfl, Nat.le_of_ble_eq_true rfl⟩) rfl rfl ?_
          injection h with h
          subst h
          exact z_iret C rfl ⟨rfl, rfl⟩ dX10_evenings_45
        · replace h := zt c4 h
          refine z_bipush (v := (-103)) C dX10_evenings_33 (by decide) ?_
          refine z_goto (tgt := 45) C dX10_evenings_35 (by decide) ?_
          injection h with h
          subst h
          exact z_iret C rfl ⟨rfl, rfl⟩ dX10_evenings_45
      · replace h := zt c3 h
        refine z_bipush (v := (-102)) C dX10_evenings_23 (by decide) ?_
        injection h with h
        subst h
        exact z_iret C rfl ⟨rfl, rfl⟩ dX10_evenings_25
def f_X10_image_L57 (fu : Nat)  : Nat → Int32 → MS → Option (Int32 × MS)
  | 0, _, _ => none
  | n + 1, v1, S => if 4 ≤ v1 then some (v1, S) else gd v1 4 (gd v1 4 (gd v1 4 (gd v1 4 (gd v1 4 (gd v1 4 (f_X10_image_L57 fu n (v1 + 1) (msA (msA (msA S 31 v1.toNatClampNeg (mA S 9 v1.toNatClampNeg)) 32 v1.toNatClampNeg (mA (msA S 31 v1.toNatClampNeg (mA S 9 v1.toNatClampNeg)) 10 v1.toNatClampNeg)) 33 v1.toNatClampNeg (mA (msA (msA S 31 v1.toNatClampNeg (mA S 9 v1.toNatClampNeg)) 32 v1.toNatClampNeg (mA (msA S 31 v1.toNatClampNeg (mA S 9 v1.toNatClampNeg)) 10 v1.toNatClampNeg)) 11 v1.toNatClampNeg))))))))
def f_X10_image_L106 (fu : Nat)  : Nat → Int32 → MS → Option (Int32 × MS)
  | 0, _, _ => none
  | n + 1, v1, S => if 6 ≤ v1 then some (v1, S) else gd v1 6 (gd v1 6 (gd v1 6 (gd v1 6 (gd v1 6 (gd v1 6 (gd v1 6 (gd v1 6 (f_X10_image_L106 fu n (v1 + 1) (msA (msA (msA (msA S 34 v1.toNatClampNeg (mA S 13 v1.toNatClampNeg)) 35 v1.toNatClampNeg (mA (msA S 34 v1.toNatClampNeg (mA S 13 v1.toNatClampNeg)) 14 v1.toNatClampNeg)) 36 v1.toNatClampNeg (mA (msA (msA S 34 v1.toNatClampNeg (mA S 13 v1.toNatClampNeg)) 35 v1.toNatClampNeg (mA (msA S 34 v1.toNatClampNeg (mA S 13 v1.toNatClampNeg)) 14 v1.toNatClampNeg)) 15 v1.toNatClampNeg)) 37 v1.toNatClampNeg (mA (msA (msA (msA S 34 v1.toNatClampNeg (mA S 13 v1.toNatClampNeg)) 35 v1.toNatClampNeg (mA (msA S 34 v1.toNatClampNeg (mA S 13 v1.toNatClampNeg)) 14 v1.toNatClampNeg)) 36 v1.toNatClampNeg (mA (msA (msA S 34 v1.toNatClampNeg (mA S 13 v1.toNatClampNeg)) 35 v1.toNatClampNeg (mA (msA S 34 v1.toNatClampNeg (mA S 13 v1.toNatClampNeg)) 14 v1.toNatClampNeg)) 15 v1.toNatClampNeg)) 16 v1.toNatClampNeg))))))))))
def f_X10_image (fu : Nat) (S : MS) : Option (Int32 × MS) := if (mI S 1) = 0 then some ((-103), S) else (f_X10_image_L57 fu fu 0 (msI (msI (msI (msI (msI (msI S 25 1) 26 (mI (msI S 25 1) 0)) 27 (mI (msI (msI S 25 1) 26 (mI (msI S 25 1) 0)) 6)) 28 (mI (msI (msI (msI S 25 1) 26 (mI (msI S 25 1) 0)) 27 (mI (msI (msI S 25 1) 26 (mI (msI S 25 1) 0)) 6)) 7)) 29 (mI (msI (msI (msI (msI S 25 1) 26 (mI (msI S 25 1) 0)) 27 (mI (msI (msI S 25 1) 26 (mI (msI S 25 1) 0)) 6)) 28 (mI (msI (msI (msI S 25 1) 26 (mI (msI S 25 1) 0)) 27 (mI (msI (msI S 25 1) 26 (mI (msI S 25 1) 0)) 6)) 7)) 8)) 30 (mI (msI (msI (msI (msI (msI S 25 1) 26 (mI (msI S 25 1) 0)) 27 (mI (msI (msI S 25 1) 26 (mI (msI S 25 1) 0)) 6)) 28 (mI (msI (msI (msI S 25 1) 26 (mI (msI S 25 1) 0)) 27 (mI (msI (msI S 25 1) 26 (mI (msI S 25 1) 0)) 6)) 7)) 29 (mI (msI (msI (msI (msI S 25 1) 26 (mI (msI S 25 1) 0)) 27 (mI (msI (msI S 25 1) 26 (mI (msI S 25 1) 0)) 6)) 28 (mI (msI (msI (msI S 25 1) 26 (mI (msI S 25 1) 0)) 27 (mI (msI (msI S 25 1) 26 (mI (msI S 25 1) 0)) 6)) 7)) 8)) 12))).bind fun r9 => (f_X10_image_L106 fu fu 0 r9.2).bind fun r20 => some ((mI r20.2 6), r20.2)
set_option maxHeartbeats 4000000 in
set_option maxRecDepth 100000 in
theorem L_X10_image_57 {p : Program} {l : Launch} {e : Env} {s : State} {m : MethodId} {args : Array Value} {below : List Frame} {meth : Method} {c : Code} {A : Nat → Prop} {G : zGT} {q : Nat → Nat} {X : va_W} {fu : Nat} {Q : State → Prop} (C : zC p s m args meth c A G cX10_image 2 (some .int) RX10 "image" wsX10_image) : ∀ (n : Nat) (v1 : Int32) (S : MS) {res : Int32 × MS}, f_X10_image_L57 fu n v1 S = some res → Z p l e ({ frames := 0, cells := 0, slots := 0, locals := 0 }) s m args below meth c A G 2 Q 0 0 (MW G q res.2 ++ X) [(0, .ref (q 0)), (1, .int res.1)] 104 [] → Z p l e ({ frames := 0, cells := 0, slots := 0, locals := 0 }) s m args below meth c A G 2 Q 0 0 (MW G q S ++ X) [(0, .ref (q 0)), (1, .int v1)] 57 [] := by
  have hi10 : ∀ w ∈ u_ws RX10 TX10 39, w ∈ wsX10_image := fun _ h => List.mem_cons_of_mem _ (List.mem_append_right _ h)
  intro n
  induction n with
  | zero =>
    intro v1 S res h kk
    exact nomatch (h : none = some _)
  | succ n ih =>
    intro v1 S res h kk
    rw [f_X10_image_L57] at h
    refine z_iload_n C 1 dX10_image_57 rfl rfl ?_
    refine z_iconst (v := 4) C dX10_image_58 (by decide) ?_
    refine z_icmp_ge (tgt := 104) C dX10_image_59 (by decide) (fun c2 => ?_) (fun c2 => ?_)
    · replace h := zt c2 h
      injection h with h
      subst h
      refine z_lv (lv2 := [(0, .ref (q 0)), (1, .int v1)]) [0, 1] rfl ?_
      exact kk
    · replace h := zf c2 h
      refine z_aload_n C 0 dX10_image_62 rfl rfl ?_
      refine mg_31 C hi10 (List.mem_of_getElem? (i := 13) rfl) dX10_image_63 ?_
      refine z_iload_n C 1 dX10_image_66 rfl rfl ?_
      refine z_aload_n C 0 dX10_image_67 rfl rfl ?_
      refine mg_9 C hi10 (List.mem_of_getElem? (i := 14) rfl) dX10_image_68 ?_
      refine z_iload_n C 1 dX10_image_71 rfl rfl ?_
      obtain ⟨hg3, h⟩ := gd_some h
      refine ml_9 C hg3 dX10_image_72 ?_
      obtain ⟨hg4, h⟩ := gd_some h
      refine mt_31 C hg4 dX10_image_73 ?_
      refine z_aload_n C 0 dX10_image_74 rfl rfl ?_
      refine mg_32 C hi10 (List.mem_of_getElem? (i := 15) rfl) dX10_image_75 ?_
      refine z_iload_n C 1 dX10_image_78 rfl rfl ?_
      refine z_aload_n C 0 dX10_image_79 rfl rfl ?_
      refine mg_10 C hi10 (List.mem_of_getElem? (i := 16) rfl) dX10_image_80 ?_
      refine z_iload_n C 1 dX10_image_83 rfl rfl ?_
      obtain ⟨hg5, h⟩ := gd_some h
      refine ml_10 C hg5 dX10_image_84 ?_
      obtain ⟨hg6, h⟩ := gd_some h
      refine mt_32 C hg6 dX10_image_85 ?_
      refine z_aload_n C 0 dX10_image_86 rfl rfl ?_
      refine mg_33 C hi10 (List.mem_of_getElem? (i := 17) rfl) dX10_image_87 ?_
      refine z_iload_n C 1 dX10_image_90 rfl rfl ?_
      refine z_aload_n C 0 dX10_image_91 rfl rfl ?_
      refine mg_11 C hi10 (List.mem_of_getElem? (i := 18) rfl) dX10_image_92 ?_
      refine z_iload_n C 1 dX10_image_95 rfl rfl ?_
      obtain ⟨hg7, h⟩ := gd_some h
      refine ml_11 C hg7 dX10_image_96 ?_
      obtain ⟨hg8, h⟩ := gd_some h
      refine mt_33 C hg8 dX10_image_97 ?_
      refine z_iinc (v := (v1 + 1)) (lv2 := [(1, .int (v1 + 1)), (0, .ref (q 0))]) C 1 dX10_image_98 rfl rfl (by decide) rfl ?_
      refine z_goto (tgt := 57) C dX10_image_101 (by decide) ?_
      refine z_lv (lv2 := [(0, .ref (q 0)), (1, .int (v1 + 1))]) [1, 0] rfl ?_
      exact ih (v1 + 1) (msA (msA (msA S 31 v1.toNatClampNeg (mA S 9 v1.toNatClampNeg)) 32 v1.toNatClampNeg (mA (msA S 31 v1.toNatClampNeg (mA S 9 v1.toNatClampNeg)) 10 v1.toNatClampNeg)) 33 v1.toNatClampNeg (mA (msA (msA S 31 v1.toNatClampNeg (mA S 9 v1.toNatClampNeg)) 32 v1.toNatClampNeg (mA (msA S 31 v1.toNatClampNeg (mA S 9 v1.toNatClampNeg)) 10 v1.toNatClampNeg)) 11 v1.toNatClampNeg)) h kk
set_option maxHeartbeats 4000000 in
set_option maxRecDepth 100000 in
theorem L_X10_image_106 {p : Program} {l : Launch} {e : Env} {s : State} {m : MethodId} {args : Array Value} {below : List Frame} {meth : Method} {c : Code} {A : Nat → Prop} {G : zGT} {q : Nat → Nat} {X : va_W} {fu : Nat} {Q : State → Prop} (C : zC p s m args meth c A G cX10_image 2 (some .int) RX10 "image" wsX10_image) : ∀ (n : Nat) (v1 : Int32) (S : MS) {res : Int32 × MS}, f_X10_image_L106 fu n v1 S = some res → Z p l e ({ frames := 0, cells := 0, slots := 0, locals := 0 }) s m args below meth c A G 2 Q 0 0 (MW G q res.2 ++ X) [(0, .ref (q 0)), (1, .int res.1)] 166 [] → Z p l e ({ frames := 0, cells := 0, slots := 0, locals := 0 }) s m args below meth c A G 2 Q 0 0 (MW G q S ++ X) [(0, .ref (q 0)), (1, .int v1)] 106 [] := by
  have hi10 : ∀ w ∈ u_ws RX10 TX10 39, w ∈ wsX10_image := fun _ h => List.mem_cons_of_mem _ (List.mem_append_right _ h)
  intro n
  induction n with
  | zero =>
    intro v1 S res h kk
    exact nomatch (h : none = some _)
  | succ n ih =>
    intro v1 S res h kk
    rw [f_X10_image_L106] at h
    refine z_iload_n C 1 dX10_image_106 rfl rfl ?_
    refine z_bipush (v := 6) C dX10_image_107 (by decide) ?_
    refine z_icmp_ge (tgt := 166) C dX10_image_109 (by decide) (fun c11 => ?_) (fun c11 => ?_)
    · replace h := zt c11 h
      injection h with h
      subst h
      refine z_lv (lv2 := [(0, .ref (q 0)), (1, .int v1)]) [0, 1] rfl ?_
      exact kk
    · replace h := zf c11 h
      refine z_aload_n C 0 dX10_image_112 rfl rfl ?_
      refine mg_34 C hi10 (List.mem_of_getElem? (i := 19) rfl) dX10_image_113 ?_
      refine z_iload_n C 1 dX10_image_116 rfl rfl ?_
      refine z_aload_n C 0 dX10_image_117 rfl rfl ?_
      refine mg_13 C hi10 (List.mem_of_getElem? (i := 20) rfl) dX10_image_118 ?_
      refine z_iload_n C 1 dX10_image_121 rfl rfl ?_
      obtain ⟨hg12, h⟩ := gd_some h
      refine ml_13 C hg12 dX10_image_122 ?_
      obtain ⟨hg13, h⟩ := gd_some h
      refine mt_34 C hg13 dX10_image_123 ?_
      refine z_aload_n C 0 dX10_image_124 rfl rfl ?_
      refine mg_35 C hi10 (List.mem_of_getElem? (i := 21) rfl) dX10_image_125 ?_
      refine z_iload_n C 1 dX10_image_128 rfl rfl ?_
      refine z_aload_n C 0 dX10_image_129 rfl rfl ?_
      refine mg_14 C hi10 (List.mem_of_getElem? (i := 22) rfl) dX10_image_130 ?_
      refine z_iload_n C 1 dX10_image_133 rfl rfl ?_
      obtain ⟨hg14, h⟩ := gd_some h
      refine ml_14 C hg14 dX10_image_134 ?_
      obtain ⟨hg15, h⟩ := gd_some h
      refine mt_35 C hg15 dX10_image_135 ?_
      refine z_aload_n C 0 dX10_image_136 rfl rfl ?_
      refine mg_36 C hi10 (List.mem_of_getElem? (i := 23) rfl) dX10_image_137 ?_
      refine z_iload_n C 1 dX10_image_140 rfl rfl ?_
      refine z_aload_n C 0 dX10_image_141 rfl rfl ?_
      refine mg_15 C hi10 (List.mem_of_getElem? (i := 24) rfl) dX10_image_142 ?_
      refine z_iload_n C 1 dX10_image_145 rfl rfl ?_
      obtain ⟨hg16, h⟩ := gd_some h
      refine ml_15 C hg16 dX10_image_146 ?_
      obtain ⟨hg17, h⟩ := gd_some h
      refine mt_36 C hg17 dX10_image_147 ?_
      refine z_aload_n C 0 dX10_image_148 rfl rfl ?_
      refine mg_37 C hi10 (List.mem_of_getElem? (i := 25) rfl) dX10_image_149 ?_
      refine z_iload_n C 1 dX10_image_152 rfl rfl ?_
      refine z_aload_n C 0 dX10_image_153 rfl rfl ?_
      refine mg_16 C hi10 (List.mem_of_getElem? (i := 26) rfl) dX10_image_154 ?_
      refine z_iload_n C 1 dX10_image_157 rfl rfl ?_
      obtain ⟨hg18, h⟩ := gd_some h
      refine ml_16 C hg18 dX10_image_158 ?_
      obtain ⟨hg19, h⟩ := gd_some h
      refine mt_37 C hg19 dX10_image_159 ?_
      refine z_iinc (v := (v1 + 1)) (lv2 := [(1, .int (v1 + 1)), (0, .ref (q 0))]) C 1 dX10_image_160 rfl rfl (by decide) rfl ?_
      refine z_goto (tgt := 106) C dX10_image_163 (by decide) ?_
      refine z_lv (lv2 := [(0, .ref (q 0)), (1, .int (v1 + 1))]) [1, 0] rfl ?_
      exact ih (v1 + 1) (msA (msA (msA (msA S 34 v1.toNatClampNeg (mA S 13 v1.toNatClampNeg)) 35 v1.toNatClampNeg (mA (msA S 34 v1.toNatClampNeg (mA S 13 v1.toNatClampNeg)) 14 v1.toNatClampNeg)) 36 v1.toNatClampNeg (mA (msA (msA S 34 v1.toNatClampNeg (mA S 13 v1.toNatClampNeg)) 35 v1.toNatClampNeg (mA (msA S 34 v1.toNatClampNeg (mA S 13 v1.toNatClampNeg)) 14 v1.toNatClampNeg)) 15 v1.toNatClampNeg)) 37 v1.toNatClampNeg (mA (msA (msA (msA S 34 v1.toNatClampNeg (mA S 13 v1.toNatClampNeg)) 35 v1.toNatClampNeg (mA (msA S 34 v1.toNatClampNeg (mA S 13 v1.toNatClampNeg)) 14 v1.toNatClampNeg)) 36 v1.toNatClampNeg (mA (msA (msA S 34 v1.toNatClampNeg (mA S 13 v1.toNatClampNeg)) 35 v1.toNatClampNeg (mA (msA S 34 v1.toNatClampNeg (mA S 13 v1.toNatClampNeg)) 14 v1.toNatClampNeg)) 15 v1.toNatClampNeg)) 16 v1.toNatClampNeg)) h kk
set_option maxHeartbeats 4000000 in
set_option maxRecDepth 100000 in
theorem c_X10_image (l : Launch) (G : zGT) (q : Nat → Nat) (S : MS) (X : va_W) (fu : Nat) {res : Int32 × MS} (h : f_X10_image fu S = some res) : MG l yX10_image wsX10_image ({ frames := 0, cells := 0, slots := 0, locals := 0 }) G [.ref (q 0)] (MW G q S ++ X) (va_Qi (fun r u => r = res.1 ∧ u = MW G q res.2 ++ X)) := by
  have hi10 : ∀ w ∈ u_ws RX10 TX10 39, w ∈ wsX10_image := fun _ h => List.mem_cons_of_mem _ (List.mem_append_right _ h)
  refine MG.of (cc := cX10_image) (maxL := 2) (ret := (some .int)) (own := RX10) (nm := "image") (by decide) rfl rfl rfl (Nat.le_of_ble_eq_true rfl) ?_
  intro p e s m args below meth c A C
  rw [f_X10_image] at h
  refine z_eq (lv2 := [(0, .ref (q 0))]) rfl rfl rfl rfl ?_
  refine z_aload_n C 0 dX10_image_0 rfl rfl ?_
  refine mg_1 C hi10 (List.mem_of_getElem? (i := 1) rfl) dX10_image_1 ?_
  refine z_if_ne (tgt := 10) C dX10_image_4 (by decide) (fun c1 => ?_) (fun c1 => ?_)
  · replace h := zf c1 h
    refine z_aload_n C 0 dX10_image_10 rfl rfl ?_
    refine z_iconst (v := 1) C dX10_image_11 (by decide) ?_
    refine mp_25 C hi10 (Or.inr rfl) (List.mem_of_getElem? (i := 2) rfl) dX10_image_12 ?_
    refine z_aload_n C 0 dX10_image_15 rfl rfl ?_
    refine z_aload_n C 0 dX10_image_16 rfl rfl ?_
    refine mg_0 C hi10 (List.mem_of_getElem? (i := 3) rfl) dX10_image_17 ?_
    refine mp_26 C hi10 (List.mem_of_getElem? (i := 4) rfl) dX10_image_20 ?_
    refine z_aload_n C 0 dX10_image_23 rfl rfl ?_
    refine z_aload_n C 0 dX10_image_24 rfl rfl ?_
    refine mg_6 C hi10 (List.mem_of_getElem? (i := 5) rfl) dX10_image_25 ?_
    refine mp_27 C hi10 (List.mem_of_getElem? (i := 6) rfl) dX10_image_28 ?_
    refine z_aload_n C 0 dX10_image_31 rfl rfl ?_
    refine z_aload_n C 0 dX10_image_32 rfl rfl ?_
    refine mg_7 C hi10 (List.mem_of_getElem? (i := 7) rfl) dX10_image_33 ?_
    refine mp_28 C hi10 (List.mem_of_getElem? (i := 8) rfl) dX10_image_36 ?_
    refine z_aload_n C 0 dX10_image_39 rfl rfl ?_
    refine z_aload_n C 0 dX10_image_40 rfl rfl ?_
    refine mg_8 C hi10 (List.mem_of_getElem? (i := 9) rfl) dX10_image_41 ?_
    refine mp_29 C hi10 (List.mem_of_getElem? (i := 10) rfl) dX10_image_44 ?_
    refine z_aload_n C 0 dX10_image_47 rfl rfl ?_
    refine z_aload_n C 0 dX10_image_48 rfl rfl ?_
    refine mg_12 C hi10 (List.mem_of_getElem? (i := 11) rfl) dX10_image_49 ?_
    refine mp_30 C hi10 (List.mem_of_getElem? (i := 12) rfl) dX10_image_52 ?_
    refine z_iconst (v := 0) C dX10_image_55 (by decide) ?_
    refine z_istore_n (lv2 := [(1, .int 0), (0, .ref (q 0))]) C dX10_image_56 rfl (by decide) rfl ?_
    refine z_lv (lv2 := [(0, .ref (q 0)), (1, .int 0)]) [1, 0] rfl ?_
    obtain ⟨r9, hf10, h⟩ := bd_some h
    refine L_X10_image_57 C  fu 0 (msI (msI (msI (msI (msI (msI S 25 1) 26 (mI (msI S 25 1) 0)) 27 (mI (msI (msI S 25 1) 26 (mI (msI S 25 1) 0)) 6)) 28 (mI (msI (msI (msI S 25 1) 26 (mI (msI S 25 1) 0)) 27 (mI (msI (msI S 25 1) 26 (mI (msI S 25 1) 0)) 6)) 7)) 29 (mI (msI (msI (msI (msI S 25 1) 26 (mI (msI S 25 1) 0)) 27 (mI (msI (msI S 25 1) 26 (mI (msI S 25 1) 0)) 6)) 28 (mI (msI (msI (msI S 25 1) 26 (mI (msI S 25 1) 0)) 27 (mI (msI (msI S 25 1) 26 (mI (msI S 25 1) 0)) 6)) 7)) 8)) 30 (mI (msI (msI (msI (msI (msI S 25 1) 26 (mI (msI S 25 1) 0)) 27 (mI (msI (msI S 25 1) 26 (mI (msI S 25 1) 0)) 6)) 28 (mI (msI (msI (msI S 25 1) 26 (mI (msI S 25 1) 0)) 27 (mI (msI (msI S 25 1) 26 (mI (msI S 25 1) 0)) 6)) 7)) 29 (mI (msI (msI (msI (msI S 25 1) 26 (mI (msI S 25 1) 0)) 27 (mI (msI (msI S 25 1) 26 (mI (msI S 25 1) 0)) 6)) 28 (mI (msI (msI (msI S 25 1) 26 (mI (msI S 25 1) 0)) 27 (mI (msI (msI S 25 1) 26 (mI (msI S 25 1) 0)) 6)) 7)) 8)) 12)) hf10 ?_
    refine z_iconst (v := 0) C dX10_image_104 (by decide) ?_
    refine z_istore_n (lv2 := [(1, .int 0), (0, .ref (q 0))]) C dX10_image_105 rfl (by decide) rfl ?_
    refine z_lv (lv2 := [(0, .ref (q 0)), (1, .int 0)]) [1, 0] rfl ?_
    obtain ⟨r20, hf21, h⟩ := bd_some h
    refine L_X10_image_106 C  fu 0 r9.2 hf21 ?_
    refine z_aload_n C 0 dX10_image_166 rfl rfl ?_
    refine mg_6 C hi10 (List.mem_of_getElem? (i := 5) rfl) dX10_image_167 ?_
    injection h with h
    subst h
    exact z_iret C rfl ⟨rfl, rfl⟩ dX10_image_170
  · replace h := zt c1 h
    refine z_bipush (v := (-103)) C dX10_image_7 (by decide) ?_
    injection h with h
    subst h
    exact z_iret C rfl ⟨rfl, rfl⟩ dX10_image_9
def f_X10_restore_L55 (fu : Nat)  : Nat → Int32 → MS → Option (Int32 × MS)
  | 0, _, _ => none
  | n + 1, v1, S => if 4 ≤ v1 then some (v1, S) else gd v1 4 (gd v1 4 (gd v1 4 (gd v1 4 (gd v1 4 (gd v1 4 (f_X10_restore_L55 fu n (v1 + 1) (msA (msA (msA S 9 v1.toNatClampNeg (mA S 31 v1.toNatClampNeg)) 10 v1.toNatClampNeg (mA (msA S 9 v1.toNatClampNeg (mA S 31 v1.toNatClampNeg)) 32 v1.toNatClampNeg)) 11 v1.toNatClampNeg (mA (msA (msA S 9 v1.toNatClampNeg (mA S 31 v1.toNatClampNeg)) 10 v1.toNatClampNeg (mA (msA S 9 v1.toNatClampNeg (mA S 31 v1.toNatClampNeg)) 32 v1.toNatClampNeg)) 33 v1.toNatClampNeg))))))))
def f_X10_restore_L104 (fu : Nat)  : Nat → Int32 → MS → Option (Int32 × MS)
  | 0, _, _ => none
  | n + 1, v1, S => if 6 ≤ v1 then some (v1, S) else gd v1 6 (gd v1 6 (gd v1 6 (gd v1 6 (gd v1 6 (gd v1 6 (gd v1 6 (gd v1 6 (f_X10_restore_L104 fu n (v1 + 1) (msA (msA (msA (msA S 13 v1.toNatClampNeg (mA S 34 v1.toNatClampNeg)) 14 v1.toNatClampNeg (mA (msA S 13 v1.toNatClampNeg (mA S 34 v1.toNatClampNeg)) 35 v1.toNatClampNeg)) 15 v1.toNatClampNeg (mA (msA (msA S 13 v1.toNatClampNeg (mA S 34 v1.toNatClampNeg)) 14 v1.toNatClampNeg (mA (msA S 13 v1.toNatClampNeg (mA S 34 v1.toNatClampNeg)) 35 v1.toNatClampNeg)) 36 v1.toNatClampNeg)) 16 v1.toNatClampNeg (mA (msA (msA (msA S 13 v1.toNatClampNeg (mA S 34 v1.toNatClampNeg)) 14 v1.toNatClampNeg (mA (msA S 13 v1.toNatClampNeg (mA S 34 v1.toNatClampNeg)) 35 v1.toNatClampNeg)) 15 v1.toNatClampNeg (mA (msA (msA S 13 v1.toNatClampNeg (mA S 34 v1.toNatClampNeg)) 14 v1.toNatClampNeg (mA (msA S 13 v1.toNatClampNeg (mA S 34 v1.toNatClampNeg)) 35 v1.toNatClampNeg)) 36 v1.toNatClampNeg)) 37 v1.toNatClampNeg))))))))))
def f_X10_restore (fu : Nat) (S : MS) : Option (Int32 × MS) := if (mI S 25) = 0 then some ((-103), S) else if (mI S 26) = (mI S 0) then (f_X10_restore_L55 fu fu 0 (msI (msI (msI (msI S 6 (mI S 27)) 7 (mI (msI S 6 (mI S 27)) 28)) 8 (mI (msI (msI S 6 (mI S 27)) 7 (mI (msI S 6 (mI S 27)) 28)) 29)) 12 (mI (msI (msI (msI S 6 (mI S 27)) 7 (mI (msI S 6 (mI S 27)) 28)) 8 (mI (msI (msI S 6 (mI S 27)) 7 (mI (msI S 6 (mI S 27)) 28)) 29)) 30))).bind fun r10 => (f_X10_restore_L104 fu fu 0 r10.2).bind fun r21 => some ((mI r21.2 6), r21.2) else some ((-103), S)
set_option maxHeartbeats 4000000 in
set_option maxRecDepth 100000 in
theorem L_X10_restore_55 {p : Program} {l : Launch} {e : Env} {s : State} {m : MethodId} {args : Array Value} {below : List Frame} {meth : Method} {c : Code} {A : Nat → Prop} {G : zGT} {q : Nat → Nat} {X : va_W} {fu : Nat} {Q : State → Prop} (C : zC p s m args meth c A G cX10_restore 2 (some .int) RX10 "restore" wsX10_restore) : ∀ (n : Nat) (v1 : Int32) (S : MS) {res : Int32 × MS}, f_X10_restore_L55 fu n v1 S = some res → Z p l e ({ frames := 0, cells := 0, slots := 0, locals := 0 }) s m args below meth c A G 2 Q 0 0 (MW G q res.2 ++ X) [(0, .ref (q 0)), (1, .int res.1)] 102 [] → Z p l e ({ frames := 0, cells := 0, slots := 0, locals := 0 }) s m args below meth c A G 2 Q 0 0 (MW G q S ++ X) [(0, .ref (q 0)), (1, .int v1)] 55 [] := by
  have hi10 : ∀ w ∈ u_ws RX10 TX10 39, w ∈ wsX10_restore := fun _ h => List.mem_cons_of_mem _ (List.mem_append_right _ h)
  intro n
  induction n with
  | zero =>
    intro v1 S res h kk
    exact nomatch (h : none = some _)
  | succ n ih =>
    intro v1 S res h kk
    rw [f_X10_restore_L55] at h
    refine z_iload_n C 1 dX10_restore_55 rfl rfl ?_
    refine z_iconst (v := 4) C dX10_restore_56 (by decide) ?_
    refine z_icmp_ge (tgt := 102) C dX10_restore_57 (by decide) (fun c3 => ?_) (fun c3 => ?_)
    · replace h := zt c3 h
      injection h with h
      subst h
      refine z_lv (lv2 := [(0, .ref (q 0)), (1, .int v1)]) [0, 1] rfl ?_
      exact kk
    · replace h := zf c3 h
      refine z_aload_n C 0 dX10_restore_60 rfl rfl ?_
      refine mg_9 C hi10 (List.mem_of_getElem? (i := 12) rfl) dX10_restore_61 ?_
      refine z_iload_n C 1 dX10_restore_64 rfl rfl ?_
      refine z_aload_n C 0 dX10_restore_65 rfl rfl ?_
      refine mg_31 C hi10 (List.mem_of_getElem? (i := 13) rfl) dX10_restore_66 ?_
      refine z_iload_n C 1 dX10_restore_69 rfl rfl ?_
      obtain ⟨hg4, h⟩ := gd_some h
      refine ml_31 C hg4 dX10_restore_70 ?_
      obtain ⟨hg5, h⟩ := gd_some h
      refine mt_9 C hg5 dX10_restore_71 ?_
      refine z_aload_n C 0 dX10_restore_72 rfl rfl ?_
      refine mg_10 C hi10 (List.mem_of_getElem? (i := 14) rfl) dX10_restore_73 ?_
      refine z_iload_n C 1 dX10_restore_76 rfl rfl ?_
      refine z_aload_n C 0 dX10_restore_77 rfl rfl ?_
      refine mg_32 C hi10 (List.mem_of_getElem? (i := 15) rfl) dX10_restore_78 ?_
      refine z_iload_n C 1 dX10_restore_81 rfl rfl ?_
      obtain ⟨hg6, h⟩ := gd_some h
      refine ml_32 C hg6 dX10_restore_82 ?_
      obtain ⟨hg7, h⟩ := gd_some h
      refine mt_10 C hg7 dX10_restore_83 ?_
      refine z_aload_n C 0 dX10_restore_84 rfl rfl ?_
      refine mg_11 C hi10 (List.mem_of_getElem? (i := 16) rfl) dX10_restore_85 ?_
      refine z_iload_n C 1 dX10_restore_88 rfl rfl ?_
      refine z_aload_n C 0 dX10_restore_89 rfl rfl ?_
      refine mg_33 C hi10 (List.mem_of_getElem? (i := 17) rfl) dX10_restore_90 ?_
      refine z_iload_n C 1 dX10_restore_93 rfl rfl ?_
      obtain ⟨hg8, h⟩ := gd_some h
      refine ml_33 C hg8 dX10_restore_94 ?_
      obtain ⟨hg9, h⟩ := gd_some h
      refine mt_11 C hg9 dX10_restore_95 ?_
      refine z_iinc (v := (v1 + 1)) (lv2 := [(1, .int (v1 + 1)), (0, .ref (q 0))]) C 1 dX10_restore_96 rfl rfl (by decide) rfl ?_
      refine z_goto (tgt := 55) C dX10_restore_99 (by decide) ?_
      refine z_lv (lv2 := [(0, .ref (q 0)), (1, .int (v1 + 1))]) [1, 0] rfl ?_
      exact ih (v1 + 1) (msA (msA (msA S 9 v1.toNatClampNeg (mA S 31 v1.toNatClampNeg)) 10 v1.toNatClampNeg (mA (msA S 9 v1.toNatClampNeg (mA S 31 v1.toNatClampNeg)) 32 v1.toNatClampNeg)) 11 v1.toNatClampNeg (mA (msA (msA S 9 v1.toNatClampNeg (mA S 31 v1.toNatClampNeg)) 10 v1.toNatClampNeg (mA (msA S 9 v1.toNatClampNeg (mA S 31 v1.toNatClampNeg)) 32 v1.toNatClampNeg)) 33 v1.toNatClampNeg)) h kk
set_option maxHeartbeats 4000000 in
set_option maxRecDepth 100000 in
theorem L_X10_restore_104 {p : Program} {l : Launch} {e : Env} {s : State} {m : MethodId} {args : Array Value} {below : List Frame} {meth : Method} {c : Code} {A : Nat → Prop} {G : zGT} {q : Nat → Nat} {X : va_W} {fu : Nat} {Q : State → Prop} (C : zC p s m args meth c A G cX10_restore 2 (some .int) RX10 "restore" wsX10_restore) : ∀ (n : Nat) (v1 : Int32) (S : MS) {res : Int32 × MS}, f_X10_restore_L104 fu n v1 S = some res → Z p l e ({ frames := 0, cells := 0, slots := 0, locals := 0 }) s m args below meth c A G 2 Q 0 0 (MW G q res.2 ++ X) [(0, .ref (q 0)), (1, .int res.1)] 164 [] → Z p l e ({ frames := 0, cells := 0, slots := 0, locals := 0 }) s m args below meth c A G 2 Q 0 0 (MW G q S ++ X) [(0, .ref (q 0)), (1, .int v1)] 104 [] := by
  have hi10 : ∀ w ∈ u_ws RX10 TX10 39, w ∈ wsX10_restore := fun _ h => List.mem_cons_of_mem _ (List.mem_append_right _ h)
  intro n
  induction n with
  | zero =>
    intro v1 S res h kk
    exact nomatch (h : none = some _)
  | succ n ih =>
    intro v1 S res h kk
    rw [f_X10_restore_L104] at h
    refine z_iload_n C 1 dX10_restore_104 rfl rfl ?_
    refine z_bipush (v := 6) C dX10_restore_105 (by decide) ?_
    refine z_icmp_ge (tgt := 164) C dX10_restore_107 (by decide) (fun c12 => ?_) (fun c12 => ?_)
    · replace h := zt c12 h
      injection h with h
      subst h
      refine z_lv (lv2 := [(0, .ref (q 0)), (1, .int v1)]) [0, 1] rfl ?_
      exact kk
    · replace h := zf c12 h
      refine z_aload_n C 0 dX10_restore_110 rfl rfl ?_
      refine mg_13 C hi10 (List.mem_of_getElem? (i := 18) rfl) dX10_restore_111 ?_
      refine z_iload_n C 1 dX10_restore_114 rfl rfl ?_
      refine z_aload_n C 0 dX10_restore_115 rfl rfl ?_
      refine mg_34 C hi10 (List.mem_of_getElem? (i := 19) rfl) dX10_restore_116 ?_
      refine z_iload_n C 1 dX10_restore_119 rfl rfl ?_
      obtain ⟨hg13, h⟩ := gd_some h
      refine ml_34 C hg13 dX10_restore_120 ?_
      obtain ⟨hg14, h⟩ := gd_some h
      refine mt_13 C hg14 dX10_restore_121 ?_
      refine z_aload_n C 0 dX10_restore_122 rfl rfl ?_
      refine mg_14 C hi10 (List.mem_of_getElem? (i := 20) rfl) dX10_restore_123 ?_
      refine z_iload_n C 1 dX10_restore_126 rfl rfl ?_
      refine z_aload_n C 0 dX10_restore_127 rfl rfl ?_
      refine mg_35 C hi10 (List.mem_of_getElem? (i := 21) rfl) dX10_restore_128 ?_
      refine z_iload_n C 1 dX10_restore_131 rfl rfl ?_
      obtain ⟨hg15, h⟩ := gd_some h
      refine ml_35 C hg15 dX10_restore_132 ?_
      obtain ⟨hg16, h⟩ := gd_some h
      refine mt_14 C hg16 dX10_restore_133 ?_
      refine z_aload_n C 0 dX10_restore_134 rfl rfl ?_
      refine mg_15 C hi10 (List.mem_of_getElem? (i := 22) rfl) dX10_restore_135 ?_
      refine z_iload_n C 1 dX10_restore_138 rfl rfl ?_
      refine z_aload_n C 0 dX10_restore_139 rfl rfl ?_
      refine mg_36 C hi10 (List.mem_of_getElem? (i := 23) rfl) dX10_restore_140 ?_
      refine z_iload_n C 1 dX10_restore_143 rfl rfl ?_
      obtain ⟨hg17, h⟩ := gd_some h
      refine ml_36 C hg17 dX10_restore_144 ?_
      obtain ⟨hg18, h⟩ := gd_some h
      refine mt_15 C hg18 dX10_restore_145 ?_
      refine z_aload_n C 0 dX10_restore_146 rfl rfl ?_
      refine mg_16 C hi10 (List.mem_of_getElem? (i := 24) rfl) dX10_restore_147 ?_
      refine z_iload_n C 1 dX10_restore_150 rfl rfl ?_
      refine z_aload_n C 0 dX10_restore_151 rfl rfl ?_
      refine mg_37 C hi10 (List.mem_of_getElem? (i := 25) rfl) dX10_restore_152 ?_
      refine z_iload_n C 1 dX10_restore_155 rfl rfl ?_
      obtain ⟨hg19, h⟩ := gd_some h
      refine ml_37 C hg19 dX10_restore_156 ?_
      obtain ⟨hg20, h⟩ := gd_some h
      refine mt_16 C hg20 dX10_restore_157 ?_
      refine z_iinc (v := (v1 + 1)) (lv2 := [(1, .int (v1 + 1)), (0, .ref (q 0))]) C 1 dX10_restore_158 rfl rfl (by decide) rfl ?_
      refine z_goto (tgt := 104) C dX10_restore_161 (by decide) ?_
      refine z_lv (lv2 := [(0, .ref (q 0)), (1, .int (v1 + 1))]) [1, 0] rfl ?_
      exact ih (v1 + 1) (msA (msA (msA (msA S 13 v1.toNatClampNeg (mA S 34 v1.toNatClampNeg)) 14 v1.toNatClampNeg (mA (msA S 13 v1.toNatClampNeg (mA S 34 v1.toNatClampNeg)) 35 v1.toNatClampNeg)) 15 v1.toNatClampNeg (mA (msA (msA S 13 v1.toNatClampNeg (mA S 34 v1.toNatClampNeg)) 14 v1.toNatClampNeg (mA (msA S 13 v1.toNatClampNeg (mA S 34 v1.toNatClampNeg)) 35 v1.toNatClampNeg)) 36 v1.toNatClampNeg)) 16 v1.toNatClampNeg (mA (msA (msA (msA S 13 v1.toNatClampNeg (mA S 34 v1.toNatClampNeg)) 14 v1.toNatClampNeg (mA (msA S 13 v1.toNatClampNeg (mA S 34 v1.toNatClampNeg)) 35 v1.toNatClampNeg)) 15 v1.toNatClampNeg (mA (msA (msA S 13 v1.toNatClampNeg (mA S 34 v1.toNatClampNeg)) 14 v1.toNatClampNeg (mA (msA S 13 v1.toNatClampNeg (mA S 34 v1.toNatClampNeg)) 35 v1.toNatClampNeg)) 36 v1.toNatClampNeg)) 37 v1.toNatClampNeg)) h kk
set_option maxHeartbeats 4000000 in
set_option maxRecDepth 100000 in
theorem c_X10_restore (l : Launch) (G : zGT) (q : Nat → Nat) (S : MS) (X : va_W) (fu : Nat) {res : Int32 × MS} (h : f_X10_restore fu S = some res) : MG l yX10_restore wsX10_restore ({ frames := 0, cells := 0, slots := 0, locals := 0 }) G [.ref (q 0)] (MW G q S ++ X) (va_Qi (fun r u => r = res.1 ∧ u = MW G q res.2 ++ X)) := by
  have hi10 : ∀ w ∈ u_ws RX10 TX10 39, w ∈ wsX10_restore := fun _ h => List.mem_cons_of_mem _ (List.mem_append_right _ h)
  refine MG.of (cc := cX10_restore) (maxL := 2) (ret := (some .int)) (own := RX10) (nm := "restore") (by decide) rfl rfl rfl (Nat.le_of_ble_eq_true rfl) ?_
  intro p e s m args below meth c A C
  rw [f_X10_restore] at h
  refine z_eq (lv2 := [(0, .ref (q 0))]) rfl rfl rfl rfl ?_
  refine z_aload_n C 0 dX10_restore_0 rfl rfl ?_
  refine mg_25 C hi10 (List.mem_of_getElem? (i := 1) rfl) dX10_restore_1 ?_
  refine z_if_eq (tgt := 18) C dX10_restore_4 (by decide) (fun c1 => ?_) (fun c1 => ?_)
  · replace h := zt c1 h
    refine z_bipush (v := (-103)) C dX10_restore_18 (by decide) ?_
    injection h with h
    subst h
    exact z_iret C rfl ⟨rfl, rfl⟩ dX10_restore_20
  · replace h := zf c1 h
    refine z_aload_n C 0 dX10_restore_7 rfl rfl ?_
    refine mg_26 C hi10 (List.mem_of_getElem? (i := 2) rfl) dX10_restore_8 ?_
    refine z_aload_n C 0 dX10_restore_11 rfl rfl ?_
    refine mg_0 C hi10 (List.mem_of_getElem? (i := 3) rfl) dX10_restore_12 ?_
    refine z_icmp_eq (tgt := 21) C dX10_restore_15 (by decide) (fun c2 => ?_) (fun c2 => ?_)
    · replace h := zt c2 h
      refine z_aload_n C 0 dX10_restore_21 rfl rfl ?_
      refine z_aload_n C 0 dX10_restore_22 rfl rfl ?_
      refine mg_27 C hi10 (List.mem_of_getElem? (i := 4) rfl) dX10_restore_23 ?_
      refine mp_6 C hi10 (List.mem_of_getElem? (i := 5) rfl) dX10_restore_26 ?_
      refine z_aload_n C 0 dX10_restore_29 rfl rfl ?_
      refine z_aload_n C 0 dX10_restore_30 rfl rfl ?_
      refine mg_28 C hi10 (List.mem_of_getElem? (i := 6) rfl) dX10_restore_31 ?_
      refine mp_7 C hi10 (List.mem_of_getElem? (i := 7) rfl) dX10_restore_34 ?_
      refine z_aload_n C 0 dX10_restore_37 rfl rfl ?_
      refine z_aload_n C 0 dX10_restore_38 rfl rfl ?_
      refine mg_29 C hi10 (List.mem_of_getElem? (i := 8) rfl) dX10_restore_39 ?_
      refine mp_8 C hi10 (List.mem_of_getElem? (i := 9) rfl) dX10_restore_42 ?_
      refine z_aload_n C 0 dX10_restore_45 rfl rfl ?_
      refine z_aload_n C 0 dX10_restore_46 rfl rfl ?_
      refine mg_30 C hi10 (List.mem_of_getElem? (i := 10) rfl) dX10_restore_47 ?_
      refine mp_12 C hi10 (List.mem_of_getElem? (i := 11) rfl) dX10_restore_50 ?_
      refine z_iconst (v := 0) C dX10_restore_53 (by decide) ?_
      refine z_istore_n (lv2 := [(1, .int 0), (0, .ref (q 0))]) C dX10_restore_54 rfl (by decide) rfl ?_
      refine z_lv (lv2 := [(0, .ref (q 0)), (1, .int 0)]) [1, 0] rfl ?_
      obtain ⟨r10, hf11, h⟩ := bd_some h
      refine L_X10_restore_55 C  fu 0 (msI (msI (msI (msI S 6 (mI S 27)) 7 (mI (msI S 6 (mI S 27)) 28)) 8 (mI (msI (msI S 6 (mI S 27)) 7 (mI (msI S 6 (mI S 27)) 28)) 29)) 12 (mI (msI (msI (msI S 6 (mI S 27)) 7 (mI (msI S 6 (mI S 27)) 28)) 8 (mI (msI (msI S 6 (mI S 27)) 7 (mI (msI S 6 (mI S 27)) 28)) 29)) 30)) hf11 ?_
      refine z_iconst (v := 0) C dX10_restore_102 (by decide) ?_
      refine z_istore_n (lv2 := [(1, .int 0), (0, .ref (q 0))]) C dX10_restore_103 rfl (by decide) rfl ?_
      refine z_lv (lv2 := [(0, .ref (q 0)), (1, .int 0)]) [1, 0] rfl ?_
      obtain ⟨r21, hf22, h⟩ := bd_some h
      refine L_X10_restore_104 C  fu 0 r10.2 hf22 ?_
      refine z_aload_n C 0 dX10_restore_164 rfl rfl ?_
      refine mg_6 C hi10 (List.mem_of_getElem? (i := 5) rfl) dX10_restore_165 ?_
      injection h with h
      subst h
      exact z_iret C rfl ⟨rfl, rfl⟩ dX10_restore_168
    · replace h := zf c2 h
      refine z_bipush (v := (-103)) C dX10_restore_18 (by decide) ?_
      injection h with h
      subst h
      exact z_iret C rfl ⟨rfl, rfl⟩ dX10_restore_20
def f_X10_boiling_L4 (fu : Nat)  : Nat → Int32 → Int32 → MS → Option (Int32 × Int32)
  | 0, _, _, _ => none
  | n + 1, v1, v2, S => if (mI S 1) ≤ v2 then some (v1, v2) else (f_X10_boils S v2).bind fun r3 => if r3 = 0 then f_X10_boiling_L4 fu n (v1 + 0) (v2 + 1) S else f_X10_boiling_L4 fu n (v1 + 1) (v2 + 1) S
def f_X10_boiling (fu : Nat) (S : MS) : Option (Int32) := (f_X10_boiling_L4 fu fu 0 0 S).bind fun r5 => some r5.1
set_option maxHeartbeats 4000000 in
set_option maxRecDepth 100000 in
theorem L_X10_boiling_4 {p : Program} {l : Launch} {e : Env} {s : State} {m : MethodId} {args : Array Value} {below : List Frame} {meth : Method} {c : Code} {A : Nat → Prop} {G : zGT} {q : Nat → Nat} {X : va_W} {fu : Nat} {Q : State → Prop} (C : zC p s m args meth c A G cX10_boiling 3 (some .int) RX10 "boiling" wsX10_boiling) : ∀ (n : Nat) (v1 : Int32) (v2 : Int32) (S : MS) {res : Int32 × Int32}, f_X10_boiling_L4 fu n v1 v2 S = some res → Z p l e ({ frames := 1, cells := 0, slots := 0, locals := 21 }) s m args below meth c A G 3 Q 0 0 (MW G q S ++ X) [(0, .ref (q 0)), (1, .int res.1), (2, .int res.2)] 34 [] → Z p l e ({ frames := 1, cells := 0, slots := 0, locals := 21 }) s m args below meth c A G 3 Q 0 0 (MW G q S ++ X) [(0, .ref (q 0)), (1, .int v1), (2, .int v2)] 4 [] := by
  have hi10 : ∀ w ∈ u_ws RX10 TX10 39, w ∈ wsX10_boiling := fun _ h => List.mem_cons_of_mem _ (List.mem_append_right _ h)
  intro n
  induction n with
  | zero =>
    intro v1 v2 S res h kk
    exact nomatch (h : none = some _)
  | succ n ih =>
    intro v1 v2 S res h kk
    rw [f_X10_boiling_L4] at h
    refine z_iload_n C 2 dX10_boiling_4 rfl rfl ?_
    refine z_aload_n C 0 dX10_boiling_5 rfl rfl ?_
    refine mg_1 C hi10 (List.mem_of_getElem? (i := 1) rfl) dX10_boiling_6 ?_
    refine z_icmp_ge (tgt := 34) C dX10_boiling_9 (by decide) (fun c1 => ?_) (fun c1 => ?_)
    · replace h := zt c1 h
      injection h with h
      subst h
      refine z_lv (lv2 := [(0, .ref (q 0)), (1, .int v1), (2, .int v2)]) [0, 1, 2] rfl ?_
      exact kk
    · replace h := zf c1 h
      refine z_iload_n C 1 dX10_boiling_12 rfl rfl ?_
      refine z_aload_n C 0 dX10_boiling_13 rfl rfl ?_
      refine z_iload_n C 2 dX10_boiling_14 rfl rfl ?_
      obtain ⟨r3, hf2, h⟩ := bd_some h
      refine z_goti1 C (z_runV C (c_X10_boils l G q S X v2 hf2) (cwV 1 C.hts gX10_boiling_X10_boils rfl rfl rfl (by decide +kernel) ⟨Nat.le_of_ble_eq_true rfl, Nat.le_of_ble_eq_true rfl⟩) 0 rfl rfl rfl rfl (Nat.le_of_ble_eq_true rfl) dX10_boiling_15 ⟨Nat.le_of_ble_eq_true rfl, Nat.le_of_ble_eq_true rfl⟩) rfl rfl ?_
      refine z_if_eq (tgt := 25) C dX10_boiling_18 (by decide) (fun c4 => ?_) (fun c4 => ?_)
      · replace h := zt c4 h
        refine z_iconst (v := 0) C dX10_boiling_25 (by decide) ?_
        refine z_iadd C dX10_boiling_26 ?_
        refine z_istore_n (lv2 := [(1, .int (v1 + 0)), (0, .ref (q 0)), (2, .int v2)]) C dX10_boiling_27 rfl (by decide) rfl ?_
        refine z_iinc (v := (v2 + 1)) (lv2 := [(2, .int (v2 + 1)), (1, .int (v1 + 0)), (0, .ref (q 0))]) C 2 dX10_boiling_28 rfl rfl (by decide) rfl ?_
        refine z_goto (tgt := 4) C dX10_boiling_31 (by decide) ?_
        refine z_lv (lv2 := [(0, .ref (q 0)), (1, .int (v1 + 0)), (2, .int (v2 + 1))]) [2, 1, 0] rfl ?_
        exact ih (v1 + 0) (v2 + 1) S h kk
      · replace h := zf c4 h
        refine z_iconst (v := 1) C dX10_boiling_21 (by decide) ?_
        refine z_goto (tgt := 26) C dX10_boiling_22 (by decide) ?_
        refine z_iadd C dX10_boiling_26 ?_
        refine z_istore_n (lv2 := [(1, .int (v1 + 1)), (0, .ref (q 0)), (2, .int v2)]) C dX10_boiling_27 rfl (by decide) rfl ?_
        refine z_iinc (v := (v2 + 1)) (lv2 := [(2, .int (v2 + 1)), (1, .int (v1 + 1)), (0, .ref (q 0))]) C 2 dX10_boiling_28 rfl rfl (by decide) rfl ?_
        refine z_goto (tgt := 4) C dX10_boiling_31 (by decide) ?_
        refine z_lv (lv2 := [(0, .ref (q 0)), (1, .int (v1 + 1)), (2, .int (v2 + 1))]) [2, 1, 0] rfl ?_
        exact ih (v1 + 1) (v2 + 1) S h kk
set_option maxHeartbeats 4000000 in
set_option maxRecDepth 100000 in
theorem c_X10_boiling (l : Launch) (G : zGT) (q : Nat → Nat) (S : MS) (X : va_W) (fu : Nat) {res : Int32} (h : f_X10_boiling fu S = some res) : MG l yX10_boiling wsX10_boiling ({ frames := 1, cells := 0, slots := 0, locals := 21 }) G [.ref (q 0)] (MW G q S ++ X) (va_Qi (fun r u => r = res ∧ u = MW G q S ++ X)) := by
  have hi10 : ∀ w ∈ u_ws RX10 TX10 39, w ∈ wsX10_boiling := fun _ h => List.mem_cons_of_mem _ (List.mem_append_right _ h)
  refine MG.of (cc := cX10_boiling) (maxL := 3) (ret := (some .int)) (own := RX10) (nm := "boiling") (by decide) rfl rfl rfl (Nat.le_of_ble_eq_true rfl) ?_
  intro p e s m args below meth c A C
  rw [f_X10_boiling] at h
  refine z_eq (lv2 := [(0, .ref (q 0))]) rfl rfl rfl rfl ?_
  refine z_iconst (v := 0) C dX10_boiling_0 (by decide) ?_
  refine z_istore_n (lv2 := [(1, .int 0), (0, .ref (q 0))]) C dX10_boiling_1 rfl (by decide) rfl ?_
  refine z_iconst (v := 0) C dX10_boiling_2 (by decide) ?_
  refine z_istore_n (lv2 := [(2, .int 0), (1, .int 0), (0, .ref (q 0))]) C dX10_boiling_3 rfl (by decide) rfl ?_
  refine z_lv (lv2 := [(0, .ref (q 0)), (1, .int 0), (2, .int 0)]) [2, 1, 0] rfl ?_
  obtain ⟨r5, hf6, h⟩ := bd_some h
  refine L_X10_boiling_4 C  fu 0 0 S hf6 ?_
  refine z_iload_n C 1 dX10_boiling_34 rfl rfl ?_
  injection h with h
  subst h
  exact z_iret C rfl ⟨rfl, rfl⟩ dX10_boiling_35
def f_X10_howMany (fu : Nat) (S : MS) (a1 : Int32) : Option (Int32) := if a1 = 0 then some (mI S 1) else if a1 = 1 then some (mI S 2) else if a1 = 2 then some (mI S 3) else if a1 = 3 then some (mI S 6) else if a1 = 4 then (f_X10_boiling fu S).bind fun r7 => some r7 else if a1 = 5 then some (mI S 7) else if a1 = 6 then some (mI S 8) else if a1 = 7 then some (mI S 12) else if a1 = 8 then some (mI S 18) else if a1 = 9 then some (mI S 0) else if a1 = 10 then some (mI S 17) else some (-102)
set_option maxHeartbeats 4000000 in
set_option maxRecDepth 100000 in
theorem c_X10_howMany (l : Launch) (G : zGT) (q : Nat → Nat) (S : MS) (X : va_W) (fu : Nat) (a1 : Int32) {res : Int32} (h : f_X10_howMany fu S a1 = some res) : MG l yX10_howMany wsX10_howMany ({ frames := 2, cells := 0, slots := 0, locals := 43 }) G [.ref (q 0), .int a1] (MW G q S ++ X) (va_Qi (fun r u => r = res ∧ u = MW G q S ++ X)) := by
  have hi10 : ∀ w ∈ u_ws RX10 TX10 39, w ∈ wsX10_howMany := fun _ h => List.mem_cons_of_mem _ (List.mem_append_right _ h)
  refine MG.of (cc := cX10_howMany) (maxL := 2) (ret := (some .int)) (own := RX10) (nm := "howMany") (by decide) rfl rfl rfl (Nat.le_of_ble_eq_true rfl) ?_
  intro p e s m args below meth c A C
  rw [f_X10_howMany] at h
  refine z_eq (lv2 := [(0, .ref (q 0)), (1, .int a1)]) rfl rfl rfl rfl ?_
  refine z_iload_n C 1 dX10_howMany_0 rfl rfl ?_
  by_cases c1 : a1 = 0
  · replace h := zt c1 h
    refine z_tableIn (off := 59) (tgt := 60) C dX10_howMany_1 (by rw [c1]; decide) (by rw [c1]; decide) (by rw [c1]; rfl) (by decide) ?_
    refine z_aload_n C 0 dX10_howMany_60 rfl rfl ?_
    refine mg_1 C hi10 (List.mem_of_getElem? (i := 1) rfl) dX10_howMany_61 ?_
    injection h with h
    subst h
    exact z_iret C rfl ⟨rfl, rfl⟩ dX10_howMany_64
  replace h := zf c1 h
  by_cases c2 : a1 = 1
  · replace h := zt c2 h
    refine z_tableIn (off := 64) (tgt := 65) C dX10_howMany_1 (by rw [c2]; decide) (by rw [c2]; decide) (by rw [c2]; rfl) (by decide) ?_
    refine z_aload_n C 0 dX10_howMany_65 rfl rfl ?_
    refine mg_2 C hi10 (List.mem_of_getElem? (i := 2) rfl) dX10_howMany_66 ?_
    injection h with h
    subst h
    exact z_iret C rfl ⟨rfl, rfl⟩ dX10_howMany_69
  replace h := zf c2 h
  by_cases c3 : a1 = 2
  · replace h := zt c3 h
    refine z_tableIn (off := 69) (tgt := 70) C dX10_howMany_1 (by rw [c3]; decide) (by rw [c3]; decide) (by rw [c3]; rfl) (by decide) ?_
    refine z_aload_n C 0 dX10_howMany_70 rfl rfl ?_
    refine mg_3 C hi10 (List.mem_of_getElem? (i := 3) rfl) dX10_howMany_71 ?_
    injection h with h
    subst h
    exact z_iret C rfl ⟨rfl, rfl⟩ dX10_howMany_74
  replace h := zf c3 h
  by_cases c4 : a1 = 3
  · replace h := zt c4 h
    refine z_tableIn (off := 74) (tgt := 75) C dX10_howMany_1 (by rw [c4]; decide) (by rw [c4]; decide) (by rw [c4]; rfl) (by decide) ?_
    refine z_aload_n C 0 dX10_howMany_75 rfl rfl ?_
    refine mg_6 C hi10 (List.mem_of_getElem? (i := 4) rfl) dX10_howMany_76 ?_
    injection h with h
    subst h
    exact z_iret C rfl ⟨rfl, rfl⟩ dX10_howMany_79
  replace h := zf c4 h
  by_cases c5 : a1 = 4
  · replace h := zt c5 h
    refine z_tableIn (off := 79) (tgt := 80) C dX10_howMany_1 (by rw [c5]; decide) (by rw [c5]; decide) (by rw [c5]; rfl) (by decide) ?_
    refine z_aload_n C 0 dX10_howMany_80 rfl rfl ?_
    obtain ⟨r7, hf6, h⟩ := bd_some h
    refine z_goti1 C (z_runV C (c_X10_boiling l G q S X fu hf6) (cwV 0 C.hts gX10_howMany_X10_boiling rfl rfl rfl (by decide +kernel) ⟨Nat.le_of_ble_eq_true rfl, Nat.le_of_ble_eq_true rfl⟩) 0 rfl rfl rfl rfl (Nat.le_of_ble_eq_true rfl) dX10_howMany_81 ⟨Nat.le_of_ble_eq_true rfl, Nat.le_of_ble_eq_true rfl⟩) rfl rfl ?_
    injection h with h
    subst h
    exact z_iret C rfl ⟨rfl, rfl⟩ dX10_howMany_84
  replace h := zf c5 h
  by_cases c8 : a1 = 5
  · replace h := zt c8 h
    refine z_tableIn (off := 84) (tgt := 85) C dX10_howMany_1 (by rw [c8]; decide) (by rw [c8]; decide) (by rw [c8]; rfl) (by decide) ?_
    refine z_aload_n C 0 dX10_howMany_85 rfl rfl ?_
    refine mg_7 C hi10 (List.mem_of_getElem? (i := 5) rfl) dX10_howMany_86 ?_
    injection h with h
    subst h
    exact z_iret C rfl ⟨rfl, rfl⟩ dX10_howMany_89
  replace h := zf c8 h
  by_cases c9 : a1 = 6
  · replace h := zt c9 h
    refine z_tableIn (off := 89) (tgt := 90) C dX10_howMany_1 (by rw [c9]; decide) (by rw [c9]; decide) (by rw [c9]; rfl) (by decide) ?_
    refine z_aload_n C 0 dX10_howMany_90 rfl rfl ?_
    refine mg_8 C hi10 (List.mem_of_getElem? (i := 6) rfl) dX10_howMany_91 ?_
    injection h with h
    subst h
    exact z_iret C rfl ⟨rfl, rfl⟩ dX10_howMany_94
  replace h := zf c9 h
  by_cases c10 : a1 = 7
  · replace h := zt c10 h
    refine z_tableIn (off := 94) (tgt := 95) C dX10_howMany_1 (by rw [c10]; decide) (by rw [c10]; decide) (by rw [c10]; rfl) (by decide) ?_
    refine z_aload_n C 0 dX10_howMany_95 rfl rfl ?_
    refine mg_12 C hi10 (List.mem_of_getElem? (i := 7) rfl) dX10_howMany_96 ?_
    injection h with h
    subst h
    exact z_iret C rfl ⟨rfl, rfl⟩ dX10_howMany_99
  replace h := zf c10 h
  by_cases c11 : a1 = 8
  · replace h := zt c11 h
    refine z_tableIn (off := 99) (tgt := 100) C dX10_howMany_1 (by rw [c11]; decide) (by rw [c11]; decide) (by rw [c11]; rfl) (by decide) ?_
    refine z_aload_n C 0 dX10_howMany_100 rfl rfl ?_
    refine mg_18 C hi10 (List.mem_of_getElem? (i := 8) rfl) dX10_howMany_101 ?_
    injection h with h
    subst h
    exact z_iret C rfl ⟨rfl, rfl⟩ dX10_howMany_104
  replace h := zf c11 h
  by_cases c12 : a1 = 9
  · replace h := zt c12 h
    refine z_tableIn (off := 104) (tgt := 105) C dX10_howMany_1 (by rw [c12]; decide) (by rw [c12]; decide) (by rw [c12]; rfl) (by decide) ?_
    refine z_aload_n C 0 dX10_howMany_105 rfl rfl ?_
    refine mg_0 C hi10 (List.mem_of_getElem? (i := 9) rfl) dX10_howMany_106 ?_
    injection h with h
    subst h
    exact z_iret C rfl ⟨rfl, rfl⟩ dX10_howMany_109
  replace h := zf c12 h
  by_cases c13 : a1 = 10
  · replace h := zt c13 h
    refine z_tableIn (off := 109) (tgt := 110) C dX10_howMany_1 (by rw [c13]; decide) (by rw [c13]; decide) (by rw [c13]; rfl) (by decide) ?_
    refine z_aload_n C 0 dX10_howMany_110 rfl rfl ?_
    refine mg_17 C hi10 (List.mem_of_getElem? (i := 10) rfl) dX10_howMany_111 ?_
    injection h with h
    subst h
    exact z_iret C rfl ⟨rfl, rfl⟩ dX10_howMany_114
  replace h := zf c13 h
  refine z_tableOut (tgt := 115) C dX10_howMany_1 (by have e0 := ne_toInt (n := 0) c1 rfl; have e1 := ne_toInt (n := 1) c2 rfl; have e2 := ne_toInt (n := 2) c3 rfl; have e3 := ne_toInt (n := 3) c4 rfl; have e4 := ne_toInt (n := 4) c5 rfl; have e5 := ne_toInt (n := 5) c8 rfl; have e6 := ne_toInt (n := 6) c9 rfl; have e7 := ne_toInt (n := 7) c10 rfl; have e8 := ne_toInt (n := 8) c11 rfl; have e9 := ne_toInt (n := 9) c12 rfl; have e10 := ne_toInt (n := 10) c13 rfl; omega) (by decide) ?_
  refine z_bipush (v := (-102)) C dX10_howMany_115 (by decide) ?_
  injection h with h
  subst h
  exact z_iret C rfl ⟨rfl, rfl⟩ dX10_howMany_117
def f_X10_count (fu : Nat) (S : MS) (a1 : Int32) : Option (Int32) := (f_X10_howMany fu S a1).bind fun r2 => some r2
set_option maxHeartbeats 4000000 in
set_option maxRecDepth 100000 in
theorem c_X10_count (l : Launch) (G : zGT) (q : Nat → Nat) (S : MS) (X : va_W) (fu : Nat) (a1 : Int32) {res : Int32} (h : f_X10_count fu S a1 = some res) : MG l yX10_count wsX10_count ({ frames := 3, cells := 0, slots := 0, locals := 64 }) G [.ref (q 0), .int a1] (MW G q S ++ X) (va_Qi (fun r u => r = res ∧ u = MW G q S ++ X)) := by
  refine MG.of (cc := cX10_count) (maxL := 2) (ret := (some .int)) (own := RX10) (nm := "count") (by decide) rfl rfl rfl (Nat.le_of_ble_eq_true rfl) ?_
  intro p e s m args below meth c A C
  rw [f_X10_count] at h
  refine z_eq (lv2 := [(0, .ref (q 0)), (1, .int a1)]) rfl rfl rfl rfl ?_
  refine z_aload_n C 0 dX10_count_0 rfl rfl ?_
  refine z_iload_n C 1 dX10_count_1 rfl rfl ?_
  obtain ⟨r2, hf1, h⟩ := bd_some h
  refine z_goti1 C (z_runV C (c_X10_howMany l G q S X fu a1 hf1) (cwV 1 C.hts gX10_count_X10_howMany rfl rfl rfl (by decide +kernel) ⟨Nat.le_of_ble_eq_true rfl, Nat.le_of_ble_eq_true rfl⟩) 0 rfl rfl rfl rfl (Nat.le_of_ble_eq_true rfl) dX10_count_2 ⟨Nat.le_of_ble_eq_true rfl, Nat.le_of_ble_eq_true rfl⟩) rfl rfl ?_
  injection h with h
  subst h
  exact z_iret C rfl ⟨rfl, rfl⟩ dX10_count_5
def f_X10_mix (S : MS) (a1 : Int64) : MS := msL S 38 ((31 * (mL S 38)) + a1)
set_option maxHeartbeats 4000000 in
set_option maxRecDepth 100000 in
theorem c_X10_mix (l : Launch) (G : zGT) (q : Nat → Nat) (S : MS) (X : va_W) (a1 : Int64) : MG l yX10_mix wsX10_mix ({ frames := 0, cells := 0, slots := 0, locals := 0 }) G [.ref (q 0), .long a1] (MW G q S ++ X) (va_Qv (fun u => u = MW G q (f_X10_mix S a1) ++ X)) := by
  have hi10 : ∀ w ∈ u_ws RX10 TX10 39, w ∈ wsX10_mix := fun _ h => List.mem_cons_of_mem _ (List.mem_append_right _ h)
  refine MG.of (cc := cX10_mix) (maxL := 3) (ret := none) (own := RX10) (nm := "mix") (by decide) rfl rfl rfl (Nat.le_of_ble_eq_true rfl) ?_
  intro p e s m args below meth c A C
  obtain ⟨res, h⟩ : ∃ z, f_X10_mix S a1 = z := ⟨_, rfl⟩
  rw [h]
  rw [f_X10_mix] at h
  refine z_eq (lv2 := [(0, .ref (q 0)), (1, .long a1)]) rfl rfl rfl rfl ?_
  refine z_aload_n C 0 dX10_mix_0 rfl rfl ?_
  refine z_ldc2 (v := 31) C (List.mem_of_getElem? (i := 1) rfl) dX10_mix_1 ?_
  refine z_aload_n C 0 dX10_mix_4 rfl rfl ?_
  refine mg_38 C hi10 (List.mem_of_getElem? (i := 2) rfl) dX10_mix_5 ?_
  refine z_lmul C dX10_mix_8 ?_
  refine z_lload_n C 1 dX10_mix_9 rfl rfl ?_
  refine z_ladd C dX10_mix_10 ?_
  refine mp_38 C hi10 (List.mem_of_getElem? (i := 2) rfl) dX10_mix_11 ?_
  subst h
  exact z_ret C rfl rfl dX10_mix_14
def f_X10_digest_L19 (fu : Nat) (v1 : Int32) : Nat → Int32 → MS → Option (Int32 × MS)
  | 0, _, _ => none
  | n + 1, v2, S => if 8 ≤ v2 then some (v2, S) else (f_X10_potNow S v1 v2).bind fun r4 => f_X10_digest_L19 fu v1 n (v2 + 1) (f_X10_mix S r4.toInt64)
def f_X10_digest_L9 (fu : Nat)  : Nat → Int32 → MS → Option (Int32 × MS)
  | 0, _, _ => none
  | n + 1, v1, S => if (mI S 1) ≤ v1 then some (v1, S) else (f_X10_digest_L19 fu v1 fu 0 S).bind fun r2 => (f_X10_boils r2.2 v1).bind fun r5 => if r5 = 0 then (f_X10_togetherNow (f_X10_mix r2.2 0) v1 60).bind fun r8 => f_X10_digest_L9 fu n (v1 + 1) (f_X10_mix (f_X10_mix r2.2 0) r8.toInt64) else (f_X10_bestNow fu r2.2 v1).bind fun r10 => (f_X10_togetherNow (f_X10_mix r2.2 r10.toInt64) v1 60).bind fun r12 => f_X10_digest_L9 fu n (v1 + 1) (f_X10_mix (f_X10_mix r2.2 r10.toInt64) r12.toInt64)
def f_X10_digest_L111 (fu : Nat)  : Nat → Int32 → MS → Option (Int32 × MS)
  | 0, _, _ => none
  | n + 1, v1, S => if (mI S 18) ≤ v1 then some (v1, S) else gd v1 21 (f_X10_digest_L111 fu n (v1 + 1) (f_X10_mix S ((mA S 19 v1.toNatClampNeg).toInt64)))
def f_X10_digest_L138 (fu : Nat)  : Nat → Int32 → MS → Option (Int32 × MS)
  | 0, _, _ => none
  | n + 1, v1, S => if 11 ≤ v1 then some (v1, S) else (f_X10_howMany fu S v1).bind fun r22 => f_X10_digest_L138 fu n (v1 + 1) (f_X10_mix S r22.toInt64)
def f_X10_digest (fu : Nat) (S : MS) : Option (Int64 × MS) := (f_X10_digest_L9 fu fu 0 (msL S 38 929)).bind fun r13 => if (mI r13.2 1) ≤ 0 then (f_X10_digest_L111 fu fu 0 r13.2).bind fun r18 => (f_X10_digest_L138 fu fu 0 r18.2).bind fun r23 => some ((mL r23.2 38), r23.2) else (f_X10_woundNow fu r13.2 0).bind fun r26 => (f_X10_woundNow fu (f_X10_mix r13.2 r26.toInt64) 1).bind fun r28 => (f_X10_digest_L111 fu fu 0 (f_X10_mix (f_X10_mix r13.2 r26.toInt64) r28.toInt64)).bind fun r29 => (f_X10_digest_L138 fu fu 0 r29.2).bind fun r31 => some ((mL r31.2 38), r31.2)
set_option maxHeartbeats 4000000 in
set_option maxRecDepth 100000 in
theorem L_X10_digest_19 {p : Program} {l : Launch} {e : Env} {s : State} {m : MethodId} {args : Array Value} {below : List Frame} {meth : Method} {c : Code} {A : Nat → Prop} {G : zGT} {q : Nat → Nat} {X : va_W} {fu : Nat} {Q : State → Prop} (C : zC p s m args meth c A G cX10_digest 3 (some .long) RX10 "digest" wsX10_digest) (v1 : Int32) : ∀ (n : Nat) (v2 : Int32) (S : MS) {res : Int32 × MS}, f_X10_digest_L19 fu v1 n v2 S = some res → Z p l e ({ frames := 4, cells := 0, slots := 0, locals := 92 }) s m args below meth c A G 3 Q 0 0 (MW G q res.2 ++ X) [(0, .ref (q 0)), (1, .int v1), (2, .int res.1)] 42 [] → Z p l e ({ frames := 4, cells := 0, slots := 0, locals := 92 }) s m args below meth c A G 3 Q 0 0 (MW G q S ++ X) [(0, .ref (q 0)), (1, .int v1), (2, .int v2)] 19 [] := by
  have hi10 : ∀ w ∈ u_ws RX10 TX10 39, w ∈ wsX10_digest := fun _ h => List.mem_cons_of_mem _ (List.mem_append_right _ h)
  intro n
  induction n with
  | zero =>
    intro v2 S res h kk
    exact nomatch (h : none = some _)
  | succ n ih =>
    intro v2 S res h kk
    rw [f_X10_digest_L19] at h
    refine z_iload_n C 2 dX10_digest_19 rfl rfl ?_
    refine z_bipush (v := 8) C dX10_digest_20 (by decide) ?_
    refine z_icmp_ge (tgt := 42) C dX10_digest_22 (by decide) (fun c2 => ?_) (fun c2 => ?_)
    · replace h := zt c2 h
      injection h with h
      subst h
      refine z_lv (lv2 := [(0, .ref (q 0)), (1, .int v1), (2, .int v2)]) [0, 1, 2] rfl ?_
      exact kk
    · replace h := zf c2 h
      refine z_aload_n C 0 dX10_digest_25 rfl rfl ?_
      refine z_aload_n C 0 dX10_digest_26 rfl rfl ?_
      refine z_iload_n C 1 dX10_digest_27 rfl rfl ?_
      refine z_iload_n C 2 dX10_digest_28 rfl rfl ?_
      obtain ⟨r4, hf3, h⟩ := bd_some h
      refine z_goti1 C (z_runV C (c_X10_potNow l G q S X v1 v2 hf3) (cwV 2 C.hts gX10_digest_X10_potNow rfl rfl rfl (by decide +kernel) ⟨Nat.le_of_ble_eq_true rfl, Nat.le_of_ble_eq_true rfl⟩) 0 rfl rfl rfl rfl (Nat.le_of_ble_eq_true rfl) dX10_digest_29 ⟨Nat.le_of_ble_eq_true rfl, Nat.le_of_ble_eq_true rfl⟩) rfl rfl ?_
      refine z_i2l C dX10_digest_32 ?_
      refine z_gotv1 C (z_runV C (c_X10_mix l G q S X r4.toInt64) (cwV 1 C.hts gX10_digest_X10_mix rfl rfl rfl (by decide +kernel) ⟨Nat.le_of_ble_eq_true rfl, Nat.le_of_ble_eq_true rfl⟩) 0 rfl rfl rfl rfl (Nat.le_of_ble_eq_true rfl) dX10_digest_33 ⟨Nat.le_of_ble_eq_true rfl, Nat.le_of_ble_eq_true rfl⟩) rfl rfl ?_
      refine z_iinc (v := (v2 + 1)) (lv2 := [(2, .int (v2 + 1)), (0, .ref (q 0)), (1, .int v1)]) C 2 dX10_digest_36 rfl rfl (by decide) rfl ?_
      refine z_goto (tgt := 19) C dX10_digest_39 (by decide) ?_
      refine z_lv (lv2 := [(0, .ref (q 0)), (1, .int v1), (2, .int (v2 + 1))]) [1, 2, 0] rfl ?_
      exact ih (v2 + 1) (f_X10_mix S r4.toInt64) h kk
set_option maxHeartbeats 4000000 in
set_option maxRecDepth 100000 in
theorem L_X10_digest_9 {p : Program} {l : Launch} {e : Env} {s : State} {m : MethodId} {args : Array Value} {below : List Frame} {meth : Method} {c : Code} {A : Nat → Prop} {G : zGT} {q : Nat → Nat} {X : va_W} {fu : Nat} {Q : State → Prop} (C : zC p s m args meth c A G cX10_digest 3 (some .long) RX10 "digest" wsX10_digest) : ∀ (n : Nat) (v1 : Int32) (S : MS) {res : Int32 × MS}, f_X10_digest_L9 fu n v1 S = some res → Z p l e ({ frames := 4, cells := 0, slots := 0, locals := 92 }) s m args below meth c A G 3 Q 0 0 (MW G q res.2 ++ X) [(0, .ref (q 0)), (1, .int res.1)] 82 [] → Z p l e ({ frames := 4, cells := 0, slots := 0, locals := 92 }) s m args below meth c A G 3 Q 0 0 (MW G q S ++ X) [(0, .ref (q 0)), (1, .int v1)] 9 [] := by
  have hi10 : ∀ w ∈ u_ws RX10 TX10 39, w ∈ wsX10_digest := fun _ h => List.mem_cons_of_mem _ (List.mem_append_right _ h)
  intro n
  induction n with
  | zero =>
    intro v1 S res h kk
    exact nomatch (h : none = some _)
  | succ n ih =>
    intro v1 S res h kk
    rw [f_X10_digest_L9] at h
    refine z_iload_n C 1 dX10_digest_9 rfl rfl ?_
    refine z_aload_n C 0 dX10_digest_10 rfl rfl ?_
    refine mg_1 C hi10 (List.mem_of_getElem? (i := 3) rfl) dX10_digest_11 ?_
    refine z_icmp_ge (tgt := 82) C dX10_digest_14 (by decide) (fun c1 => ?_) (fun c1 => ?_)
    · replace h := zt c1 h
      injection h with h
      subst h
      refine z_lv (lv2 := [(0, .ref (q 0)), (1, .int v1)]) [0, 1] rfl ?_
      exact kk
    · replace h := zf c1 h
      refine z_iconst (v := 0) C dX10_digest_17 (by decide) ?_
      refine z_istore_n (lv2 := [(2, .int 0), (0, .ref (q 0)), (1, .int v1)]) C dX10_digest_18 rfl (by decide) rfl ?_
      refine z_lv (lv2 := [(0, .ref (q 0)), (1, .int v1), (2, .int 0)]) [1, 2, 0] rfl ?_
      obtain ⟨r2, hf3, h⟩ := bd_some h
      refine L_X10_digest_19 C v1 fu 0 S hf3 ?_
      refine z_aload_n C 0 dX10_digest_42 rfl rfl ?_
      refine z_aload_n C 0 dX10_digest_43 rfl rfl ?_
      refine z_iload_n C 1 dX10_digest_44 rfl rfl ?_
      obtain ⟨r5, hf4, h⟩ := bd_some h
      refine z_goti1 C (z_runV C (c_X10_boils l G q r2.2 X v1 hf4) (cwV 1 C.hts gX10_digest_X10_boils rfl rfl rfl (by decide +kernel) ⟨Nat.le_of_ble_eq_true rfl, Nat.le_of_ble_eq_true rfl⟩) 0 rfl rfl rfl rfl (Nat.le_of_ble_eq_true rfl) dX10_digest_45 ⟨Nat.le_of_ble_eq_true rfl, Nat.le_of_ble_eq_true rfl⟩) rfl rfl ?_
      refine z_if_eq (tgt := 60) C dX10_digest_48 (by decide) (fun c6 => ?_) (fun c6 => ?_)
      · replace h := zt c6 h
        refine z_lconst (v := 0) C dX10_digest_60 (by decide) ?_
        refine z_gotv1 C (z_runV C (c_X10_mix l G q r2.2 X 0) (cwV 1 C.hts gX10_digest_X10_mix rfl rfl rfl (by decide +kernel) ⟨Nat.le_of_ble_eq_true rfl, Nat.le_of_ble_eq_true rfl⟩) 0 rfl rfl rfl rfl (Nat.le_of_ble_eq_true rfl) dX10_digest_61 ⟨Nat.le_of_ble_eq_true rfl, Nat.le_of_ble_eq_true rfl⟩) rfl rfl ?_
        refine z_aload_n C 0 dX10_digest_64 rfl rfl ?_
        refine z_aload_n C 0 dX10_digest_65 rfl rfl ?_
        refine z_iload_n C 1 dX10_digest_66 rfl rfl ?_
        refine z_bipush (v := 60) C dX10_digest_67 (by decide) ?_
        obtain ⟨r8, hf7, h⟩ := bd_some h
        refine z_goti1 C (z_runV C (c_X10_togetherNow l G q (f_X10_mix r2.2 0) X v1 60 hf7) (cwV 2 C.hts gX10_digest_X10_togetherNow rfl rfl rfl (by decide +kernel) ⟨Nat.le_of_ble_eq_true rfl, Nat.le_of_ble_eq_true rfl⟩) 0 rfl rfl rfl rfl (Nat.le_of_ble_eq_true rfl) dX10_digest_69 ⟨Nat.le_of_ble_eq_true rfl, Nat.le_of_ble_eq_true rfl⟩) rfl rfl ?_
        refine z_i2l C dX10_digest_72 ?_
        refine z_gotv1 C (z_runV C (c_X10_mix l G q (f_X10_mix r2.2 0) X r8.toInt64) (cwV 1 C.hts gX10_digest_X10_mix rfl rfl rfl (by decide +kernel) ⟨Nat.le_of_ble_eq_true rfl, Nat.le_of_ble_eq_true rfl⟩) 0 rfl rfl rfl rfl (Nat.le_of_ble_eq_true rfl) dX10_digest_73 ⟨Nat.le_of_ble_eq_true rfl, Nat.le_of_ble_eq_true rfl⟩) rfl rfl ?_
        refine z_iinc (v := (v1 + 1)) (lv2 := [(1, .int (v1 + 1)), (0, .ref (q 0)), (2, .int r2.1)]) C 1 dX10_digest_76 rfl rfl (by decide) rfl ?_
        refine z_goto (tgt := 9) C dX10_digest_79 (by decide) ?_
        refine z_lv (lv2 := [(0, .ref (q 0)), (1, .int (v1 + 1))]) [1, 0] rfl ?_
        exact ih (v1 + 1) (f_X10_mix (f_X10_mix r2.2 0) r8.toInt64) h kk
      · replace h := zf c6 h
        refine z_aload_n C 0 dX10_digest_51 rfl rfl ?_
        refine z_iload_n C 1 dX10_digest_52 rfl rfl ?_
        obtain ⟨r10, hf9, h⟩ := bd_some h
        refine z_goti1 C (z_runV C (c_X10_bestNow l G q r2.2 X fu v1 hf9) (cwV 1 C.hts gX10_digest_X10_bestNow rfl rfl rfl (by decide +kernel) ⟨Nat.le_of_ble_eq_true rfl, Nat.le_of_ble_eq_true rfl⟩) 0 rfl rfl rfl rfl (Nat.le_of_ble_eq_true rfl) dX10_digest_53 ⟨Nat.le_of_ble_eq_true rfl, Nat.le_of_ble_eq_true rfl⟩) rfl rfl ?_
        refine z_i2l C dX10_digest_56 ?_
        refine z_goto (tgt := 61) C dX10_digest_57 (by decide) ?_
        refine z_gotv1 C (z_runV C (c_X10_mix l G q r2.2 X r10.toInt64) (cwV 1 C.hts gX10_digest_X10_mix rfl rfl rfl (by decide +kernel) ⟨Nat.le_of_ble_eq_true rfl, Nat.le_of_ble_eq_true rfl⟩) 0 rfl rfl rfl rfl (Nat.le_of_ble_eq_true rfl) dX10_digest_61 ⟨Nat.le_of_ble_eq_true rfl, Nat.le_of_ble_eq_true rfl⟩) rfl rfl ?_
        refine z_aload_n C 0 dX10_digest_64 rfl rfl ?_
        refine z_aload_n C 0 dX10_digest_65 rfl rfl ?_
        refine z_iload_n C 1 dX10_digest_66 rfl rfl ?_
        refine z_bipush (v := 60) C dX10_digest_67 (by decide) ?_
        obtain ⟨r12, hf11, h⟩ := bd_some h
        refine z_goti1 C (z_runV C (c_X10_togetherNow l G q (f_X10_mix r2.2 r10.toInt64) X v1 60 hf11) (cwV 2 C.hts gX10_digest_X10_togetherNow rfl rfl rfl (by decide +kernel) ⟨Nat.le_of_ble_eq_true rfl, Nat.le_of_ble_eq_true rfl⟩) 0 rfl rfl rfl rfl (Nat.le_of_ble_eq_true rfl) dX10_digest_69 ⟨Nat.le_of_ble_eq_true rfl, Nat.le_of_ble_eq_true rfl⟩) rfl rfl ?_
        refine z_i2l C dX10_digest_72 ?_
        refine z_gotv1 C (z_runV C (c_X10_mix l G q (f_X10_mix r2.2 r10.toInt64) X r12.toInt64) (cwV 1 C.hts gX10_digest_X10_mix rfl rfl rfl (by decide +kernel) ⟨Nat.le_of_ble_eq_true rfl, Nat.le_of_ble_eq_true rfl⟩) 0 rfl rfl rfl rfl (Nat.le_of_ble_eq_true rfl) dX10_digest_73 ⟨Nat.le_of_ble_eq_true rfl, Nat.le_of_ble_eq_true rfl⟩) rfl rfl ?_
        refine z_iinc (v := (v1 + 1)) (lv2 := [(1, .int (v1 + 1)), (0, .ref (q 0)), (2, .int r2.1)]) C 1 dX10_digest_76 rfl rfl (by decide) rfl ?_
        refine z_goto (tgt := 9) C dX10_digest_79 (by decide) ?_
        refine z_lv (lv2 := [(0, .ref (q 0)), (1, .int (v1 + 1))]) [1, 0] rfl ?_
        exact ih (v1 + 1) (f_X10_mix (f_X10_mix r2.2 r10.toInt64) r12.toInt64) h kk
set_option maxHeartbeats 4000000 in
set_option maxRecDepth 100000 in
theorem L_X10_digest_111 {p : Program} {l : Launch} {e : Env} {s : State} {m : MethodId} {args : Array Value} {below : List Frame} {meth : Method} {c : Code} {A : Nat → Prop} {G : zGT} {q : Nat → Nat} {X : va_W} {fu : Nat} {Q : State → Prop} (C : zC p s m args meth c A G cX10_digest 3 (some .long) RX10 "digest" wsX10_digest) : ∀ (n : Nat) (v1 : Int32) (S : MS) {res : Int32 × MS}, f_X10_digest_L111 fu n v1 S = some res → Z p l e ({ frames := 4, cells := 0, slots := 0, locals := 92 }) s m args below meth c A G 3 Q 0 0 (MW G q res.2 ++ X) [(0, .ref (q 0)), (1, .int res.1)] 136 [] → Z p l e ({ frames := 4, cells := 0, slots := 0, locals := 92 }) s m args below meth c A G 3 Q 0 0 (MW G q S ++ X) [(0, .ref (q 0)), (1, .int v1)] 111 [] := by
  have hi10 : ∀ w ∈ u_ws RX10 TX10 39, w ∈ wsX10_digest := fun _ h => List.mem_cons_of_mem _ (List.mem_append_right _ h)
  intro n
  induction n with
  | zero =>
    intro v1 S res h kk
    exact nomatch (h : none = some _)
  | succ n ih =>
    intro v1 S res h kk
    rw [f_X10_digest_L111] at h
    refine z_iload_n C 1 dX10_digest_111 rfl rfl ?_
    refine z_aload_n C 0 dX10_digest_112 rfl rfl ?_
    refine mg_18 C hi10 (List.mem_of_getElem? (i := 4) rfl) dX10_digest_113 ?_
    refine z_icmp_ge (tgt := 136) C dX10_digest_116 (by decide) (fun c16 => ?_) (fun c16 => ?_)
    · replace h := zt c16 h
      injection h with h
      subst h
      refine z_lv (lv2 := [(0, .ref (q 0)), (1, .int v1)]) [0, 1] rfl ?_
      exact kk
    · replace h := zf c16 h
      refine z_aload_n C 0 dX10_digest_119 rfl rfl ?_
      refine z_aload_n C 0 dX10_digest_120 rfl rfl ?_
      refine mg_19 C hi10 (List.mem_of_getElem? (i := 5) rfl) dX10_digest_121 ?_
      refine z_iload_n C 1 dX10_digest_124 rfl rfl ?_
      obtain ⟨hg17, h⟩ := gd_some h
      refine ml_19 C hg17 dX10_digest_125 ?_
      refine z_i2l C dX10_digest_126 ?_
      refine z_gotv1 C (z_runV C (c_X10_mix l G q S X ((mA S 19 v1.toNatClampNeg).toInt64)) (cwV 1 C.hts gX10_digest_X10_mix rfl rfl rfl (by decide +kernel) ⟨Nat.le_of_ble_eq_true rfl, Nat.le_of_ble_eq_true rfl⟩) 0 rfl rfl rfl rfl (Nat.le_of_ble_eq_true rfl) dX10_digest_127 ⟨Nat.le_of_ble_eq_true rfl, Nat.le_of_ble_eq_true rfl⟩) rfl rfl ?_
      refine z_iinc (v := (v1 + 1)) (lv2 := [(1, .int (v1 + 1)), (0, .ref (q 0))]) C 1 dX10_digest_130 rfl rfl (by decide) rfl ?_
      refine z_goto (tgt := 111) C dX10_digest_133 (by decide) ?_
      refine z_lv (lv2 := [(0, .ref (q 0)), (1, .int (v1 + 1))]) [1, 0] rfl ?_
      exact ih (v1 + 1) (f_X10_mix S ((mA S 19 v1.toNatClampNeg).toInt64)) h kk
set_option maxHeartbeats 4000000 in
set_option maxRecDepth 100000 in
theorem L_X10_digest_138 {p : Program} {l : Launch} {e : Env} {s : State} {m : MethodId} {args : Array Value} {below : List Frame} {meth : Method} {c : Code} {A : Nat → Prop} {G : zGT} {q : Nat → Nat} {X : va_W} {fu : Nat} {Q : State → Prop} (C : zC p s m args meth c A G cX10_digest 3 (some .long) RX10 "digest" wsX10_digest) : ∀ (n : Nat) (v1 : Int32) (S : MS) {res : Int32 × MS}, f_X10_digest_L138 fu n v1 S = some res → Z p l e ({ frames := 4, cells := 0, slots := 0, locals := 92 }) s m args below meth c A G 3 Q 0 0 (MW G q res.2 ++ X) [(0, .ref (q 0)), (1, .int res.1)] 160 [] → Z p l e ({ frames := 4, cells := 0, slots := 0, locals := 92 }) s m args below meth c A G 3 Q 0 0 (MW G q S ++ X) [(0, .ref (q 0)), (1, .int v1)] 138 [] := by
  have hi10 : ∀ w ∈ u_ws RX10 TX10 39, w ∈ wsX10_digest := fun _ h => List.mem_cons_of_mem _ (List.mem_append_right _ h)
  intro n
  induction n with
  | zero =>
    intro v1 S res h kk
    exact nomatch (h : none = some _)
  | succ n ih =>
    intro v1 S res h kk
    rw [f_X10_digest_L138] at h
    refine z_iload_n C 1 dX10_digest_138 rfl rfl ?_
    refine z_bipush (v := 11) C dX10_digest_139 (by decide) ?_
    refine z_icmp_ge (tgt := 160) C dX10_digest_141 (by decide) (fun c20 => ?_) (fun c20 => ?_)
    · replace h := zt c20 h
      injection h with h
      subst h
      refine z_lv (lv2 := [(0, .ref (q 0)), (1, .int v1)]) [0, 1] rfl ?_
      exact kk
    · replace h := zf c20 h
      refine z_aload_n C 0 dX10_digest_144 rfl rfl ?_
      refine z_aload_n C 0 dX10_digest_145 rfl rfl ?_
      refine z_iload_n C 1 dX10_digest_146 rfl rfl ?_
      obtain ⟨r22, hf21, h⟩ := bd_some h
      refine z_goti1 C (z_runV C (c_X10_howMany l G q S X fu v1 hf21) (cwV 1 C.hts gX10_digest_X10_howMany rfl rfl rfl (by decide +kernel) ⟨Nat.le_of_ble_eq_true rfl, Nat.le_of_ble_eq_true rfl⟩) 0 rfl rfl rfl rfl (Nat.le_of_ble_eq_true rfl) dX10_digest_147 ⟨Nat.le_of_ble_eq_true rfl, Nat.le_of_ble_eq_true rfl⟩) rfl rfl ?_
      refine z_i2l C dX10_digest_150 ?_
      refine z_gotv1 C (z_runV C (c_X10_mix l G q S X r22.toInt64) (cwV 1 C.hts gX10_digest_X10_mix rfl rfl rfl (by decide +kernel) ⟨Nat.le_of_ble_eq_true rfl, Nat.le_of_ble_eq_true rfl⟩) 0 rfl rfl rfl rfl (Nat.le_of_ble_eq_true rfl) dX10_digest_151 ⟨Nat.le_of_ble_eq_true rfl, Nat.le_of_ble_eq_true rfl⟩) rfl rfl ?_
      refine z_iinc (v := (v1 + 1)) (lv2 := [(1, .int (v1 + 1)), (0, .ref (q 0))]) C 1 dX10_digest_154 rfl rfl (by decide) rfl ?_
      refine z_goto (tgt := 138) C dX10_digest_157 (by decide) ?_
      refine z_lv (lv2 := [(0, .ref (q 0)), (1, .int (v1 + 1))]) [1, 0] rfl ?_
      exact ih (v1 + 1) (f_X10_mix S r22.toInt64) h kk
set_option maxHeartbeats 4000000 in
set_option maxRecDepth 100000 in
theorem c_X10_digest (l : Launch) (G : zGT) (q : Nat → Nat) (S : MS) (X : va_W) (fu : Nat) {res : Int64 × MS} (h : f_X10_digest fu S = some res) : MG l yX10_digest wsX10_digest ({ frames := 4, cells := 0, slots := 0, locals := 92 }) G [.ref (q 0)] (MW G q S ++ X) (va_Ql (fun r u => r = res.1 ∧ u = MW G q res.2 ++ X)) := by
  have hi10 : ∀ w ∈ u_ws RX10 TX10 39, w ∈ wsX10_digest := fun _ h => List.mem_cons_of_mem _ (List.mem_append_right _ h)
  refine MG.of (cc := cX10_digest) (maxL := 3) (ret := (some .long)) (own := RX10) (nm := "digest") (by decide) rfl rfl rfl (Nat.le_of_ble_eq_true rfl) ?_
  intro p e s m args below meth c A C
  rw [f_X10_digest] at h
  refine z_eq (lv2 := [(0, .ref (q 0))]) rfl rfl rfl rfl ?_
  refine z_aload_n C 0 dX10_digest_0 rfl rfl ?_
  refine z_ldc2 (v := 929) C (List.mem_of_getElem? (i := 1) rfl) dX10_digest_1 ?_
  refine mp_38 C hi10 (List.mem_of_getElem? (i := 2) rfl) dX10_digest_4 ?_
  refine z_iconst (v := 0) C dX10_digest_7 (by decide) ?_
  refine z_istore_n (lv2 := [(1, .int 0), (0, .ref (q 0))]) C dX10_digest_8 rfl (by decide) rfl ?_
  refine z_lv (lv2 := [(0, .ref (q 0)), (1, .int 0)]) [1, 0] rfl ?_
  obtain ⟨r13, hf14, h⟩ := bd_some h
  refine L_X10_digest_9 C  fu 0 (msL S 38 929) hf14 ?_
  refine z_aload_n C 0 dX10_digest_82 rfl rfl ?_
  refine mg_1 C hi10 (List.mem_of_getElem? (i := 3) rfl) dX10_digest_83 ?_
  refine z_if_le (tgt := 109) C dX10_digest_86 (by decide) (fun c15 => ?_) (fun c15 => ?_)
  · replace h := zt c15 h
    refine z_iconst (v := 0) C dX10_digest_109 (by decide) ?_
    refine z_istore_n (lv2 := [(1, .int 0), (0, .ref (q 0))]) C dX10_digest_110 rfl (by decide) rfl ?_
    refine z_lv (lv2 := [(0, .ref (q 0)), (1, .int 0)]) [1, 0] rfl ?_
    obtain ⟨r18, hf19, h⟩ := bd_some h
    refine L_X10_digest_111 C  fu 0 r13.2 hf19 ?_
    refine z_iconst (v := 0) C dX10_digest_136 (by decide) ?_
    refine z_istore_n (lv2 := [(1, .int 0), (0, .ref (q 0))]) C dX10_digest_137 rfl (by decide) rfl ?_
    refine z_lv (lv2 := [(0, .ref (q 0)), (1, .int 0)]) [1, 0] rfl ?_
    obtain ⟨r23, hf24, h⟩ := bd_some h
    refine L_X10_digest_138 C  fu 0 r18.2 hf24 ?_
    refine z_aload_n C 0 dX10_digest_160 rfl rfl ?_
    refine mg_38 C hi10 (List.mem_of_getElem? (i := 2) rfl) dX10_digest_161 ?_
    injection h with h
    subst h
    exact z_lret C rfl ⟨rfl, rfl⟩ dX10_digest_164
  · replace h := zf c15 h
    refine z_aload_n C 0 dX10_digest_89 rfl rfl ?_
    refine z_aload_n C 0 dX10_digest_90 rfl rfl ?_
    refine z_iconst (v := 0) C dX10_digest_91 (by decide) ?_
    obtain ⟨r26, hf25, h⟩ := bd_some h
    refine z_goti1 C (z_runV C (c_X10_woundNow l G q r13.2 X fu 0 hf25) (cwV 1 C.hts gX10_digest_X10_woundNow rfl rfl rfl (by decide +kernel) ⟨Nat.le_of_ble_eq_true rfl, Nat.le_of_ble_eq_true rfl⟩) 0 rfl rfl rfl rfl (Nat.le_of_ble_eq_true rfl) dX10_digest_92 ⟨Nat.le_of_ble_eq_true rfl, Nat.le_of_ble_eq_true rfl⟩) rfl rfl ?_
    refine z_i2l C dX10_digest_95 ?_
    refine z_gotv1 C (z_runV C (c_X10_mix l G q r13.2 X r26.toInt64) (cwV 1 C.hts gX10_digest_X10_mix rfl rfl rfl (by decide +kernel) ⟨Nat.le_of_ble_eq_true rfl, Nat.le_of_ble_eq_true rfl⟩) 0 rfl rfl rfl rfl (Nat.le_of_ble_eq_true rfl) dX10_digest_96 ⟨Nat.le_of_ble_eq_true rfl, Nat.le_of_ble_eq_true rfl⟩) rfl rfl ?_
    refine z_aload_n C 0 dX10_digest_99 rfl rfl ?_
    refine z_aload_n C 0 dX10_digest_100 rfl rfl ?_
    refine z_iconst (v := 1) C dX10_digest_101 (by decide) ?_
    obtain ⟨r28, hf27, h⟩ := bd_some h
    refine z_goti1 C (z_runV C (c_X10_woundNow l G q (f_X10_mix r13.2 r26.toInt64) X fu 1 hf27) (cwV 1 C.hts gX10_digest_X10_woundNow rfl rfl rfl (by decide +kernel) ⟨Nat.le_of_ble_eq_true rfl, Nat.le_of_ble_eq_true rfl⟩) 0 rfl rfl rfl rfl (Nat.le_of_ble_eq_true rfl) dX10_digest_102 ⟨Nat.le_of_ble_eq_true rfl, Nat.le_of_ble_eq_true rfl⟩) rfl rfl ?_
    refine z_i2l C dX10_digest_105 ?_
    refine z_gotv1 C (z_runV C (c_X10_mix l G q (f_X10_mix r13.2 r26.toInt64) X r28.toInt64) (cwV 1 C.hts gX10_digest_X10_mix rfl rfl rfl (by decide +kernel) ⟨Nat.le_of_ble_eq_true rfl, Nat.le_of_ble_eq_true rfl⟩) 0 rfl rfl rfl rfl (Nat.le_of_ble_eq_true rfl) dX10_digest_106 ⟨Nat.le_of_ble_eq_true rfl, Nat.le_of_ble_eq_true rfl⟩) rfl rfl ?_
    refine z_iconst (v := 0) C dX10_digest_109 (by decide) ?_
    refine z_istore_n (lv2 := [(1, .int 0), (0, .ref (q 0))]) C dX10_digest_110 rfl (by decide) rfl ?_
    refine z_lv (lv2 := [(0, .ref (q 0)), (1, .int 0)]) [1, 0] rfl ?_
    obtain ⟨r29, hf30, h⟩ := bd_some h
    refine L_X10_digest_111 C  fu 0 (f_X10_mix (f_X10_mix r13.2 r26.toInt64) r28.toInt64) hf30 ?_
    refine z_iconst (v := 0) C dX10_digest_136 (by decide) ?_
    refine z_istore_n (lv2 := [(1, .int 0), (0, .ref (q 0))]) C dX10_digest_137 rfl (by decide) rfl ?_
    refine z_lv (lv2 := [(0, .ref (q 0)), (1, .int 0)]) [1, 0] rfl ?_
    obtain ⟨r31, hf32, h⟩ := bd_some h
    refine L_X10_digest_138 C  fu 0 r29.2 hf32 ?_
    refine z_aload_n C 0 dX10_digest_160 rfl rfl ?_
    refine mg_38 C hi10 (List.mem_of_getElem? (i := 2) rfl) dX10_digest_161 ?_
    injection h with h
    subst h
    exact z_lret C rfl ⟨rfl, rfl⟩ dX10_digest_164
