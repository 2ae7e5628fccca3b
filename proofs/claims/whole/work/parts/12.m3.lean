def f_X10_goodAt_L4 (fu : Nat) (v1 : Int32) : Nat → Int32 → Int32 → MS → Option (Int32 × Int32)
  | 0, _, _, _ => none
  | n + 1, v2, v3, S => if (mI S 1) ≤ v3 then some (v2, v3) else (f_X10_boils S v3).bind fun r3 => if r3 = 0 then f_X10_goodAt_L4 fu v1 n (v2 ||| 0) (v3 + 1) S else (f_X10_outAt S v3 v1).bind fun r6 => if r6 = 100 then f_X10_goodAt_L4 fu v1 n (v2 ||| (1 <<< (v3 &&& 31))) (v3 + 1) S else f_X10_goodAt_L4 fu v1 n (v2 ||| 0) (v3 + 1) S
def f_X10_goodAt (fu : Nat) (S : MS) (a1 : Int32) : Option (Int32) := (f_X10_goodAt_L4 fu a1 fu 0 0 S).bind fun r8 => some r8.1
set_option maxHeartbeats 4000000 in
set_option maxRecDepth 100000 in
theorem L_X10_goodAt_4 {p : Program} {l : Launch} {e : Env} {s : State} {m : MethodId} {args : Array Value} {below : List Frame} {meth : Method} {c : Code} {A : Nat → Prop} {G : zGT} {q : Nat → Nat} {X : va_W} {fu : Nat} {Q : State → Prop} (C : zC p s m args meth c A G cX10_goodAt 4 (some .int) RX10 "goodAt" wsX10_goodAt) (v1 : Int32) : ∀ (n : Nat) (v2 : Int32) (v3 : Int32) (S : MS) {res : Int32 × Int32}, f_X10_goodAt_L4 fu v1 n v2 v3 S = some res → Z p l e ({ frames := 2, cells := 0, slots := 0, locals := 44 }) s m args below meth c A G 4 Q 0 0 (MW G q S ++ X) [(0, .ref (q 0)), (1, .int v1), (2, .int res.1), (3, .int res.2)] 47 [] → Z p l e ({ frames := 2, cells := 0, slots := 0, locals := 44 }) s m args below meth c A G 4 Q 0 0 (MW G q S ++ X) [(0, .ref (q 0)), (1, .int v1), (2, .int v2), (3, .int v3)] 4 [] := by
  have hi10 : ∀ w ∈ u_ws RX10 TX10 39, w ∈ wsX10_goodAt := fun _ h => List.mem_cons_of_mem _ (List.mem_append_right _ h)
  intro n
  induction n with
  | zero =>
    intro v2 v3 S res h kk
    exact nomatch (h : none = some _)
  | succ n ih =>
    intro v2 v3 S res h kk
    rw [f_X10_goodAt_L4] at h
    refine z_iload_n C 3 dX10_goodAt_4 rfl rfl ?_
    refine z_aload_n C 0 dX10_goodAt_5 rfl rfl ?_
    refine mg_1 C hi10 (List.mem_of_getElem? (i := 1) rfl) dX10_goodAt_6 ?_
    refine z_icmp_ge (tgt := 47) C dX10_goodAt_9 (by decide) (fun c1 => ?_) (fun c1 => ?_)
    · replace h := zt c1 h
      injection h with h
      subst h
      refine z_lv (lv2 := [(0, .ref (q 0)), (1, .int v1), (2, .int v2), (3, .int v3)]) [0, 1, 2, 3] rfl ?_
      exact kk
    · replace h := zf c1 h
      refine z_iload_n C 2 dX10_goodAt_12 rfl rfl ?_
      refine z_aload_n C 0 dX10_goodAt_13 rfl rfl ?_
      refine z_iload_n C 3 dX10_goodAt_14 rfl rfl ?_
      obtain ⟨r3, hf2, h⟩ := bd_some h
      refine z_goti1 C (z_runV C (c_X10_boils l G q S X v3 hf2) (cwV 1 C.hts gX10_goodAt_X10_boils rfl rfl rfl (by decide +kernel) ⟨Nat.le_of_ble_eq_true rfl, Nat.le_of_ble_eq_true rfl⟩) 0 rfl rfl rfl rfl (Nat.le_of_ble_eq_true rfl) dX10_goodAt_15 ⟨Nat.le_of_ble_eq_true rfl, Nat.le_of_ble_eq_true rfl⟩) rfl rfl ?_
      refine z_if_eq (tgt := 38) C dX10_goodAt_18 (by decide) (fun c4 => ?_) (fun c4 => ?_)
      · replace h := zt c4 h
        refine z_iconst (v := 0) C dX10_goodAt_38 (by decide) ?_
        refine z_ior C dX10_goodAt_39 ?_
        refine z_istore_n (lv2 := [(2, .int (v2 ||| 0)), (0, .ref (q 0)), (1, .int v1), (3, .int v3)]) C dX10_goodAt_40 rfl (by decide) rfl ?_
        refine z_iinc (v := (v3 + 1)) (lv2 := [(3, .int (v3 + 1)), (2, .int (v2 ||| 0)), (0, .ref (q 0)), (1, .int v1)]) C 3 dX10_goodAt_41 rfl rfl (by decide) rfl ?_
        refine z_goto (tgt := 4) C dX10_goodAt_44 (by decide) ?_
        refine z_lv (lv2 := [(0, .ref (q 0)), (1, .int v1), (2, .int (v2 ||| 0)), (3, .int (v3 + 1))]) [2, 3, 1, 0] rfl ?_
        exact ih (v2 ||| 0) (v3 + 1) S h kk
      · replace h := zf c4 h
        refine z_aload_n C 0 dX10_goodAt_21 rfl rfl ?_
        refine z_iload_n C 3 dX10_goodAt_22 rfl rfl ?_
        refine z_iload_n C 1 dX10_goodAt_23 rfl rfl ?_
        obtain ⟨r6, hf5, h⟩ := bd_some h
        refine z_goti1 C (z_runV C (c_X10_outAt l G q S X v3 v1 hf5) (cwV 2 C.hts gX10_goodAt_X10_outAt rfl rfl rfl (by decide +kernel) ⟨Nat.le_of_ble_eq_true rfl, Nat.le_of_ble_eq_true rfl⟩) 0 rfl rfl rfl rfl (Nat.le_of_ble_eq_true rfl) dX10_goodAt_24 ⟨Nat.le_of_ble_eq_true rfl, Nat.le_of_ble_eq_true rfl⟩) rfl rfl ?_
        refine z_bipush (v := 100) C dX10_goodAt_27 (by decide) ?_
        refine z_icmp_ne (tgt := 38) C dX10_goodAt_29 (by decide) (fun c7 => ?_) (fun c7 => ?_)
        · replace h := zf c7 h
          refine z_iconst (v := 0) C dX10_goodAt_38 (by decide) ?_
          refine z_ior C dX10_goodAt_39 ?_
          refine z_istore_n (lv2 := [(2, .int (v2 ||| 0)), (0, .ref (q 0)), (1, .int v1), (3, .int v3)]) C dX10_goodAt_40 rfl (by decide) rfl ?_
          refine z_iinc (v := (v3 + 1)) (lv2 := [(3, .int (v3 + 1)), (2, .int (v2 ||| 0)), (0, .ref (q 0)), (1, .int v1)]) C 3 dX10_goodAt_41 rfl rfl (by decide) rfl ?_
          refine z_goto (tgt := 4) C dX10_goodAt_44 (by decide) ?_
          refine z_lv (lv2 := [(0, .ref (q 0)), (1, .int v1), (2, .int (v2 ||| 0)), (3, .int (v3 + 1))]) [2, 3, 1, 0] rfl ?_
          exact ih (v2 ||| 0) (v3 + 1) S h kk
        · replace h := zt c7 h
          refine z_iconst (v := 1) C dX10_goodAt_32 (by decide) ?_
          refine z_iload_n C 3 dX10_goodAt_33 rfl rfl ?_
          refine z_ishl C dX10_goodAt_34 ?_
          refine z_goto (tgt := 39) C dX10_goodAt_35 (by decide) ?_
          refine z_ior C dX10_goodAt_39 ?_
          refine z_istore_n (lv2 := [(2, .int (v2 ||| (1 <<< (v3 &&& 31)))), (0, .ref (q 0)), (1, .int v1), (3, .int v3)]) C dX10_goodAt_40 rfl (by decide) rfl ?_
          refine z_iinc (v := (v3 + 1)) (lv2 := [(3, .int (v3 + 1)), (2, .int (v2 ||| (1 <<< (v3 &&& 31)))), (0, .ref (q 0)), (1, .int v1)]) C 3 dX10_goodAt_41 rfl rfl (by decide) rfl ?_
          refine z_goto (tgt := 4) C dX10_goodAt_44 (by decide) ?_
          refine z_lv (lv2 := [(0, .ref (q 0)), (1, .int v1), (2, .int (v2 ||| (1 <<< (v3 &&& 31)))), (3, .int (v3 + 1))]) [2, 3, 1, 0] rfl ?_
          exact ih (v2 ||| (1 <<< (v3 &&& 31))) (v3 + 1) S h kk
set_option maxHeartbeats 4000000 in
set_option maxRecDepth 100000 in
theorem c_X10_goodAt (l : Launch) (G : zGT) (q : Nat → Nat) (S : MS) (X : va_W) (fu : Nat) (a1 : Int32) {res : Int32} (h : f_X10_goodAt fu S a1 = some res) : MG l yX10_goodAt wsX10_goodAt ({ frames := 2, cells := 0, slots := 0, locals := 44 }) G [.ref (q 0), .int a1] (MW G q S ++ X) (va_Qi (fun r u => r = res ∧ u = MW G q S ++ X)) := by
  have hi10 : ∀ w ∈ u_ws RX10 TX10 39, w ∈ wsX10_goodAt := fun _ h => List.mem_cons_of_mem _ (List.mem_append_right _ h)
  refine MG.of (cc := cX10_goodAt) (maxL := 4) (ret := (some .int)) (own := RX10) (nm := "goodAt") (by decide) rfl rfl rfl (Nat.le_of_ble_eq_true rfl) ?_
  intro p e s m args below meth c A C
  rw [f_X10_goodAt] at h
  refine z_eq (lv2 := [(0, .ref (q 0)), (1, .int a1)]) rfl rfl rfl rfl ?_
  refine z_iconst (v := 0) C dX10_goodAt_0 (by decide) ?_
  refine z_istore_n (lv2 := [(2, .int 0), (0, .ref (q 0)), (1, .int a1)]) C dX10_goodAt_1 rfl (by decide) rfl ?_
  refine z_iconst (v := 0) C dX10_goodAt_2 (by decide) ?_
  refine z_istore_n (lv2 := [(3, .int 0), (2, .int 0), (0, .ref (q 0)), (1, .int a1)]) C dX10_goodAt_3 rfl (by decide) rfl ?_
  refine z_lv (lv2 := [(0, .ref (q 0)), (1, .int a1), (2, .int 0), (3, .int 0)]) [2, 3, 1, 0] rfl ?_
  obtain ⟨r8, hf9, h⟩ := bd_some h
  refine L_X10_goodAt_4 C a1 fu 0 0 S hf9 ?_
  refine z_iload_n C 2 dX10_goodAt_47 rfl rfl ?_
  injection h with h
  subst h
  exact z_iret C rfl ⟨rfl, rfl⟩ dX10_goodAt_48
def f_X10_mark_L3 (fu : Nat) (v1 : Int32) (v2 : Int32) (v3 : Int32) (v4 : Int32) (v5 : Int32) (v6 : Int32) : Nat → Int32 → MS → Option (Int32 × MS)
  | 0, _, _ => none
  | n + 1, v7, S => if 16 ≤ v7 then some (v7, S) else if (v7 &&& (v3 ^^^ (-1))) = 0 then if v4 < (f_X10_size v7) then f_X10_mark_L3 fu v1 v2 v3 v4 v5 v6 n (v7 + 1) S else gd ((16 * v1) + (v2 ||| v7)) 1936 (if (mA S 22 ((16 * v1) + (v2 ||| v7)).toNatClampNeg) = (-1) then gd ((16 * v1) + (v2 ||| v7)) 1936 (gd ((16 * v1) + (v2 ||| v7)) 1936 (f_X10_mark_L3 fu v1 v2 v3 v4 v5 v6 n (v7 + 1) (msA (msA S 22 ((16 * v1) + (v2 ||| v7)).toNatClampNeg v5) 23 ((16 * v1) + (v2 ||| v7)).toNatClampNeg v6))) else gd ((16 * v1) + (v2 ||| v7)) 1936 (if (mA S 22 ((16 * v1) + (v2 ||| v7)).toNatClampNeg) = v5 then gd ((16 * v1) + (v2 ||| v7)) 1936 (if (mA S 23 ((16 * v1) + (v2 ||| v7)).toNatClampNeg) ≤ v6 then gd ((16 * v1) + (v2 ||| v7)) 1936 (gd ((16 * v1) + (v2 ||| v7)) 1936 (gd ((16 * v1) + (v2 ||| v7)) 1936 (gd ((16 * v1) + (v2 ||| v7)) 1936 (f_X10_mark_L3 fu v1 v2 v3 v4 v5 v6 n (v7 + 1) (msA (msA S 22 ((16 * v1) + (v2 ||| v7)).toNatClampNeg (mA S 22 ((16 * v1) + (v2 ||| v7)).toNatClampNeg)) 23 ((16 * v1) + (v2 ||| v7)).toNatClampNeg (mA (msA S 22 ((16 * v1) + (v2 ||| v7)).toNatClampNeg (mA S 22 ((16 * v1) + (v2 ||| v7)).toNatClampNeg)) 23 ((16 * v1) + (v2 ||| v7)).toNatClampNeg)))))) else gd ((16 * v1) + (v2 ||| v7)) 1936 (gd ((16 * v1) + (v2 ||| v7)) 1936 (f_X10_mark_L3 fu v1 v2 v3 v4 v5 v6 n (v7 + 1) (msA (msA S 22 ((16 * v1) + (v2 ||| v7)).toNatClampNeg v5) 23 ((16 * v1) + (v2 ||| v7)).toNatClampNeg v6)))) else gd ((16 * v1) + (v2 ||| v7)) 1936 (gd ((16 * v1) + (v2 ||| v7)) 1936 (gd ((16 * v1) + (v2 ||| v7)) 1936 (gd ((16 * v1) + (v2 ||| v7)) 1936 (f_X10_mark_L3 fu v1 v2 v3 v4 v5 v6 n (v7 + 1) (msA (msA S 22 ((16 * v1) + (v2 ||| v7)).toNatClampNeg (mA S 22 ((16 * v1) + (v2 ||| v7)).toNatClampNeg)) 23 ((16 * v1) + (v2 ||| v7)).toNatClampNeg (mA (msA S 22 ((16 * v1) + (v2 ||| v7)).toNatClampNeg (mA S 22 ((16 * v1) + (v2 ||| v7)).toNatClampNeg)) 23 ((16 * v1) + (v2 ||| v7)).toNatClampNeg)))))))) else f_X10_mark_L3 fu v1 v2 v3 v4 v5 v6 n (v7 + 1) S
def f_X10_mark (fu : Nat) (S : MS) (a1 : Int32) (a2 : Int32) (a3 : Int32) (a4 : Int32) (a5 : Int32) (a6 : Int32) : Option (MS) := (f_X10_mark_L3 fu a1 a2 a3 a4 a5 a6 fu 0 S).bind fun r22 => some r22.2
set_option maxHeartbeats 4000000 in
set_option maxRecDepth 100000 in
theorem L_X10_mark_3 {p : Program} {l : Launch} {e : Env} {s : State} {m : MethodId} {args : Array Value} {below : List Frame} {meth : Method} {c : Code} {A : Nat → Prop} {G : zGT} {q : Nat → Nat} {X : va_W} {fu : Nat} {Q : State → Prop} (C : zC p s m args meth c A G cX10_mark 10 none RX10 "mark" wsX10_mark) (v1 : Int32) (v2 : Int32) (v3 : Int32) (v4 : Int32) (v5 : Int32) (v6 : Int32) : ∀ (n : Nat) (v7 : Int32) (S : MS) {res : Int32 × MS}, f_X10_mark_L3 fu v1 v2 v3 v4 v5 v6 n v7 S = some res → Z p l e ({ frames := 1, cells := 0, slots := 0, locals := 20 }) s m args below meth c A G 10 Q 0 0 (MW G q res.2 ++ X) [(0, .ref (q 0)), (1, .int v1), (2, .int v2), (3, .int v3), (4, .int v4), (5, .int v5), (6, .int v6), (7, .int res.1)] 136 [] → Z p l e ({ frames := 1, cells := 0, slots := 0, locals := 20 }) s m args below meth c A G 10 Q 0 0 (MW G q S ++ X) [(0, .ref (q 0)), (1, .int v1), (2, .int v2), (3, .int v3), (4, .int v4), (5, .int v5), (6, .int v6), (7, .int v7)] 3 [] := by
  have hi10 : ∀ w ∈ u_ws RX10 TX10 39, w ∈ wsX10_mark := fun _ h => List.mem_cons_of_mem _ (List.mem_append_right _ h)
  intro n
  induction n with
  | zero =>
    intro v7 S res h kk
    exact nomatch (h : none = some _)
  | succ n ih =>
    intro v7 S res h kk
    rw [f_X10_mark_L3] at h
    refine z_iload C 7 dX10_mark_3 rfl ?_
    refine z_bipush (v := 16) C dX10_mark_5 (by decide) ?_
    refine z_icmp_ge (tgt := 136) C dX10_mark_7 (by decide) (fun c1 => ?_) (fun c1 => ?_)
    · replace h := zt c1 h
      injection h with h
      subst h
      refine z_lv (lv2 := [(0, .ref (q 0)), (1, .int v1), (2, .int v2), (3, .int v3), (4, .int v4), (5, .int v5), (6, .int v6), (7, .int v7)]) [0, 1, 2, 3, 4, 5, 6, 7] rfl ?_
      exact kk
    · replace h := zf c1 h
      refine z_iload C 7 dX10_mark_10 rfl ?_
      refine z_iload_n C 3 dX10_mark_12 rfl rfl ?_
      refine z_iconst (v := (-1)) C dX10_mark_13 (by decide) ?_
      refine z_ixor C dX10_mark_14 ?_
      refine z_iand C dX10_mark_15 ?_
      refine z_if_ne (tgt := 130) C dX10_mark_16 (by decide) (fun c2 => ?_) (fun c2 => ?_)
      · replace h := zf c2 h
        refine z_iinc (v := (v7 + 1)) (lv2 := [(7, .int (v7 + 1)), (0, .ref (q 0)), (1, .int v1), (2, .int v2), (3, .int v3), (4, .int v4), (5, .int v5), (6, .int v6)]) C 7 dX10_mark_130 rfl rfl (by decide) rfl ?_
        refine z_goto (tgt := 3) C dX10_mark_133 (by decide) ?_
        refine z_lv (lv2 := [(0, .ref (q 0)), (1, .int v1), (2, .int v2), (3, .int v3), (4, .int v4), (5, .int v5), (6, .int v6), (7, .int (v7 + 1))]) [1, 2, 3, 4, 5, 6, 7, 0] rfl ?_
        exact ih (v7 + 1) S h kk
      · replace h := zt c2 h
        refine z_iload C 7 dX10_mark_19 rfl ?_
        refine z_goti1 C (z_runS C (c_X10_size l G (MW G q S ++ X) v7) (va_cwS 1 C.hts gX10_mark_X10_size rfl rfl rfl (by decide +kernel) ⟨Nat.le_of_ble_eq_true rfl, Nat.le_of_ble_eq_true rfl⟩) rfl rfl (Nat.le_of_ble_eq_true rfl) dX10_mark_21 ⟨Nat.le_of_ble_eq_true rfl, Nat.le_of_ble_eq_true rfl⟩) rfl rfl ?_
        refine z_iload C 4 dX10_mark_24 rfl ?_
        refine z_icmp_gt (tgt := 130) C dX10_mark_26 (by decide) (fun c3 => ?_) (fun c3 => ?_)
        · replace h := zt c3 h
          refine z_iinc (v := (v7 + 1)) (lv2 := [(7, .int (v7 + 1)), (0, .ref (q 0)), (1, .int v1), (2, .int v2), (3, .int v3), (4, .int v4), (5, .int v5), (6, .int v6)]) C 7 dX10_mark_130 rfl rfl (by decide) rfl ?_
          refine z_goto (tgt := 3) C dX10_mark_133 (by decide) ?_
          refine z_lv (lv2 := [(0, .ref (q 0)), (1, .int v1), (2, .int v2), (3, .int v3), (4, .int v4), (5, .int v5), (6, .int v6), (7, .int (v7 + 1))]) [1, 2, 3, 4, 5, 6, 7, 0] rfl ?_
          exact ih (v7 + 1) S h kk
        · replace h := zf c3 h
          refine z_bipush (v := 16) C dX10_mark_29 (by decide) ?_
          refine z_iload_n C 1 dX10_mark_31 rfl rfl ?_
          refine z_imul C dX10_mark_32 ?_
          refine z_iload_n C 2 dX10_mark_33 rfl rfl ?_
          refine z_iload C 7 dX10_mark_34 rfl ?_
          refine z_ior C dX10_mark_36 ?_
          refine z_iadd C dX10_mark_37 ?_
          refine z_istore (lv2 := [(8, .int ((16 * v1) + (v2 ||| v7))), (0, .ref (q 0)), (1, .int v1), (2, .int v2), (3, .int v3), (4, .int v4), (5, .int v5), (6, .int v6), (7, .int v7)]) C dX10_mark_38 (by decide) rfl ?_
          refine z_aload_n C 1 dX10_mark_40 rfl rfl ?_
          refine mg_22 C hi10 (List.mem_of_getElem? (i := 1) rfl) dX10_mark_41 ?_
          refine z_iload C 0 dX10_mark_44 rfl ?_
          obtain ⟨hg4, h⟩ := gd_some h
          refine ml_22 C hg4 dX10_mark_46 ?_
          refine z_iconst (v := (-1)) C dX10_mark_47 (by decide) ?_
          refine z_icmp_eq (tgt := 75) C dX10_mark_48 (by decide) (fun c5 => ?_) (fun c5 => ?_)
          · replace h := zt c5 h
            refine z_iconst (v := 1) C dX10_mark_75 (by decide) ?_
            refine z_goto (tgt := 80) C dX10_mark_76 (by decide) ?_
            refine z_istore (lv2 := [(9, .int 1), (8, .int ((16 * v1) + (v2 ||| v7))), (0, .ref (q 0)), (1, .int v1), (2, .int v2), (3, .int v3), (4, .int v4), (5, .int v5), (6, .int v6), (7, .int v7)]) C dX10_mark_80 (by decide) rfl ?_
            refine z_aload_n C 2 dX10_mark_82 rfl rfl ?_
            refine mg_22 C hi10 (List.mem_of_getElem? (i := 1) rfl) dX10_mark_83 ?_
            refine z_iload C 1 dX10_mark_86 rfl ?_
            refine z_iload C 0 dX10_mark_88 rfl ?_
            refine z_if_eq (tgt := 98) C dX10_mark_90 (by decide) (fun c => absurd c (by decide)) (fun _ => ?_)
            refine z_iload C 7 dX10_mark_93 rfl ?_
            refine z_goto (tgt := 105) C dX10_mark_95 (by decide) ?_
            obtain ⟨hg6, h⟩ := gd_some h
            refine mt_22 C hg6 dX10_mark_105 ?_
            refine z_aload_n C 2 dX10_mark_106 rfl rfl ?_
            refine mg_23 C hi10 (List.mem_of_getElem? (i := 2) rfl) dX10_mark_107 ?_
            refine z_iload C 1 dX10_mark_110 rfl ?_
            refine z_iload C 0 dX10_mark_112 rfl ?_
            refine z_if_eq (tgt := 122) C dX10_mark_114 (by decide) (fun c => absurd c (by decide)) (fun _ => ?_)
            refine z_iload C 8 dX10_mark_117 rfl ?_
            refine z_goto (tgt := 129) C dX10_mark_119 (by decide) ?_
            obtain ⟨hg7, h⟩ := gd_some h
            refine mt_23 C hg7 dX10_mark_129 ?_
            refine z_iinc (v := (v7 + 1)) (lv2 := [(7, .int (v7 + 1)), (9, .int 1), (8, .int ((16 * v1) + (v2 ||| v7))), (0, .ref (q 0)), (1, .int v1), (2, .int v2), (3, .int v3), (4, .int v4), (5, .int v5), (6, .int v6)]) C 9 dX10_mark_130 rfl rfl (by decide) rfl ?_
            refine z_goto (tgt := 3) C dX10_mark_133 (by decide) ?_
            refine z_lv (lv2 := [(0, .ref (q 0)), (1, .int v1), (2, .int v2), (3, .int v3), (4, .int v4), (5, .int v5), (6, .int v6), (7, .int (v7 + 1))]) [3, 4, 5, 6, 7, 8, 9, 0] rfl ?_
            exact ih (v7 + 1) (msA (msA S 22 ((16 * v1) + (v2 ||| v7)).toNatClampNeg v5) 23 ((16 * v1) + (v2 ||| v7)).toNatClampNeg v6) h kk
          · replace h := zf c5 h
            refine z_aload_n C 1 dX10_mark_51 rfl rfl ?_
            refine mg_22 C hi10 (List.mem_of_getElem? (i := 1) rfl) dX10_mark_52 ?_
            refine z_iload C 0 dX10_mark_55 rfl ?_
            obtain ⟨hg8, h⟩ := gd_some h
            refine ml_22 C hg8 dX10_mark_57 ?_
            refine z_iload C 6 dX10_mark_58 rfl ?_
            refine z_icmp_ne (tgt := 79) C dX10_mark_60 (by decide) (fun c9 => ?_) (fun c9 => ?_)
            · replace h := zf c9 h
              refine z_iconst (v := 0) C dX10_mark_79 (by decide) ?_
              refine z_istore (lv2 := [(9, .int 0), (8, .int ((16 * v1) + (v2 ||| v7))), (0, .ref (q 0)), (1, .int v1), (2, .int v2), (3, .int v3), (4, .int v4), (5, .int v5), (6, .int v6), (7, .int v7)]) C dX10_mark_80 (by decide) rfl ?_
              refine z_aload_n C 2 dX10_mark_82 rfl rfl ?_
              refine mg_22 C hi10 (List.mem_of_getElem? (i := 1) rfl) dX10_mark_83 ?_
              refine z_iload C 1 dX10_mark_86 rfl ?_
              refine z_iload C 0 dX10_mark_88 rfl ?_
              refine z_if_eq (tgt := 98) C dX10_mark_90 (by decide) (fun _ => ?_) (fun c => absurd (by decide) c)
              refine z_aload_n C 2 dX10_mark_98 rfl rfl ?_
              refine mg_22 C hi10 (List.mem_of_getElem? (i := 1) rfl) dX10_mark_99 ?_
              refine z_iload C 1 dX10_mark_102 rfl ?_
              obtain ⟨hg10, h⟩ := gd_some h
              refine ml_22 C hg10 dX10_mark_104 ?_
              obtain ⟨hg11, h⟩ := gd_some h
              refine mt_22 C hg11 dX10_mark_105 ?_
              refine z_aload_n C 2 dX10_mark_106 rfl rfl ?_
              refine mg_23 C hi10 (List.mem_of_getElem? (i := 2) rfl) dX10_mark_107 ?_
              refine z_iload C 1 dX10_mark_110 rfl ?_
              refine z_iload C 0 dX10_mark_112 rfl ?_
              refine z_if_eq (tgt := 122) C dX10_mark_114 (by decide) (fun _ => ?_) (fun c => absurd (by decide) c)
              refine z_aload_n C 2 dX10_mark_122 rfl rfl ?_
              refine mg_23 C hi10 (List.mem_of_getElem? (i := 2) rfl) dX10_mark_123 ?_
              refine z_iload C 1 dX10_mark_126 rfl ?_
              obtain ⟨hg12, h⟩ := gd_some h
              refine ml_23 C hg12 dX10_mark_128 ?_
              obtain ⟨hg13, h⟩ := gd_some h
              refine mt_23 C hg13 dX10_mark_129 ?_
              refine z_iinc (v := (v7 + 1)) (lv2 := [(7, .int (v7 + 1)), (9, .int 0), (8, .int ((16 * v1) + (v2 ||| v7))), (0, .ref (q 0)), (1, .int v1), (2, .int v2), (3, .int v3), (4, .int v4), (5, .int v5), (6, .int v6)]) C 9 dX10_mark_130 rfl rfl (by decide) rfl ?_
              refine z_goto (tgt := 3) C dX10_mark_133 (by decide) ?_
              refine z_lv (lv2 := [(0, .ref (q 0)), (1, .int v1), (2, .int v2), (3, .int v3), (4, .int v4), (5, .int v5), (6, .int v6), (7, .int (v7 + 1))]) [3, 4, 5, 6, 7, 8, 9, 0] rfl ?_
              exact ih (v7 + 1) (msA (msA S 22 ((16 * v1) + (v2 ||| v7)).toNatClampNeg (mA S 22 ((16 * v1) + (v2 ||| v7)).toNatClampNeg)) 23 ((16 * v1) + (v2 ||| v7)).toNatClampNeg (mA (msA S 22 ((16 * v1) + (v2 ||| v7)).toNatClampNeg (mA S 22 ((16 * v1) + (v2 ||| v7)).toNatClampNeg)) 23 ((16 * v1) + (v2 ||| v7)).toNatClampNeg)) h kk
            · replace h := zt c9 h
              refine z_iload C 7 dX10_mark_63 rfl ?_
              refine z_aload_n C 1 dX10_mark_65 rfl rfl ?_
              refine mg_23 C hi10 (List.mem_of_getElem? (i := 2) rfl) dX10_mark_66 ?_
              refine z_iload C 0 dX10_mark_69 rfl ?_
              obtain ⟨hg14, h⟩ := gd_some h
              refine ml_23 C hg14 dX10_mark_71 ?_
              refine z_icmp_ge (tgt := 79) C dX10_mark_72 (by decide) (fun c15 => ?_) (fun c15 => ?_)
              · replace h := zt c15 h
                refine z_iconst (v := 0) C dX10_mark_79 (by decide) ?_
                refine z_istore (lv2 := [(9, .int 0), (8, .int ((16 * v1) + (v2 ||| v7))), (0, .ref (q 0)), (1, .int v1), (2, .int v2), (3, .int v3), (4, .int v4), (5, .int v5), (6, .int v6), (7, .int v7)]) C dX10_mark_80 (by decide) rfl ?_
                refine z_aload_n C 2 dX10_mark_82 rfl rfl ?_
                refine mg_22 C hi10 (List.mem_of_getElem? (i := 1) rfl) dX10_mark_83 ?_
                refine z_iload C 1 dX10_mark_86 rfl ?_
                refine z_iload C 0 dX10_mark_88 rfl ?_
                refine z_if_eq (tgt := 98) C dX10_mark_90 (by decide) (fun _ => ?_) (fun c => absurd (by decide) c)
                refine z_aload_n C 2 dX10_mark_98 rfl rfl ?_
                refine mg_22 C hi10 (List.mem_of_getElem? (i := 1) rfl) dX10_mark_99 ?_
                refine z_iload C 1 dX10_mark_102 rfl ?_
                obtain ⟨hg16, h⟩ := gd_some h
                refine ml_22 C hg16 dX10_mark_104 ?_
                obtain ⟨hg17, h⟩ := gd_some h
                refine mt_22 C hg17 dX10_mark_105 ?_
                refine z_aload_n C 2 dX10_mark_106 rfl rfl ?_
                refine mg_23 C hi10 (List.mem_of_getElem? (i := 2) rfl) dX10_mark_107 ?_
                refine z_iload C 1 dX10_mark_110 rfl ?_
                refine z_iload C 0 dX10_mark_112 rfl ?_
                refine z_if_eq (tgt := 122) C dX10_mark_114 (by decide) (fun _ => ?_) (fun c => absurd (by decide) c)
                refine z_aload_n C 2 dX10_mark_122 rfl rfl ?_
                refine mg_23 C hi10 (List.mem_of_getElem? (i := 2) rfl) dX10_mark_123 ?_
                refine z_iload C 1 dX10_mark_126 rfl ?_
                obtain ⟨hg18, h⟩ := gd_some h
                refine ml_23 C hg18 dX10_mark_128 ?_
                obtain ⟨hg19, h⟩ := gd_some h
                refine mt_23 C hg19 dX10_mark_129 ?_
                refine z_iinc (v := (v7 + 1)) (lv2 := [(7, .int (v7 + 1)), (9, .int 0), (8, .int ((16 * v1) + (v2 ||| v7))), (0, .ref (q 0)), (1, .int v1), (2, .int v2), (3, .int v3), (4, .int v4), (5, .int v5), (6, .int v6)]) C 9 dX10_mark_130 rfl rfl (by decide) rfl ?_
                refine z_goto (tgt := 3) C dX10_mark_133 (by decide) ?_
                refine z_lv (lv2 := [(0, .ref (q 0)), (1, .int v1), (2, .int v2), (3, .int v3), (4, .int v4), (5, .int v5), (6, .int v6), (7, .int (v7 + 1))]) [3, 4, 5, 6, 7, 8, 9, 0] rfl ?_
                exact ih (v7 + 1) (msA (msA S 22 ((16 * v1) + (v2 ||| v7)).toNatClampNeg (mA S 22 ((16 * v1) + (v2 ||| v7)).toNatClampNeg)) 23 ((16 * v1) + (v2 ||| v7)).toNatClampNeg (mA (msA S 22 ((16 * v1) + (v2 ||| v7)).toNatClampNeg (mA S 22 ((16 * v1) + (v2 ||| v7)).toNatClampNeg)) 23 ((16 * v1) + (v2 ||| v7)).toNatClampNeg)) h kk
              · replace h := zf c15 h
                refine z_iconst (v := 1) C dX10_mark_75 (by decide) ?_
                refine z_goto (tgt := 80) C dX10_mark_76 (by decide) ?_
                refine z_istore (lv2 := [(9, .int 1), (8, .int ((16 * v1) + (v2 ||| v7))), (0, .ref (q 0)), (1, .int v1), (2, .int v2), (3, .int v3), (4, .int v4), (5, .int v5), (6, .int v6), (7, .int v7)]) C dX10_mark_80 (by decide) rfl ?_
                refine z_aload_n C 2 dX10_mark_82 rfl rfl ?_
                refine mg_22 C hi10 (List.mem_of_getElem? (i := 1) rfl) dX10_mark_83 ?_
                refine z_iload C 1 dX10_mark_86 rfl ?_
                refine z_iload C 0 dX10_mark_88 rfl ?_
                refine z_if_eq (tgt := 98) C dX10_mark_90 (by decide) (fun c => absurd c (by decide)) (fun _ => ?_)
                refine z_iload C 7 dX10_mark_93 rfl ?_
                refine z_goto (tgt := 105) C dX10_mark_95 (by decide) ?_
                obtain ⟨hg20, h⟩ := gd_some h
                refine mt_22 C hg20 dX10_mark_105 ?_
                refine z_aload_n C 2 dX10_mark_106 rfl rfl ?_
                refine mg_23 C hi10 (List.mem_of_getElem? (i := 2) rfl) dX10_mark_107 ?_
                refine z_iload C 1 dX10_mark_110 rfl ?_
                refine z_iload C 0 dX10_mark_112 rfl ?_
                refine z_if_eq (tgt := 122) C dX10_mark_114 (by decide) (fun c => absurd c (by decide)) (fun _ => ?_)
                refine z_iload C 8 dX10_mark_117 rfl ?_
                refine z_goto (tgt := 129) C dX10_mark_119 (by decide) ?_
                obtain ⟨hg21, h⟩ := gd_some h
                refine mt_23 C hg21 dX10_mark_129 ?_
                refine z_iinc (v := (v7 + 1)) (lv2 := [(7, .int (v7 + 1)), (9, .int 1), (8, .int ((16 * v1) + (v2 ||| v7))), (0, .ref (q 0)), (1, .int v1), (2, .int v2), (3, .int v3), (4, .int v4), (5, .int v5), (6, .int v6)]) C 9 dX10_mark_130 rfl rfl (by decide) rfl ?_
                refine z_goto (tgt := 3) C dX10_mark_133 (by decide) ?_
                refine z_lv (lv2 := [(0, .ref (q 0)), (1, .int v1), (2, .int v2), (3, .int v3), (4, .int v4), (5, .int v5), (6, .int v6), (7, .int (v7 + 1))]) [3, 4, 5, 6, 7, 8, 9, 0] rfl ?_
                exact ih (v7 + 1) (msA (msA S 22 ((16 * v1) + (v2 ||| v7)).toNatClampNeg v5) 23 ((16 * v1) + (v2 ||| v7)).toNatClampNeg v6) h kk
set_option maxHeartbeats 4000000 in
set_option maxRecDepth 100000 in
theorem c_X10_mark (l : Launch) (G : zGT) (q : Nat → Nat) (S : MS) (X : va_W) (fu : Nat) (a1 : Int32) (a2 : Int32) (a3 : Int32) (a4 : Int32) (a5 : Int32) (a6 : Int32) {res : MS} (h : f_X10_mark fu S a1 a2 a3 a4 a5 a6 = some res) : MG l yX10_mark wsX10_mark ({ frames := 1, cells := 0, slots := 0, locals := 20 }) G [.ref (q 0), .int a1, .int a2, .int a3, .int a4, .int a5, .int a6] (MW G q S ++ X) (va_Qv (fun u => u = MW G q res ++ X)) := by
  have hi10 : ∀ w ∈ u_ws RX10 TX10 39, w ∈ wsX10_mark := fun _ h => List.mem_cons_of_mem _ (List.mem_append_right _ h)
  refine MG.of (cc := cX10_mark) (maxL := 10) (ret := none) (own := RX10) (nm := "mark") (by decide) rfl rfl rfl (Nat.le_of_ble_eq_true rfl) ?_
  intro p e s m args below meth c A C
  rw [f_X10_mark] at h
  refine z_eq (lv2 := [(0, .ref (q 0)), (1, .int a1), (2, .int a2), (3, .int a3), (4, .int a4), (5, .int a5), (6, .int a6)]) rfl rfl rfl rfl ?_
  refine z_iconst (v := 0) C dX10_mark_0 (by decide) ?_
  refine z_istore (lv2 := [(7, .int 0), (0, .ref (q 0)), (1, .int a1), (2, .int a2), (3, .int a3), (4, .int a4), (5, .int a5), (6, .int a6)]) C dX10_mark_1 (by decide) rfl ?_
  refine z_lv (lv2 := [(0, .ref (q 0)), (1, .int a1), (2, .int a2), (3, .int a3), (4, .int a4), (5, .int a5), (6, .int a6), (7, .int 0)]) [1, 2, 3, 4, 5, 6, 7, 0] rfl ?_
  obtain ⟨r22, hf23, h⟩ := bd_some h
  refine L_X10_mark_3 C a1 a2 a3 a4 a5 a6 fu 0 S hf23 ?_
  injection h with h
  subst h
  exact z_ret C rfl rfl dX10_mark_136
def f_X10_goWave_L14 (fu : Nat) (v1 : Int32) (v3 : Int32) : Nat → Int32 → Int32 → MS → Option (Int32 × Int32 × MS)
  | 0, _, _, _ => none
  | n + 1, v2, v4, S => if (mI S 2) < v4 then some (v2, v4, S) else gd v3 1936 (if (mA S 22 v3.toNatClampNeg) = v1 then if 120 < ((v3 / 16) + v4) then f_X10_goWave_L14 fu v1 v3 n v2 (v4 + 1) S else (f_X10_goodAt fu S ((mI S 6) + ((v3 / 16) + v4))).bind fun r7 => if v1 = 0 then (f_X10_mark fu S ((v3 / 16) + v4) (v3 - v3 / 16 * 16) r7 (mI S 3) (v1 + 1) v4).bind fun r13 => f_X10_goWave_L14 fu v1 v3 n 1 (v4 + 1) r13 else gd v3 1936 ((f_X10_mark fu S ((v3 / 16) + v4) (v3 - v3 / 16 * 16) r7 (mI S 3) (v1 + 1) (mA S 23 v3.toNatClampNeg)).bind fun r11 => f_X10_goWave_L14 fu v1 v3 n 1 (v4 + 1) r11) else some (v2, v4, S))
def f_X10_goWave_L4 (fu : Nat) (v1 : Int32) : Nat → Int32 → Int32 → MS → Option (Int32 × Int32 × MS)
  | 0, _, _, _ => none
  | n + 1, v2, v3, S => if 1936 ≤ v3 then some (v2, v3, S) else (f_X10_goWave_L14 fu v1 v3 fu v2 1 S).bind fun r2 => f_X10_goWave_L4 fu v1 n r2.1 (v3 + 1) r2.2.2
def f_X10_goWave (fu : Nat) (S : MS) (a1 : Int32) : Option (Int32 × MS) := (f_X10_goWave_L4 fu a1 fu 0 0 S).bind fun r4 => gb r4.1 (some (r4.1, r4.2.2))
set_option maxHeartbeats 4000000 in
set_option maxRecDepth 100000 in
theorem L_X10_goWave_14 {p : Program} {l : Launch} {e : Env} {s : State} {m : MethodId} {args : Array Value} {below : List Frame} {meth : Method} {c : Code} {A : Nat → Prop} {G : zGT} {q : Nat → Nat} {X : va_W} {fu : Nat} {Q : State → Prop} (C : zC p s m args meth c A G cX10_goWave 6 (some .boolean) RX10 "goWave" wsX10_goWave) (v1 : Int32) (v3 : Int32) : ∀ (n : Nat) (v2 : Int32) (v4 : Int32) (S : MS) {res : Int32 × Int32 × MS}, f_X10_goWave_L14 fu v1 v3 n v2 v4 S = some res → Z p l e ({ frames := 3, cells := 0, slots := 0, locals := 67 }) s m args below meth c A G 6 Q 0 0 (MW G q res.2.2 ++ X) [(0, .ref (q 0)), (1, .int v1), (2, .int res.1), (3, .int v3), (4, .int res.2.1)] 100 [] → Z p l e ({ frames := 3, cells := 0, slots := 0, locals := 67 }) s m args below meth c A G 6 Q 0 0 (MW G q S ++ X) [(0, .ref (q 0)), (1, .int v1), (2, .int v2), (3, .int v3), (4, .int v4)] 14 [] := by
  have hi10 : ∀ w ∈ u_ws RX10 TX10 39, w ∈ wsX10_goWave := fun _ h => List.mem_cons_of_mem _ (List.mem_append_right _ h)
  intro n
  induction n with
  | zero =>
    intro v2 v4 S res h kk
    exact nomatch (h : none = some _)
  | succ n ih =>
    intro v2 v4 S res h kk
    rw [f_X10_goWave_L14] at h
    refine z_iload C 4 dX10_goWave_14 rfl ?_
    refine z_aload_n C 0 dX10_goWave_16 rfl rfl ?_
    refine mg_2 C hi10 (List.mem_of_getElem? (i := 1) rfl) dX10_goWave_17 ?_
    refine z_icmp_gt (tgt := 100) C dX10_goWave_20 (by decide) (fun c2 => ?_) (fun c2 => ?_)
    · replace h := zt c2 h
      injection h with h
      subst h
      refine z_lv (lv2 := [(0, .ref (q 0)), (1, .int v1), (2, .int v2), (3, .int v3), (4, .int v4)]) [0, 1, 2, 3, 4] rfl ?_
      exact kk
    · replace h := zf c2 h
      refine z_aload_n C 0 dX10_goWave_23 rfl rfl ?_
      refine mg_22 C hi10 (List.mem_of_getElem? (i := 2) rfl) dX10_goWave_24 ?_
      refine z_iload_n C 3 dX10_goWave_27 rfl rfl ?_
      obtain ⟨hg3, h⟩ := gd_some h
      refine ml_22 C hg3 dX10_goWave_28 ?_
      refine z_iload_n C 1 dX10_goWave_29 rfl rfl ?_
      refine z_icmp_ne (tgt := 100) C dX10_goWave_30 (by decide) (fun c4 => ?_) (fun c4 => ?_)
      · replace h := zf c4 h
        injection h with h
        subst h
        refine z_lv (lv2 := [(0, .ref (q 0)), (1, .int v1), (2, .int v2), (3, .int v3), (4, .int v4)]) [0, 1, 2, 3, 4] rfl ?_
        exact kk
      · replace h := zt c4 h
        refine z_iload_n C 3 dX10_goWave_33 rfl rfl ?_
        refine z_bipush (v := 16) C dX10_goWave_34 (by decide) ?_
        refine z_idiv C dX10_goWave_36 (by decide) ?_
        refine z_iload C 4 dX10_goWave_37 rfl ?_
        refine z_iadd C dX10_goWave_39 ?_
        refine z_istore (lv2 := [(5, .int ((v3 / 16) + v4)), (0, .ref (q 0)), (1, .int v1), (2, .int v2), (3, .int v3), (4, .int v4)]) C dX10_goWave_40 (by decide) rfl ?_
        refine z_iload C 0 dX10_goWave_42 rfl ?_
        refine z_bipush (v := 120) C dX10_goWave_44 (by decide) ?_
        refine z_icmp_gt (tgt := 94) C dX10_goWave_46 (by decide) (fun c5 => ?_) (fun c5 => ?_)
        · replace h := zt c5 h
          refine z_iinc (v := (v4 + 1)) (lv2 := [(4, .int (v4 + 1)), (5, .int ((v3 / 16) + v4)), (0, .ref (q 0)), (1, .int v1), (2, .int v2), (3, .int v3)]) C 5 dX10_goWave_94 rfl rfl (by decide) rfl ?_
          refine z_goto (tgt := 14) C dX10_goWave_97 (by decide) ?_
          refine z_lv (lv2 := [(0, .ref (q 0)), (1, .int v1), (2, .int v2), (3, .int v3), (4, .int (v4 + 1))]) [2, 3, 4, 5, 0] rfl ?_
          exact ih v2 (v4 + 1) S h kk
        · replace h := zf c5 h
          refine z_aload_n C 1 dX10_goWave_49 rfl rfl ?_
          refine z_iload C 0 dX10_goWave_50 rfl ?_
          refine z_iload_n C 4 dX10_goWave_52 rfl rfl ?_
          refine z_bipush (v := 16) C dX10_goWave_53 (by decide) ?_
          refine z_irem C dX10_goWave_55 (by decide) ?_
          refine z_aload_n C 1 dX10_goWave_56 rfl rfl ?_
          refine z_aload_n C 1 dX10_goWave_57 rfl rfl ?_
          refine mg_6 C hi10 (List.mem_of_getElem? (i := 3) rfl) dX10_goWave_58 ?_
          refine z_iload C 0 dX10_goWave_61 rfl ?_
          refine z_iadd C dX10_goWave_63 ?_
          obtain ⟨r7, hf6, h⟩ := bd_some h
          refine z_goti1 C (z_runV C (c_X10_goodAt l G q S X fu ((mI S 6) + ((v3 / 16) + v4)) hf6) (cwV 1 C.hts gX10_goWave_X10_goodAt rfl rfl rfl (by decide +kernel) ⟨Nat.le_of_ble_eq_true rfl, Nat.le_of_ble_eq_true rfl⟩) 0 rfl rfl rfl rfl (Nat.le_of_ble_eq_true rfl) dX10_goWave_64 ⟨Nat.le_of_ble_eq_true rfl, Nat.le_of_ble_eq_true rfl⟩) rfl rfl ?_
          refine z_aload_n C 1 dX10_goWave_67 rfl rfl ?_
          refine mg_3 C hi10 (List.mem_of_getElem? (i := 4) rfl) dX10_goWave_68 ?_
          refine z_iload_n C 2 dX10_goWave_71 rfl rfl ?_
          refine z_iconst (v := 1) C dX10_goWave_72 (by decide) ?_
          refine z_iadd C dX10_goWave_73 ?_
          refine z_iload_n C 2 dX10_goWave_74 rfl rfl ?_
          refine z_if_ne (tgt := 83) C dX10_goWave_75 (by decide) (fun c8 => ?_) (fun c8 => ?_)
          · replace h := zf c8 h
            refine z_aload_n C 1 dX10_goWave_83 rfl rfl ?_
            refine mg_23 C hi10 (List.mem_of_getElem? (i := 5) rfl) dX10_goWave_84 ?_
            refine z_iload_n C 4 dX10_goWave_87 rfl rfl ?_
            obtain ⟨hg9, h⟩ := gd_some h
            refine ml_23 C hg9 dX10_goWave_88 ?_
            obtain ⟨r11, hf10, h⟩ := bd_some h
            refine z_gotv1 C (z_runV C (c_X10_mark l G q S X fu ((v3 / 16) + v4) (v3 - v3 / 16 * 16) r7 (mI S 3) (v1 + 1) (mA S 23 v3.toNatClampNeg) hf10) (cwV 6 C.hts gX10_goWave_X10_mark rfl rfl rfl (by decide +kernel) ⟨Nat.le_of_ble_eq_true rfl, Nat.le_of_ble_eq_true rfl⟩) 0 rfl rfl rfl rfl (Nat.le_of_ble_eq_true rfl) dX10_goWave_89 ⟨Nat.le_of_ble_eq_true rfl, Nat.le_of_ble_eq_true rfl⟩) rfl rfl ?_
            refine z_iconst (v := 1) C dX10_goWave_92 (by decide) ?_
            refine z_istore_n (lv2 := [(2, .int 1), (5, .int ((v3 / 16) + v4)), (0, .ref (q 0)), (1, .int v1), (3, .int v3), (4, .int v4)]) C dX10_goWave_93 rfl (by decide) rfl ?_
            refine z_iinc (v := (v4 + 1)) (lv2 := [(4, .int (v4 + 1)), (2, .int 1), (5, .int ((v3 / 16) + v4)), (0, .ref (q 0)), (1, .int v1), (3, .int v3)]) C 5 dX10_goWave_94 rfl rfl (by decide) rfl ?_
            refine z_goto (tgt := 14) C dX10_goWave_97 (by decide) ?_
            refine z_lv (lv2 := [(0, .ref (q 0)), (1, .int v1), (2, .int 1), (3, .int v3), (4, .int (v4 + 1))]) [3, 4, 1, 5, 0] rfl ?_
            exact ih 1 (v4 + 1) r11 h kk
          · replace h := zt c8 h
            refine z_iload C 5 dX10_goWave_78 rfl ?_
            refine z_goto (tgt := 89) C dX10_goWave_80 (by decide) ?_
            obtain ⟨r13, hf12, h⟩ := bd_some h
            refine z_gotv1 C (z_runV C (c_X10_mark l G q S X fu ((v3 / 16) + v4) (v3 - v3 / 16 * 16) r7 (mI S 3) (v1 + 1) v4 hf12) (cwV 6 C.hts gX10_goWave_X10_mark rfl rfl rfl (by decide +kernel) ⟨Nat.le_of_ble_eq_true rfl, Nat.le_of_ble_eq_true rfl⟩) 0 rfl rfl rfl rfl (Nat.le_of_ble_eq_true rfl) dX10_goWave_89 ⟨Nat.le_of_ble_eq_true rfl, Nat.le_of_ble_eq_true rfl⟩) rfl rfl ?_
            refine z_iconst (v := 1) C dX10_goWave_92 (by decide) ?_
            refine z_istore_n (lv2 := [(2, .int 1), (5, .int ((v3 / 16) + v4)), (0, .ref (q 0)), (1, .int v1), (3, .int v3), (4, .int v4)]) C dX10_goWave_93 rfl (by decide) rfl ?_
            refine z_iinc (v := (v4 + 1)) (lv2 := [(4, .int (v4 + 1)), (2, .int 1), (5, .int ((v3 / 16) + v4)), (0, .ref (q 0)), (1, .int v1), (3, .int v3)]) C 5 dX10_goWave_94 rfl rfl (by decide) rfl ?_
            refine z_goto (tgt := 14) C dX10_goWave_97 (by decide) ?_
            refine z_lv (lv2 := [(0, .ref (q 0)), (1, .int v1), (2, .int 1), (3, .int v3), (4, .int (v4 + 1))]) [3, 4, 1, 5, 0] rfl ?_
            exact ih 1 (v4 + 1) r13 h kk
set_option maxHeartbeats 4000000 in
set_option maxRecDepth 100000 in
theorem L_X10_goWave_4 {p : Program} {l : Launch} {e : Env} {s : State} {m : MethodId} {args : Array Value} {below : List Frame} {meth : Method} {c : Code} {A : Nat → Prop} {G : zGT} {q : Nat → Nat} {X : va_W} {fu : Nat} {Q : State → Prop} (C : zC p s m args meth c A G cX10_goWave 6 (some .boolean) RX10 "goWave" wsX10_goWave) (v1 : Int32) : ∀ (n : Nat) (v2 : Int32) (v3 : Int32) (S : MS) {res : Int32 × Int32 × MS}, f_X10_goWave_L4 fu v1 n v2 v3 S = some res → Z p l e ({ frames := 3, cells := 0, slots := 0, locals := 67 }) s m args below meth c A G 6 Q 0 0 (MW G q res.2.2 ++ X) [(0, .ref (q 0)), (1, .int v1), (2, .int res.1), (3, .int res.2.1)] 106 [] → Z p l e ({ frames := 3, cells := 0, slots := 0, locals := 67 }) s m args below meth c A G 6 Q 0 0 (MW G q S ++ X) [(0, .ref (q 0)), (1, .int v1), (2, .int v2), (3, .int v3)] 4 [] := by
  have hi10 : ∀ w ∈ u_ws RX10 TX10 39, w ∈ wsX10_goWave := fun _ h => List.mem_cons_of_mem _ (List.mem_append_right _ h)
  intro n
  induction n with
  | zero =>
    intro v2 v3 S res h kk
    exact nomatch (h : none = some _)
  | succ n ih =>
    intro v2 v3 S res h kk
    rw [f_X10_goWave_L4] at h
    refine z_iload_n C 3 dX10_goWave_4 rfl rfl ?_
    refine z_sipush (v := 1936) C dX10_goWave_5 (by decide) ?_
    refine z_icmp_ge (tgt := 106) C dX10_goWave_8 (by decide) (fun c1 => ?_) (fun c1 => ?_)
    · replace h := zt c1 h
      injection h with h
      subst h
      refine z_lv (lv2 := [(0, .ref (q 0)), (1, .int v1), (2, .int v2), (3, .int v3)]) [0, 1, 2, 3] rfl ?_
      exact kk
    · replace h := zf c1 h
      refine z_iconst (v := 1) C dX10_goWave_11 (by decide) ?_
      refine z_istore (lv2 := [(4, .int 1), (0, .ref (q 0)), (1, .int v1), (2, .int v2), (3, .int v3)]) C dX10_goWave_12 (by decide) rfl ?_
      refine z_lv (lv2 := [(0, .ref (q 0)), (1, .int v1), (2, .int v2), (3, .int v3), (4, .int 1)]) [1, 2, 3, 4, 0] rfl ?_
      obtain ⟨r2, hf3, h⟩ := bd_some h
      refine L_X10_goWave_14 C v1 v3 fu v2 1 S hf3 ?_
      refine z_iinc (v := (v3 + 1)) (lv2 := [(3, .int (v3 + 1)), (0, .ref (q 0)), (1, .int v1), (2, .int r2.1), (4, .int r2.2.1)]) C 3 dX10_goWave_100 rfl rfl (by decide) rfl ?_
      refine z_goto (tgt := 4) C dX10_goWave_103 (by decide) ?_
      refine z_lv (lv2 := [(0, .ref (q 0)), (1, .int v1), (2, .int r2.1), (3, .int (v3 + 1))]) [1, 2, 3, 0] rfl ?_
      exact ih r2.1 (v3 + 1) r2.2.2 h kk
set_option maxHeartbeats 4000000 in
set_option maxRecDepth 100000 in
theorem c_X10_goWave (l : Launch) (G : zGT) (q : Nat → Nat) (S : MS) (X : va_W) (fu : Nat) (a1 : Int32) {res : Int32 × MS} (h : f_X10_goWave fu S a1 = some res) : MG l yX10_goWave wsX10_goWave ({ frames := 3, cells := 0, slots := 0, locals := 67 }) G [.ref (q 0), .int a1] (MW G q S ++ X) (va_Qi (fun r u => r = res.1 ∧ u = MW G q res.2 ++ X)) := by
  have hi10 : ∀ w ∈ u_ws RX10 TX10 39, w ∈ wsX10_goWave := fun _ h => List.mem_cons_of_mem _ (List.mem_append_right _ h)
  refine MG.of (cc := cX10_goWave) (maxL := 6) (ret := (some .boolean)) (own := RX10) (nm := "goWave") (by decide) rfl rfl rfl (Nat.le_of_ble_eq_true rfl) ?_
  intro p e s m args below meth c A C
  rw [f_X10_goWave] at h
  refine z_eq (lv2 := [(0, .ref (q 0)), (1, .int a1)]) rfl rfl rfl rfl ?_
  refine z_iconst (v := 0) C dX10_goWave_0 (by decide) ?_
  refine z_istore_n (lv2 := [(2, .int 0), (0, .ref (q 0)), (1, .int a1)]) C dX10_goWave_1 rfl (by decide) rfl ?_
  refine z_iconst (v := 0) C dX10_goWave_2 (by decide) ?_
  refine z_istore_n (lv2 := [(3, .int 0), (2, .int 0), (0, .ref (q 0)), (1, .int a1)]) C dX10_goWave_3 rfl (by decide) rfl ?_
  refine z_lv (lv2 := [(0, .ref (q 0)), (1, .int a1), (2, .int 0), (3, .int 0)]) [2, 3, 1, 0] rfl ?_
  obtain ⟨r4, hf5, h⟩ := bd_some h
  refine L_X10_goWave_4 C a1 fu 0 0 S hf5 ?_
  refine z_iload_n C 2 dX10_goWave_106 rfl rfl ?_
  obtain ⟨hb6, h⟩ := gb_some h
  injection h with h
  subst h
  exact z_zret C rfl hb6 ⟨rfl, rfl⟩ dX10_goWave_107
def f_X10_planNow_L4 (fu : Nat) (v1 : Int32) : Nat → Int32 → Int32 → MS → Option (Int32 × Int32)
  | 0, _, _, _ => none
  | n + 1, v2, v3, S => if (mI S 1) ≤ v3 then some (v2, v3) else (f_X10_boils S v3).bind fun r3 => if r3 = 0 then f_X10_planNow_L4 fu v1 n (v2 ||| 0) (v3 + 1) S else f_X10_planNow_L4 fu v1 n (v2 ||| (1 <<< (v3 &&& 31))) (v3 + 1) S
def f_X10_planNow_L38 (fu : Nat) (v1 : Int32) (v2 : Int32) : Nat → Int32 → MS → Option (Int32 × MS)
  | 0, _, _ => none
  | n + 1, v3, S => if 1936 ≤ v3 then some (v3, S) else gd v3 1936 (gd v3 1936 (f_X10_planNow_L38 fu v1 v2 n (v3 + 1) (msA (msA S 22 v3.toNatClampNeg (-1)) 23 v3.toNatClampNeg (-1))))
def f_X10_planNow_L87 (fu : Nat) (v1 : Int32) (v2 : Int32) : Nat → Int32 → MS → Option (Int32 × MS)
  | 0, _, _ => none
  | n + 1, v3, S => (f_X10_goWave fu S v3).bind fun r17 => if r17.1 = 0 then some (v3, r17.2) else f_X10_planNow_L87 fu v1 v2 n (v3 + 1) r17.2
def f_X10_planNow_L112 (fu : Nat) (v1 : Int32) (v2 : Int32) (v3 : Int32) : Nat → Int32 → Int32 → Int32 → MS → Option (Int32 × Int32 × Int32)
  | 0, _, _, _, _ => none
  | n + 1, v4, v5, v6, S => if 120 < v6 then some (v4, v5, v6) else gd ((16 * v6) + v2) 1936 (if (mA S 22 ((16 * v6) + v2).toNatClampNeg) = (-1) then f_X10_planNow_L112 fu v1 v2 v3 n v4 v5 (v6 + 1) S else gd ((16 * v6) + v2) 1936 (if (mA S 22 ((16 * v6) + v2).toNatClampNeg) < v4 then gd ((16 * v6) + v2) 1936 (gd ((16 * v6) + v2) 1936 (f_X10_planNow_L112 fu v1 v2 v3 n (mA S 22 ((16 * v6) + v2).toNatClampNeg) (mA S 23 ((16 * v6) + v2).toNatClampNeg) (v6 + 1) S)) else gd ((16 * v6) + v2) 1936 (if (mA S 22 ((16 * v6) + v2).toNatClampNeg) = v4 then gd ((16 * v6) + v2) 1936 (if v5 ≤ (mA S 23 ((16 * v6) + v2).toNatClampNeg) then f_X10_planNow_L112 fu v1 v2 v3 n v4 v5 (v6 + 1) S else gd ((16 * v6) + v2) 1936 (gd ((16 * v6) + v2) 1936 (f_X10_planNow_L112 fu v1 v2 v3 n (mA S 22 ((16 * v6) + v2).toNatClampNeg) (mA S 23 ((16 * v6) + v2).toNatClampNeg) (v6 + 1) S))) else f_X10_planNow_L112 fu v1 v2 v3 n v4 v5 (v6 + 1) S)))
def f_X10_planNow (fu : Nat) (S : MS) (a1 : Int32) : Option (Int32 × MS) := (f_X10_planNow_L4 fu a1 fu 0 0 S).bind fun r5 => (f_X10_planNow_L38 fu a1 r5.1 fu 0 S).bind fun r10 => (f_X10_goodAt fu r10.2 (mI r10.2 6)).bind fun r13 => (f_X10_mark fu r10.2 0 0 r13 (mI r10.2 7) 0 (-1)).bind fun r15 => (f_X10_planNow_L87 fu a1 r5.1 fu 0 r15).bind fun r19 => (f_X10_planNow_L112 fu a1 r5.1 r19.1 fu 268435456 268435456 0 r19.2).bind fun r34 => if r34.1 = 268435456 then some ((-1), r19.2) else if a1 = 0 then some (r34.1, r19.2) else some (r34.2.1, r19.2)
set_option maxHeartbeats 4000000 in
set_option maxRecDepth 100000 in
theorem L_X10_planNow_4 {p : Program} {l : Launch} {e : Env} {s : State} {m : MethodId} {args : Array Value} {below : List Frame} {meth : Method} {c : Code} {A : Nat → Prop} {G : zGT} {q : Nat → Nat} {X : va_W} {fu : Nat} {Q : State → Prop} (C : zC p s m args meth c A G cX10_planNow 9 (some .int) RX10 "planNow" wsX10_planNow) (v1 : Int32) : ∀ (n : Nat) (v2 : Int32) (v3 : Int32) (S : MS) {res : Int32 × Int32}, f_X10_planNow_L4 fu v1 n v2 v3 S = some res → Z p l e ({ frames := 4, cells := 0, slots := 0, locals := 92 }) s m args below meth c A G 9 Q 0 0 (MW G q S ++ X) [(0, .ref (q 0)), (1, .int v1), (2, .int res.1), (3, .int res.2)] 36 [] → Z p l e ({ frames := 4, cells := 0, slots := 0, locals := 92 }) s m args below meth c A G 9 Q 0 0 (MW G q S ++ X) [(0, .ref (q 0)), (1, .int v1), (2, .int v2), (3, .int v3)] 4 [] := by
  have hi10 : ∀ w ∈ u_ws RX10 TX10 39, w ∈ wsX10_planNow := fun _ h => List.mem_cons_of_mem _ (List.mem_append_right _ h)
  intro n
  induction n with
  | zero =>
    intro v2 v3 S res h kk
    exact nomatch (h : none = some _)
  | succ n ih =>
    intro v2 v3 S res h kk
    rw [f_X10_planNow_L4] at h
    refine z_iload_n C 3 dX10_planNow_4 rfl rfl ?_
    refine z_aload_n C 0 dX10_planNow_5 rfl rfl ?_
    refine mg_1 C hi10 (List.mem_of_getElem? (i := 1) rfl) dX10_planNow_6 ?_
    refine z_icmp_ge (tgt := 36) C dX10_planNow_9 (by decide) (fun c1 => ?_) (fun c1 => ?_)
    · replace h := zt c1 h
      injection h with h
      subst h
      refine z_lv (lv2 := [(0, .ref (q 0)), (1, .int v1), (2, .int v2), (3, .int v3)]) [0, 1, 2, 3] rfl ?_
      exact kk
    · replace h := zf c1 h
      refine z_iload_n C 2 dX10_planNow_12 rfl rfl ?_
      refine z_aload_n C 0 dX10_planNow_13 rfl rfl ?_
      refine z_iload_n C 3 dX10_planNow_14 rfl rfl ?_
      obtain ⟨r3, hf2, h⟩ := bd_some h
      refine z_goti1 C (z_runV C (c_X10_boils l G q S X v3 hf2) (cwV 1 C.hts gX10_planNow_X10_boils rfl rfl rfl (by decide +kernel) ⟨Nat.le_of_ble_eq_true rfl, Nat.le_of_ble_eq_true rfl⟩) 0 rfl rfl rfl rfl (Nat.le_of_ble_eq_true rfl) dX10_planNow_15 ⟨Nat.le_of_ble_eq_true rfl, Nat.le_of_ble_eq_true rfl⟩) rfl rfl ?_
      refine z_if_eq (tgt := 27) C dX10_planNow_18 (by decide) (fun c4 => ?_) (fun c4 => ?_)
      · replace h := zt c4 h
        refine z_iconst (v := 0) C dX10_planNow_27 (by decide) ?_
        refine z_ior C dX10_planNow_28 ?_
        refine z_istore_n (lv2 := [(2, .int (v2 ||| 0)), (0, .ref (q 0)), (1, .int v1), (3, .int v3)]) C dX10_planNow_29 rfl (by decide) rfl ?_
        refine z_iinc (v := (v3 + 1)) (lv2 := [(3, .int (v3 + 1)), (2, .int (v2 ||| 0)), (0, .ref (q 0)), (1, .int v1)]) C 3 dX10_planNow_30 rfl rfl (by decide) rfl ?_
        refine z_goto (tgt := 4) C dX10_planNow_33 (by decide) ?_
        refine z_lv (lv2 := [(0, .ref (q 0)), (1, .int v1), (2, .int (v2 ||| 0)), (3, .int (v3 + 1))]) [2, 3, 1, 0] rfl ?_
        exact ih (v2 ||| 0) (v3 + 1) S h kk
      · replace h := zf c4 h
        refine z_iconst (v := 1) C dX10_planNow_21 (by decide) ?_
        refine z_iload_n C 3 dX10_planNow_22 rfl rfl ?_
        refine z_ishl C dX10_planNow_23 ?_
        refine z_goto (tgt := 28) C dX10_planNow_24 (by decide) ?_
        refine z_ior C dX10_planNow_28 ?_
        refine z_istore_n (lv2 := [(2, .int (v2 ||| (1 <<< (v3 &&& 31)))), (0, .ref (q 0)), (1, .int v1), (3, .int v3)]) C dX10_planNow_29 rfl (by decide) rfl ?_
        refine z_iinc (v := (v3 + 1)) (lv2 := [(3, .int (v3 + 1)), (2, .int (v2 ||| (1 <<< (v3 &&& 31)))), (0, .ref (q 0)), (1, .int v1)]) C 3 dX10_planNow_30 rfl rfl (by decide) rfl ?_
        refine z_goto (tgt := 4) C dX10_planNow_33 (by decide) ?_
        refine z_lv (lv2 := [(0, .ref (q 0)), (1, .int v1), (2, .int (v2 ||| (1 <<< (v3 &&& 31)))), (3, .int (v3 + 1))]) [2, 3, 1, 0] rfl ?_
        exact ih (v2 ||| (1 <<< (v3 &&& 31))) (v3 + 1) S h kk
set_option maxHeartbeats 4000000 in
set_option maxRecDepth 100000 in
theorem L_X10_planNow_38 {p : Program} {l : Launch} {e : Env} {s : State} {m : MethodId} {args : Array Value} {below : List Frame} {meth : Method} {c : Code} {A : Nat → Prop} {G : zGT} {q : Nat → Nat} {X : va_W} {fu : Nat} {Q : State → Prop} (C : zC p s m args meth c A G cX10_planNow 9 (some .int) RX10 "planNow" wsX10_planNow) (v1 : Int32) (v2 : Int32) : ∀ (n : Nat) (v3 : Int32) (S : MS) {res : Int32 × MS}, f_X10_planNow_L38 fu v1 v2 n v3 S = some res → Z p l e ({ frames := 4, cells := 0, slots := 0, locals := 92 }) s m args below meth c A G 9 Q 0 0 (MW G q res.2 ++ X) [(0, .ref (q 0)), (1, .int v1), (2, .int v2), (3, .int res.1)] 65 [] → Z p l e ({ frames := 4, cells := 0, slots := 0, locals := 92 }) s m args below meth c A G 9 Q 0 0 (MW G q S ++ X) [(0, .ref (q 0)), (1, .int v1), (2, .int v2), (3, .int v3)] 38 [] := by
  have hi10 : ∀ w ∈ u_ws RX10 TX10 39, w ∈ wsX10_planNow := fun _ h => List.mem_cons_of_mem _ (List.mem_append_right _ h)
  intro n
  induction n with
  | zero =>
    intro v3 S res h kk
    exact nomatch (h : none = some _)
  | succ n ih =>
    intro v3 S res h kk
    rw [f_X10_planNow_L38] at h
    refine z_iload_n C 3 dX10_planNow_38 rfl rfl ?_
    refine z_sipush (v := 1936) C dX10_planNow_39 (by decide) ?_
    refine z_icmp_ge (tgt := 65) C dX10_planNow_42 (by decide) (fun c7 => ?_) (fun c7 => ?_)
    · replace h := zt c7 h
      injection h with h
      subst h
      refine z_lv (lv2 := [(0, .ref (q 0)), (1, .int v1), (2, .int v2), (3, .int v3)]) [0, 1, 2, 3] rfl ?_
      exact kk
    · replace h := zf c7 h
      refine z_aload_n C 0 dX10_planNow_45 rfl rfl ?_
      refine mg_22 C hi10 (List.mem_of_getElem? (i := 2) rfl) dX10_planNow_46 ?_
      refine z_iload_n C 3 dX10_planNow_49 rfl rfl ?_
      refine z_iconst (v := (-1)) C dX10_planNow_50 (by decide) ?_
      obtain ⟨hg8, h⟩ := gd_some h
      refine mt_22 C hg8 dX10_planNow_51 ?_
      refine z_aload_n C 0 dX10_planNow_52 rfl rfl ?_
      refine mg_23 C hi10 (List.mem_of_getElem? (i := 3) rfl) dX10_planNow_53 ?_
      refine z_iload_n C 3 dX10_planNow_56 rfl rfl ?_
      refine z_iconst (v := (-1)) C dX10_planNow_57 (by decide) ?_
      obtain ⟨hg9, h⟩ := gd_some h
      refine mt_23 C hg9 dX10_planNow_58 ?_
      refine z_iinc (v := (v3 + 1)) (lv2 := [(3, .int (v3 + 1)), (0, .ref (q 0)), (1, .int v1), (2, .int v2)]) C 3 dX10_planNow_59 rfl rfl (by decide) rfl ?_
      refine z_goto (tgt := 38) C dX10_planNow_62 (by decide) ?_
      refine z_lv (lv2 := [(0, .ref (q 0)), (1, .int v1), (2, .int v2), (3, .int (v3 + 1))]) [1, 2, 3, 0] rfl ?_
      exact ih (v3 + 1) (msA (msA S 22 v3.toNatClampNeg (-1)) 23 v3.toNatClampNeg (-1)) h kk
set_option maxHeartbeats 4000000 in
set_option maxRecDepth 100000 in
theorem L_X10_planNow_87 {p : Program} {l : Launch} {e : Env} {s : State} {m : MethodId} {args : Array Value} {below : List Frame} {meth : Method} {c : Code} {A : Nat → Prop} {G : zGT} {q : Nat → Nat} {X : va_W} {fu : Nat} {Q : State → Prop} (C : zC p s m args meth c A G cX10_planNow 9 (some .int) RX10 "planNow" wsX10_planNow) (v1 : Int32) (v2 : Int32) : ∀ (n : Nat) (v3 : Int32) (S : MS) {res : Int32 × MS}, f_X10_planNow_L87 fu v1 v2 n v3 S = some res → Z p l e ({ frames := 4, cells := 0, slots := 0, locals := 92 }) s m args below meth c A G 9 Q 0 0 (MW G q res.2 ++ X) [(0, .ref (q 0)), (1, .int v1), (2, .int v2), (3, .int res.1)] 101 [] → Z p l e ({ frames := 4, cells := 0, slots := 0, locals := 92 }) s m args below meth c A G 9 Q 0 0 (MW G q S ++ X) [(0, .ref (q 0)), (1, .int v1), (2, .int v2), (3, .int v3)] 87 [] := by
  have hi10 : ∀ w ∈ u_ws RX10 TX10 39, w ∈ wsX10_planNow := fun _ h => List.mem_cons_of_mem _ (List.mem_append_right _ h)
  intro n
  induction n with
  | zero =>
    intro v3 S res h kk
    exact nomatch (h : none = some _)
  | succ n ih =>
    intro v3 S res h kk
    rw [f_X10_planNow_L87] at h
    refine z_aload_n C 0 dX10_planNow_87 rfl rfl ?_
    refine z_iload_n C 3 dX10_planNow_88 rfl rfl ?_
    obtain ⟨r17, hf16, h⟩ := bd_some h
    refine z_goti1 C (z_runV C (c_X10_goWave l G q S X fu v3 hf16) (cwV 1 C.hts gX10_planNow_X10_goWave rfl rfl rfl (by decide +kernel) ⟨Nat.le_of_ble_eq_true rfl, Nat.le_of_ble_eq_true rfl⟩) 0 rfl rfl rfl rfl (Nat.le_of_ble_eq_true rfl) dX10_planNow_89 ⟨Nat.le_of_ble_eq_true rfl, Nat.le_of_ble_eq_true rfl⟩) rfl rfl ?_
    refine z_if_eq (tgt := 101) C dX10_planNow_92 (by decide) (fun c18 => ?_) (fun c18 => ?_)
    · replace h := zt c18 h
      injection h with h
      subst h
      refine z_lv (lv2 := [(0, .ref (q 0)), (1, .int v1), (2, .int v2), (3, .int v3)]) [0, 1, 2, 3] rfl ?_
      exact kk
    · replace h := zf c18 h
      refine z_iinc (v := (v3 + 1)) (lv2 := [(3, .int (v3 + 1)), (0, .ref (q 0)), (1, .int v1), (2, .int v2)]) C 3 dX10_planNow_95 rfl rfl (by decide) rfl ?_
      refine z_goto (tgt := 87) C dX10_planNow_98 (by decide) ?_
      refine z_lv (lv2 := [(0, .ref (q 0)), (1, .int v1), (2, .int v2), (3, .int (v3 + 1))]) [1, 2, 3, 0] rfl ?_
      exact ih (v3 + 1) r17.2 h kk
set_option maxHeartbeats 4000000 in
set_option maxRecDepth 100000 in
theorem L_X10_planNow_112 {p : Program} {l : Launch} {e : Env} {s : State} {m : MethodId} {args : Array Value} {below : List Frame} {meth : Method} {c : Code} {A : Nat → Prop} {G : zGT} {q : Nat → Nat} {X : va_W} {fu : Nat} {Q : State → Prop} (C : zC p s m args meth c A G cX10_planNow 9 (some .int) RX10 "planNow" wsX10_planNow) (v1 : Int32) (v2 : Int32) (v3 : Int32) : ∀ (n : Nat) (v4 : Int32) (v5 : Int32) (v6 : Int32) (S : MS) {res : Int32 × Int32 × Int32}, f_X10_planNow_L112 fu v1 v2 v3 n v4 v5 v6 S = some res → Z p l e ({ frames := 4, cells := 0, slots := 0, locals := 92 }) s m args below meth c A G 9 Q 0 0 (MW G q S ++ X) [(0, .ref (q 0)), (1, .int v1), (2, .int v2), (3, .int v3), (4, .int res.1), (5, .int res.2.1), (6, .int res.2.2)] 226 [] → Z p l e ({ frames := 4, cells := 0, slots := 0, locals := 92 }) s m args below meth c A G 9 Q 0 0 (MW G q S ++ X) [(0, .ref (q 0)), (1, .int v1), (2, .int v2), (3, .int v3), (4, .int v4), (5, .int v5), (6, .int v6)] 112 [] := by
  have hi10 : ∀ w ∈ u_ws RX10 TX10 39, w ∈ wsX10_planNow := fun _ h => List.mem_cons_of_mem _ (List.mem_append_right _ h)
  intro n
  induction n with
  | zero =>
    intro v4 v5 v6 S res h kk
    exact nomatch (h : none = some _)
  | succ n ih =>
    intro v4 v5 v6 S res h kk
    rw [f_X10_planNow_L112] at h
    refine z_iload C 6 dX10_planNow_112 rfl ?_
    refine z_bipush (v := 120) C dX10_planNow_114 (by decide) ?_
    refine z_icmp_gt (tgt := 226) C dX10_planNow_116 (by decide) (fun c21 => ?_) (fun c21 => ?_)
    · replace h := zt c21 h
      injection h with h
      subst h
      refine z_lv (lv2 := [(0, .ref (q 0)), (1, .int v1), (2, .int v2), (3, .int v3), (4, .int v4), (5, .int v5), (6, .int v6)]) [0, 1, 2, 3, 4, 5, 6] rfl ?_
      exact kk
    · replace h := zf c21 h
      refine z_bipush (v := 16) C dX10_planNow_119 (by decide) ?_
      refine z_iload C 6 dX10_planNow_121 rfl ?_
      refine z_imul C dX10_planNow_123 ?_
      refine z_iload_n C 2 dX10_planNow_124 rfl rfl ?_
      refine z_iadd C dX10_planNow_125 ?_
      refine z_istore (lv2 := [(7, .int ((16 * v6) + v2)), (0, .ref (q 0)), (1, .int v1), (2, .int v2), (3, .int v3), (4, .int v4), (5, .int v5), (6, .int v6)]) C dX10_planNow_126 (by decide) rfl ?_
      refine z_aload_n C 1 dX10_planNow_128 rfl rfl ?_
      refine mg_22 C hi10 (List.mem_of_getElem? (i := 2) rfl) dX10_planNow_129 ?_
      refine z_iload C 0 dX10_planNow_132 rfl ?_
      obtain ⟨hg22, h⟩ := gd_some h
      refine ml_22 C hg22 dX10_planNow_134 ?_
      refine z_iconst (v := (-1)) C dX10_planNow_135 (by decide) ?_
      refine z_icmp_eq (tgt := 179) C dX10_planNow_136 (by decide) (fun c23 => ?_) (fun c23 => ?_)
      · replace h := zt c23 h
        refine z_iconst (v := 0) C dX10_planNow_179 (by decide) ?_
        refine z_istore (lv2 := [(8, .int 0), (7, .int ((16 * v6) + v2)), (0, .ref (q 0)), (1, .int v1), (2, .int v2), (3, .int v3), (4, .int v4), (5, .int v5), (6, .int v6)]) C dX10_planNow_180 (by decide) rfl ?_
        refine z_iload C 0 dX10_planNow_182 rfl ?_
        refine z_if_eq (tgt := 197) C dX10_planNow_184 (by decide) (fun _ => ?_) (fun c => absurd (by decide) c)
        refine z_iload C 6 dX10_planNow_197 rfl ?_
        refine z_istore (lv2 := [(4, .int v4), (8, .int 0), (7, .int ((16 * v6) + v2)), (0, .ref (q 0)), (1, .int v1), (2, .int v2), (3, .int v3), (5, .int v5), (6, .int v6)]) C dX10_planNow_199 (by decide) rfl ?_
        refine z_iload C 1 dX10_planNow_201 rfl ?_
        refine z_if_eq (tgt := 216) C dX10_planNow_203 (by decide) (fun _ => ?_) (fun c => absurd (by decide) c)
        refine z_iload C 7 dX10_planNow_216 rfl ?_
        refine z_istore (lv2 := [(5, .int v5), (4, .int v4), (8, .int 0), (7, .int ((16 * v6) + v2)), (0, .ref (q 0)), (1, .int v1), (2, .int v2), (3, .int v3), (6, .int v6)]) C dX10_planNow_218 (by decide) rfl ?_
        refine z_iinc (v := (v6 + 1)) (lv2 := [(6, .int (v6 + 1)), (5, .int v5), (4, .int v4), (8, .int 0), (7, .int ((16 * v6) + v2)), (0, .ref (q 0)), (1, .int v1), (2, .int v2), (3, .int v3)]) C 8 dX10_planNow_220 rfl rfl (by decide) rfl ?_
        refine z_goto (tgt := 112) C dX10_planNow_223 (by decide) ?_
        refine z_lv (lv2 := [(0, .ref (q 0)), (1, .int v1), (2, .int v2), (3, .int v3), (4, .int v4), (5, .int v5), (6, .int (v6 + 1))]) [5, 6, 7, 8, 2, 1, 0] rfl ?_
        exact ih v4 v5 (v6 + 1) S h kk
      · replace h := zf c23 h
        refine z_aload_n C 1 dX10_planNow_139 rfl rfl ?_
        refine mg_22 C hi10 (List.mem_of_getElem? (i := 2) rfl) dX10_planNow_140 ?_
        refine z_iload C 0 dX10_planNow_143 rfl ?_
        obtain ⟨hg24, h⟩ := gd_some h
        refine ml_22 C hg24 dX10_planNow_145 ?_
        refine z_iload C 5 dX10_planNow_146 rfl ?_
        refine z_icmp_lt (tgt := 175) C dX10_planNow_148 (by decide) (fun c25 => ?_) (fun c25 => ?_)
        · replace h := zt c25 h
          refine z_iconst (v := 1) C dX10_planNow_175 (by decide) ?_
          refine z_goto (tgt := 180) C dX10_planNow_176 (by decide) ?_
          refine z_istore (lv2 := [(8, .int 1), (7, .int ((16 * v6) + v2)), (0, .ref (q 0)), (1, .int v1), (2, .int v2), (3, .int v3), (4, .int v4), (5, .int v5), (6, .int v6)]) C dX10_planNow_180 (by decide) rfl ?_
          refine z_iload C 0 dX10_planNow_182 rfl ?_
          refine z_if_eq (tgt := 197) C dX10_planNow_184 (by decide) (fun c => absurd c (by decide)) (fun _ => ?_)
          refine z_aload_n C 2 dX10_planNow_187 rfl rfl ?_
          refine mg_22 C hi10 (List.mem_of_getElem? (i := 2) rfl) dX10_planNow_188 ?_
          refine z_iload C 1 dX10_planNow_191 rfl ?_
          obtain ⟨hg26, h⟩ := gd_some h
          refine ml_22 C hg26 dX10_planNow_193 ?_
          refine z_goto (tgt := 199) C dX10_planNow_194 (by decide) ?_
          refine z_istore (lv2 := [(4, .int (mA S 22 ((16 * v6) + v2).toNatClampNeg)), (8, .int 1), (7, .int ((16 * v6) + v2)), (0, .ref (q 0)), (1, .int v1), (2, .int v2), (3, .int v3), (5, .int v5), (6, .int v6)]) C dX10_planNow_199 (by decide) rfl ?_
          refine z_iload C 1 dX10_planNow_201 rfl ?_
          refine z_if_eq (tgt := 216) C dX10_planNow_203 (by decide) (fun c => absurd c (by decide)) (fun _ => ?_)
          refine z_aload_n C 3 dX10_planNow_206 rfl rfl ?_
          refine mg_23 C hi10 (List.mem_of_getElem? (i := 3) rfl) dX10_planNow_207 ?_
          refine z_iload C 2 dX10_planNow_210 rfl ?_
          obtain ⟨hg27, h⟩ := gd_some h
          refine ml_23 C hg27 dX10_planNow_212 ?_
          refine z_goto (tgt := 218) C dX10_planNow_213 (by decide) ?_
          refine z_istore (lv2 := [(5, .int (mA S 23 ((16 * v6) + v2).toNatClampNeg)), (4, .int (mA S 22 ((16 * v6) + v2).toNatClampNeg)), (8, .int 1), (7, .int ((16 * v6) + v2)), (0, .ref (q 0)), (1, .int v1), (2, .int v2), (3, .int v3), (6, .int v6)]) C dX10_planNow_218 (by decide) rfl ?_
          refine z_iinc (v := (v6 + 1)) (lv2 := [(6, .int (v6 + 1)), (5, .int (mA S 23 ((16 * v6) + v2).toNatClampNeg)), (4, .int (mA S 22 ((16 * v6) + v2).toNatClampNeg)), (8, .int 1), (7, .int ((16 * v6) + v2)), (0, .ref (q 0)), (1, .int v1), (2, .int v2), (3, .int v3)]) C 8 dX10_planNow_220 rfl rfl (by decide) rfl ?_
          refine z_goto (tgt := 112) C dX10_planNow_223 (by decide) ?_
          refine z_lv (lv2 := [(0, .ref (q 0)), (1, .int v1), (2, .int v2), (3, .int v3), (4, .int (mA S 22 ((16 * v6) + v2).toNatClampNeg)), (5, .int (mA S 23 ((16 * v6) + v2).toNatClampNeg)), (6, .int (v6 + 1))]) [5, 6, 7, 8, 2, 1, 0] rfl ?_
          exact ih (mA S 22 ((16 * v6) + v2).toNatClampNeg) (mA S 23 ((16 * v6) + v2).toNatClampNeg) (v6 + 1) S h kk
        · replace h := zf c25 h
          refine z_aload_n C 1 dX10_planNow_151 rfl rfl ?_
          refine mg_22 C hi10 (List.mem_of_getElem? (i := 2) rfl) dX10_planNow_152 ?_
          refine z_iload C 0 dX10_planNow_155 rfl ?_
          obtain ⟨hg28, h⟩ := gd_some h
          refine ml_22 C hg28 dX10_planNow_157 ?_
          refine z_iload C 5 dX10_planNow_158 rfl ?_
          refine z_icmp_ne (tgt := 179) C dX10_planNow_160 (by decide) (fun c29 => ?_) (fun c29 => ?_)
          · replace h := zf c29 h
            refine z_iconst (v := 0) C dX10_planNow_179 (by decide) ?_
            refine z_istore (lv2 := [(8, .int 0), (7, .int ((16 * v6) + v2)), (0, .ref (q 0)), (1, .int v1), (2, .int v2), (3, .int v3), (4, .int v4), (5, .int v5), (6, .int v6)]) C dX10_planNow_180 (by decide) rfl ?_
            refine z_iload C 0 dX10_planNow_182 rfl ?_
            refine z_if_eq (tgt := 197) C dX10_planNow_184 (by decide) (fun _ => ?_) (fun c => absurd (by decide) c)
            refine z_iload C 6 dX10_planNow_197 rfl ?_
            refine z_istore (lv2 := [(4, .int v4), (8, .int 0), (7, .int ((16 * v6) + v2)), (0, .ref (q 0)), (1, .int v1), (2, .int v2), (3, .int v3), (5, .int v5), (6, .int v6)]) C dX10_planNow_199 (by decide) rfl ?_
            refine z_iload C 1 dX10_planNow_201 rfl ?_
            refine z_if_eq (tgt := 216) C dX10_planNow_203 (by decide) (fun _ => ?_) (fun c => absurd (by decide) c)
            refine z_iload C 7 dX10_planNow_216 rfl ?_
            refine z_istore (lv2 := [(5, .int v5), (4, .int v4), (8, .int 0), (7, .int ((16 * v6) + v2)), (0, .ref (q 0)), (1, .int v1), (2, .int v2), (3, .int v3), (6, .int v6)]) C dX10_planNow_218 (by decide) rfl ?_
            refine z_iinc (v := (v6 + 1)) (lv2 := [(6, .int (v6 + 1)), (5, .int v5), (4, .int v4), (8, .int 0), (7, .int ((16 * v6) + v2)), (0, .ref (q 0)), (1, .int v1), (2, .int v2), (3, .int v3)]) C 8 dX10_planNow_220 rfl rfl (by decide) rfl ?_
            refine z_goto (tgt := 112) C dX10_planNow_223 (by decide) ?_
            refine z_lv (lv2 := [(0, .ref (q 0)), (1, .int v1), (2, .int v2), (3, .int v3), (4, .int v4), (5, .int v5), (6, .int (v6 + 1))]) [5, 6, 7, 8, 2, 1, 0] rfl ?_
            exact ih v4 v5 (v6 + 1) S h kk
          · replace h := zt c29 h
            refine z_aload_n C 1 dX10_planNow_163 rfl rfl ?_
            refine mg_23 C hi10 (List.mem_of_getElem? (i := 3) rfl) dX10_planNow_164 ?_
            refine z_iload C 0 dX10_planNow_167 rfl ?_
            obtain ⟨hg30, h⟩ := gd_some h
            refine ml_23 C hg30 dX10_planNow_169 ?_
            refine z_iload C 6 dX10_planNow_170 rfl ?_
            refine z_icmp_ge (tgt := 179) C dX10_planNow_172 (by decide) (fun c31 => ?_) (fun c31 => ?_)
            · replace h := zt c31 h
              refine z_iconst (v := 0) C dX10_planNow_179 (by decide) ?_
              refine z_istore (lv2 := [(8, .int 0), (7, .int ((16 * v6) + v2)), (0, .ref (q 0)), (1, .int v1), (2, .int v2), (3, .int v3), (4, .int v4), (5, .int v5), (6, .int v6)]) C dX10_planNow_180 (by decide) rfl ?_
              refine z_iload C 0 dX10_planNow_182 rfl ?_
              refine z_if_eq (tgt := 197) C dX10_planNow_184 (by decide) (fun _ => ?_) (fun c => absurd (by decide) c)
              refine z_iload C 6 dX10_planNow_197 rfl ?_
              refine z_istore (lv2 := [(4, .int v4), (8, .int 0), (7, .int ((16 * v6) + v2)), (0, .ref (q 0)), (1, .int v1), (2, .int v2), (3, .int v3), (5, .int v5), (6, .int v6)]) C dX10_planNow_199 (by decide) rfl ?_
              refine z_iload C 1 dX10_planNow_201 rfl ?_
              refine z_if_eq (tgt := 216) C dX10_planNow_203 (by decide) (fun _ => ?_) (fun c => absurd (by decide) c)
              refine z_iload C 7 dX10_planNow_216 rfl ?_
              refine z_istore (lv2 := [(5, .int v5), (4, .int v4), (8, .int 0), (7, .int ((16 * v6) + v2)), (0, .ref (q 0)), (1, .int v1), (2, .int v2), (3, .int v3), (6, .int v6)]) C dX10_planNow_218 (by decide) rfl ?_
              refine z_iinc (v := (v6 + 1)) (lv2 := [(6, .int (v6 + 1)), (5, .int v5), (4, .int v4), (8, .int 0), (7, .int ((16 * v6) + v2)), (0, .ref (q 0)), (1, .int v1), (2, .int v2), (3, .int v3)]) C 8 dX10_planNow_220 rfl rfl (by decide) rfl ?_
              refine z_goto (tgt := 112) C dX10_planNow_223 (by decide) ?_
              refine z_lv (lv2 := [(0, .ref (q 0)), (1, .int v1), (2, .int v2), (3, .int v3), (4, .int v4), (5, .int v5), (6, .int (v6 + 1))]) [5, 6, 7, 8, 2, 1, 0] rfl ?_
              exact ih v4 v5 (v6 + 1) S h kk
            · replace h := zf c31 h
              refine z_iconst (v := 1) C dX10_planNow_175 (by decide) ?_
              refine z_goto (tgt := 180) C dX10_planNow_176 (by decide) ?_
              refine z_istore (lv2 := [(8, .int 1), (7, .int ((16 * v6) + v2)), (0, .ref (q 0)), (1, .int v1), (2, .int v2), (3, .int v3), (4, .int v4), (5, .int v5), (6, .int v6)]) C dX10_planNow_180 (by decide) rfl ?_
              refine z_iload C 0 dX10_planNow_182 rfl ?_
              refine z_if_eq (tgt := 197) C dX10_planNow_184 (by decide) (fun c => absurd c (by decide)) (fun _ => ?_)
              refine z_aload_n C 2 dX10_planNow_187 rfl rfl ?_
              refine mg_22 C hi10 (List.mem_of_getElem? (i := 2) rfl) dX10_planNow_188 ?_
              refine z_iload C 1 dX10_planNow_191 rfl ?_
              obtain ⟨hg32, h⟩ := gd_some h
              refine ml_22 C hg32 dX10_planNow_193 ?_
              refine z_goto (tgt := 199) C dX10_planNow_194 (by decide) ?_
              refine z_istore (lv2 := [(4, .int (mA S 22 ((16 * v6) + v2).toNatClampNeg)), (8, .int 1), (7, .int ((16 * v6) + v2)), (0, .ref (q 0)), (1, .int v1), (2, .int v2), (3, .int v3), (5, .int v5), (6, .int v6)]) C dX10_planNow_199 (by decide) rfl ?_
              refine z_iload C 1 dX10_planNow_201 rfl ?_
              refine z_if_eq (tgt := 216) C dX10_planNow_203 (by decide) (fun c => absurd c (by decide)) (fun _ => ?_)
              refine z_aload_n C 3 dX10_planNow_206 rfl rfl ?_
              refine mg_23 C hi10 (List.mem_of_getElem? (i := 3) rfl) dX10_planNow_207 ?_
              refine z_iload C 2 dX10_planNow_210 rfl ?_
              obtain ⟨hg33, h⟩ := gd_some h
              refine ml_23 C hg33 dX10_planNow_212 ?_
              refine z_goto (tgt := 218) C dX10_planNow_213 (by decide) ?_
              refine z_istore (lv2 := [(5, .int (mA S 23 ((16 * v6) + v2).toNatClampNeg)), (4, .int (mA S 22 ((16 * v6) + v2).toNatClampNeg)), (8, .int 1), (7, .int ((16 * v6) + v2)), (0, .ref (q 0)), (1, .int v1), (2, .int v2), (3, .int v3), (6, .int v6)]) C dX10_planNow_218 (by decide) rfl ?_
              refine z_iinc (v := (v6 + 1)) (lv2 := [(6, .int (v6 + 1)), (5, .int (mA S 23 ((16 * v6) + v2).toNatClampNeg)), (4, .int (mA S 22 ((16 * v6) + v2).toNatClampNeg)), (8, .int 1), (7, .int ((16 * v6) + v2)), (0, .ref (q 0)), (1, .int v1), (2, .int v2), (3, .int v3)]) C 8 dX10_planNow_220 rfl rfl (by decide) rfl ?_
              refine z_goto (tgt := 112) C dX10_planNow_223 (by decide) ?_
              refine z_lv (lv2 := [(0, .ref (q 0)), (1, .int v1), (2, .int v2), (3, .int v3), (4, .int (mA S 22 ((16 * v6) + v2).toNatClampNeg)), (5, .int (mA S 23 ((16 * v6) + v2).toNatClampNeg)), (6, .int (v6 + 1))]) [5, 6, 7, 8, 2, 1, 0] rfl ?_
              exact ih (mA S 22 ((16 * v6) + v2).toNatClampNeg) (mA S 23 ((16 * v6) + v2).toNatClampNeg) (v6 + 1) S h kk
set_option maxHeartbeats 4000000 in
set_option maxRecDepth 100000 in
theorem c_X10_planNow (l : Launch) (G : zGT) (q : Nat → Nat) (S : MS) (X : va_W) (fu : Nat) (a1 : Int32) {res : Int32 × MS} (h : f_X10_planNow fu S a1 = some res) : MG l yX10_planNow wsX10_planNow ({ frames := 4, cells := 0, slots := 0, locals := 92 }) G [.ref (q 0), .int a1] (MW G q S ++ X) (va_Qi (fun r u => r = res.1 ∧ u = MW G q res.2 ++ X)) := by
  have hi10 : ∀ w ∈ u_ws RX10 TX10 39, w ∈ wsX10_planNow := fun _ h => List.mem_cons_of_mem _ (List.mem_append_right _ h)
  refine MG.of (cc := cX10_planNow) (maxL := 9) (ret := (some .int)) (own := RX10) (nm := "planNow") (by decide) rfl rfl rfl (Nat.le_of_ble_eq_true rfl) ?_
  intro p e s m args below meth c A C
  rw [f_X10_planNow] at h
  refine z_eq (lv2 := [(0, .ref (q 0)), (1, .int a1)]) rfl rfl rfl rfl ?_
  refine z_iconst (v := 0) C dX10_planNow_0 (by decide) ?_
  refine z_istore_n (lv2 := [(2, .int 0), (0, .ref (q 0)), (1, .int a1)]) C dX10_planNow_1 rfl (by decide) rfl ?_
  refine z_iconst (v := 0) C dX10_planNow_2 (by decide) ?_
  refine z_istore_n (lv2 := [(3, .int 0), (2, .int 0), (0, .ref (q 0)), (1, .int a1)]) C dX10_planNow_3 rfl (by decide) rfl ?_
  refine z_lv (lv2 := [(0, .ref (q 0)), (1, .int a1), (2, .int 0), (3, .int 0)]) [2, 3, 1, 0] rfl ?_
  obtain ⟨r5, hf6, h⟩ := bd_some h
  refine L_X10_planNow_4 C a1 fu 0 0 S hf6 ?_
  refine z_iconst (v := 0) C dX10_planNow_36 (by decide) ?_
  refine z_istore_n (lv2 := [(3, .int 0), (0, .ref (q 0)), (1, .int a1), (2, .int r5.1)]) C dX10_planNow_37 rfl (by decide) rfl ?_
  refine z_lv (lv2 := [(0, .ref (q 0)), (1, .int a1), (2, .int r5.1), (3, .int 0)]) [1, 2, 3, 0] rfl ?_
  obtain ⟨r10, hf11, h⟩ := bd_some h
  refine L_X10_planNow_38 C a1 r5.1 fu 0 S hf11 ?_
  refine z_aload_n C 0 dX10_planNow_65 rfl rfl ?_
  refine z_iconst (v := 0) C dX10_planNow_66 (by decide) ?_
  refine z_iconst (v := 0) C dX10_planNow_67 (by decide) ?_
  refine z_aload_n C 0 dX10_planNow_68 rfl rfl ?_
  refine z_aload_n C 0 dX10_planNow_69 rfl rfl ?_
  refine mg_6 C hi10 (List.mem_of_getElem? (i := 4) rfl) dX10_planNow_70 ?_
  obtain ⟨r13, hf12, h⟩ := bd_some h
  refine z_goti1 C (z_runV C (c_X10_goodAt l G q r10.2 X fu (mI r10.2 6) hf12) (cwV 1 C.hts gX10_planNow_X10_goodAt rfl rfl rfl (by decide +kernel) ⟨Nat.le_of_ble_eq_true rfl, Nat.le_of_ble_eq_true rfl⟩) 0 rfl rfl rfl rfl (Nat.le_of_ble_eq_true rfl) dX10_planNow_73 ⟨Nat.le_of_ble_eq_true rfl, Nat.le_of_ble_eq_true rfl⟩) rfl rfl ?_
  refine z_aload_n C 0 dX10_planNow_76 rfl rfl ?_
  refine mg_7 C hi10 (List.mem_of_getElem? (i := 5) rfl) dX10_planNow_77 ?_
  refine z_iconst (v := 0) C dX10_planNow_80 (by decide) ?_
  refine z_iconst (v := (-1)) C dX10_planNow_81 (by decide) ?_
  obtain ⟨r15, hf14, h⟩ := bd_some h
  refine z_gotv1 C (z_runV C (c_X10_mark l G q r10.2 X fu 0 0 r13 (mI r10.2 7) 0 (-1) hf14) (cwV 6 C.hts gX10_planNow_X10_mark rfl rfl rfl (by decide +kernel) ⟨Nat.le_of_ble_eq_true rfl, Nat.le_of_ble_eq_true rfl⟩) 0 rfl rfl rfl rfl (Nat.le_of_ble_eq_true rfl) dX10_planNow_82 ⟨Nat.le_of_ble_eq_true rfl, Nat.le_of_ble_eq_true rfl⟩) rfl rfl ?_
  refine z_iconst (v := 0) C dX10_planNow_85 (by decide) ?_
  refine z_istore_n (lv2 := [(3, .int 0), (0, .ref (q 0)), (1, .int a1), (2, .int r5.1)]) C dX10_planNow_86 rfl (by decide) rfl ?_
  refine z_lv (lv2 := [(0, .ref (q 0)), (1, .int a1), (2, .int r5.1), (3, .int 0)]) [1, 2, 3, 0] rfl ?_
  obtain ⟨r19, hf20, h⟩ := bd_some h
  refine L_X10_planNow_87 C a1 r5.1 fu 0 r15 hf20 ?_
  refine z_ldc (v := 268435456) C (List.mem_of_getElem? (i := 6) rfl) dX10_planNow_101 ?_
  refine z_istore (lv2 := [(4, .int 268435456), (0, .ref (q 0)), (1, .int a1), (2, .int r5.1), (3, .int r19.1)]) C dX10_planNow_103 (by decide) rfl ?_
  refine z_ldc (v := 268435456) C (List.mem_of_getElem? (i := 6) rfl) dX10_planNow_105 ?_
  refine z_istore (lv2 := [(5, .int 268435456), (4, .int 268435456), (0, .ref (q 0)), (1, .int a1), (2, .int r5.1), (3, .int r19.1)]) C dX10_planNow_107 (by decide) rfl ?_
  refine z_iconst (v := 0) C dX10_planNow_109 (by decide) ?_
  refine z_istore (lv2 := [(6, .int 0), (5, .int 268435456), (4, .int 268435456), (0, .ref (q 0)), (1, .int a1), (2, .int r5.1), (3, .int r19.1)]) C dX10_planNow_110 (by decide) rfl ?_
  refine z_lv (lv2 := [(0, .ref (q 0)), (1, .int a1), (2, .int r5.1), (3, .int r19.1), (4, .int 268435456), (5, .int 268435456), (6, .int 0)]) [3, 4, 5, 6, 2, 1, 0] rfl ?_
  obtain ⟨r34, hf35, h⟩ := bd_some h
  refine L_X10_planNow_112 C a1 r5.1 r19.1 fu 268435456 268435456 0 r19.2 hf35 ?_
  refine z_iload C 4 dX10_planNow_226 rfl ?_
  refine z_ldc (v := 268435456) C (List.mem_of_getElem? (i := 6) rfl) dX10_planNow_228 ?_
  refine z_icmp_ne (tgt := 237) C dX10_planNow_230 (by decide) (fun c36 => ?_) (fun c36 => ?_)
  · replace h := zf c36 h
    refine z_iload_n C 1 dX10_planNow_237 rfl rfl ?_
    refine z_if_ne (tgt := 246) C dX10_planNow_238 (by decide) (fun c37 => ?_) (fun c37 => ?_)
    · replace h := zf c37 h
      refine z_iload C 5 dX10_planNow_246 rfl ?_
      injection h with h
      subst h
      exact z_iret C rfl ⟨rfl, rfl⟩ dX10_planNow_248
    · replace h := zt c37 h
      refine z_iload C 4 dX10_planNow_241 rfl ?_
      refine z_goto (tgt := 248) C dX10_planNow_243 (by decide) ?_
      injection h with h
      subst h
      exact z_iret C rfl ⟨rfl, rfl⟩ dX10_planNow_248
  · replace h := zt c36 h
    refine z_iconst (v := (-1)) C dX10_planNow_233 (by decide) ?_
    refine z_goto (tgt := 248) C dX10_planNow_234 (by decide) ?_
    injection h with h
    subst h
    exact z_iret C rfl ⟨rfl, rfl⟩ dX10_planNow_248
def f_X10_plan (fu : Nat) (S : MS) (a1 : Int32) : Option (Int32 × MS) := if (f_X10_within a1 0 1) = 0 then some ((-102), S) else if (mI S 1) = 0 then some ((-103), S) else if (mI S 17) = 20 then some ((-103), S) else (f_X10_planNow fu (msI S 17 ((mI S 17) + 1)) a1).bind fun r5 => some (r5.1, r5.2)
set_option maxHeartbeats 4000000 in
set_option maxRecDepth 100000 in
theorem c_X10_plan (l : Launch) (G : zGT) (q : Nat → Nat) (S : MS) (X : va_W) (fu : Nat) (a1 : Int32) {res : Int32 × MS} (h : f_X10_plan fu S a1 = some res) : MG l yX10_plan wsX10_plan ({ frames := 5, cells := 0, slots := 0, locals := 120 }) G [.ref (q 0), .int a1] (MW G q S ++ X) (va_Qi (fun r u => r = res.1 ∧ u = MW G q res.2 ++ X)) := by
  have hi10 : ∀ w ∈ u_ws RX10 TX10 39, w ∈ wsX10_plan := fun _ h => List.mem_cons_of_mem _ (List.mem_append_right _ h)
  refine MG.of (cc := cX10_plan) (maxL := 2) (ret := (some .int)) (own := RX10) (nm := "plan") (by decide) rfl rfl rfl (Nat.le_of_ble_eq_true rfl) ?_
  intro p e s m args below meth c A C
  rw [f_X10_plan] at h
  refine z_eq (lv2 := [(0, .ref (q 0)), (1, .int a1)]) rfl rfl rfl rfl ?_
  refine z_iload_n C 1 dX10_plan_0 rfl rfl ?_
  refine z_iconst (v := 0) C dX10_plan_1 (by decide) ?_
  refine z_iconst (v := 1) C dX10_plan_2 (by decide) ?_
  refine z_goti1 C (z_runS C (c_X10_within l G (MW G q S ++ X) a1 0 1) (va_cwS 3 C.hts gX10_plan_X10_within rfl rfl rfl (by decide +kernel) ⟨Nat.le_of_ble_eq_true rfl, Nat.le_of_ble_eq_true rfl⟩) rfl rfl (Nat.le_of_ble_eq_true rfl) dX10_plan_3 ⟨Nat.le_of_ble_eq_true rfl, Nat.le_of_ble_eq_true rfl⟩) rfl rfl ?_
  refine z_if_ne (tgt := 12) C dX10_plan_6 (by decide) (fun c1 => ?_) (fun c1 => ?_)
  · replace h := zf c1 h
    refine z_aload_n C 0 dX10_plan_12 rfl rfl ?_
    refine mg_1 C hi10 (List.mem_of_getElem? (i := 1) rfl) dX10_plan_13 ?_
    refine z_if_eq (tgt := 28) C dX10_plan_16 (by decide) (fun c2 => ?_) (fun c2 => ?_)
    · replace h := zt c2 h
      refine z_bipush (v := (-103)) C dX10_plan_28 (by decide) ?_
      injection h with h
      subst h
      exact z_iret C rfl ⟨rfl, rfl⟩ dX10_plan_30
    · replace h := zf c2 h
      refine z_aload_n C 0 dX10_plan_19 rfl rfl ?_
      refine mg_17 C hi10 (List.mem_of_getElem? (i := 2) rfl) dX10_plan_20 ?_
      refine z_bipush (v := 20) C dX10_plan_23 (by decide) ?_
      refine z_icmp_ne (tgt := 31) C dX10_plan_25 (by decide) (fun c3 => ?_) (fun c3 => ?_)
      · replace h := zf c3 h
        refine z_aload_n C 0 dX10_plan_31 rfl rfl ?_
        refine z_dup C dX10_plan_32 rfl ?_
        refine mg_17 C hi10 (List.mem_of_getElem? (i := 2) rfl) dX10_plan_33 ?_
        refine z_iconst (v := 1) C dX10_plan_36 (by decide) ?_
        refine z_iadd C dX10_plan_37 ?_
        refine mp_17 C hi10 (List.mem_of_getElem? (i := 2) rfl) dX10_plan_38 ?_
        refine z_aload_n C 0 dX10_plan_41 rfl rfl ?_
        refine z_iload_n C 1 dX10_plan_42 rfl rfl ?_
        obtain ⟨r5, hf4, h⟩ := bd_some h
        refine z_goti1 C (z_runV C (c_X10_planNow l G q (msI S 17 ((mI S 17) + 1)) X fu a1 hf4) (cwV 1 C.hts gX10_plan_X10_planNow rfl rfl rfl (by decide +kernel) ⟨Nat.le_of_ble_eq_true rfl, Nat.le_of_ble_eq_true rfl⟩) 0 rfl rfl rfl rfl (Nat.le_of_ble_eq_true rfl) dX10_plan_43 ⟨Nat.le_of_ble_eq_true rfl, Nat.le_of_ble_eq_true rfl⟩) rfl rfl ?_
        injection h with h
        subst h
        exact z_iret C rfl ⟨rfl, rfl⟩ dX10_plan_46
      · replace h := zt c3 h
        refine z_bipush (v := (-103)) C dX10_plan_28 (by decide) ?_
        injection h with h
        subst h
        exact z_iret C rfl ⟨rfl, rfl⟩ dX10_plan_30
  · replace h := zt c1 h
    refine z_bipush (v := (-102)) C dX10_plan_9 (by decide) ?_
    injection h with h
    subst h
    exact z_iret C rfl ⟨rfl, rfl⟩ dX10_plan_11
def f_X10_sureNow_L7 (fu : Nat) (v1 : Int32) (v2 : Int32) : Nat → Int32 → Int32 → MS → Option (Int32 × Int32)
  | 0, _, _, _ => none
  | n + 1, v3, v4, S => if (v2 + 1) < v4 then some (v3, v4) else (f_X10_outAt S v1 ((mI S 6) + v4)).bind fun r3 => if r3 = 100 then if v4 = v2 then f_X10_sureNow_L7 fu v1 v2 n (v3 + 18) (v4 + 1) S else f_X10_sureNow_L7 fu v1 v2 n (v3 + 1) (v4 + 1) S else f_X10_sureNow_L7 fu v1 v2 n (v3 + 0) (v4 + 1) S
def f_X10_sureNow (fu : Nat) (S : MS) (a1 : Int32) (a2 : Int32) : Option (Int32) := (f_X10_sureNow_L7 fu a1 a2 fu 0 (a2 - 1) S).bind fun r6 => some r6.1
set_option maxHeartbeats 4000000 in
set_option maxRecDepth 100000 in
theorem L_X10_sureNow_7 {p : Program} {l : Launch} {e : Env} {s : State} {m : MethodId} {args : Array Value} {below : List Frame} {meth : Method} {c : Code} {A : Nat → Prop} {G : zGT} {q : Nat → Nat} {X : va_W} {fu : Nat} {Q : State → Prop} (C : zC p s m args meth c A G cX10_sureNow 6 (some .int) RX10 "sureNow" wsX10_sureNow) (v1 : Int32) (v2 : Int32) : ∀ (n : Nat) (v3 : Int32) (v4 : Int32) (S : MS) {res : Int32 × Int32}, f_X10_sureNow_L7 fu v1 v2 n v3 v4 S = some res → Z p l e ({ frames := 2, cells := 0, slots := 0, locals := 44 }) s m args below meth c A G 6 Q 0 0 (MW G q S ++ X) [(0, .ref (q 0)), (1, .int v1), (2, .int v2), (3, .int res.1), (4, .int res.2)] 69 [] → Z p l e ({ frames := 2, cells := 0, slots := 0, locals := 44 }) s m args below meth c A G 6 Q 0 0 (MW G q S ++ X) [(0, .ref (q 0)), (1, .int v1), (2, .int v2), (3, .int v3), (4, .int v4)] 7 [] := by
  have hi10 : ∀ w ∈ u_ws RX10 TX10 39, w ∈ wsX10_sureNow := fun _ h => List.mem_cons_of_mem _ (List.mem_append_right _ h)
  intro n
  induction n with
  | zero =>
    intro v3 v4 S res h kk
    exact nomatch (h : none = some _)
  | succ n ih =>
    intro v3 v4 S res h kk
    rw [f_X10_sureNow_L7] at h
    refine z_iload C 4 dX10_sureNow_7 rfl ?_
    refine z_iload_n C 2 dX10_sureNow_9 rfl rfl ?_
    refine z_iconst (v := 1) C dX10_sureNow_10 (by decide) ?_
    refine z_iadd C dX10_sureNow_11 ?_
    refine z_icmp_gt (tgt := 69) C dX10_sureNow_12 (by decide) (fun c1 => ?_) (fun c1 => ?_)
    · replace h := zt c1 h
      injection h with h
      subst h
      refine z_lv (lv2 := [(0, .ref (q 0)), (1, .int v1), (2, .int v2), (3, .int v3), (4, .int v4)]) [0, 1, 2, 3, 4] rfl ?_
      exact kk
    · replace h := zf c1 h
      refine z_aload_n C 0 dX10_sureNow_15 rfl rfl ?_
      refine z_iload_n C 1 dX10_sureNow_16 rfl rfl ?_
      refine z_aload_n C 0 dX10_sureNow_17 rfl rfl ?_
      refine mg_6 C hi10 (List.mem_of_getElem? (i := 1) rfl) dX10_sureNow_18 ?_
      refine z_iload C 4 dX10_sureNow_21 rfl ?_
      refine z_iadd C dX10_sureNow_23 ?_
      obtain ⟨r3, hf2, h⟩ := bd_some h
      refine z_goti1 C (z_runV C (c_X10_outAt l G q S X v1 ((mI S 6) + v4) hf2) (cwV 2 C.hts gX10_sureNow_X10_outAt rfl rfl rfl (by decide +kernel) ⟨Nat.le_of_ble_eq_true rfl, Nat.le_of_ble_eq_true rfl⟩) 0 rfl rfl rfl rfl (Nat.le_of_ble_eq_true rfl) dX10_sureNow_24 ⟨Nat.le_of_ble_eq_true rfl, Nat.le_of_ble_eq_true rfl⟩) rfl rfl ?_
      refine z_bipush (v := 100) C dX10_sureNow_27 (by decide) ?_
      refine z_icmp_ne (tgt := 36) C dX10_sureNow_29 (by decide) (fun c4 => ?_) (fun c4 => ?_)
      · replace h := zf c4 h
        refine z_iconst (v := 0) C dX10_sureNow_36 (by decide) ?_
        refine z_istore (lv2 := [(5, .int 0), (0, .ref (q 0)), (1, .int v1), (2, .int v2), (3, .int v3), (4, .int v4)]) C dX10_sureNow_37 (by decide) rfl ?_
        refine z_iload_n C 4 dX10_sureNow_39 rfl rfl ?_
        refine z_iload C 0 dX10_sureNow_40 rfl ?_
        refine z_if_ne (tgt := 49) C dX10_sureNow_42 (by decide) (fun c => absurd (by decide) c) (fun _ => ?_)
        refine z_iconst (v := 0) C dX10_sureNow_45 (by decide) ?_
        refine z_goto (tgt := 61) C dX10_sureNow_46 (by decide) ?_
        refine z_iadd C dX10_sureNow_61 ?_
        refine z_istore_n (lv2 := [(3, .int (v3 + 0)), (5, .int 0), (0, .ref (q 0)), (1, .int v1), (2, .int v2), (4, .int v4)]) C dX10_sureNow_62 rfl (by decide) rfl ?_
        refine z_iinc (v := (v4 + 1)) (lv2 := [(4, .int (v4 + 1)), (3, .int (v3 + 0)), (5, .int 0), (0, .ref (q 0)), (1, .int v1), (2, .int v2)]) C 5 dX10_sureNow_63 rfl rfl (by decide) rfl ?_
        refine z_goto (tgt := 7) C dX10_sureNow_66 (by decide) ?_
        refine z_lv (lv2 := [(0, .ref (q 0)), (1, .int v1), (2, .int v2), (3, .int (v3 + 0)), (4, .int (v4 + 1))]) [3, 4, 5, 1, 0] rfl ?_
        exact ih (v3 + 0) (v4 + 1) S h kk
      · replace h := zt c4 h
        refine z_iconst (v := 1) C dX10_sureNow_32 (by decide) ?_
        refine z_goto (tgt := 37) C dX10_sureNow_33 (by decide) ?_
        refine z_istore (lv2 := [(5, .int 1), (0, .ref (q 0)), (1, .int v1), (2, .int v2), (3, .int v3), (4, .int v4)]) C dX10_sureNow_37 (by decide) rfl ?_
        refine z_iload_n C 4 dX10_sureNow_39 rfl rfl ?_
        refine z_iload C 0 dX10_sureNow_40 rfl ?_
        refine z_if_ne (tgt := 49) C dX10_sureNow_42 (by decide) (fun _ => ?_) (fun c => absurd c (by decide))
        refine z_iload C 5 dX10_sureNow_49 rfl ?_
        refine z_iload_n C 3 dX10_sureNow_51 rfl rfl ?_
        refine z_icmp_ne (tgt := 60) C dX10_sureNow_52 (by decide) (fun c5 => ?_) (fun c5 => ?_)
        · replace h := zf c5 h
          refine z_iconst (v := 1) C dX10_sureNow_60 (by decide) ?_
          refine z_iadd C dX10_sureNow_61 ?_
          refine z_istore_n (lv2 := [(3, .int (v3 + 1)), (5, .int 1), (0, .ref (q 0)), (1, .int v1), (2, .int v2), (4, .int v4)]) C dX10_sureNow_62 rfl (by decide) rfl ?_
          refine z_iinc (v := (v4 + 1)) (lv2 := [(4, .int (v4 + 1)), (3, .int (v3 + 1)), (5, .int 1), (0, .ref (q 0)), (1, .int v1), (2, .int v2)]) C 5 dX10_sureNow_63 rfl rfl (by decide) rfl ?_
          refine z_goto (tgt := 7) C dX10_sureNow_66 (by decide) ?_
          refine z_lv (lv2 := [(0, .ref (q 0)), (1, .int v1), (2, .int v2), (3, .int (v3 + 1)), (4, .int (v4 + 1))]) [3, 4, 5, 1, 0] rfl ?_
          exact ih (v3 + 1) (v4 + 1) S h kk
        · replace h := zt c5 h
          refine z_bipush (v := 18) C dX10_sureNow_55 (by decide) ?_
          refine z_goto (tgt := 61) C dX10_sureNow_57 (by decide) ?_
          refine z_iadd C dX10_sureNow_61 ?_
          refine z_istore_n (lv2 := [(3, .int (v3 + 18)), (5, .int 1), (0, .ref (q 0)), (1, .int v1), (2, .int v2), (4, .int v4)]) C dX10_sureNow_62 rfl (by decide) rfl ?_
          refine z_iinc (v := (v4 + 1)) (lv2 := [(4, .int (v4 + 1)), (3, .int (v3 + 18)), (5, .int 1), (0, .ref (q 0)), (1, .int v1), (2, .int v2)]) C 5 dX10_sureNow_63 rfl rfl (by decide) rfl ?_
          refine z_goto (tgt := 7) C dX10_sureNow_66 (by decide) ?_
          refine z_lv (lv2 := [(0, .ref (q 0)), (1, .int v1), (2, .int v2), (3, .int (v3 + 18)), (4, .int (v4 + 1))]) [3, 4, 5, 1, 0] rfl ?_
          exact ih (v3 + 18) (v4 + 1) S h kk
set_option maxHeartbeats 4000000 in
set_option maxRecDepth 100000 in
theorem c_X10_sureNow (l : Launch) (G : zGT) (q : Nat → Nat) (S : MS) (X : va_W) (fu : Nat) (a1 : Int32) (a2 : Int32) {res : Int32} (h : f_X10_sureNow fu S a1 a2 = some res) : MG l yX10_sureNow wsX10_sureNow ({ frames := 2, cells := 0, slots := 0, locals := 44 }) G [.ref (q 0), .int a1, .int a2] (MW G q S ++ X) (va_Qi (fun r u => r = res ∧ u = MW G q S ++ X)) := by
  have hi10 : ∀ w ∈ u_ws RX10 TX10 39, w ∈ wsX10_sureNow := fun _ h => List.mem_cons_of_mem _ (List.mem_append_right _ h)
  refine MG.of (cc := cX10_sureNow) (maxL := 6) (ret := (some .int)) (own := RX10) (nm := "sureNow") (by decide) rfl rfl rfl (Nat.le_of_ble_eq_true rfl) ?_
  intro p e s m args below meth c A C
  rw [f_X10_sureNow] at h
  refine z_eq (lv2 := [(0, .ref (q 0)), (1, .int a1), (2, .int a2)]) rfl rfl rfl rfl ?_
  refine z_iconst (v := 0) C dX10_sureNow_0 (by decide) ?_
  refine z_istore_n (lv2 := [(3, .int 0), (0, .ref (q 0)), (1, .int a1), (2, .int a2)]) C dX10_sureNow_1 rfl (by decide) rfl ?_
  refine z_iload_n C 3 dX10_sureNow_2 rfl rfl ?_
  refine z_iconst (v := 1) C dX10_sureNow_3 (by decide) ?_
  refine z_isub C dX10_sureNow_4 ?_
  refine z_istore (lv2 := [(4, .int (a2 - 1)), (3, .int 0), (0, .ref (q 0)), (1, .int a1), (2, .int a2)]) C dX10_sureNow_5 (by decide) rfl ?_
  refine z_lv (lv2 := [(0, .ref (q 0)), (1, .int a1), (2, .int a2), (3, .int 0), (4, .int (a2 - 1))]) [2, 3, 4, 1, 0] rfl ?_
  obtain ⟨r6, hf7, h⟩ := bd_some h
  refine L_X10_sureNow_7 C a1 a2 fu 0 (a2 - 1) S hf7 ?_
  refine z_iload_n C 3 dX10_sureNow_69 rfl rfl ?_
  injection h with h
  subst h
  exact z_iret C rfl ⟨rfl, rfl⟩ dX10_sureNow_70
def f_X10_sure (fu : Nat) (S : MS) (a1 : Int32) (a2 : Int32) : Option (Int32) := if (f_X10_isPot S a1) = 0 then some (-101) else if (f_X10_within a2 1 (mI S 2)) = 0 then some (-102) else (f_X10_boils S a1).bind fun r4 => if r4 = 0 then some (-103) else (f_X10_sureNow fu S a1 a2).bind fun r7 => some r7
set_option maxHeartbeats 4000000 in
set_option maxRecDepth 100000 in
theorem c_X10_sure (l : Launch) (G : zGT) (q : Nat → Nat) (S : MS) (X : va_W) (fu : Nat) (a1 : Int32) (a2 : Int32) {res : Int32} (h : f_X10_sure fu S a1 a2 = some res) : MG l yX10_sure wsX10_sure ({ frames := 3, cells := 0, slots := 0, locals := 69 }) G [.ref (q 0), .int a1, .int a2] (MW G q S ++ X) (va_Qi (fun r u => r = res ∧ u = MW G q S ++ X)) := by
  have hi10 : ∀ w ∈ u_ws RX10 TX10 39, w ∈ wsX10_sure := fun _ h => List.mem_cons_of_mem _ (List.mem_append_right _ h)
  refine MG.of (cc := cX10_sure) (maxL := 3) (ret := (some .int)) (own := RX10) (nm := "sure") (by decide) rfl rfl rfl (Nat.le_of_ble_eq_true rfl) ?_
  intro p e s m args below meth c A C
  rw [f_X10_sure] at h
  refine z_eq (lv2 := [(0, .ref (q 0)), (1, .int a1), (2, .int a2)]) rfl rfl rfl rfl ?_
  refine z_aload_n C 0 dX10_sure_0 rfl rfl ?_
  refine z_iload_n C 1 dX10_sure_1 rfl rfl ?_
  refine z_goti1 C (z_runV C (c_X10_isPot l G q S X a1) (cwV 1 C.hts gX10_sure_X10_isPot rfl rfl rfl (by decide +kernel) ⟨Nat.le_of_ble_eq_true rfl, Nat.le_of_ble_eq_true rfl⟩) 0 rfl rfl rfl rfl (Nat.le_of_ble_eq_true rfl) dX10_sure_2 ⟨Nat.le_of_ble_eq_true rfl, Nat.le_of_ble_eq_true rfl⟩) rfl rfl ?_
  refine z_if_ne (tgt := 11) C dX10_sure_5 (by decide) (fun c1 => ?_) (fun c1 => ?_)
  · replace h := zf c1 h
    refine z_iload_n C 2 dX10_sure_11 rfl rfl ?_
    refine z_iconst (v := 1) C dX10_sure_12 (by decide) ?_
    refine z_aload_n C 0 dX10_sure_13 rfl rfl ?_
    refine mg_2 C hi10 (List.mem_of_getElem? (i := 1) rfl) dX10_sure_14 ?_
    refine z_goti1 C (z_runS C (c_X10_within l G (MW G q S ++ X) a2 1 (mI S 2)) (va_cwS 3 C.hts gX10_sure_X10_within rfl rfl rfl (by decide +kernel) ⟨Nat.le_of_ble_eq_true rfl, Nat.le_of_ble_eq_true rfl⟩) rfl rfl (Nat.le_of_ble_eq_true rfl) dX10_sure_17 ⟨Nat.le_of_ble_eq_true rfl, Nat.le_of_ble_eq_true rfl⟩) rfl rfl ?_
    refine z_if_ne (tgt := 26) C dX10_sure_20 (by decide) (fun c2 => ?_) (fun c2 => ?_)
    · replace h := zf c2 h
      refine z_aload_n C 0 dX10_sure_26 rfl rfl ?_
      refine z_iload_n C 1 dX10_sure_27 rfl rfl ?_
      obtain ⟨r4, hf3, h⟩ := bd_some h
      refine z_goti1 C (z_runV C (c_X10_boils l G q S X a1 hf3) (cwV 1 C.hts gX10_sure_X10_boils rfl rfl rfl (by decide +kernel) ⟨Nat.le_of_ble_eq_true rfl, Nat.le_of_ble_eq_true rfl⟩) 0 rfl rfl rfl rfl (Nat.le_of_ble_eq_true rfl) dX10_sure_28 ⟨Nat.le_of_ble_eq_true rfl, Nat.le_of_ble_eq_true rfl⟩) rfl rfl ?_
      refine z_if_eq (tgt := 43) C dX10_sure_31 (by decide) (fun c5 => ?_) (fun c5 => ?_)
      · replace h := zt c5 h
        refine z_bipush (v := (-103)) C dX10_sure_43 (by decide) ?_
        injection h with h
        subst h
        exact z_iret C rfl ⟨rfl, rfl⟩ dX10_sure_45
      · replace h := zf c5 h
        refine z_aload_n C 0 dX10_sure_34 rfl rfl ?_
        refine z_iload_n C 1 dX10_sure_35 rfl rfl ?_
        refine z_iload_n C 2 dX10_sure_36 rfl rfl ?_
        obtain ⟨r7, hf6, h⟩ := bd_some h
        refine z_goti1 C (z_runV C (c_X10_sureNow l G q S X fu a1 a2 hf6) (cwV 2 C.hts gX10_sure_X10_sureNow rfl rfl rfl (by decide +kernel) ⟨Nat.le_of_ble_eq_true rfl, Nat.le_of_ble_eq_true rfl⟩) 0 rfl rfl rfl rfl (Nat.le_of_ble_eq_true rfl) dX10_sure_37 ⟨Nat.le_of_ble_eq_true rfl, Nat.le_of_ble_eq_true rfl⟩) rfl rfl ?_
        refine z_goto (tgt := 45) C dX10_sure_40 (by decide) ?_
        injection h with h
        subst h
        exact z_iret C rfl ⟨rfl, rfl⟩ dX10_sure_45
    · replace h := zt c2 h
      refine z_bipush (v := (-102)) C dX10_sure_23 (by decide) ?_
      injection h with h
      subst h
      exact z_iret C rfl ⟨rfl, rfl⟩ dX10_sure_25
  · replace h := zt c1 h
    refine z_bipush (v := (-101)) C dX10_sure_8 (by decide) ?_
    injection h with h
    subst h
    exact z_iret C rfl ⟨rfl, rfl⟩ dX10_sure_10
def f_X10_bestNow_L4 (fu : Nat) (v1 : Int32) : Nat → Int32 → Int32 → MS → Option (Int32 × Int32)
  | 0, _, _, _ => none
  | n + 1, v2, v3, S => if (mI S 2) < v3 then some (v2, v3) else (f_X10_sureNow fu S v1 v3).bind fun r3 => (f_X10_sureNow fu S v1 v2).bind fun r5 => if r3 ≤ r5 then f_X10_bestNow_L4 fu v1 n v2 (v3 + 1) S else f_X10_bestNow_L4 fu v1 n v3 (v3 + 1) S
def f_X10_bestNow (fu : Nat) (S : MS) (a1 : Int32) : Option (Int32) := (f_X10_bestNow_L4 fu a1 fu 1 2 S).bind fun r7 => some r7.1
set_option maxHeartbeats 4000000 in
set_option maxRecDepth 100000 in
theorem L_X10_bestNow_4 {p : Program} {l : Launch} {e : Env} {s : State} {m : MethodId} {args : Array Value} {below : List Frame} {meth : Method} {c : Code} {A : Nat → Prop} {G : zGT} {q : Nat → Nat} {X : va_W} {fu : Nat} {Q : State → Prop} (C : zC p s m args meth c A G cX10_bestNow 4 (some .int) RX10 "bestNow" wsX10_bestNow) (v1 : Int32) : ∀ (n : Nat) (v2 : Int32) (v3 : Int32) (S : MS) {res : Int32 × Int32}, f_X10_bestNow_L4 fu v1 n v2 v3 S = some res → Z p l e ({ frames := 3, cells := 0, slots := 0, locals := 69 }) s m args below meth c A G 4 Q 0 0 (MW G q S ++ X) [(0, .ref (q 0)), (1, .int v1), (2, .int res.1), (3, .int res.2)] 39 [] → Z p l e ({ frames := 3, cells := 0, slots := 0, locals := 69 }) s m args below meth c A G 4 Q 0 0 (MW G q S ++ X) [(0, .ref (q 0)), (1, .int v1), (2, .int v2), (3, .int v3)] 4 [] := by
  have hi10 : ∀ w ∈ u_ws RX10 TX10 39, w ∈ wsX10_bestNow := fun _ h => List.mem_cons_of_mem _ (List.mem_append_right _ h)
  intro n
  induction n with
  | zero =>
    intro v2 v3 S res h kk
    exact nomatch (h : none = some _)
  | succ n ih =>
    intro v2 v3 S res h kk
    rw [f_X10_bestNow_L4] at h
    refine z_iload_n C 3 dX10_bestNow_4 rfl rfl ?_
    refine z_aload_n C 0 dX10_bestNow_5 rfl rfl ?_
    refine mg_2 C hi10 (List.mem_of_getElem? (i := 1) rfl) dX10_bestNow_6 ?_
    refine z_icmp_gt (tgt := 39) C dX10_bestNow_9 (by decide) (fun c1 => ?_) (fun c1 => ?_)
    · replace h := zt c1 h
      injection h with h
      subst h
      refine z_lv (lv2 := [(0, .ref (q 0)), (1, .int v1), (2, .int v2), (3, .int v3)]) [0, 1, 2, 3] rfl ?_
      exact kk
    · replace h := zf c1 h
      refine z_aload_n C 0 dX10_bestNow_12 rfl rfl ?_
      refine z_iload_n C 1 dX10_bestNow_13 rfl rfl ?_
      refine z_iload_n C 3 dX10_bestNow_14 rfl rfl ?_
      obtain ⟨r3, hf2, h⟩ := bd_some h
      refine z_goti1 C (z_runV C (c_X10_sureNow l G q S X fu v1 v3 hf2) (cwV 2 C.hts gX10_bestNow_X10_sureNow rfl rfl rfl (by decide +kernel) ⟨Nat.le_of_ble_eq_true rfl, Nat.le_of_ble_eq_true rfl⟩) 0 rfl rfl rfl rfl (Nat.le_of_ble_eq_true rfl) dX10_bestNow_15 ⟨Nat.le_of_ble_eq_true rfl, Nat.le_of_ble_eq_true rfl⟩) rfl rfl ?_
      refine z_aload_n C 0 dX10_bestNow_18 rfl rfl ?_
      refine z_iload_n C 1 dX10_bestNow_19 rfl rfl ?_
      refine z_iload_n C 2 dX10_bestNow_20 rfl rfl ?_
      obtain ⟨r5, hf4, h⟩ := bd_some h
      refine z_goti1 C (z_runV C (c_X10_sureNow l G q S X fu v1 v2 hf4) (cwV 2 C.hts gX10_bestNow_X10_sureNow rfl rfl rfl (by decide +kernel) ⟨Nat.le_of_ble_eq_true rfl, Nat.le_of_ble_eq_true rfl⟩) 0 rfl rfl rfl rfl (Nat.le_of_ble_eq_true rfl) dX10_bestNow_21 ⟨Nat.le_of_ble_eq_true rfl, Nat.le_of_ble_eq_true rfl⟩) rfl rfl ?_
      refine z_icmp_le (tgt := 31) C dX10_bestNow_24 (by decide) (fun c6 => ?_) (fun c6 => ?_)
      · replace h := zt c6 h
        refine z_iload_n C 2 dX10_bestNow_31 rfl rfl ?_
        refine z_istore_n (lv2 := [(2, .int v2), (0, .ref (q 0)), (1, .int v1), (3, .int v3)]) C dX10_bestNow_32 rfl (by decide) rfl ?_
        refine z_iinc (v := (v3 + 1)) (lv2 := [(3, .int (v3 + 1)), (2, .int v2), (0, .ref (q 0)), (1, .int v1)]) C 3 dX10_bestNow_33 rfl rfl (by decide) rfl ?_
        refine z_goto (tgt := 4) C dX10_bestNow_36 (by decide) ?_
        refine z_lv (lv2 := [(0, .ref (q 0)), (1, .int v1), (2, .int v2), (3, .int (v3 + 1))]) [2, 3, 1, 0] rfl ?_
        exact ih v2 (v3 + 1) S h kk
      · replace h := zf c6 h
        refine z_iload_n C 3 dX10_bestNow_27 rfl rfl ?_
        refine z_goto (tgt := 32) C dX10_bestNow_28 (by decide) ?_
        refine z_istore_n (lv2 := [(2, .int v3), (0, .ref (q 0)), (1, .int v1), (3, .int v3)]) C dX10_bestNow_32 rfl (by decide) rfl ?_
        refine z_iinc (v := (v3 + 1)) (lv2 := [(3, .int (v3 + 1)), (2, .int v3), (0, .ref (q 0)), (1, .int v1)]) C 3 dX10_bestNow_33 rfl rfl (by decide) rfl ?_
        refine z_goto (tgt := 4) C dX10_bestNow_36 (by decide) ?_
        refine z_lv (lv2 := [(0, .ref (q 0)), (1, .int v1), (2, .int v3), (3, .int (v3 + 1))]) [2, 3, 1, 0] rfl ?_
        exact ih v3 (v3 + 1) S h kk
set_option maxHeartbeats 4000000 in
set_option maxRecDepth 100000 in
theorem c_X10_bestNow (l : Launch) (G : zGT) (q : Nat → Nat) (S : MS) (X : va_W) (fu : Nat) (a1 : Int32) {res : Int32} (h : f_X10_bestNow fu S a1 = some res) : MG l yX10_bestNow wsX10_bestNow ({ frames := 3, cells := 0, slots := 0, locals := 69 }) G [.ref (q 0), .int a1] (MW G q S ++ X) (va_Qi (fun r u => r = res ∧ u = MW G q S ++ X)) := by
  have hi10 : ∀ w ∈ u_ws RX10 TX10 39, w ∈ wsX10_bestNow := fun _ h => List.mem_cons_of_mem _ (List.mem_append_right _ h)
  refine MG.of (cc := cX10_bestNow) (maxL := 4) (ret := (some .int)) (own := RX10) (nm := "bestNow") (by decide) rfl rfl rfl (Nat.le_of_ble_eq_true rfl) ?_
  intro p e s m args below meth c A C
  rw [f_X10_bestNow] at h
  refine z_eq (lv2 := [(0, .ref (q 0)), (1, .int a1)]) rfl rfl rfl rfl ?_
  refine z_iconst (v := 1) C dX10_bestNow_0 (by decide) ?_
  refine z_istore_n (lv2 := [(2, .int 1), (0, .ref (q 0)), (1, .int a1)]) C dX10_bestNow_1 rfl (by decide) rfl ?_
  refine z_iconst (v := 2) C dX10_bestNow_2 (by decide) ?_
  refine z_istore_n (lv2 := [(3, .int 2), (2, .int 1), (0, .ref (q 0)), (1, .int a1)]) C dX10_bestNow_3 rfl (by decide) rfl ?_
  refine z_lv (lv2 := [(0, .ref (q 0)), (1, .int a1), (2, .int 1), (3, .int 2)]) [2, 3, 1, 0] rfl ?_
  obtain ⟨r7, hf8, h⟩ := bd_some h
  refine L_X10_bestNow_4 C a1 fu 1 2 S hf8 ?_
  refine z_iload_n C 2 dX10_bestNow_39 rfl rfl ?_
  injection h with h
  subst h
  exact z_iret C rfl ⟨rfl, rfl⟩ dX10_bestNow_40
def f_X10_best (fu : Nat) (S : MS) (a1 : Int32) : Option (Int32) := if (f_X10_isPot S a1) = 0 then some (-101) else (f_X10_boils S a1).bind fun r3 => if r3 = 0 then some (-103) else (f_X10_bestNow fu S a1).bind fun r6 => some r6
set_option maxHeartbeats 4000000 in
set_option maxRecDepth 100000 in
theorem c_X10_best (l : Launch) (G : zGT) (q : Nat → Nat) (S : MS) (X : va_W) (fu : Nat) (a1 : Int32) {res : Int32} (h : f_X10_best fu S a1 = some res) : MG l yX10_best wsX10_best ({ frames := 4, cells := 0, slots := 0, locals := 92 }) G [.ref (q 0), .int a1] (MW G q S ++ X) (va_Qi (fun r u => r = res ∧ u = MW G q S ++ X)) := by
  refine MG.of (cc := cX10_best) (maxL := 2) (ret := (some .int)) (own := RX10) (nm := "best") (by decide) rfl rfl rfl (Nat.le_of_ble_eq_true rfl) ?_
  intro p e s m args below meth c A C
  rw [f_X10_best] at h
  refine z_eq (lv2 := [(0, .ref (q 0)), (1, .int a1)]) rfl rfl rfl rfl ?_
  refine z_aload_n C 0 dX10_best_0 rfl rfl ?_
  refine z_iload_n C 1 dX10_best_1 rfl rfl ?_
  refine z_goti1 C (z_runV C (c_X10_isPot l G q S X a1) (cwV 1 C.hts gX10_best_X10_isPot rfl rfl rfl (by decide +kernel) ⟨Nat.le_of_ble_eq_true rfl, Nat.le_of_ble_eq_true rfl⟩) 0 rfl rfl rfl rfl (Nat.le_of_ble_eq_true rfl) dX10_best_2 ⟨Nat.le_of_ble_eq_true rfl, Nat.le_of_ble_eq_true rfl⟩) rfl rfl ?_
  refine z_if_ne (tgt := 11) C dX10_best_5 (by decide) (fun c1 => ?_) (fun c1 => ?_)
  · replace h := zf c1 h
    refine z_aload_n C 0 dX10_best_11 rfl rfl ?_
    refine z_iload_n C 1 dX10_best_12 rfl rfl ?_
    obtain ⟨r3, hf2, h⟩ := bd_some h
    refine z_goti1 C (z_runV C (c_X10_boils l G q S X a1 hf2) (cwV 1 C.hts gX10_best_X10_boils rfl rfl rfl (by decide +kernel) ⟨Nat.le_of_ble_eq_true rfl, Nat.le_of_ble_eq_true rfl⟩) 0 rfl rfl rfl rfl (Nat.le_of_ble_eq_true rfl) dX10_best_13 ⟨Nat.le_of_ble_eq_true rfl, Nat.le_of_ble_eq_true rfl⟩) rfl rfl ?_
    refine z_if_eq (tgt := 27) C dX10_best_16 (by decide) (fun c4 => ?_) (fun c4 => ?_)
    · replace h := zt c4 h
      refine z_bipush (v := (-103)) C dX10_best_27 (by decide) ?_
      injection h with h
      subst h
      exact z_iret C rfl ⟨rfl, rfl⟩ dX10_best_29
    · replace h := zf c4 h
      refine z_aload_n C 0 dX10_best_19 rfl rfl ?_
      refine z_iload_n C 1 dX10_best_20 rfl rfl ?_
      obtain ⟨r6, hf5, h⟩ := bd_some h
      refine z_goti1 C (z_runV C (c_X10_bestNow l G q S X fu a1 hf5) (cwV 1 C.hts gX10_best_X10_bestNow rfl rfl rfl (by decide +kernel) ⟨Nat.le_of_ble_eq_true rfl, Nat.le_of_ble_eq_true rfl⟩) 0 rfl rfl rfl rfl (Nat.le_of_ble_eq_true rfl) dX10_best_21 ⟨Nat.le_of_ble_eq_true rfl, Nat.le_of_ble_eq_true rfl⟩) rfl rfl ?_
      refine z_goto (tgt := 29) C dX10_best_24 (by decide) ?_
      injection h with h
      subst h
      exact z_iret C rfl ⟨rfl, rfl⟩ dX10_best_29
  · replace h := zt c1 h
    refine z_bipush (v := (-101)) C dX10_best_8 (by decide) ?_
    injection h with h
    subst h
    exact z_iret C rfl ⟨rfl, rfl⟩ dX10_best_10
def f_X10_togetherNow (S : MS) (a1 : Int32) (a2 : Int32) : Option (Int32) := gd a1 4 (if (mI S 6) ≤ (a2 - (mA S 5 a1.toNatClampNeg)) then gd a1 4 (some (a2 - (mA S 5 a1.toNatClampNeg))) else some (-1))
set_option maxHeartbeats 4000000 in
set_option maxRecDepth 100000 in
theorem c_X10_togetherNow (l : Launch) (G : zGT) (q : Nat → Nat) (S : MS) (X : va_W) (a1 : Int32) (a2 : Int32) {res : Int32} (h : f_X10_togetherNow S a1 a2 = some res) : MG l yX10_togetherNow wsX10_togetherNow ({ frames := 0, cells := 0, slots := 0, locals := 0 }) G [.ref (q 0), .int a1, .int a2] (MW G q S ++ X) (va_Qi (fun r u => r = res ∧ u = MW G q S ++ X)) := by
  have hi10 : ∀ w ∈ u_ws RX10 TX10 39, w ∈ wsX10_togetherNow := fun _ h => List.mem_cons_of_mem _ (List.mem_append_right _ h)
  refine MG.of (cc := cX10_togetherNow) (maxL := 3) (ret := (some .int)) (own := RX10) (nm := "togetherNow") (by decide) rfl rfl rfl (Nat.le_of_ble_eq_true rfl) ?_
  intro p e s m args below meth c A C
  rw [f_X10_togetherNow] at h
  refine z_eq (lv2 := [(0, .ref (q 0)), (1, .int a1), (2, .int a2)]) rfl rfl rfl rfl ?_
  refine z_iload_n C 2 dX10_togetherNow_0 rfl rfl ?_
  refine z_aload_n C 0 dX10_togetherNow_1 rfl rfl ?_
  refine mg_5 C hi10 (List.mem_of_getElem? (i := 1) rfl) dX10_togetherNow_2 ?_
  refine z_iload_n C 1 dX10_togetherNow_5 rfl rfl ?_
  obtain ⟨hg1, h⟩ := gd_some h
  refine ml_5 C hg1 dX10_togetherNow_6 ?_
  refine z_isub C dX10_togetherNow_7 ?_
  refine z_aload_n C 0 dX10_togetherNow_8 rfl rfl ?_
  refine mg_6 C hi10 (List.mem_of_getElem? (i := 2) rfl) dX10_togetherNow_9 ?_
  refine z_icmp_ge (tgt := 19) C dX10_togetherNow_12 (by decide) (fun c2 => ?_) (fun c2 => ?_)
  · replace h := zt c2 h
    refine z_iload_n C 2 dX10_togetherNow_19 rfl rfl ?_
    refine z_aload_n C 0 dX10_togetherNow_20 rfl rfl ?_
    refine mg_5 C hi10 (List.mem_of_getElem? (i := 1) rfl) dX10_togetherNow_21 ?_
    refine z_iload_n C 1 dX10_togetherNow_24 rfl rfl ?_
    obtain ⟨hg3, h⟩ := gd_some h
    refine ml_5 C hg3 dX10_togetherNow_25 ?_
    refine z_isub C dX10_togetherNow_26 ?_
    injection h with h
    subst h
    exact z_iret C rfl ⟨rfl, rfl⟩ dX10_togetherNow_27
  · replace h := zf c2 h
    refine z_iconst (v := (-1)) C dX10_togetherNow_15 (by decide) ?_
    refine z_goto (tgt := 27) C dX10_togetherNow_16 (by decide) ?_
    injection h with h
    subst h
    exact z_iret C rfl ⟨rfl, rfl⟩ dX10_togetherNow_27
def f_X10_together (S : MS) (a1 : Int32) (a2 : Int32) : Option (Int32) := if (f_X10_isPot S a1) = 0 then some (-101) else if (f_X10_within a2 0 1200) = 0 then some (-102) else (f_X10_togetherNow S a1 a2).bind fun r4 => some r4
set_option maxHeartbeats 4000000 in
set_option maxRecDepth 100000 in
theorem c_X10_together (l : Launch) (G : zGT) (q : Nat → Nat) (S : MS) (X : va_W) (a1 : Int32) (a2 : Int32) {res : Int32} (h : f_X10_together S a1 a2 = some res) : MG l yX10_together wsX10_together ({ frames := 2, cells := 0, slots := 0, locals := 43 }) G [.ref (q 0), .int a1, .int a2] (MW G q S ++ X) (va_Qi (fun r u => r = res ∧ u = MW G q S ++ X)) := by
  refine MG.of (cc := cX10_together) (maxL := 3) (ret := (some .int)) (own := RX10) (nm := "together") (by decide) rfl rfl rfl (Nat.le_of_ble_eq_true rfl) ?_
  intro p e s m args below meth c A C
  rw [f_X10_together] at h
  refine z_eq (lv2 := [(0, .ref (q 0)), (1, .int a1), (2, .int a2)]) rfl rfl rfl rfl ?_
  refine z_aload_n C 0 dX10_together_0 rfl rfl ?_
  refine z_iload_n C 1 dX10_together_1 rfl rfl ?_
  refine z_goti1 C (z_runV C (c_X10_isPot l G q S X a1) (cwV 1 C.hts gX10_together_X10_isPot rfl rfl rfl (by decide +kernel) ⟨Nat.le_of_ble_eq_true rfl, Nat.le_of_ble_eq_true rfl⟩) 0 rfl rfl rfl rfl (Nat.le_of_ble_eq_true rfl) dX10_together_2 ⟨Nat.le_of_ble_eq_true rfl, Nat.le_of_ble_eq_true rfl⟩) rfl rfl ?_
  refine z_if_ne (tgt := 11) C dX10_together_5 (by decide) (fun c1 => ?_) (fun c1 => ?_)
  · replace h := zf c1 h
    refine z_iload_n C 2 dX10_together_11 rfl rfl ?_
    refine z_iconst (v := 0) C dX10_together_12 (by decide) ?_
    refine z_sipush (v := 1200) C dX10_together_13 (by decide) ?_
    refine z_goti1 C (z_runS C (c_X10_within l G (MW G q S ++ X) a2 0 1200) (va_cwS 3 C.hts gX10_together_X10_within rfl rfl rfl (by decide +kernel) ⟨Nat.le_of_ble_eq_true rfl, Nat.le_of_ble_eq_true rfl⟩) rfl rfl (Nat.le_of_ble_eq_true rfl) dX10_together_16 ⟨Nat.le_of_ble_eq_true rfl, Nat.le_of_ble_eq_true rfl⟩) rfl rfl ?_
    refine z_if_eq (tgt := 31) C dX10_together_19 (by decide) (fun c2 => ?_) (fun c2 => ?_)
    · replace h := zt c2 h
      refine z_bipush (v := (-102)) C dX10_together_31 (by decide) ?_
      injection h with h
      subst h
      exact z_iret C rfl ⟨rfl, rfl⟩ dX10_together_33
    · replace h := zf c2 h
      refine z_aload_n C 0 dX10_together_22 rfl rfl ?_
      refine z_iload_n C 1 dX10_together_23 rfl rfl ?_
      refine z_iload_n C 2 dX10_together_24 rfl rfl ?_
      obtain ⟨r4, hf3, h⟩ := bd_some h
      refine z_goti1 C (z_runV C (c_X10_togetherNow l G q S X a1 a2 hf3) (cwV 2 C.hts gX10_together_X10_togetherNow rfl rfl rfl (by decide +kernel) ⟨Nat.le_of_ble_eq_true rfl, Nat.le_of_ble_eq_true rfl⟩) 0 rfl rfl rfl rfl (Nat.le_of_ble_eq_true rfl) dX10_together_25 ⟨Nat.le_of_ble_eq_true rfl, Nat.le_of_ble_eq_true rfl⟩) rfl rfl ?_
      refine z_goto (tgt := 33) C dX10_together_28 (by decide) ?_
      injection h with h
      subst h
      exact z_iret C rfl ⟨rfl, rfl⟩ dX10_together_33
  · replace h := zt c1 h
    refine z_bipush (v := (-101)) C dX10_together_8 (by decide) ?_
    injection h with h
    subst h
    exact z_iret C rfl ⟨rfl, rfl⟩ dX10_together_10
