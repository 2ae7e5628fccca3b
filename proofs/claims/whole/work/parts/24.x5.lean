def f_X9_windingsThatFit_L4 (fu : Nat) (P : XP)  : Nat → Int32 → Int32 → XS → Option (Int32 × Int32)
  | 0, _, _, _ => none
  | n + 1, v1, v2, S => if (xI S 7) < v2 then some (v1, v2) else (f_X8_fits fu P S v2).bind fun r3 => if r3 = 0 then f_X9_windingsThatFit_L4 fu P n v1 (v2 + 1) S else f_X9_windingsThatFit_L4 fu P n (v1 + 1) (v2 + 1) S
def f_X9_windingsThatFit (fu : Nat) (P : XP) (S : XS) : Option (Int32) := (f_X9_windingsThatFit_L4 fu P fu 0 1 S).bind fun r5 => some r5.1
set_option maxHeartbeats 4000000 in
set_option maxRecDepth 100000 in
theorem L_X9_windingsThatFit_4 {p : Program} {l : Launch} {e : Env} {s : State} {m : MethodId} {args : Array Value} {below : List Frame} {meth : Method} {c : Code} {A : Nat → Prop} {G : zGT} {q : Nat → Nat} {P : XP} {X : va_W} {fu : Nat} {Q : State → Prop} (C : zC p s m args meth c A G cX9_windingsThatFit 3 (some .int) RX9 "windingsThatFit" wsX9_windingsThatFit) (hp : xOK P) : ∀ (n : Nat) (v1 : Int32) (v2 : Int32) (S : XS) {res : Int32 × Int32}, f_X9_windingsThatFit_L4 fu P n v1 v2 S = some res → Z p l e ({ frames := 2, cells := 0, slots := 0, locals := 43 }) s m args below meth c A G 3 Q 0 0 (XW G q P S ++ X) [(0, .ref (q 0)), (1, .int res.1), (2, .int res.2)] 32 [] → Z p l e ({ frames := 2, cells := 0, slots := 0, locals := 43 }) s m args below meth c A G 3 Q 0 0 (XW G q P S ++ X) [(0, .ref (q 0)), (1, .int v1), (2, .int v2)] 4 [] := by
  have hi9 : ∀ w ∈ u_ws RX9 TX9 18, w ∈ wsX9_windingsThatFit := fun _ h => List.mem_cons_of_mem _ (List.mem_append_left _ (List.mem_append_right _ h))
  intro n
  induction n with
  | zero =>
    intro v1 v2 S res h kk
    exact nomatch (h : none = some _)
  | succ n ih =>
    intro v1 v2 S res h kk
    rw [f_X9_windingsThatFit_L4] at h
    refine z_iload_n C 2 dX9_windingsThatFit_4 rfl rfl ?_
    refine z_aload_n C 0 dX9_windingsThatFit_5 rfl rfl ?_
    refine xg_T7 C hi9 (List.mem_of_getElem? (i := 1) rfl) dX9_windingsThatFit_6 ?_
    refine z_icmp_gt (tgt := 32) C dX9_windingsThatFit_9 (by decide) (fun c1 => ?_) (fun c1 => ?_)
    · replace h := zt c1 h
      injection h with h
      subst h
      refine z_lv (lv2 := [(0, .ref (q 0)), (1, .int v1), (2, .int v2)]) [0, 1, 2] rfl ?_
      exact kk
    · replace h := zf c1 h
      refine z_aload_n C 0 dX9_windingsThatFit_12 rfl rfl ?_
      refine xg_T2 C hi9 (List.mem_of_getElem? (i := 2) rfl) dX9_windingsThatFit_13 ?_
      refine z_iload_n C 2 dX9_windingsThatFit_16 rfl rfl ?_
      obtain ⟨r3, hf2, h⟩ := bd_some h
      refine z_goti1 C (z_runV C (c_X8_fits l G q P S X fu v2 hf2) (cwV 1 C.hts gX9_windingsThatFit_X8_fits rfl rfl rfl (by decide +kernel) ⟨Nat.le_of_ble_eq_true rfl, Nat.le_of_ble_eq_true rfl⟩) 4 rfl rfl rfl rfl (Nat.le_of_ble_eq_true rfl) dX9_windingsThatFit_17 ⟨Nat.le_of_ble_eq_true rfl, Nat.le_of_ble_eq_true rfl⟩) rfl rfl ?_
      refine z_if_eq (tgt := 26) C dX9_windingsThatFit_20 (by decide) (fun c4 => ?_) (fun c4 => ?_)
      · replace h := zt c4 h
        refine z_iinc (v := (v2 + 1)) (lv2 := [(2, .int (v2 + 1)), (0, .ref (q 0)), (1, .int v1)]) C 2 dX9_windingsThatFit_26 rfl rfl (by decide) rfl ?_
        refine z_goto (tgt := 4) C dX9_windingsThatFit_29 (by decide) ?_
        refine z_lv (lv2 := [(0, .ref (q 0)), (1, .int v1), (2, .int (v2 + 1))]) [1, 2, 0] rfl ?_
        exact ih v1 (v2 + 1) S h kk
      · replace h := zf c4 h
        refine z_iinc (v := (v1 + 1)) (lv2 := [(1, .int (v1 + 1)), (0, .ref (q 0)), (2, .int v2)]) C 1 dX9_windingsThatFit_23 rfl rfl (by decide) rfl ?_
        refine z_iinc (v := (v2 + 1)) (lv2 := [(2, .int (v2 + 1)), (1, .int (v1 + 1)), (0, .ref (q 0))]) C 2 dX9_windingsThatFit_26 rfl rfl (by decide) rfl ?_
        refine z_goto (tgt := 4) C dX9_windingsThatFit_29 (by decide) ?_
        refine z_lv (lv2 := [(0, .ref (q 0)), (1, .int (v1 + 1)), (2, .int (v2 + 1))]) [2, 1, 0] rfl ?_
        exact ih (v1 + 1) (v2 + 1) S h kk
set_option maxHeartbeats 4000000 in
set_option maxRecDepth 100000 in
theorem c_X9_windingsThatFit (l : Launch) (G : zGT) (q : Nat → Nat) (P : XP) (hp : xOK P) (S : XS) (X : va_W) (fu : Nat) {res : Int32} (h : f_X9_windingsThatFit fu P S = some res) : MG l yX9_windingsThatFit wsX9_windingsThatFit ({ frames := 2, cells := 0, slots := 0, locals := 43 }) G [.ref (q 0)] (XW G q P S ++ X) (va_Qi (fun r u => r = res ∧ u = XW G q P S ++ X)) := by
  have hi9 : ∀ w ∈ u_ws RX9 TX9 18, w ∈ wsX9_windingsThatFit := fun _ h => List.mem_cons_of_mem _ (List.mem_append_left _ (List.mem_append_right _ h))
  refine MG.of (cc := cX9_windingsThatFit) (maxL := 3) (ret := (some .int)) (own := RX9) (nm := "windingsThatFit") (by decide) rfl rfl rfl (Nat.le_of_ble_eq_true rfl) ?_
  intro p e s m args below meth c A C
  rw [f_X9_windingsThatFit] at h
  refine z_eq (lv2 := [(0, .ref (q 0))]) rfl rfl rfl rfl ?_
  refine z_iconst (v := 0) C dX9_windingsThatFit_0 (by decide) ?_
  refine z_istore_n (lv2 := [(1, .int 0), (0, .ref (q 0))]) C dX9_windingsThatFit_1 rfl (by decide) rfl ?_
  refine z_iconst (v := 1) C dX9_windingsThatFit_2 (by decide) ?_
  refine z_istore_n (lv2 := [(2, .int 1), (1, .int 0), (0, .ref (q 0))]) C dX9_windingsThatFit_3 rfl (by decide) rfl ?_
  refine z_lv (lv2 := [(0, .ref (q 0)), (1, .int 0), (2, .int 1)]) [2, 1, 0] rfl ?_
  obtain ⟨r5, hf6, h⟩ := bd_some h
  refine L_X9_windingsThatFit_4 C hp  fu 0 1 S hf6 ?_
  refine z_iload_n C 1 dX9_windingsThatFit_32 rfl rfl ?_
  injection h with h
  subst h
  exact z_iret C rfl ⟨rfl, rfl⟩ dX9_windingsThatFit_33
def f_X9_leastThatFits_L2 (fu : Nat) (P : XP)  : Nat → Int32 → XS → Option (Int32)
  | 0, _, _ => none
  | n + 1, v1, S => if (xI S 7) < v1 then some (-1) else (f_X8_fits fu P S v1).bind fun r3 => if r3 = 0 then f_X9_leastThatFits_L2 fu P n (v1 + 1) S else some v1
def f_X9_leastThatFits (fu : Nat) (P : XP) (S : XS) : Option (Int32) := f_X9_leastThatFits_L2 fu P fu 1 S
set_option maxHeartbeats 4000000 in
set_option maxRecDepth 100000 in
theorem L_X9_leastThatFits_2 {p : Program} {l : Launch} {e : Env} {s : State} {m : MethodId} {args : Array Value} {below : List Frame} {meth : Method} {c : Code} {A : Nat → Prop} {G : zGT} {q : Nat → Nat} {P : XP} {X : va_W} {fu : Nat} (C : zC p s m args meth c A G cX9_leastThatFits 2 (some .int) RX9 "leastThatFits" wsX9_leastThatFits) (hp : xOK P) : ∀ (n : Nat) (v1 : Int32) (S : XS) {res : Int32}, f_X9_leastThatFits_L2 fu P n v1 S = some res → Z p l e ({ frames := 2, cells := 0, slots := 0, locals := 43 }) s m args below meth c A G 2 (MQ below (va_Qi (fun r u => r = res ∧ u = XW G q P S ++ X) (zPost G A) A) args s 0 0 A) 0 0 (XW G q P S ++ X) [(0, .ref (q 0)), (1, .int v1)] 2 [] := by
  have hi9 : ∀ w ∈ u_ws RX9 TX9 18, w ∈ wsX9_leastThatFits := fun _ h => List.mem_cons_of_mem _ (List.mem_append_left _ (List.mem_append_right _ h))
  intro n
  induction n with
  | zero =>
    intro v1 S res h
    exact nomatch (h : none = some _)
  | succ n ih =>
    intro v1 S res h
    rw [f_X9_leastThatFits_L2] at h
    refine z_iload_n C 1 dX9_leastThatFits_2 rfl rfl ?_
    refine z_aload_n C 0 dX9_leastThatFits_3 rfl rfl ?_
    refine xg_T7 C hi9 (List.mem_of_getElem? (i := 1) rfl) dX9_leastThatFits_4 ?_
    refine z_icmp_gt (tgt := 29) C dX9_leastThatFits_7 (by decide) (fun c1 => ?_) (fun c1 => ?_)
    · replace h := zt c1 h
      refine z_iconst (v := (-1)) C dX9_leastThatFits_29 (by decide) ?_
      injection h with h
      subst h
      exact z_iret C rfl ⟨rfl, rfl⟩ dX9_leastThatFits_30
    · replace h := zf c1 h
      refine z_aload_n C 0 dX9_leastThatFits_10 rfl rfl ?_
      refine xg_T2 C hi9 (List.mem_of_getElem? (i := 2) rfl) dX9_leastThatFits_11 ?_
      refine z_iload_n C 1 dX9_leastThatFits_14 rfl rfl ?_
      obtain ⟨r3, hf2, h⟩ := bd_some h
      refine z_goti1 C (z_runV C (c_X8_fits l G q P S X fu v1 hf2) (cwV 1 C.hts gX9_leastThatFits_X8_fits rfl rfl rfl (by decide +kernel) ⟨Nat.le_of_ble_eq_true rfl, Nat.le_of_ble_eq_true rfl⟩) 4 rfl rfl rfl rfl (Nat.le_of_ble_eq_true rfl) dX9_leastThatFits_15 ⟨Nat.le_of_ble_eq_true rfl, Nat.le_of_ble_eq_true rfl⟩) rfl rfl ?_
      refine z_if_eq (tgt := 23) C dX9_leastThatFits_18 (by decide) (fun c4 => ?_) (fun c4 => ?_)
      · replace h := zt c4 h
        refine z_iinc (v := (v1 + 1)) (lv2 := [(1, .int (v1 + 1)), (0, .ref (q 0))]) C 1 dX9_leastThatFits_23 rfl rfl (by decide) rfl ?_
        refine z_goto (tgt := 2) C dX9_leastThatFits_26 (by decide) ?_
        refine z_lv (lv2 := [(0, .ref (q 0)), (1, .int (v1 + 1))]) [1, 0] rfl ?_
        exact ih (v1 + 1) S h
      · replace h := zf c4 h
        refine z_iload_n C 1 dX9_leastThatFits_21 rfl rfl ?_
        injection h with h
        subst h
        exact z_iret C rfl ⟨rfl, rfl⟩ dX9_leastThatFits_22
set_option maxHeartbeats 4000000 in
set_option maxRecDepth 100000 in
theorem c_X9_leastThatFits (l : Launch) (G : zGT) (q : Nat → Nat) (P : XP) (hp : xOK P) (S : XS) (X : va_W) (fu : Nat) {res : Int32} (h : f_X9_leastThatFits fu P S = some res) : MG l yX9_leastThatFits wsX9_leastThatFits ({ frames := 2, cells := 0, slots := 0, locals := 43 }) G [.ref (q 0)] (XW G q P S ++ X) (va_Qi (fun r u => r = res ∧ u = XW G q P S ++ X)) := by
  have hi9 : ∀ w ∈ u_ws RX9 TX9 18, w ∈ wsX9_leastThatFits := fun _ h => List.mem_cons_of_mem _ (List.mem_append_left _ (List.mem_append_right _ h))
  refine MG.of (cc := cX9_leastThatFits) (maxL := 2) (ret := (some .int)) (own := RX9) (nm := "leastThatFits") (by decide) rfl rfl rfl (Nat.le_of_ble_eq_true rfl) ?_
  intro p e s m args below meth c A C
  rw [f_X9_leastThatFits] at h
  refine z_eq (lv2 := [(0, .ref (q 0))]) rfl rfl rfl rfl ?_
  refine z_iconst (v := 1) C dX9_leastThatFits_0 (by decide) ?_
  refine z_istore_n (lv2 := [(1, .int 1), (0, .ref (q 0))]) C dX9_leastThatFits_1 rfl (by decide) rfl ?_
  refine z_lv (lv2 := [(0, .ref (q 0)), (1, .int 1)]) [1, 0] rfl ?_
  exact L_X9_leastThatFits_2 C hp  fu 1 S h
def f_X9_wound (fu : Nat) (P : XP) (S : XS) (a1 : Int32) : Option (Int32) := if a1 < 0 then some (-102) else if a1 ≤ 1 then if (f_X9_hasKitchen P S) = 0 then some (-103) else if a1 = 0 then (f_X9_windingsThatFit fu P S).bind fun r8 => some r8 else (f_X9_leastThatFits fu P S).bind fun r6 => some r6 else some (-102)
set_option maxHeartbeats 4000000 in
set_option maxRecDepth 100000 in
theorem c_X9_wound (l : Launch) (G : zGT) (q : Nat → Nat) (P : XP) (hp : xOK P) (S : XS) (X : va_W) (fu : Nat) (a1 : Int32) {res : Int32} (h : f_X9_wound fu P S a1 = some res) : MG l yX9_wound wsX9_wound ({ frames := 3, cells := 0, slots := 0, locals := 65 }) G [.ref (q 0), .int a1] (XW G q P S ++ X) (va_Qi (fun r u => r = res ∧ u = XW G q P S ++ X)) := by
  refine MG.of (cc := cX9_wound) (maxL := 2) (ret := (some .int)) (own := RX9) (nm := "wound") (by decide) rfl rfl rfl (Nat.le_of_ble_eq_true rfl) ?_
  intro p e s m args below meth c A C
  rw [f_X9_wound] at h
  refine z_eq (lv2 := [(0, .ref (q 0)), (1, .int a1)]) rfl rfl rfl rfl ?_
  refine z_iload_n C 1 dX9_wound_0 rfl rfl ?_
  refine z_if_lt (tgt := 9) C dX9_wound_1 (by decide) (fun c1 => ?_) (fun c1 => ?_)
  · replace h := zt c1 h
    refine z_bipush (v := (-102)) C dX9_wound_9 (by decide) ?_
    injection h with h
    subst h
    exact z_iret C rfl ⟨rfl, rfl⟩ dX9_wound_11
  · replace h := zf c1 h
    refine z_iload_n C 1 dX9_wound_4 rfl rfl ?_
    refine z_iconst (v := 1) C dX9_wound_5 (by decide) ?_
    refine z_icmp_le (tgt := 12) C dX9_wound_6 (by decide) (fun c2 => ?_) (fun c2 => ?_)
    · replace h := zt c2 h
      refine z_aload_n C 0 dX9_wound_12 rfl rfl ?_
      refine z_goti1 C (z_runV C (c_X9_hasKitchen l G q P hp S X) (cwV 0 C.hts gX9_wound_X9_hasKitchen rfl rfl rfl (by decide +kernel) ⟨Nat.le_of_ble_eq_true rfl, Nat.le_of_ble_eq_true rfl⟩) 0 rfl rfl rfl rfl (Nat.le_of_ble_eq_true rfl) dX9_wound_13 ⟨Nat.le_of_ble_eq_true rfl, Nat.le_of_ble_eq_true rfl⟩) rfl rfl ?_
      refine z_if_ne (tgt := 22) C dX9_wound_16 (by decide) (fun c3 => ?_) (fun c3 => ?_)
      · replace h := zf c3 h
        refine z_iload_n C 1 dX9_wound_22 rfl rfl ?_
        refine z_if_ne (tgt := 33) C dX9_wound_23 (by decide) (fun c4 => ?_) (fun c4 => ?_)
        · replace h := zf c4 h
          refine z_aload_n C 0 dX9_wound_33 rfl rfl ?_
          obtain ⟨r6, hf5, h⟩ := bd_some h
          refine z_goti1 C (z_runV C (c_X9_leastThatFits l G q P hp S X fu hf5) (cwV 0 C.hts gX9_wound_X9_leastThatFits rfl rfl rfl (by decide +kernel) ⟨Nat.le_of_ble_eq_true rfl, Nat.le_of_ble_eq_true rfl⟩) 0 rfl rfl rfl rfl (Nat.le_of_ble_eq_true rfl) dX9_wound_34 ⟨Nat.le_of_ble_eq_true rfl, Nat.le_of_ble_eq_true rfl⟩) rfl rfl ?_
          injection h with h
          subst h
          exact z_iret C rfl ⟨rfl, rfl⟩ dX9_wound_37
        · replace h := zt c4 h
          refine z_aload_n C 0 dX9_wound_26 rfl rfl ?_
          obtain ⟨r8, hf7, h⟩ := bd_some h
          refine z_goti1 C (z_runV C (c_X9_windingsThatFit l G q P hp S X fu hf7) (cwV 0 C.hts gX9_wound_X9_windingsThatFit rfl rfl rfl (by decide +kernel) ⟨Nat.le_of_ble_eq_true rfl, Nat.le_of_ble_eq_true rfl⟩) 0 rfl rfl rfl rfl (Nat.le_of_ble_eq_true rfl) dX9_wound_27 ⟨Nat.le_of_ble_eq_true rfl, Nat.le_of_ble_eq_true rfl⟩) rfl rfl ?_
          refine z_goto (tgt := 37) C dX9_wound_30 (by decide) ?_
          injection h with h
          subst h
          exact z_iret C rfl ⟨rfl, rfl⟩ dX9_wound_37
      · replace h := zt c3 h
        refine z_bipush (v := (-103)) C dX9_wound_19 (by decide) ?_
        injection h with h
        subst h
        exact z_iret C rfl ⟨rfl, rfl⟩ dX9_wound_21
    · replace h := zf c2 h
      refine z_bipush (v := (-102)) C dX9_wound_9 (by decide) ?_
      injection h with h
      subst h
      exact z_iret C rfl ⟨rfl, rfl⟩ dX9_wound_11
def f_X9_evenings_L60 (fu : Nat) (P : XP) (v1 : Int32) (v2 : Int32) (v3 : Int32) : Nat → Int32 → Int32 → Int32 → Int32 → Int32 → XS → Option (Int32 × Int32 × Int32 × Int32 × Int32 × XS)
  | 0, _, _, _, _, _, _ => none
  | n + 1, v4, v5, v6, v7, v8, S => if v1 ≤ v8 then some (v4, v5, v6, v7, v8, S) else (f_X1_next P S (xI S 7)).bind fun r9 => (f_X1_next P r9.2 (xI r9.2 6)).bind fun r11 => pm (f_X9_potAt P r11.2 r11.1) (f_X9_evenings_L60 fu P v1 v2 v3 n v4 v5 (v6 + (1 + r9.1)) v7 (v8 + 1) r11.2) (fun j13 => if (v7 &&& (1 <<< (r11.1 &&& 31))) = 0 then if (f_X9_outBy ((v6 + (1 + r9.1)) - (xR r11.2 j13 0)) (kp (P.2.2.1 j13))) = 100 then if (f_X9_outBy ((v6 + (1 + r9.1)) - (xR r11.2 j13 0)) (kp (P.2.2.1 j13))) ≤ 100 then f_X9_evenings_L60 fu P v1 v2 v3 n (v4 + 1) (v5 + 0) (v6 + (1 + r9.1)) (v7 ||| (1 <<< (r11.1 &&& 31))) (v8 + 1) r11.2 else f_X9_evenings_L60 fu P v1 v2 v3 n (v4 + 1) (v5 + 1) (v6 + (1 + r9.1)) (v7 ||| (1 <<< (r11.1 &&& 31))) (v8 + 1) r11.2 else if (f_X9_outBy ((v6 + (1 + r9.1)) - (xR r11.2 j13 0)) (kp (P.2.2.1 j13))) ≤ 100 then f_X9_evenings_L60 fu P v1 v2 v3 n (v4 + 0) (v5 + 0) (v6 + (1 + r9.1)) (v7 ||| (1 <<< (r11.1 &&& 31))) (v8 + 1) r11.2 else f_X9_evenings_L60 fu P v1 v2 v3 n (v4 + 0) (v5 + 1) (v6 + (1 + r9.1)) (v7 ||| (1 <<< (r11.1 &&& 31))) (v8 + 1) r11.2 else f_X9_evenings_L60 fu P v1 v2 v3 n v4 v5 (v6 + (1 + r9.1)) v7 (v8 + 1) r11.2)
def f_X9_evenings (fu : Nat) (P : XP) (S : XS) (a1 : Int32) (a2 : Int32) (a3 : Int32) : Option (Int32 × XS) := if a1 < 1 then some ((-102), S) else if 30 < a1 then some ((-102), S) else if a2 < 0 then some ((-102), S) else if a3 < 0 then some ((-102), S) else if a3 ≤ 2 then if (f_X9_hasKitchen P S) = 0 then some ((-103), S) else (f_X9_evenings_L60 fu P a1 a2 a3 fu 0 0 0 0 0 (xsI S 30 a2)).bind fun r18 => if a3 = 0 then some (r18.1, r18.2.2.2.2.2) else if a3 = 1 then some (r18.2.1, r18.2.2.2.2.2) else some ((xI r18.2.2.2.2.2 30), r18.2.2.2.2.2) else some ((-102), S)
set_option maxHeartbeats 4000000 in
set_option maxRecDepth 100000 in
theorem L_X9_evenings_60 {p : Program} {l : Launch} {e : Env} {s : State} {m : MethodId} {args : Array Value} {below : List Frame} {meth : Method} {c : Code} {A : Nat → Prop} {G : zGT} {q : Nat → Nat} {P : XP} {X : va_W} {fu : Nat} {Q : State → Prop} (C : zC p s m args meth c A G cX9_evenings 12 (some .int) RX9 "evenings" wsX9_evenings) (hp : xOK P) (v1 : Int32) (v2 : Int32) (v3 : Int32) : ∀ (n : Nat) (v4 : Int32) (v5 : Int32) (v6 : Int32) (v7 : Int32) (v8 : Int32) (S : XS) {res : Int32 × Int32 × Int32 × Int32 × Int32 × XS}, f_X9_evenings_L60 fu P v1 v2 v3 n v4 v5 v6 v7 v8 S = some res → Z p l e ({ frames := 2, cells := 0, slots := 0, locals := 40 }) s m args below meth c A G 12 Q 0 0 (XW G q P res.2.2.2.2.2 ++ X) [(0, .ref (q 0)), (1, .int v1), (2, .int v2), (3, .int v3), (4, .int res.1), (5, .int res.2.1), (6, .int res.2.2.1), (7, .int res.2.2.2.1), (8, .int res.2.2.2.2.1)] 187 [] → Z p l e ({ frames := 2, cells := 0, slots := 0, locals := 40 }) s m args below meth c A G 12 Q 0 0 (XW G q P S ++ X) [(0, .ref (q 0)), (1, .int v1), (2, .int v2), (3, .int v3), (4, .int v4), (5, .int v5), (6, .int v6), (7, .int v7), (8, .int v8)] 60 [] := by
  have hi0 : ∀ w ∈ u_ws RX0 TX0 7, w ∈ wsX9_evenings := fun _ h => List.mem_cons_of_mem _ (List.mem_append_left _ (List.mem_append_left _ (List.mem_append_left _ (List.mem_append_left _ (List.mem_append_right _ h)))))
  have hi1 : ∀ w ∈ u_ws RX1 TX1 1, w ∈ wsX9_evenings := fun _ h => List.mem_cons_of_mem _ (List.mem_append_left _ (List.mem_append_left _ (List.mem_append_left _ (List.mem_append_left _ (List.mem_append_left _ (List.mem_append_right _ h))))))
  have hi2 : ∀ w ∈ u_ws RX2 TX2 7, w ∈ wsX9_evenings := fun _ h => List.mem_cons_of_mem _ (List.mem_append_left _ (List.mem_append_left _ (List.mem_append_left _ (List.mem_append_right _ h))))
  have hi5 : ∀ w ∈ u_ws RX5 TX5 7, w ∈ wsX9_evenings := fun _ h => List.mem_cons_of_mem _ (List.mem_append_left _ (List.mem_append_left _ (List.mem_append_right _ h)))
  have hi6 : ∀ w ∈ u_ws RX6 TX6 7, w ∈ wsX9_evenings := fun _ h => List.mem_cons_of_mem _ (List.mem_append_left _ (List.mem_append_right _ h))
  have hi7 : ∀ w ∈ u_ws RX7 TX7 7, w ∈ wsX9_evenings := fun _ h => List.mem_cons_of_mem _ (List.mem_append_right _ h)
  have hi9 : ∀ w ∈ u_ws RX9 TX9 18, w ∈ wsX9_evenings := fun _ h => List.mem_cons_of_mem _ (List.mem_append_left _ (List.mem_append_left _ (List.mem_append_left _ (List.mem_append_left _ (List.mem_append_left _ (List.mem_append_left _ (List.mem_append_right _ h)))))))
  intro n
  induction n with
  | zero =>
    intro v4 v5 v6 v7 v8 S res h kk
    exact nomatch (h : none = some _)
  | succ n ih =>
    intro v4 v5 v6 v7 v8 S res h kk
    rw [f_X9_evenings_L60] at h
    refine z_iload C 8 dX9_evenings_60 rfl ?_
    refine z_iload_n C 1 dX9_evenings_62 rfl rfl ?_
    refine z_icmp_ge (tgt := 187) C dX9_evenings_63 (by decide) (fun c7 => ?_) (fun c7 => ?_)
    · replace h := zt c7 h
      injection h with h
      subst h
      refine z_lv (lv2 := [(0, .ref (q 0)), (1, .int v1), (2, .int v2), (3, .int v3), (4, .int v4), (5, .int v5), (6, .int v6), (7, .int v7), (8, .int v8)]) [0, 1, 2, 3, 4, 5, 6, 7, 8] rfl ?_
      exact kk
    · replace h := zf c7 h
      refine z_iload C 6 dX9_evenings_66 rfl ?_
      refine z_iconst (v := 1) C dX9_evenings_68 (by decide) ?_
      refine z_aload_n C 0 dX9_evenings_69 rfl rfl ?_
      refine xg_T5 C hi9 (List.mem_of_getElem? (i := 1) rfl) dX9_evenings_70 ?_
      refine z_aload_n C 0 dX9_evenings_73 rfl rfl ?_
      refine xg_T7 C hi9 (List.mem_of_getElem? (i := 3) rfl) dX9_evenings_74 ?_
      obtain ⟨r9, hf8, h⟩ := bd_some h
      refine z_goti1 C (z_runV C (c_X1_next l G q P S X (xI S 7) hf8) (cwV 1 C.hts gX9_evenings_X1_next rfl rfl rfl (by decide +kernel) ⟨Nat.le_of_ble_eq_true rfl, Nat.le_of_ble_eq_true rfl⟩) 17 rfl rfl rfl rfl (Nat.le_of_ble_eq_true rfl) dX9_evenings_77 ⟨Nat.le_of_ble_eq_true rfl, Nat.le_of_ble_eq_true rfl⟩) rfl rfl ?_
      refine z_iadd C dX9_evenings_80 ?_
      refine z_iadd C dX9_evenings_81 ?_
      refine z_istore (lv2 := [(6, .int (v6 + (1 + r9.1))), (0, .ref (q 0)), (1, .int v1), (2, .int v2), (3, .int v3), (4, .int v4), (5, .int v5), (7, .int v7), (8, .int v8)]) C dX9_evenings_82 (by decide) rfl ?_
      refine z_aload_n C 1 dX9_evenings_84 rfl rfl ?_
      refine xg_T5 C hi9 (List.mem_of_getElem? (i := 1) rfl) dX9_evenings_85 ?_
      refine z_aload_n C 1 dX9_evenings_88 rfl rfl ?_
      refine xg_T6 C hi9 (List.mem_of_getElem? (i := 4) rfl) dX9_evenings_89 ?_
      obtain ⟨r11, hf10, h⟩ := bd_some h
      refine z_goti1 C (z_runV C (c_X1_next l G q P r9.2 X (xI r9.2 6) hf10) (cwV 1 C.hts gX9_evenings_X1_next rfl rfl rfl (by decide +kernel) ⟨Nat.le_of_ble_eq_true rfl, Nat.le_of_ble_eq_true rfl⟩) 17 rfl rfl rfl rfl (Nat.le_of_ble_eq_true rfl) dX9_evenings_92 ⟨Nat.le_of_ble_eq_true rfl, Nat.le_of_ble_eq_true rfl⟩) rfl rfl ?_
      refine z_istore (lv2 := [(9, .int r11.1), (6, .int (v6 + (1 + r9.1))), (0, .ref (q 0)), (1, .int v1), (2, .int v2), (3, .int v3), (4, .int v4), (5, .int v5), (7, .int v7), (8, .int v8)]) C dX9_evenings_95 (by decide) rfl ?_
      refine z_aload_n C 2 dX9_evenings_97 rfl rfl ?_
      refine z_iload C 0 dX9_evenings_98 rfl ?_
      refine z_gotq1 C (z_runV C (c_X9_potAt l G q P hp r11.2 X r11.1) (cwV 1 C.hts gX9_evenings_X9_potAt rfl rfl rfl (by decide +kernel) ⟨Nat.le_of_ble_eq_true rfl, Nat.le_of_ble_eq_true rfl⟩) 0 rfl rfl rfl rfl (Nat.le_of_ble_eq_true rfl) dX9_evenings_100 ⟨Nat.le_of_ble_eq_true rfl, Nat.le_of_ble_eq_true rfl⟩) rfl rfl ?_
      cases hq12 : (f_X9_potAt P r11.2 r11.1) with
      | none =>
        replace h := pm_n hq12 h
        refine z_eq (st2 := [.null]) rfl rfl rfl rfl ?_
        refine z_astoreN (lv2 := [(10, .null), (9, .int r11.1), (6, .int (v6 + (1 + r9.1))), (0, .ref (q 0)), (1, .int v1), (2, .int v2), (3, .int v3), (4, .int v4), (5, .int v5), (7, .int v7), (8, .int v8)]) C dX9_evenings_103 (by decide) rfl ?_
        refine z_aloadN C 0 dX9_evenings_105 rfl ?_
        refine z_ifnullN (tgt := 181) C dX9_evenings_107 (by decide) ?_
        refine z_iinc (v := (v8 + 1)) (lv2 := [(8, .int (v8 + 1)), (10, .null), (9, .int r11.1), (6, .int (v6 + (1 + r9.1))), (0, .ref (q 0)), (1, .int v1), (2, .int v2), (3, .int v3), (4, .int v4), (5, .int v5), (7, .int v7)]) C 10 dX9_evenings_181 rfl rfl (by decide) rfl ?_
        refine z_goto (tgt := 60) C dX9_evenings_184 (by decide) ?_
        refine z_lv (lv2 := [(0, .ref (q 0)), (1, .int v1), (2, .int v2), (3, .int v3), (4, .int v4), (5, .int v5), (6, .int (v6 + (1 + r9.1))), (7, .int v7), (8, .int (v8 + 1))]) [4, 5, 6, 7, 8, 9, 3, 10, 0] rfl ?_
        exact ih v4 v5 (v6 + (1 + r9.1)) v7 (v8 + 1) r11.2 h kk
      | some j13 =>
        replace h := pm_s hq12 h
        have hi_j13 : j13 < P.1 := f_potAt_lt hq12
        refine z_eq (st2 := [.ref (P.2.1 j13)]) rfl rfl rfl rfl ?_
        refine z_astore (lv2 := [(10, .ref (P.2.1 j13)), (9, .int r11.1), (6, .int (v6 + (1 + r9.1))), (0, .ref (q 0)), (1, .int v1), (2, .int v2), (3, .int v3), (4, .int v4), (5, .int v5), (7, .int v7), (8, .int v8)]) C dX9_evenings_103 (by decide) rfl ?_
        refine z_aload C 0 dX9_evenings_105 rfl ?_
        refine z_ifnull C dX9_evenings_107 ?_
        refine z_iload C 9 dX9_evenings_110 rfl ?_
        refine z_iconst (v := 1) C dX9_evenings_112 (by decide) ?_
        refine z_iload C 1 dX9_evenings_113 rfl ?_
        refine z_ishl C dX9_evenings_115 ?_
        refine z_iand C dX9_evenings_116 ?_
        refine z_if_ne (tgt := 181) C dX9_evenings_117 (by decide) (fun c14 => ?_) (fun c14 => ?_)
        · replace h := zf c14 h
          refine z_iinc (v := (v8 + 1)) (lv2 := [(8, .int (v8 + 1)), (10, .ref (P.2.1 j13)), (9, .int r11.1), (6, .int (v6 + (1 + r9.1))), (0, .ref (q 0)), (1, .int v1), (2, .int v2), (3, .int v3), (4, .int v4), (5, .int v5), (7, .int v7)]) C 10 dX9_evenings_181 rfl rfl (by decide) rfl ?_
          refine z_goto (tgt := 60) C dX9_evenings_184 (by decide) ?_
          refine z_lv (lv2 := [(0, .ref (q 0)), (1, .int v1), (2, .int v2), (3, .int v3), (4, .int v4), (5, .int v5), (6, .int (v6 + (1 + r9.1))), (7, .int v7), (8, .int (v8 + 1))]) [4, 5, 6, 7, 8, 9, 3, 10, 0] rfl ?_
          exact ih v4 v5 (v6 + (1 + r9.1)) v7 (v8 + 1) r11.2 h kk
        · replace h := zt c14 h
          refine z_iload C 9 dX9_evenings_120 rfl ?_
          refine z_iconst (v := 1) C dX9_evenings_122 (by decide) ?_
          refine z_iload C 1 dX9_evenings_123 rfl ?_
          refine z_ishl C dX9_evenings_125 ?_
          refine z_ior C dX9_evenings_126 ?_
          refine z_istore (lv2 := [(7, .int (v7 ||| (1 <<< (r11.1 &&& 31)))), (10, .ref (P.2.1 j13)), (9, .int r11.1), (6, .int (v6 + (1 + r9.1))), (0, .ref (q 0)), (1, .int v1), (2, .int v2), (3, .int v3), (4, .int v4), (5, .int v5), (8, .int v8)]) C dX9_evenings_127 (by decide) rfl ?_
          refine z_iload C 3 dX9_evenings_129 rfl ?_
          refine z_aload C 1 dX9_evenings_131 rfl ?_
          refine xpg_0 C hp hi_j13 hi0 hi2 hi5 hi6 hi7 (List.mem_of_getElem? (i := 5) rfl) dX9_evenings_133 ?_
          refine z_isub C dX9_evenings_136 ?_
          refine z_aload C 1 dX9_evenings_137 rfl ?_
          refine z5 (hp.1 j13 hi_j13)
            (fun h5 kk => z_goti1 C (z_runU C (k_X0_keeps l G q P hp r11.2 X j13 hi_j13 h5) (va_cwO 0 C.hts gX9_evenings_X0_keeps_u145X0 rfl rfl rfl (h0 := (List.mem_of_getElem? (i := 39) rfl)) (by decide +kernel) ⟨Nat.le_of_ble_eq_true rfl, Nat.le_of_ble_eq_true rfl⟩) (18 + j13) (xw_pot hi_j13) (show vwCl[P.2.2.1 j13]? = some (RX0, TX0, 7) by rw [h5]; rfl) rfl rfl (Nat.le_of_ble_eq_true rfl) dX9_evenings_139 ⟨Nat.le_of_ble_eq_true rfl, Nat.le_of_ble_eq_true rfl⟩) rfl rfl kk)
            (fun h5 kk => z_goti1 C (z_runU C (k_X2_keeps l G q P hp r11.2 X j13 hi_j13 h5) (va_cwO 0 C.hts gX9_evenings_X2_keeps_u145X2 rfl rfl rfl (h0 := (List.mem_of_getElem? (i := 39) rfl)) (by decide +kernel) ⟨Nat.le_of_ble_eq_true rfl, Nat.le_of_ble_eq_true rfl⟩) (18 + j13) (xw_pot hi_j13) (show vwCl[P.2.2.1 j13]? = some (RX2, TX2, 7) by rw [h5]; rfl) rfl rfl (Nat.le_of_ble_eq_true rfl) dX9_evenings_139 ⟨Nat.le_of_ble_eq_true rfl, Nat.le_of_ble_eq_true rfl⟩) rfl rfl kk)
            (fun h5 kk => z_goti1 C (z_runV C (k_X5_keeps l G q P hp r11.2 X j13 hi_j13 h5) (cwV 0 C.hts gX9_evenings_X5_keeps rfl rfl rfl (by decide +kernel) ⟨Nat.le_of_ble_eq_true rfl, Nat.le_of_ble_eq_true rfl⟩) (18 + j13) (xw_pot hi_j13) (show vwCl[P.2.2.1 j13]? = some (RX5, TX5, 7) by rw [h5]; rfl) rfl rfl (Nat.le_of_ble_eq_true rfl) dX9_evenings_139 ⟨Nat.le_of_ble_eq_true rfl, Nat.le_of_ble_eq_true rfl⟩) rfl rfl kk)
            (fun h5 kk => z_goti1 C (z_runU C (k_X6_keeps l G q P hp r11.2 X j13 hi_j13 h5) (va_cwO 0 C.hts gX9_evenings_X6_keeps_u145X6 rfl rfl rfl (h0 := (List.mem_of_getElem? (i := 39) rfl)) (by decide +kernel) ⟨Nat.le_of_ble_eq_true rfl, Nat.le_of_ble_eq_true rfl⟩) (18 + j13) (xw_pot hi_j13) (show vwCl[P.2.2.1 j13]? = some (RX6, TX6, 7) by rw [h5]; rfl) rfl rfl (Nat.le_of_ble_eq_true rfl) dX9_evenings_139 ⟨Nat.le_of_ble_eq_true rfl, Nat.le_of_ble_eq_true rfl⟩) rfl rfl kk)
            (fun h5 kk => z_goti1 C (z_runU C (k_X7_keeps l G q P hp r11.2 X j13 hi_j13 h5) (va_cwO 0 C.hts gX9_evenings_X7_keeps_u145X7 rfl rfl rfl (h0 := (List.mem_of_getElem? (i := 39) rfl)) (by decide +kernel) ⟨Nat.le_of_ble_eq_true rfl, Nat.le_of_ble_eq_true rfl⟩) (18 + j13) (xw_pot hi_j13) (show vwCl[P.2.2.1 j13]? = some (RX7, TX7, 7) by rw [h5]; rfl) rfl rfl (Nat.le_of_ble_eq_true rfl) dX9_evenings_139 ⟨Nat.le_of_ble_eq_true rfl, Nat.le_of_ble_eq_true rfl⟩) rfl rfl kk)
            ?_
          refine z_goti1 C (z_runS C (c_X9_outBy l G (XW G q P r11.2 ++ X) ((v6 + (1 + r9.1)) - (xR r11.2 j13 0)) (kp (P.2.2.1 j13))) (va_cwS 2 C.hts gX9_evenings_X9_outBy rfl rfl rfl (by decide +kernel) ⟨Nat.le_of_ble_eq_true rfl, Nat.le_of_ble_eq_true rfl⟩) rfl rfl (Nat.le_of_ble_eq_true rfl) dX9_evenings_142 ⟨Nat.le_of_ble_eq_true rfl, Nat.le_of_ble_eq_true rfl⟩) rfl rfl ?_
          refine z_istore (lv2 := [(11, .int (f_X9_outBy ((v6 + (1 + r9.1)) - (xR r11.2 j13 0)) (kp (P.2.2.1 j13)))), (7, .int (v7 ||| (1 <<< (r11.1 &&& 31)))), (10, .ref (P.2.1 j13)), (9, .int r11.1), (6, .int (v6 + (1 + r9.1))), (0, .ref (q 0)), (1, .int v1), (2, .int v2), (3, .int v3), (4, .int v4), (5, .int v5), (8, .int v8)]) C dX9_evenings_145 (by decide) rfl ?_
          refine z_iload C 9 dX9_evenings_147 rfl ?_
          refine z_iload C 0 dX9_evenings_149 rfl ?_
          refine z_bipush (v := 100) C dX9_evenings_151 (by decide) ?_
          refine z_icmp_ne (tgt := 160) C dX9_evenings_153 (by decide) (fun c15 => ?_) (fun c15 => ?_)
          · replace h := zf c15 h
            refine z_iconst (v := 0) C dX9_evenings_160 (by decide) ?_
            refine z_iadd C dX9_evenings_161 ?_
            refine z_istore (lv2 := [(4, .int (v4 + 0)), (11, .int (f_X9_outBy ((v6 + (1 + r9.1)) - (xR r11.2 j13 0)) (kp (P.2.2.1 j13)))), (7, .int (v7 ||| (1 <<< (r11.1 &&& 31)))), (10, .ref (P.2.1 j13)), (9, .int r11.1), (6, .int (v6 + (1 + r9.1))), (0, .ref (q 0)), (1, .int v1), (2, .int v2), (3, .int v3), (5, .int v5), (8, .int v8)]) C dX9_evenings_162 (by decide) rfl ?_
            refine z_iload C 10 dX9_evenings_164 rfl ?_
            refine z_iload C 1 dX9_evenings_166 rfl ?_
            refine z_bipush (v := 100) C dX9_evenings_168 (by decide) ?_
            refine z_icmp_le (tgt := 177) C dX9_evenings_170 (by decide) (fun c16 => ?_) (fun c16 => ?_)
            · replace h := zt c16 h
              refine z_iconst (v := 0) C dX9_evenings_177 (by decide) ?_
              refine z_iadd C dX9_evenings_178 ?_
              refine z_istore (lv2 := [(5, .int (v5 + 0)), (4, .int (v4 + 0)), (11, .int (f_X9_outBy ((v6 + (1 + r9.1)) - (xR r11.2 j13 0)) (kp (P.2.2.1 j13)))), (7, .int (v7 ||| (1 <<< (r11.1 &&& 31)))), (10, .ref (P.2.1 j13)), (9, .int r11.1), (6, .int (v6 + (1 + r9.1))), (0, .ref (q 0)), (1, .int v1), (2, .int v2), (3, .int v3), (8, .int v8)]) C dX9_evenings_179 (by decide) rfl ?_
              refine z_iinc (v := (v8 + 1)) (lv2 := [(8, .int (v8 + 1)), (5, .int (v5 + 0)), (4, .int (v4 + 0)), (11, .int (f_X9_outBy ((v6 + (1 + r9.1)) - (xR r11.2 j13 0)) (kp (P.2.2.1 j13)))), (7, .int (v7 ||| (1 <<< (r11.1 &&& 31)))), (10, .ref (P.2.1 j13)), (9, .int r11.1), (6, .int (v6 + (1 + r9.1))), (0, .ref (q 0)), (1, .int v1), (2, .int v2), (3, .int v3)]) C 11 dX9_evenings_181 rfl rfl (by decide) rfl ?_
              refine z_goto (tgt := 60) C dX9_evenings_184 (by decide) ?_
              refine z_lv (lv2 := [(0, .ref (q 0)), (1, .int v1), (2, .int v2), (3, .int v3), (4, .int (v4 + 0)), (5, .int (v5 + 0)), (6, .int (v6 + (1 + r9.1))), (7, .int (v7 ||| (1 <<< (r11.1 &&& 31)))), (8, .int (v8 + 1))]) [8, 9, 10, 11, 2, 1, 7, 4, 0] rfl ?_
              exact ih (v4 + 0) (v5 + 0) (v6 + (1 + r9.1)) (v7 ||| (1 <<< (r11.1 &&& 31))) (v8 + 1) r11.2 h kk
            · replace h := zf c16 h
              refine z_iconst (v := 1) C dX9_evenings_173 (by decide) ?_
              refine z_goto (tgt := 178) C dX9_evenings_174 (by decide) ?_
              refine z_iadd C dX9_evenings_178 ?_
              refine z_istore (lv2 := [(5, .int (v5 + 1)), (4, .int (v4 + 0)), (11, .int (f_X9_outBy ((v6 + (1 + r9.1)) - (xR r11.2 j13 0)) (kp (P.2.2.1 j13)))), (7, .int (v7 ||| (1 <<< (r11.1 &&& 31)))), (10, .ref (P.2.1 j13)), (9, .int r11.1), (6, .int (v6 + (1 + r9.1))), (0, .ref (q 0)), (1, .int v1), (2, .int v2), (3, .int v3), (8, .int v8)]) C dX9_evenings_179 (by decide) rfl ?_
              refine z_iinc (v := (v8 + 1)) (lv2 := [(8, .int (v8 + 1)), (5, .int (v5 + 1)), (4, .int (v4 + 0)), (11, .int (f_X9_outBy ((v6 + (1 + r9.1)) - (xR r11.2 j13 0)) (kp (P.2.2.1 j13)))), (7, .int (v7 ||| (1 <<< (r11.1 &&& 31)))), (10, .ref (P.2.1 j13)), (9, .int r11.1), (6, .int (v6 + (1 + r9.1))), (0, .ref (q 0)), (1, .int v1), (2, .int v2), (3, .int v3)]) C 11 dX9_evenings_181 rfl rfl (by decide) rfl ?_
              refine z_goto (tgt := 60) C dX9_evenings_184 (by decide) ?_
              refine z_lv (lv2 := [(0, .ref (q 0)), (1, .int v1), (2, .int v2), (3, .int v3), (4, .int (v4 + 0)), (5, .int (v5 + 1)), (6, .int (v6 + (1 + r9.1))), (7, .int (v7 ||| (1 <<< (r11.1 &&& 31)))), (8, .int (v8 + 1))]) [8, 9, 10, 11, 2, 1, 7, 4, 0] rfl ?_
              exact ih (v4 + 0) (v5 + 1) (v6 + (1 + r9.1)) (v7 ||| (1 <<< (r11.1 &&& 31))) (v8 + 1) r11.2 h kk
          · replace h := zt c15 h
            refine z_iconst (v := 1) C dX9_evenings_156 (by decide) ?_
            refine z_goto (tgt := 161) C dX9_evenings_157 (by decide) ?_
            refine z_iadd C dX9_evenings_161 ?_
            refine z_istore (lv2 := [(4, .int (v4 + 1)), (11, .int (f_X9_outBy ((v6 + (1 + r9.1)) - (xR r11.2 j13 0)) (kp (P.2.2.1 j13)))), (7, .int (v7 ||| (1 <<< (r11.1 &&& 31)))), (10, .ref (P.2.1 j13)), (9, .int r11.1), (6, .int (v6 + (1 + r9.1))), (0, .ref (q 0)), (1, .int v1), (2, .int v2), (3, .int v3), (5, .int v5), (8, .int v8)]) C dX9_evenings_162 (by decide) rfl ?_
            refine z_iload C 10 dX9_evenings_164 rfl ?_
            refine z_iload C 1 dX9_evenings_166 rfl ?_
            refine z_bipush (v := 100) C dX9_evenings_168 (by decide) ?_
            refine z_icmp_le (tgt := 177) C dX9_evenings_170 (by decide) (fun c17 => ?_) (fun c17 => ?_)
            · replace h := zt c17 h
              refine z_iconst (v := 0) C dX9_evenings_177 (by decide) ?_
              refine z_iadd C dX9_evenings_178 ?_
              refine z_istore (lv2 := [(5, .int (v5 + 0)), (4, .int (v4 + 1)), (11, .int (f_X9_outBy ((v6 + (1 + r9.1)) - (xR r11.2 j13 0)) (kp (P.2.2.1 j13)))), (7, .int (v7 ||| (1 <<< (r11.1 &&& 31)))), (10, .ref (P.2.1 j13)), (9, .int r11.1), (6, .int (v6 + (1 + r9.1))), (0, .ref (q 0)), (1, .int v1), (2, .int v2), (3, .int v3), (8, .int v8)]) C dX9_evenings_179 (by decide) rfl ?_
              refine z_iinc (v := (v8 + 1)) (lv2 := [(8, .int (v8 + 1)), (5, .int (v5 + 0)), (4, .int (v4 + 1)), (11, .int (f_X9_outBy ((v6 + (1 + r9.1)) - (xR r11.2 j13 0)) (kp (P.2.2.1 j13)))), (7, .int (v7 ||| (1 <<< (r11.1 &&& 31)))), (10, .ref (P.2.1 j13)), (9, .int r11.1), (6, .int (v6 + (1 + r9.1))), (0, .ref (q 0)), (1, .int v1), (2, .int v2), (3, .int v3)]) C 11 dX9_evenings_181 rfl rfl (by decide) rfl ?_
              refine z_goto (tgt := 60) C dX9_evenings_184 (by decide) ?_
              refine z_lv (lv2 := [(0, .ref (q 0)), (1, .int v1), (2, .int v2), (3, .int v3), (4, .int (v4 + 1)), (5, .int (v5 + 0)), (6, .int (v6 + (1 + r9.1))), (7, .int (v7 ||| (1 <<< (r11.1 &&& 31)))), (8, .int (v8 + 1))]) [8, 9, 10, 11, 2, 1, 7, 4, 0] rfl ?_
              exact ih (v4 + 1) (v5 + 0) (v6 + (1 + r9.1)) (v7 ||| (1 <<< (r11.1 &&& 31))) (v8 + 1) r11.2 h kk
            · replace h := zf c17 h
              refine z_iconst (v := 1) C dX9_evenings_173 (by decide) ?_
              refine z_goto (tgt := 178) C dX9_evenings_174 (by decide) ?_
              refine z_iadd C dX9_evenings_178 ?_
              refine z_istore (lv2 := [(5, .int (v5 + 1)), (4, .int (v4 + 1)), (11, .int (f_X9_outBy ((v6 + (1 + r9.1)) - (xR r11.2 j13 0)) (kp (P.2.2.1 j13)))), (7, .int (v7 ||| (1 <<< (r11.1 &&& 31)))), (10, .ref (P.2.1 j13)), (9, .int r11.1), (6, .int (v6 + (1 + r9.1))), (0, .ref (q 0)), (1, .int v1), (2, .int v2), (3, .int v3), (8, .int v8)]) C dX9_evenings_179 (by decide) rfl ?_
              refine z_iinc (v := (v8 + 1)) (lv2 := [(8, .int (v8 + 1)), (5, .int (v5 + 1)), (4, .int (v4 + 1)), (11, .int (f_X9_outBy ((v6 + (1 + r9.1)) - (xR r11.2 j13 0)) (kp (P.2.2.1 j13)))), (7, .int (v7 ||| (1 <<< (r11.1 &&& 31)))), (10, .ref (P.2.1 j13)), (9, .int r11.1), (6, .int (v6 + (1 + r9.1))), (0, .ref (q 0)), (1, .int v1), (2, .int v2), (3, .int v3)]) C 11 dX9_evenings_181 rfl rfl (by decide) rfl ?_
              refine z_goto (tgt := 60) C dX9_evenings_184 (by decide) ?_
              refine z_lv (lv2 := [(0, .ref (q 0)), (1, .int v1), (2, .int v2), (3, .int v3), (4, .int (v4 + 1)), (5, .int (v5 + 1)), (6, .int (v6 + (1 + r9.1))), (7, .int (v7 ||| (1 <<< (r11.1 &&& 31)))), (8, .int (v8 + 1))]) [8, 9, 10, 11, 2, 1, 7, 4, 0] rfl ?_
              exact ih (v4 + 1) (v5 + 1) (v6 + (1 + r9.1)) (v7 ||| (1 <<< (r11.1 &&& 31))) (v8 + 1) r11.2 h kk
set_option maxHeartbeats 4000000 in
set_option maxRecDepth 100000 in
theorem c_X9_evenings (l : Launch) (G : zGT) (q : Nat → Nat) (P : XP) (hp : xOK P) (S : XS) (X : va_W) (fu : Nat) (a1 : Int32) (a2 : Int32) (a3 : Int32) {res : Int32 × XS} (h : f_X9_evenings fu P S a1 a2 a3 = some res) : MG l yX9_evenings wsX9_evenings ({ frames := 2, cells := 0, slots := 0, locals := 40 }) G [.ref (q 0), .int a1, .int a2, .int a3] (XW G q P S ++ X) (va_Qi (fun r u => r = res.1 ∧ u = XW G q P res.2 ++ X)) := by
  have hi0 : ∀ w ∈ u_ws RX0 TX0 7, w ∈ wsX9_evenings := fun _ h => List.mem_cons_of_mem _ (List.mem_append_left _ (List.mem_append_left _ (List.mem_append_left _ (List.mem_append_left _ (List.mem_append_right _ h)))))
  have hi1 : ∀ w ∈ u_ws RX1 TX1 1, w ∈ wsX9_evenings := fun _ h => List.mem_cons_of_mem _ (List.mem_append_left _ (List.mem_append_left _ (List.mem_append_left _ (List.mem_append_left _ (List.mem_append_left _ (List.mem_append_right _ h))))))
  have hi2 : ∀ w ∈ u_ws RX2 TX2 7, w ∈ wsX9_evenings := fun _ h => List.mem_cons_of_mem _ (List.mem_append_left _ (List.mem_append_left _ (List.mem_append_left _ (List.mem_append_right _ h))))
  have hi5 : ∀ w ∈ u_ws RX5 TX5 7, w ∈ wsX9_evenings := fun _ h => List.mem_cons_of_mem _ (List.mem_append_left _ (List.mem_append_left _ (List.mem_append_right _ h)))
  have hi6 : ∀ w ∈ u_ws RX6 TX6 7, w ∈ wsX9_evenings := fun _ h => List.mem_cons_of_mem _ (List.mem_append_left _ (List.mem_append_right _ h))
  have hi7 : ∀ w ∈ u_ws RX7 TX7 7, w ∈ wsX9_evenings := fun _ h => List.mem_cons_of_mem _ (List.mem_append_right _ h)
  have hi9 : ∀ w ∈ u_ws RX9 TX9 18, w ∈ wsX9_evenings := fun _ h => List.mem_cons_of_mem _ (List.mem_append_left _ (List.mem_append_left _ (List.mem_append_left _ (List.mem_append_left _ (List.mem_append_left _ (List.mem_append_left _ (List.mem_append_right _ h)))))))
  refine MG.of (cc := cX9_evenings) (maxL := 12) (ret := (some .int)) (own := RX9) (nm := "evenings") (by decide) rfl rfl rfl (Nat.le_of_ble_eq_true rfl) ?_
  intro p e s m args below meth c A C
  rw [f_X9_evenings] at h
  refine z_eq (lv2 := [(0, .ref (q 0)), (1, .int a1), (2, .int a2), (3, .int a3)]) rfl rfl rfl rfl ?_
  refine z_iload_n C 1 dX9_evenings_0 rfl rfl ?_
  refine z_iconst (v := 1) C dX9_evenings_1 (by decide) ?_
  refine z_icmp_lt (tgt := 24) C dX9_evenings_2 (by decide) (fun c1 => ?_) (fun c1 => ?_)
  · replace h := zt c1 h
    refine z_bipush (v := (-102)) C dX9_evenings_24 (by decide) ?_
    injection h with h
    subst h
    exact z_iret C rfl ⟨rfl, rfl⟩ dX9_evenings_26
  · replace h := zf c1 h
    refine z_iload_n C 1 dX9_evenings_5 rfl rfl ?_
    refine z_bipush (v := 30) C dX9_evenings_6 (by decide) ?_
    refine z_icmp_gt (tgt := 24) C dX9_evenings_8 (by decide) (fun c2 => ?_) (fun c2 => ?_)
    · replace h := zt c2 h
      refine z_bipush (v := (-102)) C dX9_evenings_24 (by decide) ?_
      injection h with h
      subst h
      exact z_iret C rfl ⟨rfl, rfl⟩ dX9_evenings_26
    · replace h := zf c2 h
      refine z_iload_n C 2 dX9_evenings_11 rfl rfl ?_
      refine z_if_lt (tgt := 24) C dX9_evenings_12 (by decide) (fun c3 => ?_) (fun c3 => ?_)
      · replace h := zt c3 h
        refine z_bipush (v := (-102)) C dX9_evenings_24 (by decide) ?_
        injection h with h
        subst h
        exact z_iret C rfl ⟨rfl, rfl⟩ dX9_evenings_26
      · replace h := zf c3 h
        refine z_iload_n C 3 dX9_evenings_15 rfl rfl ?_
        refine z_if_lt (tgt := 24) C dX9_evenings_16 (by decide) (fun c4 => ?_) (fun c4 => ?_)
        · replace h := zt c4 h
          refine z_bipush (v := (-102)) C dX9_evenings_24 (by decide) ?_
          injection h with h
          subst h
          exact z_iret C rfl ⟨rfl, rfl⟩ dX9_evenings_26
        · replace h := zf c4 h
          refine z_iload_n C 3 dX9_evenings_19 rfl rfl ?_
          refine z_iconst (v := 2) C dX9_evenings_20 (by decide) ?_
          refine z_icmp_le (tgt := 27) C dX9_evenings_21 (by decide) (fun c5 => ?_) (fun c5 => ?_)
          · replace h := zt c5 h
            refine z_aload_n C 0 dX9_evenings_27 rfl rfl ?_
            refine z_goti1 C (z_runV C (c_X9_hasKitchen l G q P hp S X) (cwV 0 C.hts gX9_evenings_X9_hasKitchen rfl rfl rfl (by decide +kernel) ⟨Nat.le_of_ble_eq_true rfl, Nat.le_of_ble_eq_true rfl⟩) 0 rfl rfl rfl rfl (Nat.le_of_ble_eq_true rfl) dX9_evenings_28 ⟨Nat.le_of_ble_eq_true rfl, Nat.le_of_ble_eq_true rfl⟩) rfl rfl ?_
            refine z_if_ne (tgt := 37) C dX9_evenings_31 (by decide) (fun c6 => ?_) (fun c6 => ?_)
            · replace h := zf c6 h
              refine z_aload_n C 0 dX9_evenings_37 rfl rfl ?_
              refine xg_T5 C hi9 (List.mem_of_getElem? (i := 1) rfl) dX9_evenings_38 ?_
              refine z_iload_n C 2 dX9_evenings_41 rfl rfl ?_
              refine xp_R0 C hi1 (List.mem_of_getElem? (i := 2) rfl) dX9_evenings_42 ?_
              refine z_iconst (v := 0) C dX9_evenings_45 (by decide) ?_
              refine z_istore (lv2 := [(4, .int 0), (0, .ref (q 0)), (1, .int a1), (2, .int a2), (3, .int a3)]) C dX9_evenings_46 (by decide) rfl ?_
              refine z_iconst (v := 0) C dX9_evenings_48 (by decide) ?_
              refine z_istore (lv2 := [(5, .int 0), (4, .int 0), (0, .ref (q 0)), (1, .int a1), (2, .int a2), (3, .int a3)]) C dX9_evenings_49 (by decide) rfl ?_
              refine z_iconst (v := 0) C dX9_evenings_51 (by decide) ?_
              refine z_istore (lv2 := [(6, .int 0), (5, .int 0), (4, .int 0), (0, .ref (q 0)), (1, .int a1), (2, .int a2), (3, .int a3)]) C dX9_evenings_52 (by decide) rfl ?_
              refine z_iconst (v := 0) C dX9_evenings_54 (by decide) ?_
              refine z_istore (lv2 := [(7, .int 0), (6, .int 0), (5, .int 0), (4, .int 0), (0, .ref (q 0)), (1, .int a1), (2, .int a2), (3, .int a3)]) C dX9_evenings_55 (by decide) rfl ?_
              refine z_iconst (v := 0) C dX9_evenings_57 (by decide) ?_
              refine z_istore (lv2 := [(8, .int 0), (7, .int 0), (6, .int 0), (5, .int 0), (4, .int 0), (0, .ref (q 0)), (1, .int a1), (2, .int a2), (3, .int a3)]) C dX9_evenings_58 (by decide) rfl ?_
              refine z_lv (lv2 := [(0, .ref (q 0)), (1, .int a1), (2, .int a2), (3, .int a3), (4, .int 0), (5, .int 0), (6, .int 0), (7, .int 0), (8, .int 0)]) [5, 6, 7, 8, 4, 3, 2, 1, 0] rfl ?_
              obtain ⟨r18, hf19, h⟩ := bd_some h
              refine L_X9_evenings_60 C hp a1 a2 a3 fu 0 0 0 0 0 (xsI S 30 a2) hf19 ?_
              refine z_iload_n C 3 dX9_evenings_187 rfl rfl ?_
              refine z_if_ne (tgt := 196) C dX9_evenings_188 (by decide) (fun c20 => ?_) (fun c20 => ?_)
              · replace h := zf c20 h
                refine z_iload_n C 3 dX9_evenings_196 rfl rfl ?_
                refine z_iconst (v := 1) C dX9_evenings_197 (by decide) ?_
                refine z_icmp_ne (tgt := 206) C dX9_evenings_198 (by decide) (fun c21 => ?_) (fun c21 => ?_)
                · replace h := zf c21 h
                  refine z_aload_n C 0 dX9_evenings_206 rfl rfl ?_
                  refine xg_T5 C hi9 (List.mem_of_getElem? (i := 1) rfl) dX9_evenings_207 ?_
                  refine xg_R0 C hi1 (List.mem_of_getElem? (i := 2) rfl) dX9_evenings_210 ?_
                  injection h with h
                  subst h
                  exact z_iret C rfl ⟨rfl, rfl⟩ dX9_evenings_213
                · replace h := zt c21 h
                  refine z_iload C 5 dX9_evenings_201 rfl ?_
                  refine z_goto (tgt := 213) C dX9_evenings_203 (by decide) ?_
                  injection h with h
                  subst h
                  exact z_iret C rfl ⟨rfl, rfl⟩ dX9_evenings_213
              · replace h := zt c20 h
                refine z_iload C 4 dX9_evenings_191 rfl ?_
                refine z_goto (tgt := 213) C dX9_evenings_193 (by decide) ?_
                injection h with h
                subst h
                exact z_iret C rfl ⟨rfl, rfl⟩ dX9_evenings_213
            · replace h := zt c6 h
              refine z_bipush (v := (-103)) C dX9_evenings_34 (by decide) ?_
              injection h with h
              subst h
              exact z_iret C rfl ⟨rfl, rfl⟩ dX9_evenings_36
          · replace h := zf c5 h
            refine z_bipush (v := (-102)) C dX9_evenings_24 (by decide) ?_
            injection h with h
            subst h
            exact z_iret C rfl ⟨rfl, rfl⟩ dX9_evenings_26
def f_X9_image_L52 (fu : Nat) (P : XP)  : Nat → Int32 → XS → Option (Int32 × XS)
  | 0, _, _ => none
  | n + 1, v1, S => if (xI S 6) ≤ v1 then some (v1, S) else pm (f_X9_potAt P S v1) (f_X9_image_L52 fu P n (v1 + 1) S) (fun j6 => f_X9_image_L52 fu P n (v1 + 1) (f_X5_keepImage P S j6))
def f_X9_image (fu : Nat) (P : XP) (S : XS) : Option (Int32 × XS) := if (f_X9_hasKitchen P S) = 0 then some ((-103), S) else (f_X8_copyFrom_KD fu P (xsI (xsI (xsI (xsI S 12 1) 13 (xI (xsI S 12 1) 9)) 14 (xI (xsI (xsI S 12 1) 13 (xI (xsI S 12 1) 9)) 10)) 15 (xI (xsI (xsI (xsI S 12 1) 13 (xI (xsI S 12 1) 9)) 14 (xI (xsI (xsI S 12 1) 13 (xI (xsI S 12 1) 9)) 10)) 11))).bind fun r3 => (f_X9_image_L52 fu P fu 0 r3).bind fun r7 => some ((xI r7.2 9), r7.2)
set_option maxHeartbeats 4000000 in
set_option maxRecDepth 100000 in
theorem L_X9_image_52 {p : Program} {l : Launch} {e : Env} {s : State} {m : MethodId} {args : Array Value} {below : List Frame} {meth : Method} {c : Code} {A : Nat → Prop} {G : zGT} {q : Nat → Nat} {P : XP} {X : va_W} {fu : Nat} {Q : State → Prop} (C : zC p s m args meth c A G cX9_image 3 (some .int) RX9 "image" wsX9_image) (hp : xOK P) : ∀ (n : Nat) (v1 : Int32) (S : XS) {res : Int32 × XS}, f_X9_image_L52 fu P n v1 S = some res → Z p l e ({ frames := 1, cells := 0, slots := 0, locals := 22 }) s m args below meth c A G 3 Q 0 0 (XW G q P res.2 ++ X) [(0, .ref (q 0)), (1, .int res.1)] 80 [] → Z p l e ({ frames := 1, cells := 0, slots := 0, locals := 22 }) s m args below meth c A G 3 Q 0 0 (XW G q P S ++ X) [(0, .ref (q 0)), (1, .int v1)] 52 [] := by
  have hi9 : ∀ w ∈ u_ws RX9 TX9 18, w ∈ wsX9_image := fun _ h => List.mem_cons_of_mem _ (List.mem_append_left _ (List.mem_append_left _ (List.mem_append_left _ (List.mem_append_left _ (List.mem_append_left _ (List.mem_append_left _ (List.mem_append_right _ h)))))))
  intro n
  induction n with
  | zero =>
    intro v1 S res h kk
    exact nomatch (h : none = some _)
  | succ n ih =>
    intro v1 S res h kk
    rw [f_X9_image_L52] at h
    refine z_iload_n C 1 dX9_image_52 rfl rfl ?_
    refine z_aload_n C 0 dX9_image_53 rfl rfl ?_
    refine xg_T6 C hi9 (List.mem_of_getElem? (i := 10) rfl) dX9_image_54 ?_
    refine z_icmp_ge (tgt := 80) C dX9_image_57 (by decide) (fun c4 => ?_) (fun c4 => ?_)
    · replace h := zt c4 h
      injection h with h
      subst h
      refine z_lv (lv2 := [(0, .ref (q 0)), (1, .int v1)]) [0, 1] rfl ?_
      exact kk
    · replace h := zf c4 h
      refine z_aload_n C 0 dX9_image_60 rfl rfl ?_
      refine z_iload_n C 1 dX9_image_61 rfl rfl ?_
      refine z_gotq1 C (z_runV C (c_X9_potAt l G q P hp S X v1) (cwV 1 C.hts gX9_image_X9_potAt rfl rfl rfl (by decide +kernel) ⟨Nat.le_of_ble_eq_true rfl, Nat.le_of_ble_eq_true rfl⟩) 0 rfl rfl rfl rfl (Nat.le_of_ble_eq_true rfl) dX9_image_62 ⟨Nat.le_of_ble_eq_true rfl, Nat.le_of_ble_eq_true rfl⟩) rfl rfl ?_
      cases hq5 : (f_X9_potAt P S v1) with
      | none =>
        replace h := pm_n hq5 h
        refine z_eq (st2 := [.null]) rfl rfl rfl rfl ?_
        refine z_astore_nN (lv2 := [(2, .null), (0, .ref (q 0)), (1, .int v1)]) C dX9_image_65 rfl (by decide) rfl ?_
        refine z_aload_nN C 0 dX9_image_66 rfl rfl ?_
        refine z_ifnullN (tgt := 74) C dX9_image_67 (by decide) ?_
        refine z_iinc (v := (v1 + 1)) (lv2 := [(1, .int (v1 + 1)), (2, .null), (0, .ref (q 0))]) C 2 dX9_image_74 rfl rfl (by decide) rfl ?_
        refine z_goto (tgt := 52) C dX9_image_77 (by decide) ?_
        refine z_lv (lv2 := [(0, .ref (q 0)), (1, .int (v1 + 1))]) [2, 0] rfl ?_
        exact ih (v1 + 1) S h kk
      | some j6 =>
        replace h := pm_s hq5 h
        have hi_j6 : j6 < P.1 := f_potAt_lt hq5
        refine z_eq (st2 := [.ref (P.2.1 j6)]) rfl rfl rfl rfl ?_
        refine z_astore_n (lv2 := [(2, .ref (P.2.1 j6)), (0, .ref (q 0)), (1, .int v1)]) C dX9_image_65 rfl (by decide) rfl ?_
        refine z_aload_n C 0 dX9_image_66 rfl rfl ?_
        refine z_ifnull C dX9_image_67 ?_
        refine z_aload_n C 0 dX9_image_70 rfl rfl ?_
        refine z5 (hp.1 j6 hi_j6)
          (fun h5 kk => z_gotv1 C (z_runU C (c_X5_keepImage l G q P hp S X j6 hi_j6) (va_cwU 0 C.hts gX9_image_X5_keepImage_u237X0 rfl rfl rfl rfl (by decide +kernel) ⟨Nat.le_of_ble_eq_true rfl, Nat.le_of_ble_eq_true rfl⟩) (18 + j6) (xw_pot hi_j6) (show vwCl[P.2.2.1 j6]? = some (RX0, TX0, 7) by rw [h5]; rfl) rfl rfl (Nat.le_of_ble_eq_true rfl) dX9_image_71 ⟨Nat.le_of_ble_eq_true rfl, Nat.le_of_ble_eq_true rfl⟩) rfl rfl kk)
          (fun h5 kk => z_gotv1 C (z_runU C (c_X5_keepImage l G q P hp S X j6 hi_j6) (va_cwU 0 C.hts gX9_image_X5_keepImage_u237X2 rfl rfl rfl rfl (by decide +kernel) ⟨Nat.le_of_ble_eq_true rfl, Nat.le_of_ble_eq_true rfl⟩) (18 + j6) (xw_pot hi_j6) (show vwCl[P.2.2.1 j6]? = some (RX2, TX2, 7) by rw [h5]; rfl) rfl rfl (Nat.le_of_ble_eq_true rfl) dX9_image_71 ⟨Nat.le_of_ble_eq_true rfl, Nat.le_of_ble_eq_true rfl⟩) rfl rfl kk)
          (fun h5 kk => z_gotv1 C (z_runV C (c_X5_keepImage l G q P hp S X j6 hi_j6) (cwV 0 C.hts gX9_image_X5_keepImage rfl rfl rfl (by decide +kernel) ⟨Nat.le_of_ble_eq_true rfl, Nat.le_of_ble_eq_true rfl⟩) (18 + j6) (xw_pot hi_j6) (show vwCl[P.2.2.1 j6]? = some (RX5, TX5, 7) by rw [h5]; rfl) rfl rfl (Nat.le_of_ble_eq_true rfl) dX9_image_71 ⟨Nat.le_of_ble_eq_true rfl, Nat.le_of_ble_eq_true rfl⟩) rfl rfl kk)
          (fun h5 kk => z_gotv1 C (z_runU C (c_X5_keepImage l G q P hp S X j6 hi_j6) (va_cwU 0 C.hts gX9_image_X5_keepImage_u237X6 rfl rfl rfl rfl (by decide +kernel) ⟨Nat.le_of_ble_eq_true rfl, Nat.le_of_ble_eq_true rfl⟩) (18 + j6) (xw_pot hi_j6) (show vwCl[P.2.2.1 j6]? = some (RX6, TX6, 7) by rw [h5]; rfl) rfl rfl (Nat.le_of_ble_eq_true rfl) dX9_image_71 ⟨Nat.le_of_ble_eq_true rfl, Nat.le_of_ble_eq_true rfl⟩) rfl rfl kk)
          (fun h5 kk => z_gotv1 C (z_runU C (c_X5_keepImage l G q P hp S X j6 hi_j6) (va_cwU 0 C.hts gX9_image_X5_keepImage_u237X7 rfl rfl rfl rfl (by decide +kernel) ⟨Nat.le_of_ble_eq_true rfl, Nat.le_of_ble_eq_true rfl⟩) (18 + j6) (xw_pot hi_j6) (show vwCl[P.2.2.1 j6]? = some (RX7, TX7, 7) by rw [h5]; rfl) rfl rfl (Nat.le_of_ble_eq_true rfl) dX9_image_71 ⟨Nat.le_of_ble_eq_true rfl, Nat.le_of_ble_eq_true rfl⟩) rfl rfl kk)
          ?_
        refine z_iinc (v := (v1 + 1)) (lv2 := [(1, .int (v1 + 1)), (2, .ref (P.2.1 j6)), (0, .ref (q 0))]) C 2 dX9_image_74 rfl rfl (by decide) rfl ?_
        refine z_goto (tgt := 52) C dX9_image_77 (by decide) ?_
        refine z_lv (lv2 := [(0, .ref (q 0)), (1, .int (v1 + 1))]) [2, 0] rfl ?_
        exact ih (v1 + 1) (f_X5_keepImage P S j6) h kk
set_option maxHeartbeats 4000000 in
set_option maxRecDepth 100000 in
theorem c_X9_image (l : Launch) (G : zGT) (q : Nat → Nat) (P : XP) (hp : xOK P) (S : XS) (X : va_W) (fu : Nat) {res : Int32 × XS} (h : f_X9_image fu P S = some res) : MG l yX9_image wsX9_image ({ frames := 1, cells := 0, slots := 0, locals := 22 }) G [.ref (q 0)] (XW G q P S ++ X) (va_Qi (fun r u => r = res.1 ∧ u = XW G q P res.2 ++ X)) := by
  have hi9 : ∀ w ∈ u_ws RX9 TX9 18, w ∈ wsX9_image := fun _ h => List.mem_cons_of_mem _ (List.mem_append_left _ (List.mem_append_left _ (List.mem_append_left _ (List.mem_append_left _ (List.mem_append_left _ (List.mem_append_left _ (List.mem_append_right _ h)))))))
  refine MG.of (cc := cX9_image) (maxL := 3) (ret := (some .int)) (own := RX9) (nm := "image") (by decide) rfl rfl rfl (Nat.le_of_ble_eq_true rfl) ?_
  intro p e s m args below meth c A C
  rw [f_X9_image] at h
  refine z_eq (lv2 := [(0, .ref (q 0))]) rfl rfl rfl rfl ?_
  refine z_aload_n C 0 dX9_image_0 rfl rfl ?_
  refine z_goti1 C (z_runV C (c_X9_hasKitchen l G q P hp S X) (cwV 0 C.hts gX9_image_X9_hasKitchen rfl rfl rfl (by decide +kernel) ⟨Nat.le_of_ble_eq_true rfl, Nat.le_of_ble_eq_true rfl⟩) 0 rfl rfl rfl rfl (Nat.le_of_ble_eq_true rfl) dX9_image_1 ⟨Nat.le_of_ble_eq_true rfl, Nat.le_of_ble_eq_true rfl⟩) rfl rfl ?_
  refine z_if_ne (tgt := 10) C dX9_image_4 (by decide) (fun c1 => ?_) (fun c1 => ?_)
  · replace h := zf c1 h
    refine z_aload_n C 0 dX9_image_10 rfl rfl ?_
    refine z_iconst (v := 1) C dX9_image_11 (by decide) ?_
    refine xp_T12 C hi9 (Or.inr rfl) (List.mem_of_getElem? (i := 1) rfl) dX9_image_12 ?_
    refine z_aload_n C 0 dX9_image_15 rfl rfl ?_
    refine z_aload_n C 0 dX9_image_16 rfl rfl ?_
    refine xg_T9 C hi9 (List.mem_of_getElem? (i := 2) rfl) dX9_image_17 ?_
    refine xp_T13 C hi9 (List.mem_of_getElem? (i := 3) rfl) dX9_image_20 ?_
    refine z_aload_n C 0 dX9_image_23 rfl rfl ?_
    refine z_aload_n C 0 dX9_image_24 rfl rfl ?_
    refine xg_T10 C hi9 (List.mem_of_getElem? (i := 4) rfl) dX9_image_25 ?_
    refine xp_T14 C hi9 (List.mem_of_getElem? (i := 5) rfl) dX9_image_28 ?_
    refine z_aload_n C 0 dX9_image_31 rfl rfl ?_
    refine z_aload_n C 0 dX9_image_32 rfl rfl ?_
    refine xg_T11 C hi9 (List.mem_of_getElem? (i := 6) rfl) dX9_image_33 ?_
    refine xp_T15 C hi9 (List.mem_of_getElem? (i := 7) rfl) dX9_image_36 ?_
    refine z_aload_n C 0 dX9_image_39 rfl rfl ?_
    refine xg_T3 C hi9 (List.mem_of_getElem? (i := 8) rfl) dX9_image_40 ?_
    refine z_aload_n C 0 dX9_image_43 rfl rfl ?_
    refine xg_T2 C hi9 (List.mem_of_getElem? (i := 9) rfl) dX9_image_44 ?_
    obtain ⟨r3, hf2, h⟩ := bd_some h
    refine z_gotv1 C (z_runV C (c_X8_copyFrom_KD l G q P (xsI (xsI (xsI (xsI S 12 1) 13 (xI (xsI S 12 1) 9)) 14 (xI (xsI (xsI S 12 1) 13 (xI (xsI S 12 1) 9)) 10)) 15 (xI (xsI (xsI (xsI S 12 1) 13 (xI (xsI S 12 1) 9)) 14 (xI (xsI (xsI S 12 1) 13 (xI (xsI S 12 1) 9)) 10)) 11)) X fu hf2) (cwV 1 C.hts gX9_image_X8_copyFrom rfl rfl rfl (by decide +kernel) ⟨Nat.le_of_ble_eq_true rfl, Nat.le_of_ble_eq_true rfl⟩) 8 rfl rfl rfl rfl (Nat.le_of_ble_eq_true rfl) dX9_image_47 ⟨Nat.le_of_ble_eq_true rfl, Nat.le_of_ble_eq_true rfl⟩) rfl rfl ?_
    refine z_iconst (v := 0) C dX9_image_50 (by decide) ?_
    refine z_istore_n (lv2 := [(1, .int 0), (0, .ref (q 0))]) C dX9_image_51 rfl (by decide) rfl ?_
    refine z_lv (lv2 := [(0, .ref (q 0)), (1, .int 0)]) [1, 0] rfl ?_
    obtain ⟨r7, hf8, h⟩ := bd_some h
    refine L_X9_image_52 C hp  fu 0 r3 hf8 ?_
    refine z_aload_n C 0 dX9_image_80 rfl rfl ?_
    refine xg_T9 C hi9 (List.mem_of_getElem? (i := 2) rfl) dX9_image_81 ?_
    injection h with h
    subst h
    exact z_iret C rfl ⟨rfl, rfl⟩ dX9_image_84
  · replace h := zt c1 h
    refine z_bipush (v := (-103)) C dX9_image_7 (by decide) ?_
    injection h with h
    subst h
    exact z_iret C rfl ⟨rfl, rfl⟩ dX9_image_9
def f_X9_restore_L47 (fu : Nat) (P : XP)  : Nat → Int32 → XS → Option (Int32 × XS)
  | 0, _, _ => none
  | n + 1, v1, S => if (xI S 6) ≤ v1 then some (v1, S) else pm (f_X9_potAt P S v1) (f_X9_restore_L47 fu P n (v1 + 1) S) (fun j6 => f_X9_restore_L47 fu P n (v1 + 1) (f_X5_goBack P S j6))
def f_X9_restore (fu : Nat) (P : XP) (S : XS) : Option (Int32 × XS) := if (xI S 12) = 0 then some ((-103), S) else (f_X8_copyFrom_DK fu P (xsI (xsI (xsI S 9 (xI S 13)) 10 (xI (xsI S 9 (xI S 13)) 14)) 11 (xI (xsI (xsI S 9 (xI S 13)) 10 (xI (xsI S 9 (xI S 13)) 14)) 15))).bind fun r3 => (f_X9_restore_L47 fu P fu 0 r3).bind fun r7 => some ((xI r7.2 9), r7.2)
set_option maxHeartbeats 4000000 in
set_option maxRecDepth 100000 in
theorem L_X9_restore_47 {p : Program} {l : Launch} {e : Env} {s : State} {m : MethodId} {args : Array Value} {below : List Frame} {meth : Method} {c : Code} {A : Nat → Prop} {G : zGT} {q : Nat → Nat} {P : XP} {X : va_W} {fu : Nat} {Q : State → Prop} (C : zC p s m args meth c A G cX9_restore 3 (some .int) RX9 "restore" wsX9_restore) (hp : xOK P) : ∀ (n : Nat) (v1 : Int32) (S : XS) {res : Int32 × XS}, f_X9_restore_L47 fu P n v1 S = some res → Z p l e ({ frames := 1, cells := 0, slots := 0, locals := 22 }) s m args below meth c A G 3 Q 0 0 (XW G q P res.2 ++ X) [(0, .ref (q 0)), (1, .int res.1)] 75 [] → Z p l e ({ frames := 1, cells := 0, slots := 0, locals := 22 }) s m args below meth c A G 3 Q 0 0 (XW G q P S ++ X) [(0, .ref (q 0)), (1, .int v1)] 47 [] := by
  have hi9 : ∀ w ∈ u_ws RX9 TX9 18, w ∈ wsX9_restore := fun _ h => List.mem_cons_of_mem _ (List.mem_append_left _ (List.mem_append_left _ (List.mem_append_left _ (List.mem_append_left _ (List.mem_append_left _ (List.mem_append_left _ (List.mem_append_right _ h)))))))
  intro n
  induction n with
  | zero =>
    intro v1 S res h kk
    exact nomatch (h : none = some _)
  | succ n ih =>
    intro v1 S res h kk
    rw [f_X9_restore_L47] at h
    refine z_iload_n C 1 dX9_restore_47 rfl rfl ?_
    refine z_aload_n C 0 dX9_restore_48 rfl rfl ?_
    refine xg_T6 C hi9 (List.mem_of_getElem? (i := 10) rfl) dX9_restore_49 ?_
    refine z_icmp_ge (tgt := 75) C dX9_restore_52 (by decide) (fun c4 => ?_) (fun c4 => ?_)
    · replace h := zt c4 h
      injection h with h
      subst h
      refine z_lv (lv2 := [(0, .ref (q 0)), (1, .int v1)]) [0, 1] rfl ?_
      exact kk
    · replace h := zf c4 h
      refine z_aload_n C 0 dX9_restore_55 rfl rfl ?_
      refine z_iload_n C 1 dX9_restore_56 rfl rfl ?_
      refine z_gotq1 C (z_runV C (c_X9_potAt l G q P hp S X v1) (cwV 1 C.hts gX9_restore_X9_potAt rfl rfl rfl (by decide +kernel) ⟨Nat.le_of_ble_eq_true rfl, Nat.le_of_ble_eq_true rfl⟩) 0 rfl rfl rfl rfl (Nat.le_of_ble_eq_true rfl) dX9_restore_57 ⟨Nat.le_of_ble_eq_true rfl, Nat.le_of_ble_eq_true rfl⟩) rfl rfl ?_
      cases hq5 : (f_X9_potAt P S v1) with
      | none =>
        replace h := pm_n hq5 h
        refine z_eq (st2 := [.null]) rfl rfl rfl rfl ?_
        refine z_astore_nN (lv2 := [(2, .null), (0, .ref (q 0)), (1, .int v1)]) C dX9_restore_60 rfl (by decide) rfl ?_
        refine z_aload_nN C 0 dX9_restore_61 rfl rfl ?_
        refine z_ifnullN (tgt := 69) C dX9_restore_62 (by decide) ?_
        refine z_iinc (v := (v1 + 1)) (lv2 := [(1, .int (v1 + 1)), (2, .null), (0, .ref (q 0))]) C 2 dX9_restore_69 rfl rfl (by decide) rfl ?_
        refine z_goto (tgt := 47) C dX9_restore_72 (by decide) ?_
        refine z_lv (lv2 := [(0, .ref (q 0)), (1, .int (v1 + 1))]) [2, 0] rfl ?_
        exact ih (v1 + 1) S h kk
      | some j6 =>
        replace h := pm_s hq5 h
        have hi_j6 : j6 < P.1 := f_potAt_lt hq5
        refine z_eq (st2 := [.ref (P.2.1 j6)]) rfl rfl rfl rfl ?_
        refine z_astore_n (lv2 := [(2, .ref (P.2.1 j6)), (0, .ref (q 0)), (1, .int v1)]) C dX9_restore_60 rfl (by decide) rfl ?_
        refine z_aload_n C 0 dX9_restore_61 rfl rfl ?_
        refine z_ifnull C dX9_restore_62 ?_
        refine z_aload_n C 0 dX9_restore_65 rfl rfl ?_
        refine z5 (hp.1 j6 hi_j6)
          (fun h5 kk => z_gotv1 C (z_runU C (c_X5_goBack l G q P hp S X j6 hi_j6) (va_cwU 0 C.hts gX9_restore_X5_goBack_u240X0 rfl rfl rfl rfl (by decide +kernel) ⟨Nat.le_of_ble_eq_true rfl, Nat.le_of_ble_eq_true rfl⟩) (18 + j6) (xw_pot hi_j6) (show vwCl[P.2.2.1 j6]? = some (RX0, TX0, 7) by rw [h5]; rfl) rfl rfl (Nat.le_of_ble_eq_true rfl) dX9_restore_66 ⟨Nat.le_of_ble_eq_true rfl, Nat.le_of_ble_eq_true rfl⟩) rfl rfl kk)
          (fun h5 kk => z_gotv1 C (z_runU C (c_X5_goBack l G q P hp S X j6 hi_j6) (va_cwU 0 C.hts gX9_restore_X5_goBack_u240X2 rfl rfl rfl rfl (by decide +kernel) ⟨Nat.le_of_ble_eq_true rfl, Nat.le_of_ble_eq_true rfl⟩) (18 + j6) (xw_pot hi_j6) (show vwCl[P.2.2.1 j6]? = some (RX2, TX2, 7) by rw [h5]; rfl) rfl rfl (Nat.le_of_ble_eq_true rfl) dX9_restore_66 ⟨Nat.le_of_ble_eq_true rfl, Nat.le_of_ble_eq_true rfl⟩) rfl rfl kk)
          (fun h5 kk => z_gotv1 C (z_runV C (c_X5_goBack l G q P hp S X j6 hi_j6) (cwV 0 C.hts gX9_restore_X5_goBack rfl rfl rfl (by decide +kernel) ⟨Nat.le_of_ble_eq_true rfl, Nat.le_of_ble_eq_true rfl⟩) (18 + j6) (xw_pot hi_j6) (show vwCl[P.2.2.1 j6]? = some (RX5, TX5, 7) by rw [h5]; rfl) rfl rfl (Nat.le_of_ble_eq_true rfl) dX9_restore_66 ⟨Nat.le_of_ble_eq_true rfl, Nat.le_of_ble_eq_true rfl⟩) rfl rfl kk)
          (fun h5 kk => z_gotv1 C (z_runU C (c_X5_goBack l G q P hp S X j6 hi_j6) (va_cwU 0 C.hts gX9_restore_X5_goBack_u240X6 rfl rfl rfl rfl (by decide +kernel) ⟨Nat.le_of_ble_eq_true rfl, Nat.le_of_ble_eq_true rfl⟩) (18 + j6) (xw_pot hi_j6) (show vwCl[P.2.2.1 j6]? = some (RX6, TX6, 7) by rw [h5]; rfl) rfl rfl (Nat.le_of_ble_eq_true rfl) dX9_restore_66 ⟨Nat.le_of_ble_eq_true rfl, Nat.le_of_ble_eq_true rfl⟩) rfl rfl kk)
          (fun h5 kk => z_gotv1 C (z_runU C (c_X5_goBack l G q P hp S X j6 hi_j6) (va_cwU 0 C.hts gX9_restore_X5_goBack_u240X7 rfl rfl rfl rfl (by decide +kernel) ⟨Nat.le_of_ble_eq_true rfl, Nat.le_of_ble_eq_true rfl⟩) (18 + j6) (xw_pot hi_j6) (show vwCl[P.2.2.1 j6]? = some (RX7, TX7, 7) by rw [h5]; rfl) rfl rfl (Nat.le_of_ble_eq_true rfl) dX9_restore_66 ⟨Nat.le_of_ble_eq_true rfl, Nat.le_of_ble_eq_true rfl⟩) rfl rfl kk)
          ?_
        refine z_iinc (v := (v1 + 1)) (lv2 := [(1, .int (v1 + 1)), (2, .ref (P.2.1 j6)), (0, .ref (q 0))]) C 2 dX9_restore_69 rfl rfl (by decide) rfl ?_
        refine z_goto (tgt := 47) C dX9_restore_72 (by decide) ?_
        refine z_lv (lv2 := [(0, .ref (q 0)), (1, .int (v1 + 1))]) [2, 0] rfl ?_
        exact ih (v1 + 1) (f_X5_goBack P S j6) h kk
set_option maxHeartbeats 4000000 in
set_option maxRecDepth 100000 in
theorem c_X9_restore (l : Launch) (G : zGT) (q : Nat → Nat) (P : XP) (hp : xOK P) (S : XS) (X : va_W) (fu : Nat) {res : Int32 × XS} (h : f_X9_restore fu P S = some res) : MG l yX9_restore wsX9_restore ({ frames := 1, cells := 0, slots := 0, locals := 22 }) G [.ref (q 0)] (XW G q P S ++ X) (va_Qi (fun r u => r = res.1 ∧ u = XW G q P res.2 ++ X)) := by
  have hi9 : ∀ w ∈ u_ws RX9 TX9 18, w ∈ wsX9_restore := fun _ h => List.mem_cons_of_mem _ (List.mem_append_left _ (List.mem_append_left _ (List.mem_append_left _ (List.mem_append_left _ (List.mem_append_left _ (List.mem_append_left _ (List.mem_append_right _ h)))))))
  refine MG.of (cc := cX9_restore) (maxL := 3) (ret := (some .int)) (own := RX9) (nm := "restore") (by decide) rfl rfl rfl (Nat.le_of_ble_eq_true rfl) ?_
  intro p e s m args below meth c A C
  rw [f_X9_restore] at h
  refine z_eq (lv2 := [(0, .ref (q 0))]) rfl rfl rfl rfl ?_
  refine z_aload_n C 0 dX9_restore_0 rfl rfl ?_
  refine xg_T12 C hi9 (List.mem_of_getElem? (i := 1) rfl) dX9_restore_1 ?_
  refine z_if_ne (tgt := 10) C dX9_restore_4 (by decide) (fun c1 => ?_) (fun c1 => ?_)
  · replace h := zf c1 h
    refine z_aload_n C 0 dX9_restore_10 rfl rfl ?_
    refine z_aload_n C 0 dX9_restore_11 rfl rfl ?_
    refine xg_T13 C hi9 (List.mem_of_getElem? (i := 2) rfl) dX9_restore_12 ?_
    refine xp_T9 C hi9 (List.mem_of_getElem? (i := 3) rfl) dX9_restore_15 ?_
    refine z_aload_n C 0 dX9_restore_18 rfl rfl ?_
    refine z_aload_n C 0 dX9_restore_19 rfl rfl ?_
    refine xg_T14 C hi9 (List.mem_of_getElem? (i := 4) rfl) dX9_restore_20 ?_
    refine xp_T10 C hi9 (List.mem_of_getElem? (i := 5) rfl) dX9_restore_23 ?_
    refine z_aload_n C 0 dX9_restore_26 rfl rfl ?_
    refine z_aload_n C 0 dX9_restore_27 rfl rfl ?_
    refine xg_T15 C hi9 (List.mem_of_getElem? (i := 6) rfl) dX9_restore_28 ?_
    refine xp_T11 C hi9 (List.mem_of_getElem? (i := 7) rfl) dX9_restore_31 ?_
    refine z_aload_n C 0 dX9_restore_34 rfl rfl ?_
    refine xg_T2 C hi9 (List.mem_of_getElem? (i := 8) rfl) dX9_restore_35 ?_
    refine z_aload_n C 0 dX9_restore_38 rfl rfl ?_
    refine xg_T3 C hi9 (List.mem_of_getElem? (i := 9) rfl) dX9_restore_39 ?_
    obtain ⟨r3, hf2, h⟩ := bd_some h
    refine z_gotv1 C (z_runV C (c_X8_copyFrom_DK l G q P (xsI (xsI (xsI S 9 (xI S 13)) 10 (xI (xsI S 9 (xI S 13)) 14)) 11 (xI (xsI (xsI S 9 (xI S 13)) 10 (xI (xsI S 9 (xI S 13)) 14)) 15)) X fu hf2) (cwV 1 C.hts gX9_restore_X8_copyFrom rfl rfl rfl (by decide +kernel) ⟨Nat.le_of_ble_eq_true rfl, Nat.le_of_ble_eq_true rfl⟩) 4 rfl rfl rfl rfl (Nat.le_of_ble_eq_true rfl) dX9_restore_42 ⟨Nat.le_of_ble_eq_true rfl, Nat.le_of_ble_eq_true rfl⟩) rfl rfl ?_
    refine z_iconst (v := 0) C dX9_restore_45 (by decide) ?_
    refine z_istore_n (lv2 := [(1, .int 0), (0, .ref (q 0))]) C dX9_restore_46 rfl (by decide) rfl ?_
    refine z_lv (lv2 := [(0, .ref (q 0)), (1, .int 0)]) [1, 0] rfl ?_
    obtain ⟨r7, hf8, h⟩ := bd_some h
    refine L_X9_restore_47 C hp  fu 0 r3 hf8 ?_
    refine z_aload_n C 0 dX9_restore_75 rfl rfl ?_
    refine xg_T9 C hi9 (List.mem_of_getElem? (i := 3) rfl) dX9_restore_76 ?_
    injection h with h
    subst h
    exact z_iret C rfl ⟨rfl, rfl⟩ dX9_restore_79
  · replace h := zt c1 h
    refine z_bipush (v := (-103)) C dX9_restore_7 (by decide) ?_
    injection h with h
    subst h
    exact z_iret C rfl ⟨rfl, rfl⟩ dX9_restore_9
def f_X9_potsThatBoil_L4 (fu : Nat) (P : XP)  : Nat → Int32 → Int32 → XS → Option (Int32 × Int32)
  | 0, _, _, _ => none
  | n + 1, v1, v2, S => if (xI S 6) ≤ v2 then some (v1, v2) else pm (f_X9_potAt P S v2) (f_X9_potsThatBoil_L4 fu P n v1 (v2 + 1) S) (fun j3 => if (f_X5_boils P S j3) = 0 then f_X9_potsThatBoil_L4 fu P n v1 (v2 + 1) S else f_X9_potsThatBoil_L4 fu P n (v1 + 1) (v2 + 1) S)
def f_X9_potsThatBoil (fu : Nat) (P : XP) (S : XS) : Option (Int32) := (f_X9_potsThatBoil_L4 fu P fu 0 0 S).bind fun r5 => some r5.1
set_option maxHeartbeats 4000000 in
set_option maxRecDepth 100000 in
theorem L_X9_potsThatBoil_4 {p : Program} {l : Launch} {e : Env} {s : State} {m : MethodId} {args : Array Value} {below : List Frame} {meth : Method} {c : Code} {A : Nat → Prop} {G : zGT} {q : Nat → Nat} {P : XP} {X : va_W} {fu : Nat} {Q : State → Prop} (C : zC p s m args meth c A G cX9_potsThatBoil 4 (some .int) RX9 "potsThatBoil" wsX9_potsThatBoil) (hp : xOK P) : ∀ (n : Nat) (v1 : Int32) (v2 : Int32) (S : XS) {res : Int32 × Int32}, f_X9_potsThatBoil_L4 fu P n v1 v2 S = some res → Z p l e ({ frames := 1, cells := 0, slots := 0, locals := 21 }) s m args below meth c A G 4 Q 0 0 (XW G q P S ++ X) [(0, .ref (q 0)), (1, .int res.1), (2, .int res.2)] 38 [] → Z p l e ({ frames := 1, cells := 0, slots := 0, locals := 21 }) s m args below meth c A G 4 Q 0 0 (XW G q P S ++ X) [(0, .ref (q 0)), (1, .int v1), (2, .int v2)] 4 [] := by
  have hi9 : ∀ w ∈ u_ws RX9 TX9 18, w ∈ wsX9_potsThatBoil := fun _ h => List.mem_cons_of_mem _ (List.mem_append_left _ (List.mem_append_left _ (List.mem_append_left _ (List.mem_append_left _ (List.mem_append_left _ (List.mem_append_right _ h))))))
  intro n
  induction n with
  | zero =>
    intro v1 v2 S res h kk
    exact nomatch (h : none = some _)
  | succ n ih =>
    intro v1 v2 S res h kk
    rw [f_X9_potsThatBoil_L4] at h
    refine z_iload_n C 2 dX9_potsThatBoil_4 rfl rfl ?_
    refine z_aload_n C 0 dX9_potsThatBoil_5 rfl rfl ?_
    refine xg_T6 C hi9 (List.mem_of_getElem? (i := 1) rfl) dX9_potsThatBoil_6 ?_
    refine z_icmp_ge (tgt := 38) C dX9_potsThatBoil_9 (by decide) (fun c1 => ?_) (fun c1 => ?_)
    · replace h := zt c1 h
      injection h with h
      subst h
      refine z_lv (lv2 := [(0, .ref (q 0)), (1, .int v1), (2, .int v2)]) [0, 1, 2] rfl ?_
      exact kk
    · replace h := zf c1 h
      refine z_aload_n C 0 dX9_potsThatBoil_12 rfl rfl ?_
      refine z_iload_n C 2 dX9_potsThatBoil_13 rfl rfl ?_
      refine z_gotq1 C (z_runV C (c_X9_potAt l G q P hp S X v2) (cwV 1 C.hts gX9_potsThatBoil_X9_potAt rfl rfl rfl (by decide +kernel) ⟨Nat.le_of_ble_eq_true rfl, Nat.le_of_ble_eq_true rfl⟩) 0 rfl rfl rfl rfl (Nat.le_of_ble_eq_true rfl) dX9_potsThatBoil_14 ⟨Nat.le_of_ble_eq_true rfl, Nat.le_of_ble_eq_true rfl⟩) rfl rfl ?_
      cases hq2 : (f_X9_potAt P S v2) with
      | none =>
        replace h := pm_n hq2 h
        refine z_eq (st2 := [.null]) rfl rfl rfl rfl ?_
        refine z_astore_nN (lv2 := [(3, .null), (0, .ref (q 0)), (1, .int v1), (2, .int v2)]) C dX9_potsThatBoil_17 rfl (by decide) rfl ?_
        refine z_aload_nN C 0 dX9_potsThatBoil_18 rfl rfl ?_
        refine z_ifnullN (tgt := 32) C dX9_potsThatBoil_19 (by decide) ?_
        refine z_iinc (v := (v2 + 1)) (lv2 := [(2, .int (v2 + 1)), (3, .null), (0, .ref (q 0)), (1, .int v1)]) C 3 dX9_potsThatBoil_32 rfl rfl (by decide) rfl ?_
        refine z_goto (tgt := 4) C dX9_potsThatBoil_35 (by decide) ?_
        refine z_lv (lv2 := [(0, .ref (q 0)), (1, .int v1), (2, .int (v2 + 1))]) [2, 3, 0] rfl ?_
        exact ih v1 (v2 + 1) S h kk
      | some j3 =>
        replace h := pm_s hq2 h
        have hi_j3 : j3 < P.1 := f_potAt_lt hq2
        refine z_eq (st2 := [.ref (P.2.1 j3)]) rfl rfl rfl rfl ?_
        refine z_astore_n (lv2 := [(3, .ref (P.2.1 j3)), (0, .ref (q 0)), (1, .int v1), (2, .int v2)]) C dX9_potsThatBoil_17 rfl (by decide) rfl ?_
        refine z_aload_n C 0 dX9_potsThatBoil_18 rfl rfl ?_
        refine z_ifnull C dX9_potsThatBoil_19 ?_
        refine z_aload_n C 0 dX9_potsThatBoil_22 rfl rfl ?_
        refine z5 (hp.1 j3 hi_j3)
          (fun h5 kk => z_goti1 C (z_runU C (c_X5_boils l G q P hp S X j3 hi_j3) (va_cwU 0 C.hts gX9_potsThatBoil_X5_boils_u151X0 rfl rfl rfl rfl (by decide +kernel) ⟨Nat.le_of_ble_eq_true rfl, Nat.le_of_ble_eq_true rfl⟩) (18 + j3) (xw_pot hi_j3) (show vwCl[P.2.2.1 j3]? = some (RX0, TX0, 7) by rw [h5]; rfl) rfl rfl (Nat.le_of_ble_eq_true rfl) dX9_potsThatBoil_23 ⟨Nat.le_of_ble_eq_true rfl, Nat.le_of_ble_eq_true rfl⟩) rfl rfl kk)
          (fun h5 kk => z_goti1 C (z_runU C (c_X5_boils l G q P hp S X j3 hi_j3) (va_cwU 0 C.hts gX9_potsThatBoil_X5_boils_u151X2 rfl rfl rfl rfl (by decide +kernel) ⟨Nat.le_of_ble_eq_true rfl, Nat.le_of_ble_eq_true rfl⟩) (18 + j3) (xw_pot hi_j3) (show vwCl[P.2.2.1 j3]? = some (RX2, TX2, 7) by rw [h5]; rfl) rfl rfl (Nat.le_of_ble_eq_true rfl) dX9_potsThatBoil_23 ⟨Nat.le_of_ble_eq_true rfl, Nat.le_of_ble_eq_true rfl⟩) rfl rfl kk)
          (fun h5 kk => z_goti1 C (z_runV C (c_X5_boils l G q P hp S X j3 hi_j3) (cwV 0 C.hts gX9_potsThatBoil_X5_boils rfl rfl rfl (by decide +kernel) ⟨Nat.le_of_ble_eq_true rfl, Nat.le_of_ble_eq_true rfl⟩) (18 + j3) (xw_pot hi_j3) (show vwCl[P.2.2.1 j3]? = some (RX5, TX5, 7) by rw [h5]; rfl) rfl rfl (Nat.le_of_ble_eq_true rfl) dX9_potsThatBoil_23 ⟨Nat.le_of_ble_eq_true rfl, Nat.le_of_ble_eq_true rfl⟩) rfl rfl kk)
          (fun h5 kk => z_goti1 C (z_runU C (c_X5_boils l G q P hp S X j3 hi_j3) (va_cwU 0 C.hts gX9_potsThatBoil_X5_boils_u151X6 rfl rfl rfl rfl (by decide +kernel) ⟨Nat.le_of_ble_eq_true rfl, Nat.le_of_ble_eq_true rfl⟩) (18 + j3) (xw_pot hi_j3) (show vwCl[P.2.2.1 j3]? = some (RX6, TX6, 7) by rw [h5]; rfl) rfl rfl (Nat.le_of_ble_eq_true rfl) dX9_potsThatBoil_23 ⟨Nat.le_of_ble_eq_true rfl, Nat.le_of_ble_eq_true rfl⟩) rfl rfl kk)
          (fun h5 kk => z_goti1 C (z_runU C (c_X5_boils l G q P hp S X j3 hi_j3) (va_cwU 0 C.hts gX9_potsThatBoil_X5_boils_u151X7 rfl rfl rfl rfl (by decide +kernel) ⟨Nat.le_of_ble_eq_true rfl, Nat.le_of_ble_eq_true rfl⟩) (18 + j3) (xw_pot hi_j3) (show vwCl[P.2.2.1 j3]? = some (RX7, TX7, 7) by rw [h5]; rfl) rfl rfl (Nat.le_of_ble_eq_true rfl) dX9_potsThatBoil_23 ⟨Nat.le_of_ble_eq_true rfl, Nat.le_of_ble_eq_true rfl⟩) rfl rfl kk)
          ?_
        refine z_if_eq (tgt := 32) C dX9_potsThatBoil_26 (by decide) (fun c4 => ?_) (fun c4 => ?_)
        · replace h := zt c4 h
          refine z_iinc (v := (v2 + 1)) (lv2 := [(2, .int (v2 + 1)), (3, .ref (P.2.1 j3)), (0, .ref (q 0)), (1, .int v1)]) C 3 dX9_potsThatBoil_32 rfl rfl (by decide) rfl ?_
          refine z_goto (tgt := 4) C dX9_potsThatBoil_35 (by decide) ?_
          refine z_lv (lv2 := [(0, .ref (q 0)), (1, .int v1), (2, .int (v2 + 1))]) [2, 3, 0] rfl ?_
          exact ih v1 (v2 + 1) S h kk
        · replace h := zf c4 h
          refine z_iinc (v := (v1 + 1)) (lv2 := [(1, .int (v1 + 1)), (3, .ref (P.2.1 j3)), (0, .ref (q 0)), (2, .int v2)]) C 2 dX9_potsThatBoil_29 rfl rfl (by decide) rfl ?_
          refine z_iinc (v := (v2 + 1)) (lv2 := [(2, .int (v2 + 1)), (1, .int (v1 + 1)), (3, .ref (P.2.1 j3)), (0, .ref (q 0))]) C 3 dX9_potsThatBoil_32 rfl rfl (by decide) rfl ?_
          refine z_goto (tgt := 4) C dX9_potsThatBoil_35 (by decide) ?_
          refine z_lv (lv2 := [(0, .ref (q 0)), (1, .int (v1 + 1)), (2, .int (v2 + 1))]) [3, 1, 0] rfl ?_
          exact ih (v1 + 1) (v2 + 1) S h kk
set_option maxHeartbeats 4000000 in
set_option maxRecDepth 100000 in
theorem c_X9_potsThatBoil (l : Launch) (G : zGT) (q : Nat → Nat) (P : XP) (hp : xOK P) (S : XS) (X : va_W) (fu : Nat) {res : Int32} (h : f_X9_potsThatBoil fu P S = some res) : MG l yX9_potsThatBoil wsX9_potsThatBoil ({ frames := 1, cells := 0, slots := 0, locals := 21 }) G [.ref (q 0)] (XW G q P S ++ X) (va_Qi (fun r u => r = res ∧ u = XW G q P S ++ X)) := by
  have hi9 : ∀ w ∈ u_ws RX9 TX9 18, w ∈ wsX9_potsThatBoil := fun _ h => List.mem_cons_of_mem _ (List.mem_append_left _ (List.mem_append_left _ (List.mem_append_left _ (List.mem_append_left _ (List.mem_append_left _ (List.mem_append_right _ h))))))
  refine MG.of (cc := cX9_potsThatBoil) (maxL := 4) (ret := (some .int)) (own := RX9) (nm := "potsThatBoil") (by decide) rfl rfl rfl (Nat.le_of_ble_eq_true rfl) ?_
  intro p e s m args below meth c A C
  rw [f_X9_potsThatBoil] at h
  refine z_eq (lv2 := [(0, .ref (q 0))]) rfl rfl rfl rfl ?_
  refine z_iconst (v := 0) C dX9_potsThatBoil_0 (by decide) ?_
  refine z_istore_n (lv2 := [(1, .int 0), (0, .ref (q 0))]) C dX9_potsThatBoil_1 rfl (by decide) rfl ?_
  refine z_iconst (v := 0) C dX9_potsThatBoil_2 (by decide) ?_
  refine z_istore_n (lv2 := [(2, .int 0), (1, .int 0), (0, .ref (q 0))]) C dX9_potsThatBoil_3 rfl (by decide) rfl ?_
  refine z_lv (lv2 := [(0, .ref (q 0)), (1, .int 0), (2, .int 0)]) [2, 1, 0] rfl ?_
  obtain ⟨r5, hf6, h⟩ := bd_some h
  refine L_X9_potsThatBoil_4 C hp  fu 0 0 S hf6 ?_
  refine z_iload_n C 1 dX9_potsThatBoil_38 rfl rfl ?_
  injection h with h
  subst h
  exact z_iret C rfl ⟨rfl, rfl⟩ dX9_potsThatBoil_39
def f_X9_count (fu : Nat) (P : XP) (S : XS) (a1 : Int32) : Option (Int32) := if a1 = 0 then some (xI S 6) else if a1 = 1 then some (xI S 7) else if a1 = 2 then some (xI S 8) else if a1 = 3 then some (xI S 9) else if a1 = 4 then (f_X9_potsThatBoil fu P S).bind fun r7 => some r7 else if a1 = 5 then some (xI S 10) else if a1 = 6 then some (xI S 11) else if a1 = 7 then some (xI S 21) else if a1 = 8 then some (xI S 20) else if a1 = 9 then some (xI S 16) else if a1 = 10 then some (xI S 17) else some (-102)
set_option maxHeartbeats 4000000 in
set_option maxRecDepth 100000 in
theorem c_X9_count (l : Launch) (G : zGT) (q : Nat → Nat) (P : XP) (hp : xOK P) (S : XS) (X : va_W) (fu : Nat) (a1 : Int32) {res : Int32} (h : f_X9_count fu P S a1 = some res) : MG l yX9_count wsX9_count ({ frames := 2, cells := 0, slots := 0, locals := 44 }) G [.ref (q 0), .int a1] (XW G q P S ++ X) (va_Qi (fun r u => r = res ∧ u = XW G q P S ++ X)) := by
  have hi3 : ∀ w ∈ u_ws RX3 TX3 2, w ∈ wsX9_count := fun _ h => List.mem_cons_of_mem _ (List.mem_append_left _ (List.mem_append_left _ (List.mem_append_left _ (List.mem_append_left _ (List.mem_append_left _ (List.mem_append_right _ h))))))
  have hi8 : ∀ w ∈ u_ws RX8 TX8 4, w ∈ wsX9_count := fun _ h => List.mem_cons_of_mem _ (List.mem_append_left _ (List.mem_append_left _ (List.mem_append_left _ (List.mem_append_left _ (List.mem_append_left _ (List.mem_append_left _ (List.mem_append_right _ h)))))))
  have hi9 : ∀ w ∈ u_ws RX9 TX9 18, w ∈ wsX9_count := fun _ h => List.mem_cons_of_mem _ (List.mem_append_left _ (List.mem_append_left _ (List.mem_append_left _ (List.mem_append_left _ (List.mem_append_left _ (List.mem_append_left _ (List.mem_append_left _ (List.mem_append_right _ h))))))))
  refine MG.of (cc := cX9_count) (maxL := 2) (ret := (some .int)) (own := RX9) (nm := "count") (by decide) rfl rfl rfl (Nat.le_of_ble_eq_true rfl) ?_
  intro p e s m args below meth c A C
  rw [f_X9_count] at h
  refine z_eq (lv2 := [(0, .ref (q 0)), (1, .int a1)]) rfl rfl rfl rfl ?_
  refine z_iload_n C 1 dX9_count_0 rfl rfl ?_
  by_cases c1 : a1 = 0
  · replace h := zt c1 h
    refine z_tableIn (off := 59) (tgt := 60) C dX9_count_1 (by rw [c1]; decide) (by rw [c1]; decide) (by rw [c1]; rfl) (by decide) ?_
    refine z_aload_n C 0 dX9_count_60 rfl rfl ?_
    refine xg_T6 C hi9 (List.mem_of_getElem? (i := 1) rfl) dX9_count_61 ?_
    injection h with h
    subst h
    exact z_iret C rfl ⟨rfl, rfl⟩ dX9_count_64
  replace h := zf c1 h
  by_cases c2 : a1 = 1
  · replace h := zt c2 h
    refine z_tableIn (off := 64) (tgt := 65) C dX9_count_1 (by rw [c2]; decide) (by rw [c2]; decide) (by rw [c2]; rfl) (by decide) ?_
    refine z_aload_n C 0 dX9_count_65 rfl rfl ?_
    refine xg_T7 C hi9 (List.mem_of_getElem? (i := 2) rfl) dX9_count_66 ?_
    injection h with h
    subst h
    exact z_iret C rfl ⟨rfl, rfl⟩ dX9_count_69
  replace h := zf c2 h
  by_cases c3 : a1 = 2
  · replace h := zt c3 h
    refine z_tableIn (off := 69) (tgt := 70) C dX9_count_1 (by rw [c3]; decide) (by rw [c3]; decide) (by rw [c3]; rfl) (by decide) ?_
    refine z_aload_n C 0 dX9_count_70 rfl rfl ?_
    refine xg_T8 C hi9 (List.mem_of_getElem? (i := 3) rfl) dX9_count_71 ?_
    injection h with h
    subst h
    exact z_iret C rfl ⟨rfl, rfl⟩ dX9_count_74
  replace h := zf c3 h
  by_cases c4 : a1 = 3
  · replace h := zt c4 h
    refine z_tableIn (off := 74) (tgt := 75) C dX9_count_1 (by rw [c4]; decide) (by rw [c4]; decide) (by rw [c4]; rfl) (by decide) ?_
    refine z_aload_n C 0 dX9_count_75 rfl rfl ?_
    refine xg_T9 C hi9 (List.mem_of_getElem? (i := 4) rfl) dX9_count_76 ?_
    injection h with h
    subst h
    exact z_iret C rfl ⟨rfl, rfl⟩ dX9_count_79
  replace h := zf c4 h
  by_cases c5 : a1 = 4
  · replace h := zt c5 h
    refine z_tableIn (off := 79) (tgt := 80) C dX9_count_1 (by rw [c5]; decide) (by rw [c5]; decide) (by rw [c5]; rfl) (by decide) ?_
    refine z_aload_n C 0 dX9_count_80 rfl rfl ?_
    obtain ⟨r7, hf6, h⟩ := bd_some h
    refine z_goti1 C (z_runV C (c_X9_potsThatBoil l G q P hp S X fu hf6) (cwV 0 C.hts gX9_count_X9_potsThatBoil rfl rfl rfl (by decide +kernel) ⟨Nat.le_of_ble_eq_true rfl, Nat.le_of_ble_eq_true rfl⟩) 0 rfl rfl rfl rfl (Nat.le_of_ble_eq_true rfl) dX9_count_81 ⟨Nat.le_of_ble_eq_true rfl, Nat.le_of_ble_eq_true rfl⟩) rfl rfl ?_
    injection h with h
    subst h
    exact z_iret C rfl ⟨rfl, rfl⟩ dX9_count_84
  replace h := zf c5 h
  by_cases c8 : a1 = 5
  · replace h := zt c8 h
    refine z_tableIn (off := 84) (tgt := 85) C dX9_count_1 (by rw [c8]; decide) (by rw [c8]; decide) (by rw [c8]; rfl) (by decide) ?_
    refine z_aload_n C 0 dX9_count_85 rfl rfl ?_
    refine xg_T10 C hi9 (List.mem_of_getElem? (i := 5) rfl) dX9_count_86 ?_
    injection h with h
    subst h
    exact z_iret C rfl ⟨rfl, rfl⟩ dX9_count_89
  replace h := zf c8 h
  by_cases c9 : a1 = 6
  · replace h := zt c9 h
    refine z_tableIn (off := 89) (tgt := 90) C dX9_count_1 (by rw [c9]; decide) (by rw [c9]; decide) (by rw [c9]; rfl) (by decide) ?_
    refine z_aload_n C 0 dX9_count_90 rfl rfl ?_
    refine xg_T11 C hi9 (List.mem_of_getElem? (i := 6) rfl) dX9_count_91 ?_
    injection h with h
    subst h
    exact z_iret C rfl ⟨rfl, rfl⟩ dX9_count_94
  replace h := zf c9 h
  by_cases c10 : a1 = 7
  · replace h := zt c10 h
    refine z_tableIn (off := 94) (tgt := 95) C dX9_count_1 (by rw [c10]; decide) (by rw [c10]; decide) (by rw [c10]; rfl) (by decide) ?_
    refine z_aload_n C 0 dX9_count_95 rfl rfl ?_
    refine xg_T2 C hi9 (List.mem_of_getElem? (i := 7) rfl) dX9_count_96 ?_
    refine xg_D3 C hi8 (List.mem_of_getElem? (i := 8) rfl) dX9_count_99 ?_
    injection h with h
    subst h
    exact z_iret C rfl ⟨rfl, rfl⟩ dX9_count_102
  replace h := zf c10 h
  by_cases c11 : a1 = 8
  · replace h := zt c11 h
    refine z_tableIn (off := 102) (tgt := 103) C dX9_count_1 (by rw [c11]; decide) (by rw [c11]; decide) (by rw [c11]; rfl) (by decide) ?_
    refine z_aload_n C 0 dX9_count_103 rfl rfl ?_
    refine xg_T0 C hi9 (List.mem_of_getElem? (i := 9) rfl) dX9_count_104 ?_
    refine xg_P1 C hi3 (List.mem_of_getElem? (i := 10) rfl) dX9_count_107 ?_
    injection h with h
    subst h
    exact z_iret C rfl ⟨rfl, rfl⟩ dX9_count_110
  replace h := zf c11 h
  by_cases c12 : a1 = 9
  · replace h := zt c12 h
    refine z_tableIn (off := 110) (tgt := 111) C dX9_count_1 (by rw [c12]; decide) (by rw [c12]; decide) (by rw [c12]; rfl) (by decide) ?_
    refine z_aload_n C 0 dX9_count_111 rfl rfl ?_
    refine xg_T16 C hi9 (List.mem_of_getElem? (i := 11) rfl) dX9_count_112 ?_
    injection h with h
    subst h
    exact z_iret C rfl ⟨rfl, rfl⟩ dX9_count_115
  replace h := zf c12 h
  by_cases c13 : a1 = 10
  · replace h := zt c13 h
    refine z_tableIn (off := 115) (tgt := 116) C dX9_count_1 (by rw [c13]; decide) (by rw [c13]; decide) (by rw [c13]; rfl) (by decide) ?_
    refine z_aload_n C 0 dX9_count_116 rfl rfl ?_
    refine xg_T17 C hi9 (List.mem_of_getElem? (i := 12) rfl) dX9_count_117 ?_
    injection h with h
    subst h
    exact z_iret C rfl ⟨rfl, rfl⟩ dX9_count_120
  replace h := zf c13 h
  refine z_tableOut (tgt := 121) C dX9_count_1 (by have e0 := ne_toInt (n := 0) c1 rfl; have e1 := ne_toInt (n := 1) c2 rfl; have e2 := ne_toInt (n := 2) c3 rfl; have e3 := ne_toInt (n := 3) c4 rfl; have e4 := ne_toInt (n := 4) c5 rfl; have e5 := ne_toInt (n := 5) c8 rfl; have e6 := ne_toInt (n := 6) c9 rfl; have e7 := ne_toInt (n := 7) c10 rfl; have e8 := ne_toInt (n := 8) c11 rfl; have e9 := ne_toInt (n := 9) c12 rfl; have e10 := ne_toInt (n := 10) c13 rfl; omega) (by decide) ?_
  refine z_bipush (v := (-102)) C dX9_count_121 (by decide) ?_
  injection h with h
  subst h
  exact z_iret C rfl ⟨rfl, rfl⟩ dX9_count_123
def f_X9_digestOfPot_L6 (fu : Nat) (P : XP) (v1 : Int64) (v3 : Int32) : Nat → Int64 → Int32 → XS → Option (Int64 × Int32)
  | 0, _, _, _ => none
  | n + 1, v4, v6, S => if 7 < v6 then some (v4, v6) else f_X9_digestOfPot_L6 fu P v1 v3 n ((31 * v4) + ((f_X9_about P S v3 v6).toInt64)) (v6 + 1) S
def f_X9_digestOfPot (fu : Nat) (P : XP) (S : XS) (a1 : Int64) (a2 : Int32) : Option (Int64) := (f_X9_digestOfPot_L6 fu P a1 a2 fu a1 0 S).bind fun r2 => pm (f_X9_potAt P S a2) (some ((31 * ((31 * r2.1) + ((0 : Int32).toInt64))) + ((f_X9_together P S a2 60).toInt64))) (fun j5 => if (f_X5_boils P S j5) = 0 then some ((31 * ((31 * r2.1) + ((0 : Int32).toInt64))) + ((f_X9_together P S a2 60).toInt64)) else (f_X9_bestWinding fu P S j5).bind fun r8 => some ((31 * ((31 * r2.1) + r8.toInt64)) + ((f_X9_together P S a2 60).toInt64)))
set_option maxHeartbeats 4000000 in
set_option maxRecDepth 100000 in
theorem L_X9_digestOfPot_6 {p : Program} {l : Launch} {e : Env} {s : State} {m : MethodId} {args : Array Value} {below : List Frame} {meth : Method} {c : Code} {A : Nat → Prop} {G : zGT} {q : Nat → Nat} {P : XP} {X : va_W} {fu : Nat} {Q : State → Prop} (C : zC p s m args meth c A G cX9_digestOfPot 7 (some .long) RX9 "digestOfPot" wsX9_digestOfPot) (hp : xOK P) (v1 : Int64) (v3 : Int32) : ∀ (n : Nat) (v4 : Int64) (v6 : Int32) (S : XS) {res : Int64 × Int32}, f_X9_digestOfPot_L6 fu P v1 v3 n v4 v6 S = some res → Z p l e ({ frames := 5, cells := 0, slots := 0, locals := 108 }) s m args below meth c A G 7 Q 0 0 (XW G q P S ++ X) [(0, .ref (q 0)), (1, .long v1), (3, .int v3), (4, .long res.1), (6, .int res.2)] 36 [] → Z p l e ({ frames := 5, cells := 0, slots := 0, locals := 108 }) s m args below meth c A G 7 Q 0 0 (XW G q P S ++ X) [(0, .ref (q 0)), (1, .long v1), (3, .int v3), (4, .long v4), (6, .int v6)] 6 [] := by
  intro n
  induction n with
  | zero =>
    intro v4 v6 S res h kk
    exact nomatch (h : none = some _)
  | succ n ih =>
    intro v4 v6 S res h kk
    rw [f_X9_digestOfPot_L6] at h
    refine z_iload C 4 dX9_digestOfPot_6 rfl ?_
    refine z_bipush (v := 7) C dX9_digestOfPot_8 (by decide) ?_
    refine z_icmp_gt (tgt := 36) C dX9_digestOfPot_10 (by decide) (fun c1 => ?_) (fun c1 => ?_)
    · replace h := zt c1 h
      injection h with h
      subst h
      refine z_lv (lv2 := [(0, .ref (q 0)), (1, .long v1), (3, .int v3), (4, .long v4), (6, .int v6)]) [0, 1, 2, 3, 4] rfl ?_
      exact kk
    · replace h := zf c1 h
      refine z_ldc2 (v := 31) C (List.mem_of_getElem? (i := 1) rfl) dX9_digestOfPot_13 ?_
      refine z_lload C 3 dX9_digestOfPot_16 rfl ?_
      refine z_lmul C dX9_digestOfPot_18 ?_
      refine z_aload_n C 0 dX9_digestOfPot_19 rfl rfl ?_
      refine z_iload_n C 2 dX9_digestOfPot_20 rfl rfl ?_
      refine z_iload C 4 dX9_digestOfPot_21 rfl ?_
      refine z_goti1 C (z_runV C (c_X9_about l G q P hp S X v3 v6) (cwV 2 C.hts gX9_digestOfPot_X9_about rfl rfl rfl (by decide +kernel) ⟨Nat.le_of_ble_eq_true rfl, Nat.le_of_ble_eq_true rfl⟩) 0 rfl rfl rfl rfl (Nat.le_of_ble_eq_true rfl) dX9_digestOfPot_23 ⟨Nat.le_of_ble_eq_true rfl, Nat.le_of_ble_eq_true rfl⟩) rfl rfl ?_
      refine z_i2l C dX9_digestOfPot_26 ?_
      refine z_ladd C dX9_digestOfPot_27 ?_
      refine z_lstore (lv2 := [(4, .long ((31 * v4) + ((f_X9_about P S v3 v6).toInt64))), (0, .ref (q 0)), (1, .long v1), (3, .int v3), (6, .int v6)]) C dX9_digestOfPot_28 (by decide) rfl ?_
      refine z_iinc (v := (v6 + 1)) (lv2 := [(6, .int (v6 + 1)), (4, .long ((31 * v4) + ((f_X9_about P S v3 v6).toInt64))), (0, .ref (q 0)), (1, .long v1), (3, .int v3)]) C 4 dX9_digestOfPot_30 rfl rfl (by decide) rfl ?_
      refine z_goto (tgt := 6) C dX9_digestOfPot_33 (by decide) ?_
      refine z_lv (lv2 := [(0, .ref (q 0)), (1, .long v1), (3, .int v3), (4, .long ((31 * v4) + ((f_X9_about P S v3 v6).toInt64))), (6, .int (v6 + 1))]) [2, 3, 4, 1, 0] rfl ?_
      exact ih ((31 * v4) + ((f_X9_about P S v3 v6).toInt64)) (v6 + 1) S h kk
set_option maxHeartbeats 4000000 in
set_option maxRecDepth 100000 in
theorem c_X9_digestOfPot (l : Launch) (G : zGT) (q : Nat → Nat) (P : XP) (hp : xOK P) (S : XS) (X : va_W) (fu : Nat) (a1 : Int64) (a2 : Int32) {res : Int64} (h : f_X9_digestOfPot fu P S a1 a2 = some res) : MG l yX9_digestOfPot wsX9_digestOfPot ({ frames := 5, cells := 0, slots := 0, locals := 108 }) G [.ref (q 0), .long a1, .int a2] (XW G q P S ++ X) (va_Ql (fun r u => r = res ∧ u = XW G q P S ++ X)) := by
  refine MG.of (cc := cX9_digestOfPot) (maxL := 7) (ret := (some .long)) (own := RX9) (nm := "digestOfPot") (by decide) rfl rfl rfl (Nat.le_of_ble_eq_true rfl) ?_
  intro p e s m args below meth c A C
  rw [f_X9_digestOfPot] at h
  refine z_eq (lv2 := [(0, .ref (q 0)), (1, .long a1), (3, .int a2)]) rfl rfl rfl rfl ?_
  refine z_lload_n C 1 dX9_digestOfPot_0 rfl rfl ?_
  refine z_lstore (lv2 := [(4, .long a1), (0, .ref (q 0)), (1, .long a1), (3, .int a2)]) C dX9_digestOfPot_1 (by decide) rfl ?_
  refine z_iconst (v := 0) C dX9_digestOfPot_3 (by decide) ?_
  refine z_istore (lv2 := [(6, .int 0), (4, .long a1), (0, .ref (q 0)), (1, .long a1), (3, .int a2)]) C dX9_digestOfPot_4 (by decide) rfl ?_
  refine z_lv (lv2 := [(0, .ref (q 0)), (1, .long a1), (3, .int a2), (4, .long a1), (6, .int 0)]) [2, 3, 4, 1, 0] rfl ?_
  obtain ⟨r2, hf3, h⟩ := bd_some h
  refine L_X9_digestOfPot_6 C hp a1 a2 fu a1 0 S hf3 ?_
  refine z_aload_n C 0 dX9_digestOfPot_36 rfl rfl ?_
  refine z_iload_n C 2 dX9_digestOfPot_37 rfl rfl ?_
  refine z_gotq1 C (z_runV C (c_X9_potAt l G q P hp S X a2) (cwV 1 C.hts gX9_digestOfPot_X9_potAt rfl rfl rfl (by decide +kernel) ⟨Nat.le_of_ble_eq_true rfl, Nat.le_of_ble_eq_true rfl⟩) 0 rfl rfl rfl rfl (Nat.le_of_ble_eq_true rfl) dX9_digestOfPot_38 ⟨Nat.le_of_ble_eq_true rfl, Nat.le_of_ble_eq_true rfl⟩) rfl rfl ?_
  cases hq4 : (f_X9_potAt P S a2) with
  | none =>
    replace h := pm_n hq4 h
    refine z_eq (st2 := [.null]) rfl rfl rfl rfl ?_
    refine z_astoreN (lv2 := [(6, .null), (0, .ref (q 0)), (1, .long a1), (3, .int a2), (4, .long r2.1)]) C dX9_digestOfPot_41 (by decide) rfl ?_
    refine z_ldc2 (v := 31) C (List.mem_of_getElem? (i := 1) rfl) dX9_digestOfPot_43 ?_
    refine z_lload C 4 dX9_digestOfPot_46 rfl ?_
    refine z_lmul C dX9_digestOfPot_48 ?_
    refine z_aloadN C 0 dX9_digestOfPot_49 rfl ?_
    refine z_ifnullN (tgt := 71) C dX9_digestOfPot_51 (by decide) ?_
    refine z_iconst (v := 0) C dX9_digestOfPot_71 (by decide) ?_
    refine z_i2l C dX9_digestOfPot_72 ?_
    refine z_ladd C dX9_digestOfPot_73 ?_
    refine z_lstore (lv2 := [(4, .long ((31 * r2.1) + ((0 : Int32).toInt64))), (6, .null), (0, .ref (q 0)), (1, .long a1), (3, .int a2)]) C dX9_digestOfPot_74 (by decide) rfl ?_
    refine z_ldc2 (v := 31) C (List.mem_of_getElem? (i := 1) rfl) dX9_digestOfPot_76 ?_
    refine z_lload C 0 dX9_digestOfPot_79 rfl ?_
    refine z_lmul C dX9_digestOfPot_81 ?_
    refine z_aload_n C 2 dX9_digestOfPot_82 rfl rfl ?_
    refine z_iload_n C 4 dX9_digestOfPot_83 rfl rfl ?_
    refine z_bipush (v := 60) C dX9_digestOfPot_84 (by decide) ?_
    refine z_goti1 C (z_runV C (c_X9_together l G q P hp S X a2 60) (cwV 2 C.hts gX9_digestOfPot_X9_together rfl rfl rfl (by decide +kernel) ⟨Nat.le_of_ble_eq_true rfl, Nat.le_of_ble_eq_true rfl⟩) 0 rfl rfl rfl rfl (Nat.le_of_ble_eq_true rfl) dX9_digestOfPot_86 ⟨Nat.le_of_ble_eq_true rfl, Nat.le_of_ble_eq_true rfl⟩) rfl rfl ?_
    refine z_i2l C dX9_digestOfPot_89 ?_
    refine z_ladd C dX9_digestOfPot_90 ?_
    injection h with h
    subst h
    exact z_lret C rfl ⟨rfl, rfl⟩ dX9_digestOfPot_91
  | some j5 =>
    replace h := pm_s hq4 h
    have hi_j5 : j5 < P.1 := f_potAt_lt hq4
    refine z_eq (st2 := [.ref (P.2.1 j5)]) rfl rfl rfl rfl ?_
    refine z_astore (lv2 := [(6, .ref (P.2.1 j5)), (0, .ref (q 0)), (1, .long a1), (3, .int a2), (4, .long r2.1)]) C dX9_digestOfPot_41 (by decide) rfl ?_
    refine z_ldc2 (v := 31) C (List.mem_of_getElem? (i := 1) rfl) dX9_digestOfPot_43 ?_
    refine z_lload C 4 dX9_digestOfPot_46 rfl ?_
    refine z_lmul C dX9_digestOfPot_48 ?_
    refine z_aload C 0 dX9_digestOfPot_49 rfl ?_
    refine z_ifnull C dX9_digestOfPot_51 ?_
    refine z_aload C 0 dX9_digestOfPot_54 rfl ?_
    refine z5 (hp.1 j5 hi_j5)
      (fun h5 kk => z_goti1 C (z_runU C (c_X5_boils l G q P hp S X j5 hi_j5) (va_cwU 0 C.hts gX9_digestOfPot_X5_boils_u151X0 rfl rfl rfl rfl (by decide +kernel) ⟨Nat.le_of_ble_eq_true rfl, Nat.le_of_ble_eq_true rfl⟩) (18 + j5) (xw_pot hi_j5) (show vwCl[P.2.2.1 j5]? = some (RX0, TX0, 7) by rw [h5]; rfl) rfl rfl (Nat.le_of_ble_eq_true rfl) dX9_digestOfPot_56 ⟨Nat.le_of_ble_eq_true rfl, Nat.le_of_ble_eq_true rfl⟩) rfl rfl kk)
      (fun h5 kk => z_goti1 C (z_runU C (c_X5_boils l G q P hp S X j5 hi_j5) (va_cwU 0 C.hts gX9_digestOfPot_X5_boils_u151X2 rfl rfl rfl rfl (by decide +kernel) ⟨Nat.le_of_ble_eq_true rfl, Nat.le_of_ble_eq_true rfl⟩) (18 + j5) (xw_pot hi_j5) (show vwCl[P.2.2.1 j5]? = some (RX2, TX2, 7) by rw [h5]; rfl) rfl rfl (Nat.le_of_ble_eq_true rfl) dX9_digestOfPot_56 ⟨Nat.le_of_ble_eq_true rfl, Nat.le_of_ble_eq_true rfl⟩) rfl rfl kk)
      (fun h5 kk => z_goti1 C (z_runV C (c_X5_boils l G q P hp S X j5 hi_j5) (cwV 0 C.hts gX9_digestOfPot_X5_boils rfl rfl rfl (by decide +kernel) ⟨Nat.le_of_ble_eq_true rfl, Nat.le_of_ble_eq_true rfl⟩) (18 + j5) (xw_pot hi_j5) (show vwCl[P.2.2.1 j5]? = some (RX5, TX5, 7) by rw [h5]; rfl) rfl rfl (Nat.le_of_ble_eq_true rfl) dX9_digestOfPot_56 ⟨Nat.le_of_ble_eq_true rfl, Nat.le_of_ble_eq_true rfl⟩) rfl rfl kk)
      (fun h5 kk => z_goti1 C (z_runU C (c_X5_boils l G q P hp S X j5 hi_j5) (va_cwU 0 C.hts gX9_digestOfPot_X5_boils_u151X6 rfl rfl rfl rfl (by decide +kernel) ⟨Nat.le_of_ble_eq_true rfl, Nat.le_of_ble_eq_true rfl⟩) (18 + j5) (xw_pot hi_j5) (show vwCl[P.2.2.1 j5]? = some (RX6, TX6, 7) by rw [h5]; rfl) rfl rfl (Nat.le_of_ble_eq_true rfl) dX9_digestOfPot_56 ⟨Nat.le_of_ble_eq_true rfl, Nat.le_of_ble_eq_true rfl⟩) rfl rfl kk)
      (fun h5 kk => z_goti1 C (z_runU C (c_X5_boils l G q P hp S X j5 hi_j5) (va_cwU 0 C.hts gX9_digestOfPot_X5_boils_u151X7 rfl rfl rfl rfl (by decide +kernel) ⟨Nat.le_of_ble_eq_true rfl, Nat.le_of_ble_eq_true rfl⟩) (18 + j5) (xw_pot hi_j5) (show vwCl[P.2.2.1 j5]? = some (RX7, TX7, 7) by rw [h5]; rfl) rfl rfl (Nat.le_of_ble_eq_true rfl) dX9_digestOfPot_56 ⟨Nat.le_of_ble_eq_true rfl, Nat.le_of_ble_eq_true rfl⟩) rfl rfl kk)
      ?_
    refine z_if_eq (tgt := 71) C dX9_digestOfPot_59 (by decide) (fun c6 => ?_) (fun c6 => ?_)
    · replace h := zt c6 h
      refine z_iconst (v := 0) C dX9_digestOfPot_71 (by decide) ?_
      refine z_i2l C dX9_digestOfPot_72 ?_
      refine z_ladd C dX9_digestOfPot_73 ?_
      refine z_lstore (lv2 := [(4, .long ((31 * r2.1) + ((0 : Int32).toInt64))), (6, .ref (P.2.1 j5)), (0, .ref (q 0)), (1, .long a1), (3, .int a2)]) C dX9_digestOfPot_74 (by decide) rfl ?_
      refine z_ldc2 (v := 31) C (List.mem_of_getElem? (i := 1) rfl) dX9_digestOfPot_76 ?_
      refine z_lload C 0 dX9_digestOfPot_79 rfl ?_
      refine z_lmul C dX9_digestOfPot_81 ?_
      refine z_aload_n C 2 dX9_digestOfPot_82 rfl rfl ?_
      refine z_iload_n C 4 dX9_digestOfPot_83 rfl rfl ?_
      refine z_bipush (v := 60) C dX9_digestOfPot_84 (by decide) ?_
      refine z_goti1 C (z_runV C (c_X9_together l G q P hp S X a2 60) (cwV 2 C.hts gX9_digestOfPot_X9_together rfl rfl rfl (by decide +kernel) ⟨Nat.le_of_ble_eq_true rfl, Nat.le_of_ble_eq_true rfl⟩) 0 rfl rfl rfl rfl (Nat.le_of_ble_eq_true rfl) dX9_digestOfPot_86 ⟨Nat.le_of_ble_eq_true rfl, Nat.le_of_ble_eq_true rfl⟩) rfl rfl ?_
      refine z_i2l C dX9_digestOfPot_89 ?_
      refine z_ladd C dX9_digestOfPot_90 ?_
      injection h with h
      subst h
      exact z_lret C rfl ⟨rfl, rfl⟩ dX9_digestOfPot_91
    · replace h := zf c6 h
      refine z_aload_n C 1 dX9_digestOfPot_62 rfl rfl ?_
      refine z_aload C 0 dX9_digestOfPot_63 rfl ?_
      obtain ⟨r8, hf7, h⟩ := bd_some h
      refine z_goti1 C (z_runV C (c_X9_bestWinding l G q P hp S X fu j5 hi_j5 hf7) (cwV 1 C.hts gX9_digestOfPot_X9_bestWinding rfl rfl rfl (by decide +kernel) ⟨Nat.le_of_ble_eq_true rfl, Nat.le_of_ble_eq_true rfl⟩) 0 rfl rfl rfl rfl (Nat.le_of_ble_eq_true rfl) dX9_digestOfPot_65 ⟨Nat.le_of_ble_eq_true rfl, Nat.le_of_ble_eq_true rfl⟩) rfl rfl ?_
      refine z_goto (tgt := 72) C dX9_digestOfPot_68 (by decide) ?_
      refine z_i2l C dX9_digestOfPot_72 ?_
      refine z_ladd C dX9_digestOfPot_73 ?_
      refine z_lstore (lv2 := [(4, .long ((31 * r2.1) + r8.toInt64)), (6, .ref (P.2.1 j5)), (0, .ref (q 0)), (1, .long a1), (3, .int a2)]) C dX9_digestOfPot_74 (by decide) rfl ?_
      refine z_ldc2 (v := 31) C (List.mem_of_getElem? (i := 1) rfl) dX9_digestOfPot_76 ?_
      refine z_lload C 0 dX9_digestOfPot_79 rfl ?_
      refine z_lmul C dX9_digestOfPot_81 ?_
      refine z_aload_n C 2 dX9_digestOfPot_82 rfl rfl ?_
      refine z_iload_n C 4 dX9_digestOfPot_83 rfl rfl ?_
      refine z_bipush (v := 60) C dX9_digestOfPot_84 (by decide) ?_
      refine z_goti1 C (z_runV C (c_X9_together l G q P hp S X a2 60) (cwV 2 C.hts gX9_digestOfPot_X9_together rfl rfl rfl (by decide +kernel) ⟨Nat.le_of_ble_eq_true rfl, Nat.le_of_ble_eq_true rfl⟩) 0 rfl rfl rfl rfl (Nat.le_of_ble_eq_true rfl) dX9_digestOfPot_86 ⟨Nat.le_of_ble_eq_true rfl, Nat.le_of_ble_eq_true rfl⟩) rfl rfl ?_
      refine z_i2l C dX9_digestOfPot_89 ?_
      refine z_ladd C dX9_digestOfPot_90 ?_
      injection h with h
      subst h
      exact z_lret C rfl ⟨rfl, rfl⟩ dX9_digestOfPot_91
def f_X9_digest_L6 (fu : Nat) (P : XP)  : Nat → Int64 → Int32 → XS → Option (Int64 × Int32)
  | 0, _, _, _ => none
  | n + 1, v1, v3, S => if (xI S 6) ≤ v3 then some (v1, v3) else (f_X9_digestOfPot fu P S v1 v3).bind fun r3 => f_X9_digest_L6 fu P n r3 (v3 + 1) S
def f_X9_digest_L62 (fu : Nat) (P : XP)  : Nat → Int64 → Int32 → XS → Option (Int64 × Int32)
  | 0, _, _, _ => none
  | n + 1, v1, v3, S => if (xI S 20) ≤ v3 then some (v1, v3) else (f_X3_codeAt P S v3).bind fun r9 => f_X9_digest_L62 fu P n ((31 * v1) + r9.toInt64) (v3 + 1) S
def f_X9_digest_L97 (fu : Nat) (P : XP)  : Nat → Int64 → Int32 → XS → Option (Int64 × Int32)
  | 0, _, _, _ => none
  | n + 1, v1, v3, S => if 10 < v3 then some (v1, v3) else (f_X9_count fu P S v3).bind fun r14 => f_X9_digest_L97 fu P n ((31 * v1) + r14.toInt64) (v3 + 1) S
def f_X9_digest (fu : Nat) (P : XP) (S : XS) : Option (Int64) := (f_X9_digest_L6 fu P fu 929 0 S).bind fun r4 => if (f_X9_hasKitchen P S) = 0 then (f_X9_digest_L62 fu P fu r4.1 0 S).bind fun r10 => (f_X9_digest_L97 fu P fu r10.1 0 S).bind fun r15 => some r15.1 else (f_X9_wound fu P S 0).bind fun r18 => (f_X9_wound fu P S 1).bind fun r20 => (f_X9_digest_L62 fu P fu ((31 * ((31 * r4.1) + r18.toInt64)) + r20.toInt64) 0 S).bind fun r21 => (f_X9_digest_L97 fu P fu r21.1 0 S).bind fun r23 => some r23.1
set_option maxHeartbeats 4000000 in
set_option maxRecDepth 100000 in
theorem L_X9_digest_6 {p : Program} {l : Launch} {e : Env} {s : State} {m : MethodId} {args : Array Value} {below : List Frame} {meth : Method} {c : Code} {A : Nat → Prop} {G : zGT} {q : Nat → Nat} {P : XP} {X : va_W} {fu : Nat} {Q : State → Prop} (C : zC p s m args meth c A G cX9_digest 4 (some .long) RX9 "digest" wsX9_digest) (hp : xOK P) : ∀ (n : Nat) (v1 : Int64) (v3 : Int32) (S : XS) {res : Int64 × Int32}, f_X9_digest_L6 fu P n v1 v3 S = some res → Z p l e ({ frames := 6, cells := 0, slots := 0, locals := 134 }) s m args below meth c A G 4 Q 0 0 (XW G q P S ++ X) [(0, .ref (q 0)), (1, .long res.1), (3, .int res.2)] 27 [] → Z p l e ({ frames := 6, cells := 0, slots := 0, locals := 134 }) s m args below meth c A G 4 Q 0 0 (XW G q P S ++ X) [(0, .ref (q 0)), (1, .long v1), (3, .int v3)] 6 [] := by
  have hi3 : ∀ w ∈ u_ws RX3 TX3 2, w ∈ wsX9_digest := fun _ h => List.mem_cons_of_mem _ (List.mem_append_left _ (List.mem_append_left _ (List.mem_append_left _ (List.mem_append_left _ (List.mem_append_left _ (List.mem_append_left _ (List.mem_append_right _ h)))))))
  have hi9 : ∀ w ∈ u_ws RX9 TX9 18, w ∈ wsX9_digest := fun _ h => List.mem_cons_of_mem _ (List.mem_append_left _ (List.mem_append_left _ (List.mem_append_left _ (List.mem_append_left _ (List.mem_append_left _ (List.mem_append_left _ (List.mem_append_left _ (List.mem_append_right _ h))))))))
  intro n
  induction n with
  | zero =>
    intro v1 v3 S res h kk
    exact nomatch (h : none = some _)
  | succ n ih =>
    intro v1 v3 S res h kk
    rw [f_X9_digest_L6] at h
    refine z_iload_n C 2 dX9_digest_6 rfl rfl ?_
    refine z_aload_n C 0 dX9_digest_7 rfl rfl ?_
    refine xg_T6 C hi9 (List.mem_of_getElem? (i := 2) rfl) dX9_digest_8 ?_
    refine z_icmp_ge (tgt := 27) C dX9_digest_11 (by decide) (fun c1 => ?_) (fun c1 => ?_)
    · replace h := zt c1 h
      injection h with h
      subst h
      refine z_lv (lv2 := [(0, .ref (q 0)), (1, .long v1), (3, .int v3)]) [0, 1, 2] rfl ?_
      exact kk
    · replace h := zf c1 h
      refine z_aload_n C 0 dX9_digest_14 rfl rfl ?_
      refine z_lload_n C 1 dX9_digest_15 rfl rfl ?_
      refine z_iload_n C 2 dX9_digest_16 rfl rfl ?_
      obtain ⟨r3, hf2, h⟩ := bd_some h
      refine z_gotl1 C (z_runV C (c_X9_digestOfPot l G q P hp S X fu v1 v3 hf2) (cwV 2 C.hts gX9_digest_X9_digestOfPot rfl rfl rfl (by decide +kernel) ⟨Nat.le_of_ble_eq_true rfl, Nat.le_of_ble_eq_true rfl⟩) 0 rfl rfl rfl rfl (Nat.le_of_ble_eq_true rfl) dX9_digest_17 ⟨Nat.le_of_ble_eq_true rfl, Nat.le_of_ble_eq_true rfl⟩) rfl rfl ?_
      refine z_lstore_n (lv2 := [(1, .long r3), (0, .ref (q 0)), (3, .int v3)]) C dX9_digest_20 rfl (by decide) rfl ?_
      refine z_iinc (v := (v3 + 1)) (lv2 := [(3, .int (v3 + 1)), (1, .long r3), (0, .ref (q 0))]) C 2 dX9_digest_21 rfl rfl (by decide) rfl ?_
      refine z_goto (tgt := 6) C dX9_digest_24 (by decide) ?_
      refine z_lv (lv2 := [(0, .ref (q 0)), (1, .long r3), (3, .int (v3 + 1))]) [2, 1, 0] rfl ?_
      exact ih r3 (v3 + 1) S h kk
set_option maxHeartbeats 4000000 in
set_option maxRecDepth 100000 in
theorem L_X9_digest_62 {p : Program} {l : Launch} {e : Env} {s : State} {m : MethodId} {args : Array Value} {below : List Frame} {meth : Method} {c : Code} {A : Nat → Prop} {G : zGT} {q : Nat → Nat} {P : XP} {X : va_W} {fu : Nat} {Q : State → Prop} (C : zC p s m args meth c A G cX9_digest 4 (some .long) RX9 "digest" wsX9_digest) (hp : xOK P) : ∀ (n : Nat) (v1 : Int64) (v3 : Int32) (S : XS) {res : Int64 × Int32}, f_X9_digest_L62 fu P n v1 v3 S = some res → Z p l e ({ frames := 6, cells := 0, slots := 0, locals := 134 }) s m args below meth c A G 4 Q 0 0 (XW G q P S ++ X) [(0, .ref (q 0)), (1, .long res.1), (3, .int res.2)] 95 [] → Z p l e ({ frames := 6, cells := 0, slots := 0, locals := 134 }) s m args below meth c A G 4 Q 0 0 (XW G q P S ++ X) [(0, .ref (q 0)), (1, .long v1), (3, .int v3)] 62 [] := by
  have hi3 : ∀ w ∈ u_ws RX3 TX3 2, w ∈ wsX9_digest := fun _ h => List.mem_cons_of_mem _ (List.mem_append_left _ (List.mem_append_left _ (List.mem_append_left _ (List.mem_append_left _ (List.mem_append_left _ (List.mem_append_left _ (List.mem_append_right _ h)))))))
  have hi9 : ∀ w ∈ u_ws RX9 TX9 18, w ∈ wsX9_digest := fun _ h => List.mem_cons_of_mem _ (List.mem_append_left _ (List.mem_append_left _ (List.mem_append_left _ (List.mem_append_left _ (List.mem_append_left _ (List.mem_append_left _ (List.mem_append_left _ (List.mem_append_right _ h))))))))
  intro n
  induction n with
  | zero =>
    intro v1 v3 S res h kk
    exact nomatch (h : none = some _)
  | succ n ih =>
    intro v1 v3 S res h kk
    rw [f_X9_digest_L62] at h
    refine z_iload_n C 2 dX9_digest_62 rfl rfl ?_
    refine z_aload_n C 0 dX9_digest_63 rfl rfl ?_
    refine xg_T0 C hi9 (List.mem_of_getElem? (i := 4) rfl) dX9_digest_64 ?_
    refine xg_P1 C hi3 (List.mem_of_getElem? (i := 5) rfl) dX9_digest_67 ?_
    refine z_icmp_ge (tgt := 95) C dX9_digest_70 (by decide) (fun c7 => ?_) (fun c7 => ?_)
    · replace h := zt c7 h
      injection h with h
      subst h
      refine z_lv (lv2 := [(0, .ref (q 0)), (1, .long v1), (3, .int v3)]) [0, 1, 2] rfl ?_
      exact kk
    · replace h := zf c7 h
      refine z_ldc2 (v := 31) C (List.mem_of_getElem? (i := 3) rfl) dX9_digest_73 ?_
      refine z_lload_n C 1 dX9_digest_76 rfl rfl ?_
      refine z_lmul C dX9_digest_77 ?_
      refine z_aload_n C 0 dX9_digest_78 rfl rfl ?_
      refine xg_T0 C hi9 (List.mem_of_getElem? (i := 4) rfl) dX9_digest_79 ?_
      refine z_iload_n C 2 dX9_digest_82 rfl rfl ?_
      obtain ⟨r9, hf8, h⟩ := bd_some h
      refine z_goti1 C (z_runV C (c_X3_codeAt l G q P S X v3 hf8) (cwV 1 C.hts gX9_digest_X3_codeAt rfl rfl rfl (by decide +kernel) ⟨Nat.le_of_ble_eq_true rfl, Nat.le_of_ble_eq_true rfl⟩) 1 rfl rfl rfl rfl (Nat.le_of_ble_eq_true rfl) dX9_digest_83 ⟨Nat.le_of_ble_eq_true rfl, Nat.le_of_ble_eq_true rfl⟩) rfl rfl ?_
      refine z_i2l C dX9_digest_86 ?_
      refine z_ladd C dX9_digest_87 ?_
      refine z_lstore_n (lv2 := [(1, .long ((31 * v1) + r9.toInt64)), (0, .ref (q 0)), (3, .int v3)]) C dX9_digest_88 rfl (by decide) rfl ?_
      refine z_iinc (v := (v3 + 1)) (lv2 := [(3, .int (v3 + 1)), (1, .long ((31 * v1) + r9.toInt64)), (0, .ref (q 0))]) C 2 dX9_digest_89 rfl rfl (by decide) rfl ?_
      refine z_goto (tgt := 62) C dX9_digest_92 (by decide) ?_
      refine z_lv (lv2 := [(0, .ref (q 0)), (1, .long ((31 * v1) + r9.toInt64)), (3, .int (v3 + 1))]) [2, 1, 0] rfl ?_
      exact ih ((31 * v1) + r9.toInt64) (v3 + 1) S h kk
set_option maxHeartbeats 4000000 in
set_option maxRecDepth 100000 in
theorem L_X9_digest_97 {p : Program} {l : Launch} {e : Env} {s : State} {m : MethodId} {args : Array Value} {below : List Frame} {meth : Method} {c : Code} {A : Nat → Prop} {G : zGT} {q : Nat → Nat} {P : XP} {X : va_W} {fu : Nat} {Q : State → Prop} (C : zC p s m args meth c A G cX9_digest 4 (some .long) RX9 "digest" wsX9_digest) (hp : xOK P) : ∀ (n : Nat) (v1 : Int64) (v3 : Int32) (S : XS) {res : Int64 × Int32}, f_X9_digest_L97 fu P n v1 v3 S = some res → Z p l e ({ frames := 6, cells := 0, slots := 0, locals := 134 }) s m args below meth c A G 4 Q 0 0 (XW G q P S ++ X) [(0, .ref (q 0)), (1, .long res.1), (3, .int res.2)] 122 [] → Z p l e ({ frames := 6, cells := 0, slots := 0, locals := 134 }) s m args below meth c A G 4 Q 0 0 (XW G q P S ++ X) [(0, .ref (q 0)), (1, .long v1), (3, .int v3)] 97 [] := by
  have hi3 : ∀ w ∈ u_ws RX3 TX3 2, w ∈ wsX9_digest := fun _ h => List.mem_cons_of_mem _ (List.mem_append_left _ (List.mem_append_left _ (List.mem_append_left _ (List.mem_append_left _ (List.mem_append_left _ (List.mem_append_left _ (List.mem_append_right _ h)))))))
  have hi9 : ∀ w ∈ u_ws RX9 TX9 18, w ∈ wsX9_digest := fun _ h => List.mem_cons_of_mem _ (List.mem_append_left _ (List.mem_append_left _ (List.mem_append_left _ (List.mem_append_left _ (List.mem_append_left _ (List.mem_append_left _ (List.mem_append_left _ (List.mem_append_right _ h))))))))
  intro n
  induction n with
  | zero =>
    intro v1 v3 S res h kk
    exact nomatch (h : none = some _)
  | succ n ih =>
    intro v1 v3 S res h kk
    rw [f_X9_digest_L97] at h
    refine z_iload_n C 2 dX9_digest_97 rfl rfl ?_
    refine z_bipush (v := 10) C dX9_digest_98 (by decide) ?_
    refine z_icmp_gt (tgt := 122) C dX9_digest_100 (by decide) (fun c12 => ?_) (fun c12 => ?_)
    · replace h := zt c12 h
      injection h with h
      subst h
      refine z_lv (lv2 := [(0, .ref (q 0)), (1, .long v1), (3, .int v3)]) [0, 1, 2] rfl ?_
      exact kk
    · replace h := zf c12 h
      refine z_ldc2 (v := 31) C (List.mem_of_getElem? (i := 3) rfl) dX9_digest_103 ?_
      refine z_lload_n C 1 dX9_digest_106 rfl rfl ?_
      refine z_lmul C dX9_digest_107 ?_
      refine z_aload_n C 0 dX9_digest_108 rfl rfl ?_
      refine z_iload_n C 2 dX9_digest_109 rfl rfl ?_
      obtain ⟨r14, hf13, h⟩ := bd_some h
      refine z_goti1 C (z_runV C (c_X9_count l G q P hp S X fu v3 hf13) (cwV 1 C.hts gX9_digest_X9_count rfl rfl rfl (by decide +kernel) ⟨Nat.le_of_ble_eq_true rfl, Nat.le_of_ble_eq_true rfl⟩) 0 rfl rfl rfl rfl (Nat.le_of_ble_eq_true rfl) dX9_digest_110 ⟨Nat.le_of_ble_eq_true rfl, Nat.le_of_ble_eq_true rfl⟩) rfl rfl ?_
      refine z_i2l C dX9_digest_113 ?_
      refine z_ladd C dX9_digest_114 ?_
      refine z_lstore_n (lv2 := [(1, .long ((31 * v1) + r14.toInt64)), (0, .ref (q 0)), (3, .int v3)]) C dX9_digest_115 rfl (by decide) rfl ?_
      refine z_iinc (v := (v3 + 1)) (lv2 := [(3, .int (v3 + 1)), (1, .long ((31 * v1) + r14.toInt64)), (0, .ref (q 0))]) C 2 dX9_digest_116 rfl rfl (by decide) rfl ?_
      refine z_goto (tgt := 97) C dX9_digest_119 (by decide) ?_
      refine z_lv (lv2 := [(0, .ref (q 0)), (1, .long ((31 * v1) + r14.toInt64)), (3, .int (v3 + 1))]) [2, 1, 0] rfl ?_
      exact ih ((31 * v1) + r14.toInt64) (v3 + 1) S h kk
set_option maxHeartbeats 4000000 in
set_option maxRecDepth 100000 in
theorem c_X9_digest (l : Launch) (G : zGT) (q : Nat → Nat) (P : XP) (hp : xOK P) (S : XS) (X : va_W) (fu : Nat) {res : Int64} (h : f_X9_digest fu P S = some res) : MG l yX9_digest wsX9_digest ({ frames := 6, cells := 0, slots := 0, locals := 134 }) G [.ref (q 0)] (XW G q P S ++ X) (va_Ql (fun r u => r = res ∧ u = XW G q P S ++ X)) := by
  have hi3 : ∀ w ∈ u_ws RX3 TX3 2, w ∈ wsX9_digest := fun _ h => List.mem_cons_of_mem _ (List.mem_append_left _ (List.mem_append_left _ (List.mem_append_left _ (List.mem_append_left _ (List.mem_append_left _ (List.mem_append_left _ (List.mem_append_right _ h)))))))
  have hi9 : ∀ w ∈ u_ws RX9 TX9 18, w ∈ wsX9_digest := fun _ h => List.mem_cons_of_mem _ (List.mem_append_left _ (List.mem_append_left _ (List.mem_append_left _ (List.mem_append_left _ (List.mem_append_left _ (List.mem_append_left _ (List.mem_append_left _ (List.mem_append_right _ h))))))))
  refine MG.of (cc := cX9_digest) (maxL := 4) (ret := (some .long)) (own := RX9) (nm := "digest") (by decide) rfl rfl rfl (Nat.le_of_ble_eq_true rfl) ?_
  intro p e s m args below meth c A C
  rw [f_X9_digest] at h
  refine z_eq (lv2 := [(0, .ref (q 0))]) rfl rfl rfl rfl ?_
  refine z_ldc2 (v := 929) C (List.mem_of_getElem? (i := 1) rfl) dX9_digest_0 ?_
  refine z_lstore_n (lv2 := [(1, .long 929), (0, .ref (q 0))]) C dX9_digest_3 rfl (by decide) rfl ?_
  refine z_iconst (v := 0) C dX9_digest_4 (by decide) ?_
  refine z_istore_n (lv2 := [(3, .int 0), (1, .long 929), (0, .ref (q 0))]) C dX9_digest_5 rfl (by decide) rfl ?_
  refine z_lv (lv2 := [(0, .ref (q 0)), (1, .long 929), (3, .int 0)]) [2, 1, 0] rfl ?_
  obtain ⟨r4, hf5, h⟩ := bd_some h
  refine L_X9_digest_6 C hp  fu 929 0 S hf5 ?_
  refine z_aload_n C 0 dX9_digest_27 rfl rfl ?_
  refine z_goti1 C (z_runV C (c_X9_hasKitchen l G q P hp S X) (cwV 0 C.hts gX9_digest_X9_hasKitchen rfl rfl rfl (by decide +kernel) ⟨Nat.le_of_ble_eq_true rfl, Nat.le_of_ble_eq_true rfl⟩) 0 rfl rfl rfl rfl (Nat.le_of_ble_eq_true rfl) dX9_digest_28 ⟨Nat.le_of_ble_eq_true rfl, Nat.le_of_ble_eq_true rfl⟩) rfl rfl ?_
  refine z_if_eq (tgt := 60) C dX9_digest_31 (by decide) (fun c6 => ?_) (fun c6 => ?_)
  · replace h := zt c6 h
    refine z_iconst (v := 0) C dX9_digest_60 (by decide) ?_
    refine z_istore_n (lv2 := [(3, .int 0), (0, .ref (q 0)), (1, .long r4.1)]) C dX9_digest_61 rfl (by decide) rfl ?_
    refine z_lv (lv2 := [(0, .ref (q 0)), (1, .long r4.1), (3, .int 0)]) [1, 2, 0] rfl ?_
    obtain ⟨r10, hf11, h⟩ := bd_some h
    refine L_X9_digest_62 C hp  fu r4.1 0 S hf11 ?_
    refine z_iconst (v := 0) C dX9_digest_95 (by decide) ?_
    refine z_istore_n (lv2 := [(3, .int 0), (0, .ref (q 0)), (1, .long r10.1)]) C dX9_digest_96 rfl (by decide) rfl ?_
    refine z_lv (lv2 := [(0, .ref (q 0)), (1, .long r10.1), (3, .int 0)]) [1, 2, 0] rfl ?_
    obtain ⟨r15, hf16, h⟩ := bd_some h
    refine L_X9_digest_97 C hp  fu r10.1 0 S hf16 ?_
    refine z_lload_n C 1 dX9_digest_122 rfl rfl ?_
    injection h with h
    subst h
    exact z_lret C rfl ⟨rfl, rfl⟩ dX9_digest_123
  · replace h := zf c6 h
    refine z_ldc2 (v := 31) C (List.mem_of_getElem? (i := 3) rfl) dX9_digest_34 ?_
    refine z_lload_n C 1 dX9_digest_37 rfl rfl ?_
    refine z_lmul C dX9_digest_38 ?_
    refine z_aload_n C 0 dX9_digest_39 rfl rfl ?_
    refine z_iconst (v := 0) C dX9_digest_40 (by decide) ?_
    obtain ⟨r18, hf17, h⟩ := bd_some h
    refine z_goti1 C (z_runV C (c_X9_wound l G q P hp S X fu 0 hf17) (cwV 1 C.hts gX9_digest_X9_wound rfl rfl rfl (by decide +kernel) ⟨Nat.le_of_ble_eq_true rfl, Nat.le_of_ble_eq_true rfl⟩) 0 rfl rfl rfl rfl (Nat.le_of_ble_eq_true rfl) dX9_digest_41 ⟨Nat.le_of_ble_eq_true rfl, Nat.le_of_ble_eq_true rfl⟩) rfl rfl ?_
    refine z_i2l C dX9_digest_44 ?_
    refine z_ladd C dX9_digest_45 ?_
    refine z_lstore_n (lv2 := [(1, .long ((31 * r4.1) + r18.toInt64)), (0, .ref (q 0)), (3, .int r4.2)]) C dX9_digest_46 rfl (by decide) rfl ?_
    refine z_ldc2 (v := 31) C (List.mem_of_getElem? (i := 3) rfl) dX9_digest_47 ?_
    refine z_lload_n C 0 dX9_digest_50 rfl rfl ?_
    refine z_lmul C dX9_digest_51 ?_
    refine z_aload_n C 1 dX9_digest_52 rfl rfl ?_
    refine z_iconst (v := 1) C dX9_digest_53 (by decide) ?_
    obtain ⟨r20, hf19, h⟩ := bd_some h
    refine z_goti1 C (z_runV C (c_X9_wound l G q P hp S X fu 1 hf19) (cwV 1 C.hts gX9_digest_X9_wound rfl rfl rfl (by decide +kernel) ⟨Nat.le_of_ble_eq_true rfl, Nat.le_of_ble_eq_true rfl⟩) 0 rfl rfl rfl rfl (Nat.le_of_ble_eq_true rfl) dX9_digest_54 ⟨Nat.le_of_ble_eq_true rfl, Nat.le_of_ble_eq_true rfl⟩) rfl rfl ?_
    refine z_i2l C dX9_digest_57 ?_
    refine z_ladd C dX9_digest_58 ?_
    refine z_lstore_n (lv2 := [(1, .long ((31 * ((31 * r4.1) + r18.toInt64)) + r20.toInt64)), (0, .ref (q 0)), (3, .int r4.2)]) C dX9_digest_59 rfl (by decide) rfl ?_
    refine z_iconst (v := 0) C dX9_digest_60 (by decide) ?_
    refine z_istore_n (lv2 := [(3, .int 0), (1, .long ((31 * ((31 * r4.1) + r18.toInt64)) + r20.toInt64)), (0, .ref (q 0))]) C dX9_digest_61 rfl (by decide) rfl ?_
    refine z_lv (lv2 := [(0, .ref (q 0)), (1, .long ((31 * ((31 * r4.1) + r18.toInt64)) + r20.toInt64)), (3, .int 0)]) [2, 1, 0] rfl ?_
    obtain ⟨r21, hf22, h⟩ := bd_some h
    refine L_X9_digest_62 C hp  fu ((31 * ((31 * r4.1) + r18.toInt64)) + r20.toInt64) 0 S hf22 ?_
    refine z_iconst (v := 0) C dX9_digest_95 (by decide) ?_
    refine z_istore_n (lv2 := [(3, .int 0), (0, .ref (q 0)), (1, .long r21.1)]) C dX9_digest_96 rfl (by decide) rfl ?_
    refine z_lv (lv2 := [(0, .ref (q 0)), (1, .long r21.1), (3, .int 0)]) [1, 2, 0] rfl ?_
    obtain ⟨r23, hf24, h⟩ := bd_some h
    refine L_X9_digest_97 C hp  fu r21.1 0 S hf24 ?_
    refine z_lload_n C 1 dX9_digest_122 rfl rfl ?_
    injection h with h
    subst h
    exact z_lret C rfl ⟨rfl, rfl⟩ dX9_digest_123
def f_X9_startEvening (P : XP) (S : XS) : XS := xsI (xsI (xsI (xsI (xsI S 9 0) 10 (xI (xsI S 9 0) 8)) 11 0) 21 0) 12 0
set_option maxHeartbeats 4000000 in
set_option maxRecDepth 100000 in
theorem c_X9_startEvening (l : Launch) (G : zGT) (q : Nat → Nat) (P : XP) (hp : xOK P) (S : XS) (X : va_W) : MG l yX9_startEvening wsX9_startEvening ({ frames := 0, cells := 0, slots := 0, locals := 0 }) G [.ref (q 0)] (XW G q P S ++ X) (va_Qv (fun u => u = XW G q P (f_X9_startEvening P S) ++ X)) := by
  have hi8 : ∀ w ∈ u_ws RX8 TX8 4, w ∈ wsX9_startEvening := fun _ h => List.mem_cons_of_mem _ (List.mem_append_right _ h)
  have hi9 : ∀ w ∈ u_ws RX9 TX9 18, w ∈ wsX9_startEvening := fun _ h => List.mem_cons_of_mem _ (List.mem_append_left _ (List.mem_append_right _ h))
  refine MG.of (cc := cX9_startEvening) (maxL := 1) (ret := none) (own := RX9) (nm := "startEvening") (by decide) rfl rfl rfl (Nat.le_of_ble_eq_true rfl) ?_
  intro p e s m args below meth c A C
  obtain ⟨res, h⟩ : ∃ z, f_X9_startEvening P S = z := ⟨_, rfl⟩
  rw [h]
  rw [f_X9_startEvening] at h
  refine z_eq (lv2 := [(0, .ref (q 0))]) rfl rfl rfl rfl ?_
  refine z_aload_n C 0 dX9_startEvening_0 rfl rfl ?_
  refine z_iconst (v := 0) C dX9_startEvening_1 (by decide) ?_
  refine xp_T9 C hi9 (List.mem_of_getElem? (i := 1) rfl) dX9_startEvening_2 ?_
  refine z_aload_n C 0 dX9_startEvening_5 rfl rfl ?_
  refine z_aload_n C 0 dX9_startEvening_6 rfl rfl ?_
  refine xg_T8 C hi9 (List.mem_of_getElem? (i := 2) rfl) dX9_startEvening_7 ?_
  refine xp_T10 C hi9 (List.mem_of_getElem? (i := 3) rfl) dX9_startEvening_10 ?_
  refine z_aload_n C 0 dX9_startEvening_13 rfl rfl ?_
  refine z_iconst (v := 0) C dX9_startEvening_14 (by decide) ?_
  refine xp_T11 C hi9 (List.mem_of_getElem? (i := 4) rfl) dX9_startEvening_15 ?_
  refine z_aload_n C 0 dX9_startEvening_18 rfl rfl ?_
  refine xg_T2 C hi9 (List.mem_of_getElem? (i := 5) rfl) dX9_startEvening_19 ?_
  refine z_iconst (v := 0) C dX9_startEvening_22 (by decide) ?_
  refine xp_D3 C hi8 (List.mem_of_getElem? (i := 6) rfl) dX9_startEvening_23 ?_
  refine z_aload_n C 0 dX9_startEvening_26 rfl rfl ?_
  refine z_iconst (v := 0) C dX9_startEvening_27 (by decide) ?_
  refine xp_T12 C hi9 (Or.inl rfl) (List.mem_of_getElem? (i := 7) rfl) dX9_startEvening_28 ?_
  subst h
  exact z_ret C rfl rfl dX9_startEvening_31
