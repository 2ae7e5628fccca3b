/-- a pot when it is made -/
abbrev pnew (k v : Int32) (b : Nat) : Nat × va_E := zo b (kcl k) [.int v, .int (-1), .int 0, .int (-1), .int (-1), .int 0, .int (-1)]
/-- the first i of n new pots -/
def pN (kf wf : Nat → Int32) (pa : Nat → Nat) (n i : Nat) : va_W := (List.range (min i n)).map (fun j => pnew (kf j) (wf j) (pa j))
theorem pN_more {kf wf : Nat → Int32} {pa : Nat → Nat} {n i b : Nat} (h : i < n) : pN kf wf pa n i ++ [pnew (kf i) (wf i) b] = pN kf wf (va_up pa i b) n (i + 1) := by
  have e1 : min i n = i := by omega
  have e2 : min (i + 1) n = i + 1 := by omega
  rw [pN, pN, e1, e2, List.range_succ, List.map_append]
  congr 1
  · apply List.map_congr_left
    intro j hj
    have hj2 := List.mem_range.mp hj
    have hne : j ≠ i := by omega
    simp [va_up, hne]
  · simp [va_up]
theorem pN_same {kf wf : Nat → Int32} {pa : Nat → Nat} {n i : Nat} (h : n ≤ i) : pN kf wf pa n i = pN kf wf pa n (i + 1) := by
  rw [pN, pN, show min i n = n by omega, show min (i + 1) n = n by omega]
theorem kcl_row (k : Int32) : ∃ r : vw_C, vwCl[kcl k]? = some r ∧ (r.1 = "OneTimer$Pot" ∨ (r.1, "OneTimer$Pot") ∈ zN2) := by
  rcases kcl_ok k with h | h | h | h | h <;> rw [h]
  · exact ⟨_, rfl, Or.inr (List.mem_of_getElem? (i := 0) rfl)⟩
  · exact ⟨_, rfl, Or.inr (List.mem_of_getElem? (i := 1) rfl)⟩
  · exact ⟨_, rfl, Or.inl rfl⟩
  · exact ⟨_, rfl, Or.inr (List.mem_of_getElem? (i := 2) rfl)⟩
  · exact ⟨_, rfl, Or.inr (List.mem_of_getElem? (i := 3) rfl)⟩
set_option maxHeartbeats 4000000 in
set_option maxRecDepth 100000 in
theorem L_readPots {p : Program} {l : Launch} {e : Env} {s : State} {m : MethodId} {args : Array Value} {below : List Frame} {meth : Method} {c : Code} {A : Nat → Prop} {G : zGT} {q : Nat → Nat} {X : va_W} {Q : State → Prop} (C : zC p s m args meth c A G cX9_readPots 2 none RX9 "readPots" wsX9_readPots) (S : XS) (n : Nat) (hn : n ≤ 4) (h6 : xI S 6 = nI n) (kf wf : Nat → Int32) (hk : ∀ (P : XP) (j : Nat), j < n → f_X3_kindTold P S (nI j) = some (kf j)) (hw : ∀ (P : XP) (j : Nat), j < n → f_X3_wantsTold P S (nI j) = some (wf j))
    (kk : ∀ (pa : Nat → Nat) (f : Nat → Option Nat), (∀ j, j < 4 → f j = if j < n then some (pa j) else none) → Z p l e ({ frames := 5, cells := 4, slots := 28, locals := 104 }) s m args below meth c A G 2 Q 4 28 (XW G q (0, fun _ => 0, fun _ => 0, f) S ++ (X ++ pN kf wf pa n 4)) [(0, .ref (q 0)), (1, .int (nI 4))] 69 []) :
    ∀ (d i : Nat), i + d = 4 → ∀ (pa : Nat → Nat) (f : Nat → Option Nat), (∀ j, j < i → f j = if j < n then some (pa j) else none) → Z p l e ({ frames := 5, cells := 4, slots := 28, locals := 104 }) s m args below meth c A G 2 Q i (7 * i) (XW G q (0, fun _ => 0, fun _ => 0, f) S ++ (X ++ pN kf wf pa n i)) [(0, .ref (q 0)), (1, .int (nI i))] 17 [] := by
  have hi9 : ∀ w ∈ u_ws RX9 TX9 18, w ∈ wsX9_readPots := fun _ h => List.mem_cons_of_mem _ (List.mem_append_left _ (List.mem_append_left _ (List.mem_append_left _ (List.mem_append_left _ (List.mem_append_left _ (List.mem_append_left _ (List.mem_append_right _ h)))))))
  intro d
  induction d with
  | zero =>
    intro i hi pa f hf
    have e4 : i = 4 := by omega
    subst e4
    refine z_iload_n C 1 dX9_readPots_17 rfl rfl ?_
    refine z_aload_n C 0 dX9_readPots_18 rfl rfl ?_
    refine xg_T1 C hi9 (List.mem_of_getElem? (i := 7) rfl) dX9_readPots_19 ?_
    refine xn_3 C dX9_readPots_22 ?_
    refine z_icmp_ge (tgt := 69) C dX9_readPots_23 (by decide) (fun c1 => ?_) (fun c1 => absurd (by decide) c1)
    exact kk pa f hf
  | succ d ih =>
    intro i hi pa f hf
    refine z_iload_n C 1 dX9_readPots_17 rfl rfl ?_
    refine z_aload_n C 0 dX9_readPots_18 rfl rfl ?_
    refine xg_T1 C hi9 (List.mem_of_getElem? (i := 7) rfl) dX9_readPots_19 ?_
    refine xn_3 C dX9_readPots_22 ?_
    refine z_icmp_ge (tgt := 69) C dX9_readPots_23 (by decide) (fun c1 => absurd c1 (nI_ge (a := i) (b := 4) (by omega) (by decide))) (fun c1 => ?_)
    refine z_aload_n C 0 dX9_readPots_26 rfl rfl ?_
    refine xg_T1 C hi9 (List.mem_of_getElem? (i := 7) rfl) dX9_readPots_27 ?_
    refine z_iload_n C 1 dX9_readPots_30 rfl rfl ?_
    refine z_iload_n C 1 dX9_readPots_31 rfl rfl ?_
    refine z_aload_n C 0 dX9_readPots_32 rfl rfl ?_
    refine xg_T6 C hi9 (List.mem_of_getElem? (i := 6) rfl) dX9_readPots_33 ?_
    have hin4 : vp_in (nI i) 4 := vp_in_nI (by omega) (by decide)
    have hcl : (nI i).toNatClampNeg = i := nI_clamp (by omega)
    have hplus : nI i + 1 = nI (i + 1) := nI_1 i
    refine z_icmp_ge (tgt := 61) C dX9_readPots_36 (by decide) (fun c2 => ?_) (fun c2 => ?_)
    · have hni : n ≤ i := by
        rw [h6] at c2
        exact (nI_leI (by omega) (by omega)).mp c2
      refine z_null C dX9_readPots_61 ?_
      refine z_astqN (n := 4) (f := f) (w2 := XW G q (0, fun _ => 0, fun _ => 0, va_up f i none) S ++ (X ++ pN kf wf pa n (i + 1))) C 3 rfl hin4 (by rw [hcl, ← pN_same hni]; rfl) dX9_readPots_62 ?_
      refine z_iinc (v := nI (i + 1)) (lv2 := [(1, .int (nI (i + 1))), (0, .ref (q 0))]) C 1 dX9_readPots_63 rfl hplus (by decide) rfl ?_
      refine z_goto (tgt := 17) C dX9_readPots_66 (by decide) ?_
      refine z_lv (lv2 := [(0, .ref (q 0)), (1, .int (nI (i + 1)))]) [1, 0] rfl ?_
      refine z_widen (cs2 := i + 1) (ss2 := 7 * (i + 1)) (by omega) (by omega) ?_
      refine ih (i + 1) (by omega) pa (va_up f i none) (fun j hj => ?_)
      by_cases hji : j = i
      · subst hji
        rw [if_neg (by omega)]
        simp [va_up]
      · rw [va_up_ne _ _ hji]
        exact hf j (by omega)
    · have hni : i < n := by
        rw [h6] at c2
        exact Nat.not_le.mp fun h => c2 ((nI_leI (by omega) (by omega)).mpr h)
      refine z_aload_n C 0 dX9_readPots_39 rfl rfl ?_
      refine xg_T0 C hi9 (List.mem_of_getElem? (i := 1) rfl) dX9_readPots_40 ?_
      refine z_iload_n C 1 dX9_readPots_43 rfl rfl ?_
      refine z_goti1 C (z_runV C (c_X3_kindTold l G q (0, fun _ => 0, fun _ => 0, f) S (X ++ pN kf wf pa n i) (nI i) (hk _ i hni)) (cwV 1 C.hts gX9_readPots_X3_kindTold rfl rfl rfl (by decide +kernel) ⟨Nat.le_of_ble_eq_true rfl, Nat.le_of_ble_eq_true rfl⟩) 1 rfl rfl rfl rfl (Nat.le_of_ble_eq_true rfl) dX9_readPots_44 ⟨by show i + 0 ≤ 4; omega, by show 7 * i + 0 ≤ 28; omega⟩) rfl rfl ?_
      refine z_aload_n C 0 dX9_readPots_47 rfl rfl ?_
      refine xg_T0 C hi9 (List.mem_of_getElem? (i := 1) rfl) dX9_readPots_48 ?_
      refine z_iload_n C 1 dX9_readPots_51 rfl rfl ?_
      refine z_goti1 C (z_runV C (c_X3_wantsTold l G q (0, fun _ => 0, fun _ => 0, f) S (X ++ pN kf wf pa n i) (nI i) (hw _ i hni)) (cwV 1 C.hts gX9_readPots_X3_wantsTold rfl rfl rfl (by decide +kernel) ⟨Nat.le_of_ble_eq_true rfl, Nat.le_of_ble_eq_true rfl⟩) 1 rfl rfl rfl rfl (Nat.le_of_ble_eq_true rfl) dX9_readPots_52 ⟨by show i + 0 ≤ 4; omega, by show 7 * i + 0 ≤ 28; omega⟩) rfl rfl ?_
      refine z_gotq (cs2 := i + 1) (ss2 := 7 * (i + 1)) C (z_runS C (c_X9_newPot l G (XW G q (0, fun _ => 0, fun _ => 0, f) S ++ (X ++ pN kf wf pa n i)) (kf i) (wf i)) (va_cwS 2 C.hts gX9_readPots_X9_newPot rfl rfl rfl (by decide +kernel) ⟨Nat.le_of_ble_eq_true rfl, Nat.le_of_ble_eq_true rfl⟩) rfl rfl (Nat.le_of_ble_eq_true rfl) dX9_readPots_55 ⟨by show i + 1 ≤ 4; omega, by show 7 * i + 7 ≤ 28; omega⟩) rfl (by show 7 * i + 7 = _; omega) (fun r u hu => ?_)
      obtain ⟨b, rfl, rfl⟩ := hu
      refine z_eq (st2 := [.ref b, .int (nI i), .ref (q 3)]) rfl rfl rfl rfl ?_
      refine z_goto (tgt := 62) C dX9_readPots_58 (by decide) ?_
      obtain ⟨r, hr1, hr2⟩ := kcl_row (kf i)
      refine z_astq (n := 4) (f := f) (ci := kcl (kf i)) (w2 := (XW G q (0, fun _ => 0, fun _ => 0, va_up f i (some b)) S ++ (X ++ pN kf wf pa n i)) ++ [pnew (kf i) (wf i) b]) C 3 (XW G q (0, fun _ => 0, fun _ => 0, f) S ++ (X ++ pN kf wf pa n i)).length rfl wm_get hr1 hr2 hin4 (by rw [hcl]; rfl) dX9_readPots_62 ?_
      refine z_eq (w2 := XW G q (0, fun _ => 0, fun _ => 0, va_up f i (some b)) S ++ (X ++ pN kf wf (va_up pa i b) n (i + 1))) (by rw [← pN_more hni]; simp) rfl rfl rfl ?_
      refine z_iinc (v := nI (i + 1)) (lv2 := [(1, .int (nI (i + 1))), (0, .ref (q 0))]) C 1 dX9_readPots_63 rfl hplus (by decide) rfl ?_
      refine z_goto (tgt := 17) C dX9_readPots_66 (by decide) ?_
      refine z_lv (lv2 := [(0, .ref (q 0)), (1, .int (nI (i + 1)))]) [1, 0] rfl ?_
      refine ih (i + 1) (by omega) (va_up pa i b) (va_up f i (some b)) (fun j hj => ?_)
      by_cases hji : j = i
      · subst hji
        rw [if_pos hni]
        simp [va_up]
      · rw [va_up_ne _ _ hji, va_up_ne _ _ hji]
        exact hf j (by omega)
/-- the state behind readPots: so many pots, each as it is made -/
def xNew (S : XS) (n : Nat) (wf : Nat → Int32) : XS := (fun j => if j = 6 then nI n else S.1 j, S.2.1, fun i k => if k = 0 then wf i else if k = 2 ∨ k = 5 then 0 else -1)
def xPnew (n : Nat) (kf : Nat → Int32) (pa : Nat → Nat) (f : Nat → Option Nat) : XP := (n, pa, fun j => kcl (kf j), f)
theorem xPnew_ok {n : Nat} {kf : Nat → Int32} {pa : Nat → Nat} {f : Nat → Option Nat} (hf : ∀ j, j < 4 → f j = if j < n then some (pa j) else none) : xOK (xPnew n kf pa f) := ⟨fun i _ => kcl_ok (kf i), hf⟩
theorem xW_new {G : zGT} {q : Nat → Nat} {S : XS} {X : va_W} {n : Nat} {kf wf : Nat → Int32} {pa : Nat → Nat} {f : Nat → Option Nat} (hn : n ≤ 4) : (XF G q (0, fun _ => 0, fun _ => 0, f) (xsI S 6 (nI n)) ++ pN kf wf pa n 4) ++ X = XW G q (xPnew n kf pa f) (xNew S n wf) ++ X := by
  have e : min 4 n = n := by omega
  rw [XW]
  congr 1
  congr 1
  rw [pN, xPW, e]
  apply List.map_congr_left
  intro j _
  rfl
set_option maxHeartbeats 4000000 in
set_option maxRecDepth 100000 in
theorem c_X9_readPots (l : Launch) (G : zGT) (q : Nat → Nat) (P : XP) (S : XS) (X : va_W) (n : Nat) (hn : n ≤ 4) (hc : (if (4 : Int32) < xI S 20 / 4 then 4 else xI S 20 / 4) = nI n) (kf wf : Nat → Int32) (hk : ∀ (P : XP) (j : Nat), j < n → f_X3_kindTold P (xsI S 6 (nI n)) (nI j) = some (kf j)) (hw : ∀ (P : XP) (j : Nat), j < n → f_X3_wantsTold P (xsI S 6 (nI n)) (nI j) = some (wf j)) : MG l yX9_readPots wsX9_readPots ({ frames := 5, cells := 4, slots := 28, locals := 104 }) G [.ref (q 0)] (XW G q P S ++ X) (va_Qv (fun u => ∃ (pa : Nat → Nat) (f : Nat → Option Nat), (∀ j, j < 4 → f j = if j < n then some (pa j) else none) ∧ u = XW G q (xPnew n kf pa f) (xNew S n wf) ++ X)) := by
  have hi9 : ∀ w ∈ u_ws RX9 TX9 18, w ∈ wsX9_readPots := fun _ h => List.mem_cons_of_mem _ (List.mem_append_left _ (List.mem_append_left _ (List.mem_append_left _ (List.mem_append_left _ (List.mem_append_left _ (List.mem_append_left _ (List.mem_append_right _ h)))))))
  refine MG.of (cc := cX9_readPots) (maxL := 2) (ret := none) (own := RX9) (nm := "readPots") (by decide) rfl rfl rfl (Nat.le_of_ble_eq_true rfl) ?_
  intro p e s m args below meth c A C
  refine z_eq (lv2 := [(0, .ref (q 0))]) rfl rfl rfl rfl ?_
  refine z_aload_n C 0 dX9_readPots_0 rfl rfl ?_
  refine z_aload_n C 0 dX9_readPots_1 rfl rfl ?_
  refine xg_T0 C hi9 (List.mem_of_getElem? (i := 1) rfl) dX9_readPots_2 ?_
  refine z_goti1 C (z_runV C (c_X3_potsTold l G q P S X) (cwV 0 C.hts gX9_readPots_X3_potsTold rfl rfl rfl (by decide +kernel) ⟨Nat.le_of_ble_eq_true rfl, Nat.le_of_ble_eq_true rfl⟩) 1 rfl rfl rfl rfl (Nat.le_of_ble_eq_true rfl) dX9_readPots_5 ⟨Nat.le_of_ble_eq_true rfl, Nat.le_of_ble_eq_true rfl⟩) rfl rfl ?_
  refine z_iconst (v := 4) C dX9_readPots_8 (by decide) ?_
  refine z_mmin C (List.mem_of_getElem? (i := 2) rfl) (List.mem_of_getElem? (i := 3) rfl) (List.mem_of_getElem? (i := 4) rfl) (List.mem_of_getElem? (i := 5) rfl) (by decide) (Nat.le_of_ble_eq_true rfl) (by decide) (by decide) dX9_readPots_9 ?_
  refine z_eq (st2 := [.int (nI n), .ref (q 0)]) rfl rfl rfl (by rw [← hc]; rfl) ?_
  refine xp_T6 C hi9 (List.mem_of_getElem? (i := 6) rfl) dX9_readPots_12 ?_
  refine z_world (w2 := XW G q (0, fun _ => 0, fun _ => 0, P.2.2.2) (xsI S 6 (nI n)) ++ (X ++ pN kf wf P.2.1 n 0)) (fun H h => ?_) (fun h => ?_) ?_
  · have e0 : XW G q (0, fun _ => 0, fun _ => 0, P.2.2.2) (xsI S 6 (nI n)) ++ (X ++ pN kf wf P.2.1 n 0) = (XF G q P (xsI S 6 (nI n)) ++ X) := by simp [XW, xPW, pN, XF]
    rw [e0]
    exact (va_P.swap (a := XF G q P (xsI S 6 (nI n))) (b := xPW P (xsI S 6 (nI n))) (c := X) h).by id (fun k q hk => by
      have hl := (List.getElem?_eq_some_iff.mp hk).1
      rw [id, List.getElem?_append_left hl]; exact hk)
  · have e0 : XW G q (0, fun _ => 0, fun _ => 0, P.2.2.2) (xsI S 6 (nI n)) ++ (X ++ pN kf wf P.2.1 n 0) = (XF G q P (xsI S 6 (nI n)) ++ X) := by simp [XW, xPW, pN, XF]
    rw [e0]
    exact (va_D.swap (a := XF G q P (xsI S 6 (nI n))) (b := xPW P (xsI S 6 (nI n))) (c := X) h).by id (fun k q hk => by
      have hl := (List.getElem?_eq_some_iff.mp hk).1
      rw [id, List.getElem?_append_left hl]; exact hk) (fun i j _ _ h => h)
  refine z_iconst (v := 0) C dX9_readPots_15 (by decide) ?_
  refine z_istore_n (lv2 := [(1, .int 0), (0, .ref (q 0))]) C dX9_readPots_16 rfl (by decide) rfl ?_
  refine z_lv (lv2 := [(0, .ref (q 0)), (1, .int (nI 0))]) [1, 0] rfl ?_
  refine L_readPots C (xsI S 6 (nI n)) n hn rfl kf wf hk hw (fun pa f hf => ?_) 4 0 rfl P.2.1 P.2.2.2 (fun j hj => absurd hj (Nat.not_lt_zero j))
  refine z_world (w2 := XW G q (xPnew n kf pa f) (xNew S n wf) ++ X) (fun H h => ?_) (fun h => ?_) ?_
  · rw [← xW_new hn]
    rw [show XW G q (0, fun _ => 0, fun _ => 0, f) (xsI S 6 (nI n)) ++ (X ++ pN kf wf pa n 4) = (XF G q (0, fun _ => 0, fun _ => 0, f) (xsI S 6 (nI n)) ++ X) ++ pN kf wf pa n 4 by simp [XW, xPW]] at h
    exact h.swap
  · rw [← xW_new hn]
    rw [show XW G q (0, fun _ => 0, fun _ => 0, f) (xsI S 6 (nI n)) ++ (X ++ pN kf wf pa n 4) = (XF G q (0, fun _ => 0, fun _ => 0, f) (xsI S 6 (nI n)) ++ X) ++ pN kf wf pa n 4 by simp [XW, xPW]] at h
    exact h.swap
  exact z_ret C rfl ⟨pa, f, hf, rfl⟩ dX9_readPots_69
/-- the state behind kitchen() -/
def xKit (S : XS) (n : Nat) (wf : Nat → Int32) (sp hd : Int32) : XS :=
  let S2 := xsI (xsI (xsI (xNew S n wf) 7 sp) 8 hd) 20 0
  let S3 := f_X9_startEvening xP0 S2
  xsI S3 16 (xI S3 16 + 1)
set_option maxHeartbeats 4000000 in
set_option maxRecDepth 100000 in
theorem c_X9_kitchen (l : Launch) (G : zGT) (q : Nat → Nat) (P : XP) (S : XS) (X : va_W) (fu : Nat) (r0 : Int32) (h : f_X3_isKitchen fu P S = some r0) (n : Nat) (kf wf : Nat → Int32) (sp hd : Int32) (hn : n ≤ 4) (hy : ¬ r0 = 0 → (if (4 : Int32) < xI S 20 / 4 then 4 else xI S 20 / 4) = nI n ∧ (∀ (P : XP) (j : Nat), j < n → f_X3_kindTold P (xsI S 6 (nI n)) (nI j) = some (kf j)) ∧ (∀ (P : XP) (j : Nat), j < n → f_X3_wantsTold P (xsI S 6 (nI n)) (nI j) = some (wf j)) ∧ (∀ P : XP, f_X3_springTold P (xNew S n wf) = some sp) ∧ (∀ P : XP, f_X3_handsTold P (xsI (xNew S n wf) 7 sp) = some hd)) : MG l yX9_kitchen wsX9_kitchen ({ frames := 6, cells := 4, slots := 28, locals := 125 }) G [.ref (q 0)] (XW G q P S ++ X) (va_Qi (fun r u => (r0 = 0 ∧ r = -103 ∧ u = XW G q P S ++ X) ∨ (¬ r0 = 0 ∧ r = nI n ∧ ∃ (pa : Nat → Nat) (f : Nat → Option Nat), (∀ j, j < 4 → f j = if j < n then some (pa j) else none) ∧ u = XW G q (xPnew n kf pa f) (xKit S n wf sp hd) ++ X))) := by
  have hi9 : ∀ w ∈ u_ws RX9 TX9 18, w ∈ wsX9_kitchen := fun _ h => List.mem_cons_of_mem _ (List.mem_append_left _ (List.mem_append_left _ (List.mem_append_left _ (List.mem_append_left _ (List.mem_append_left _ (List.mem_append_left _ (List.mem_append_left _ (List.mem_append_right _ h))))))))
  have hi3 : ∀ w ∈ u_ws RX3 TX3 2, w ∈ wsX9_kitchen := fun _ h => List.mem_cons_of_mem _ (List.mem_append_left _ (List.mem_append_left _ (List.mem_append_left _ (List.mem_append_left _ (List.mem_append_left _ (List.mem_append_left _ (List.mem_append_right _ h)))))))
  refine MG.of (cc := cX9_kitchen) (maxL := 1) (ret := (some .int)) (own := RX9) (nm := "kitchen") (by decide) rfl rfl rfl (Nat.le_of_ble_eq_true rfl) ?_
  intro p e s m args below meth c A C
  refine z_eq (lv2 := [(0, .ref (q 0))]) rfl rfl rfl rfl ?_
  refine z_aload_n C 0 dX9_kitchen_0 rfl rfl ?_
  refine xg_T0 C hi9 (List.mem_of_getElem? (i := 1) rfl) dX9_kitchen_1 ?_
  refine z_goti1 C (z_runV C (c_X3_isKitchen l G q P S X fu h) (cwV 0 C.hts gX9_kitchen_X3_isKitchen rfl rfl rfl (by decide +kernel) ⟨Nat.le_of_ble_eq_true rfl, Nat.le_of_ble_eq_true rfl⟩) 1 rfl rfl rfl rfl (Nat.le_of_ble_eq_true rfl) dX9_kitchen_4 ⟨Nat.le_of_ble_eq_true rfl, Nat.le_of_ble_eq_true rfl⟩) rfl rfl ?_
  refine z_if_ne (tgt := 13) C dX9_kitchen_7 (by decide) (fun c1 => ?_) (fun c1 => ?_)
  · obtain ⟨hc, hk, hw, hsp, hhd⟩ := hy c1
    refine z_aload_n C 0 dX9_kitchen_13 rfl rfl ?_
    refine z_gotv (cs2 := 4) (ss2 := 28) C (z_runV C (c_X9_readPots l G q P S X n hn hc kf wf hk hw) (cwV 0 C.hts gX9_kitchen_X9_readPots rfl rfl rfl (by decide +kernel) ⟨Nat.le_of_ble_eq_true rfl, Nat.le_of_ble_eq_true rfl⟩) 0 rfl rfl rfl rfl (Nat.le_of_ble_eq_true rfl) dX9_kitchen_14 ⟨Nat.le_of_ble_eq_true rfl, Nat.le_of_ble_eq_true rfl⟩) rfl rfl (fun u hu => ?_)
    obtain ⟨pa, f, hf, rfl⟩ := hu
    have hp2 : xOK (xPnew n kf pa f) := xPnew_ok hf
    refine z_aload_n C 0 dX9_kitchen_17 rfl rfl ?_
    refine z_aload_n C 0 dX9_kitchen_18 rfl rfl ?_
    refine xg_T0 C hi9 (List.mem_of_getElem? (i := 1) rfl) dX9_kitchen_19 ?_
    refine z_goti1 C (z_runV C (c_X3_springTold l G q (xPnew n kf pa f) (xNew S n wf) X (hsp _)) (cwV 0 C.hts gX9_kitchen_X3_springTold rfl rfl rfl (by decide +kernel) ⟨Nat.le_of_ble_eq_true rfl, Nat.le_of_ble_eq_true rfl⟩) 1 rfl rfl rfl rfl (Nat.le_of_ble_eq_true rfl) dX9_kitchen_22 ⟨Nat.le_of_ble_eq_true rfl, Nat.le_of_ble_eq_true rfl⟩) rfl rfl ?_
    refine xp_T7 C hi9 (List.mem_of_getElem? (i := 2) rfl) dX9_kitchen_25 ?_
    refine z_aload_n C 0 dX9_kitchen_28 rfl rfl ?_
    refine z_aload_n C 0 dX9_kitchen_29 rfl rfl ?_
    refine xg_T0 C hi9 (List.mem_of_getElem? (i := 1) rfl) dX9_kitchen_30 ?_
    refine z_goti1 C (z_runV C (c_X3_handsTold l G q (xPnew n kf pa f) (xsI (xNew S n wf) 7 sp) X (hhd _)) (cwV 0 C.hts gX9_kitchen_X3_handsTold rfl rfl rfl (by decide +kernel) ⟨Nat.le_of_ble_eq_true rfl, Nat.le_of_ble_eq_true rfl⟩) 1 rfl rfl rfl rfl (Nat.le_of_ble_eq_true rfl) dX9_kitchen_33 ⟨Nat.le_of_ble_eq_true rfl, Nat.le_of_ble_eq_true rfl⟩) rfl rfl ?_
    refine xp_T8 C hi9 (List.mem_of_getElem? (i := 3) rfl) dX9_kitchen_36 ?_
    refine z_aload_n C 0 dX9_kitchen_39 rfl rfl ?_
    refine xg_T0 C hi9 (List.mem_of_getElem? (i := 1) rfl) dX9_kitchen_40 ?_
    refine z_iconst (v := 0) C dX9_kitchen_43 (by decide) ?_
    refine xp_P1 C hi3 (List.mem_of_getElem? (i := 4) rfl) dX9_kitchen_44 ?_
    refine z_aload_n C 0 dX9_kitchen_47 rfl rfl ?_
    refine z_gotv1 C (z_runV C (c_X9_startEvening l G q (xPnew n kf pa f) hp2 (xsI (xsI (xsI (xNew S n wf) 7 sp) 8 hd) 20 0) X) (cwV 0 C.hts gX9_kitchen_X9_startEvening rfl rfl rfl (by decide +kernel) ⟨Nat.le_of_ble_eq_true rfl, Nat.le_of_ble_eq_true rfl⟩) 0 rfl rfl rfl rfl (Nat.le_of_ble_eq_true rfl) dX9_kitchen_48 ⟨Nat.le_of_ble_eq_true rfl, Nat.le_of_ble_eq_true rfl⟩) rfl rfl ?_
    refine z_aload_n C 0 dX9_kitchen_51 rfl rfl ?_
    refine z_dup C dX9_kitchen_52 rfl ?_
    refine xg_T16 C hi9 (List.mem_of_getElem? (i := 5) rfl) dX9_kitchen_53 ?_
    refine z_iconst (v := 1) C dX9_kitchen_56 (by decide) ?_
    refine z_iadd C dX9_kitchen_57 ?_
    refine xp_T16 C hi9 (List.mem_of_getElem? (i := 5) rfl) dX9_kitchen_58 ?_
    refine z_aload_n C 0 dX9_kitchen_61 rfl rfl ?_
    refine xg_T6 C hi9 (List.mem_of_getElem? (i := 6) rfl) dX9_kitchen_62 ?_
    exact z_iret C rfl (Or.inr ⟨c1, rfl, pa, f, hf, rfl⟩) dX9_kitchen_65
  · refine z_bipush (v := (-103)) C dX9_kitchen_10 (by decide) ?_
    refine z_widen (cs2 := 4) (ss2 := 28) (by decide) (by decide) ?_
    exact z_iret C rfl (Or.inl ⟨c1, rfl, rfl⟩) dX9_kitchen_12
