theorem in_of_lt {i c : Int32} {n : Nat} (h0 : ¬ i < 0) (h1 : i < c) (hc : c.toInt = n) : vp_in i n := by
  have a := Int32.lt_iff_toInt_lt.mp h1
  have b : ¬ i.toInt < (0 : Int32).toInt := fun h => h0 (Int32.lt_iff_toInt_lt.mpr h)
  have z : (0 : Int32).toInt = 0 := rfl
  exact vp_in_iff.mpr ⟨by omega, by omega⟩
def f_X9_potAt (P : XP) (S : XS) (a1 : Int32) : Option Nat := if a1 < 0 then none else if xI S 6 ≤ a1 then none else if a1 < 4 then (if a1.toNatClampNeg < P.1 then some a1.toNatClampNeg else none) else none
theorem f_potAt_lt {P : XP} {S : XS} {a1 : Int32} {j : Nat} (h : f_X9_potAt P S a1 = some j) : j < P.1 := by
  unfold f_X9_potAt at h
  split at h
  · cases h
  · split at h
    · cases h
    · split at h
      · split at h
        · injection h with h
          subst h
          assumption
        · cases h
      · cases h
set_option maxHeartbeats 4000000 in
set_option maxRecDepth 100000 in
theorem c_X9_potAt (l : Launch) (G : zGT) (q : Nat → Nat) (P : XP) (hp : xOK P) (S : XS) (X : va_W) (a1 : Int32) : MG l yX9_potAt wsX9_potAt ({ frames := 0, cells := 0, slots := 0, locals := 0 }) G [.ref (q 0), .int a1] (XW G q P S ++ X) (va_Qq (fun r u => r = (f_X9_potAt P S a1).map P.2.1 ∧ u = XW G q P S ++ X)) := by
  have hi9 : ∀ w ∈ u_ws RX9 TX9 18, w ∈ wsX9_potAt := fun _ h => List.mem_cons_of_mem _ (List.mem_append_right _ h)
  refine MG.of (cc := cX9_potAt) (maxL := 2) (ret := (some (.object "OneTimer$Pot"))) (own := RX9) (nm := "potAt") (by decide) rfl rfl rfl (Nat.le_of_ble_eq_true rfl) ?_
  intro p e s m args below meth c A C
  refine z_eq (lv2 := [(0, .ref (q 0)), (1, .int a1)]) rfl rfl rfl rfl ?_
  refine z_iload_n C 1 dX9_potAt_0 rfl rfl ?_
  refine z_if_lt (tgt := 21) C dX9_potAt_1 (by decide) (fun c1 => ?_) (fun c1 => ?_)
  · refine z_null C dX9_potAt_21 ?_
    exact z_qret (v := none) C rfl ⟨by rw [f_X9_potAt, if_pos c1]; rfl, rfl⟩ dX9_potAt_22
  refine z_iload_n C 1 dX9_potAt_4 rfl rfl ?_
  refine z_aload_n C 0 dX9_potAt_5 rfl rfl ?_
  refine xg_T6 C hi9 (List.mem_of_getElem? (i := 1) rfl) dX9_potAt_6 ?_
  refine z_icmp_ge (tgt := 21) C dX9_potAt_9 (by decide) (fun c2 => ?_) (fun c2 => ?_)
  · refine z_null C dX9_potAt_21 ?_
    exact z_qret (v := none) C rfl ⟨by rw [f_X9_potAt, if_neg c1, if_pos c2]; rfl, rfl⟩ dX9_potAt_22
  refine z_iload_n C 1 dX9_potAt_12 rfl rfl ?_
  refine z_aload_n C 0 dX9_potAt_13 rfl rfl ?_
  refine xg_T1 C hi9 (List.mem_of_getElem? (i := 2) rfl) dX9_potAt_14 ?_
  refine xn_3 C dX9_potAt_17 ?_
  refine z_icmp_lt (tgt := 23) C dX9_potAt_18 (by decide) (fun c3 => ?_) (fun c3 => ?_)
  · refine z_aload_n C 0 dX9_potAt_23 rfl rfl ?_
    refine xg_T1 C hi9 (List.mem_of_getElem? (i := 2) rfl) dX9_potAt_24 ?_
    refine z_iload_n C 1 dX9_potAt_27 rfl rfl ?_
    refine xl_3 C (in_of_lt c1 c3 rfl) dX9_potAt_28 ?_
    refine z_qret C rfl ⟨?_, rfl⟩ dX9_potAt_29
    rw [f_X9_potAt, if_neg c1, if_neg c2, if_pos c3]
    have h4 : a1.toNatClampNeg < 4 := Nat.not_le.mp fun q => in_of_lt (n := 4) c1 c3 rfl (Or.inr q)
    rw [hp.2 _ h4]
    split
    · rfl
    · rfl
  · refine z_null C dX9_potAt_21 ?_
    exact z_qret (v := none) C rfl ⟨by rw [f_X9_potAt, if_neg c1, if_neg c2, if_neg c3]; rfl, rfl⟩ dX9_potAt_22
def f_X0_kind (P : XP) (S : XS) (i : Nat) : Int32 := 4
set_option maxHeartbeats 4000000 in
set_option maxRecDepth 100000 in
theorem c_X0_kind (l : Launch) (G : zGT) (q : Nat → Nat) (P : XP) (hp : xOK P) (S : XS) (X : va_W) (i : Nat) (hi : i < P.1) : MG l yX0_kind wsX0_kind ({ frames := 0, cells := 0, slots := 0, locals := 0 }) G [.ref (P.2.1 i)] (XW G q P S ++ X) (va_Qi (fun r u => r = (f_X0_kind P S i) ∧ u = XW G q P S ++ X)) := by
  refine MG.of (cc := cX0_kind) (maxL := 1) (ret := (some .int)) (own := RX0) (nm := "kind") (by decide) rfl rfl rfl (Nat.le_of_ble_eq_true rfl) ?_
  intro p e s m args below meth c A C
  obtain ⟨res, h⟩ : ∃ z, f_X0_kind P S i = z := ⟨_, rfl⟩
  rw [h]
  rw [f_X0_kind] at h
  refine z_eq (lv2 := [(0, .ref (P.2.1 i))]) rfl rfl rfl rfl ?_
  refine z_iconst (v := 4) C dX0_kind_0 (by decide) ?_
  subst h
  exact z_iret C rfl ⟨rfl, rfl⟩ dX0_kind_1
theorem k_X0_kind (l : Launch) (G : zGT) (q : Nat → Nat) (P : XP) (hp : xOK P) (S : XS) (X : va_W) (i : Nat) (hi : i < P.1) (h5 : P.2.2.1 i = 0) : MG l yX0_kind wsX0_kind ({ frames := 0, cells := 0, slots := 0, locals := 0 }) G [.ref (P.2.1 i)] (XW G q P S ++ X) (va_Qi (fun r u => r = kd (P.2.2.1 i) ∧ u = XW G q P S ++ X)) := by
  rw [h5]
  exact c_X0_kind l G q P hp S X i hi
def f_X2_kind (P : XP) (S : XS) (i : Nat) : Int32 := 1
set_option maxHeartbeats 4000000 in
set_option maxRecDepth 100000 in
theorem c_X2_kind (l : Launch) (G : zGT) (q : Nat → Nat) (P : XP) (hp : xOK P) (S : XS) (X : va_W) (i : Nat) (hi : i < P.1) : MG l yX2_kind wsX2_kind ({ frames := 0, cells := 0, slots := 0, locals := 0 }) G [.ref (P.2.1 i)] (XW G q P S ++ X) (va_Qi (fun r u => r = (f_X2_kind P S i) ∧ u = XW G q P S ++ X)) := by
  refine MG.of (cc := cX2_kind) (maxL := 1) (ret := (some .int)) (own := RX2) (nm := "kind") (by decide) rfl rfl rfl (Nat.le_of_ble_eq_true rfl) ?_
  intro p e s m args below meth c A C
  obtain ⟨res, h⟩ : ∃ z, f_X2_kind P S i = z := ⟨_, rfl⟩
  rw [h]
  rw [f_X2_kind] at h
  refine z_eq (lv2 := [(0, .ref (P.2.1 i))]) rfl rfl rfl rfl ?_
  refine z_iconst (v := 1) C dX2_kind_0 (by decide) ?_
  subst h
  exact z_iret C rfl ⟨rfl, rfl⟩ dX2_kind_1
theorem k_X2_kind (l : Launch) (G : zGT) (q : Nat → Nat) (P : XP) (hp : xOK P) (S : XS) (X : va_W) (i : Nat) (hi : i < P.1) (h5 : P.2.2.1 i = 2) : MG l yX2_kind wsX2_kind ({ frames := 0, cells := 0, slots := 0, locals := 0 }) G [.ref (P.2.1 i)] (XW G q P S ++ X) (va_Qi (fun r u => r = kd (P.2.2.1 i) ∧ u = XW G q P S ++ X)) := by
  rw [h5]
  exact c_X2_kind l G q P hp S X i hi
def f_X2_keeps (P : XP) (S : XS) (i : Nat) : Int32 := 1
set_option maxHeartbeats 4000000 in
set_option maxRecDepth 100000 in
theorem c_X2_keeps (l : Launch) (G : zGT) (q : Nat → Nat) (P : XP) (hp : xOK P) (S : XS) (X : va_W) (i : Nat) (hi : i < P.1) : MG l yX2_keeps wsX2_keeps ({ frames := 0, cells := 0, slots := 0, locals := 0 }) G [.ref (P.2.1 i)] (XW G q P S ++ X) (va_Qi (fun r u => r = (f_X2_keeps P S i) ∧ u = XW G q P S ++ X)) := by
  refine MG.of (cc := cX2_keeps) (maxL := 1) (ret := (some .int)) (own := RX2) (nm := "keeps") (by decide) rfl rfl rfl (Nat.le_of_ble_eq_true rfl) ?_
  intro p e s m args below meth c A C
  obtain ⟨res, h⟩ : ∃ z, f_X2_keeps P S i = z := ⟨_, rfl⟩
  rw [h]
  rw [f_X2_keeps] at h
  refine z_eq (lv2 := [(0, .ref (P.2.1 i))]) rfl rfl rfl rfl ?_
  refine z_iconst (v := 1) C dX2_keeps_0 (by decide) ?_
  subst h
  exact z_iret C rfl ⟨rfl, rfl⟩ dX2_keeps_1
theorem k_X2_keeps (l : Launch) (G : zGT) (q : Nat → Nat) (P : XP) (hp : xOK P) (S : XS) (X : va_W) (i : Nat) (hi : i < P.1) (h5 : P.2.2.1 i = 2) : MG l yX2_keeps wsX2_keeps ({ frames := 0, cells := 0, slots := 0, locals := 0 }) G [.ref (P.2.1 i)] (XW G q P S ++ X) (va_Qi (fun r u => r = kp (P.2.2.1 i) ∧ u = XW G q P S ++ X)) := by
  rw [h5]
  exact c_X2_keeps l G q P hp S X i hi
def f_X5_kind (P : XP) (S : XS) (i : Nat) : Int32 := 0
set_option maxHeartbeats 4000000 in
set_option maxRecDepth 100000 in
theorem c_X5_kind (l : Launch) (G : zGT) (q : Nat → Nat) (P : XP) (hp : xOK P) (S : XS) (X : va_W) (i : Nat) (hi : i < P.1) : MG l yX5_kind wsX5_kind ({ frames := 0, cells := 0, slots := 0, locals := 0 }) G [.ref (P.2.1 i)] (XW G q P S ++ X) (va_Qi (fun r u => r = (f_X5_kind P S i) ∧ u = XW G q P S ++ X)) := by
  refine MG.of (cc := cX5_kind) (maxL := 1) (ret := (some .int)) (own := RX5) (nm := "kind") (by decide) rfl rfl rfl (Nat.le_of_ble_eq_true rfl) ?_
  intro p e s m args below meth c A C
  obtain ⟨res, h⟩ : ∃ z, f_X5_kind P S i = z := ⟨_, rfl⟩
  rw [h]
  rw [f_X5_kind] at h
  refine z_eq (lv2 := [(0, .ref (P.2.1 i))]) rfl rfl rfl rfl ?_
  refine z_iconst (v := 0) C dX5_kind_0 (by decide) ?_
  subst h
  exact z_iret C rfl ⟨rfl, rfl⟩ dX5_kind_1
theorem k_X5_kind (l : Launch) (G : zGT) (q : Nat → Nat) (P : XP) (hp : xOK P) (S : XS) (X : va_W) (i : Nat) (hi : i < P.1) (h5 : P.2.2.1 i = 5) : MG l yX5_kind wsX5_kind ({ frames := 0, cells := 0, slots := 0, locals := 0 }) G [.ref (P.2.1 i)] (XW G q P S ++ X) (va_Qi (fun r u => r = kd (P.2.2.1 i) ∧ u = XW G q P S ++ X)) := by
  rw [h5]
  exact c_X5_kind l G q P hp S X i hi
def f_X5_keeps (P : XP) (S : XS) (i : Nat) : Int32 := 0
set_option maxHeartbeats 4000000 in
set_option maxRecDepth 100000 in
theorem c_X5_keeps (l : Launch) (G : zGT) (q : Nat → Nat) (P : XP) (hp : xOK P) (S : XS) (X : va_W) (i : Nat) (hi : i < P.1) : MG l yX5_keeps wsX5_keeps ({ frames := 0, cells := 0, slots := 0, locals := 0 }) G [.ref (P.2.1 i)] (XW G q P S ++ X) (va_Qi (fun r u => r = (f_X5_keeps P S i) ∧ u = XW G q P S ++ X)) := by
  refine MG.of (cc := cX5_keeps) (maxL := 1) (ret := (some .int)) (own := RX5) (nm := "keeps") (by decide) rfl rfl rfl (Nat.le_of_ble_eq_true rfl) ?_
  intro p e s m args below meth c A C
  obtain ⟨res, h⟩ : ∃ z, f_X5_keeps P S i = z := ⟨_, rfl⟩
  rw [h]
  rw [f_X5_keeps] at h
  refine z_eq (lv2 := [(0, .ref (P.2.1 i))]) rfl rfl rfl rfl ?_
  refine z_iconst (v := 0) C dX5_keeps_0 (by decide) ?_
  subst h
  exact z_iret C rfl ⟨rfl, rfl⟩ dX5_keeps_1
theorem k_X5_keeps (l : Launch) (G : zGT) (q : Nat → Nat) (P : XP) (hp : xOK P) (S : XS) (X : va_W) (i : Nat) (hi : i < P.1) (h5 : P.2.2.1 i = 5) : MG l yX5_keeps wsX5_keeps ({ frames := 0, cells := 0, slots := 0, locals := 0 }) G [.ref (P.2.1 i)] (XW G q P S ++ X) (va_Qi (fun r u => r = kp (P.2.2.1 i) ∧ u = XW G q P S ++ X)) := by
  rw [h5]
  exact c_X5_keeps l G q P hp S X i hi
def f_X6_kind (P : XP) (S : XS) (i : Nat) : Int32 := 2
set_option maxHeartbeats 4000000 in
set_option maxRecDepth 100000 in
theorem c_X6_kind (l : Launch) (G : zGT) (q : Nat → Nat) (P : XP) (hp : xOK P) (S : XS) (X : va_W) (i : Nat) (hi : i < P.1) : MG l yX6_kind wsX6_kind ({ frames := 0, cells := 0, slots := 0, locals := 0 }) G [.ref (P.2.1 i)] (XW G q P S ++ X) (va_Qi (fun r u => r = (f_X6_kind P S i) ∧ u = XW G q P S ++ X)) := by
  refine MG.of (cc := cX6_kind) (maxL := 1) (ret := (some .int)) (own := RX6) (nm := "kind") (by decide) rfl rfl rfl (Nat.le_of_ble_eq_true rfl) ?_
  intro p e s m args below meth c A C
  obtain ⟨res, h⟩ : ∃ z, f_X6_kind P S i = z := ⟨_, rfl⟩
  rw [h]
  rw [f_X6_kind] at h
  refine z_eq (lv2 := [(0, .ref (P.2.1 i))]) rfl rfl rfl rfl ?_
  refine z_iconst (v := 2) C dX6_kind_0 (by decide) ?_
  subst h
  exact z_iret C rfl ⟨rfl, rfl⟩ dX6_kind_1
theorem k_X6_kind (l : Launch) (G : zGT) (q : Nat → Nat) (P : XP) (hp : xOK P) (S : XS) (X : va_W) (i : Nat) (hi : i < P.1) (h5 : P.2.2.1 i = 6) : MG l yX6_kind wsX6_kind ({ frames := 0, cells := 0, slots := 0, locals := 0 }) G [.ref (P.2.1 i)] (XW G q P S ++ X) (va_Qi (fun r u => r = kd (P.2.2.1 i) ∧ u = XW G q P S ++ X)) := by
  rw [h5]
  exact c_X6_kind l G q P hp S X i hi
def f_X6_keeps (P : XP) (S : XS) (i : Nat) : Int32 := 3
set_option maxHeartbeats 4000000 in
set_option maxRecDepth 100000 in
theorem c_X6_keeps (l : Launch) (G : zGT) (q : Nat → Nat) (P : XP) (hp : xOK P) (S : XS) (X : va_W) (i : Nat) (hi : i < P.1) : MG l yX6_keeps wsX6_keeps ({ frames := 0, cells := 0, slots := 0, locals := 0 }) G [.ref (P.2.1 i)] (XW G q P S ++ X) (va_Qi (fun r u => r = (f_X6_keeps P S i) ∧ u = XW G q P S ++ X)) := by
  refine MG.of (cc := cX6_keeps) (maxL := 1) (ret := (some .int)) (own := RX6) (nm := "keeps") (by decide) rfl rfl rfl (Nat.le_of_ble_eq_true rfl) ?_
  intro p e s m args below meth c A C
  obtain ⟨res, h⟩ : ∃ z, f_X6_keeps P S i = z := ⟨_, rfl⟩
  rw [h]
  rw [f_X6_keeps] at h
  refine z_eq (lv2 := [(0, .ref (P.2.1 i))]) rfl rfl rfl rfl ?_
  refine z_iconst (v := 3) C dX6_keeps_0 (by decide) ?_
  subst h
  exact z_iret C rfl ⟨rfl, rfl⟩ dX6_keeps_1
theorem k_X6_keeps (l : Launch) (G : zGT) (q : Nat → Nat) (P : XP) (hp : xOK P) (S : XS) (X : va_W) (i : Nat) (hi : i < P.1) (h5 : P.2.2.1 i = 6) : MG l yX6_keeps wsX6_keeps ({ frames := 0, cells := 0, slots := 0, locals := 0 }) G [.ref (P.2.1 i)] (XW G q P S ++ X) (va_Qi (fun r u => r = kp (P.2.2.1 i) ∧ u = XW G q P S ++ X)) := by
  rw [h5]
  exact c_X6_keeps l G q P hp S X i hi
def f_X7_kind (P : XP) (S : XS) (i : Nat) : Int32 := 3
set_option maxHeartbeats 4000000 in
set_option maxRecDepth 100000 in
theorem c_X7_kind (l : Launch) (G : zGT) (q : Nat → Nat) (P : XP) (hp : xOK P) (S : XS) (X : va_W) (i : Nat) (hi : i < P.1) : MG l yX7_kind wsX7_kind ({ frames := 0, cells := 0, slots := 0, locals := 0 }) G [.ref (P.2.1 i)] (XW G q P S ++ X) (va_Qi (fun r u => r = (f_X7_kind P S i) ∧ u = XW G q P S ++ X)) := by
  refine MG.of (cc := cX7_kind) (maxL := 1) (ret := (some .int)) (own := RX7) (nm := "kind") (by decide) rfl rfl rfl (Nat.le_of_ble_eq_true rfl) ?_
  intro p e s m args below meth c A C
  obtain ⟨res, h⟩ : ∃ z, f_X7_kind P S i = z := ⟨_, rfl⟩
  rw [h]
  rw [f_X7_kind] at h
  refine z_eq (lv2 := [(0, .ref (P.2.1 i))]) rfl rfl rfl rfl ?_
  refine z_iconst (v := 3) C dX7_kind_0 (by decide) ?_
  subst h
  exact z_iret C rfl ⟨rfl, rfl⟩ dX7_kind_1
theorem k_X7_kind (l : Launch) (G : zGT) (q : Nat → Nat) (P : XP) (hp : xOK P) (S : XS) (X : va_W) (i : Nat) (hi : i < P.1) (h5 : P.2.2.1 i = 7) : MG l yX7_kind wsX7_kind ({ frames := 0, cells := 0, slots := 0, locals := 0 }) G [.ref (P.2.1 i)] (XW G q P S ++ X) (va_Qi (fun r u => r = kd (P.2.2.1 i) ∧ u = XW G q P S ++ X)) := by
  rw [h5]
  exact c_X7_kind l G q P hp S X i hi
def f_X7_keeps (P : XP) (S : XS) (i : Nat) : Int32 := 9
set_option maxHeartbeats 4000000 in
set_option maxRecDepth 100000 in
theorem c_X7_keeps (l : Launch) (G : zGT) (q : Nat → Nat) (P : XP) (hp : xOK P) (S : XS) (X : va_W) (i : Nat) (hi : i < P.1) : MG l yX7_keeps wsX7_keeps ({ frames := 0, cells := 0, slots := 0, locals := 0 }) G [.ref (P.2.1 i)] (XW G q P S ++ X) (va_Qi (fun r u => r = (f_X7_keeps P S i) ∧ u = XW G q P S ++ X)) := by
  refine MG.of (cc := cX7_keeps) (maxL := 1) (ret := (some .int)) (own := RX7) (nm := "keeps") (by decide) rfl rfl rfl (Nat.le_of_ble_eq_true rfl) ?_
  intro p e s m args below meth c A C
  obtain ⟨res, h⟩ : ∃ z, f_X7_keeps P S i = z := ⟨_, rfl⟩
  rw [h]
  rw [f_X7_keeps] at h
  refine z_eq (lv2 := [(0, .ref (P.2.1 i))]) rfl rfl rfl rfl ?_
  refine z_bipush (v := 9) C dX7_keeps_0 (by decide) ?_
  subst h
  exact z_iret C rfl ⟨rfl, rfl⟩ dX7_keeps_2
theorem k_X7_keeps (l : Launch) (G : zGT) (q : Nat → Nat) (P : XP) (hp : xOK P) (S : XS) (X : va_W) (i : Nat) (hi : i < P.1) (h5 : P.2.2.1 i = 7) : MG l yX7_keeps wsX7_keeps ({ frames := 0, cells := 0, slots := 0, locals := 0 }) G [.ref (P.2.1 i)] (XW G q P S ++ X) (va_Qi (fun r u => r = kp (P.2.2.1 i) ∧ u = XW G q P S ++ X)) := by
  rw [h5]
  exact c_X7_keeps l G q P hp S X i hi
set_option maxHeartbeats 4000000 in
set_option maxRecDepth 100000 in
theorem k_X0_keeps (l : Launch) (G : zGT) (q : Nat → Nat) (P : XP) (hp : xOK P) (S : XS) (X : va_W) (i : Nat) (hi : i < P.1) (h5 : P.2.2.1 i = 0) : MG l yX0_keeps wsX0_keeps ({ frames := 1, cells := 0, slots := 0, locals := 20 }) G [.ref (P.2.1 i)] (XW G q P S ++ X) (va_Qi (fun r u => r = kp (P.2.2.1 i) ∧ u = XW G q P S ++ X)) := by
  refine MG.of (cc := cX0_keeps) (maxL := 1) (ret := (some .int)) (own := RX0) (nm := "keeps") (by decide) rfl rfl rfl (Nat.le_of_ble_eq_true rfl) ?_
  intro p e s m args below meth c A C
  refine z_eq (lv2 := [(0, .ref (P.2.1 i))]) rfl rfl rfl rfl ?_
  refine z_iconst (v := 2) C dX0_keeps_0 (by decide) ?_
  refine z_aload_n C 0 dX0_keeps_1 rfl rfl ?_
  refine z_goti1 C (z_runSU C (c_X6_keeps l G q P hp S X i hi) (va_cwSU 0 C.hts gX0_keeps_X6_keeps_s7 rfl rfl rfl (by decide +kernel) ⟨Nat.le_of_ble_eq_true rfl, Nat.le_of_ble_eq_true rfl⟩) (18 + i) (xw_pot hi) (show vwCl[P.2.2.1 i]? = some (RX0, TX0, 7) by rw [h5]; rfl) rfl rfl (Nat.le_of_ble_eq_true rfl) dX0_keeps_2 ⟨Nat.le_of_ble_eq_true rfl, Nat.le_of_ble_eq_true rfl⟩) rfl rfl ?_
  refine z_imul C dX0_keeps_5 ?_
  exact z_iret C rfl ⟨by rw [h5]; rfl, rfl⟩ dX0_keeps_6
def f_X5_boils (P : XP) (S : XS) (i : Nat) : Int32 := if (xR S i 1) = (-1) then 0 else 1
set_option maxHeartbeats 4000000 in
set_option maxRecDepth 100000 in
theorem c_X5_boils (l : Launch) (G : zGT) (q : Nat → Nat) (P : XP) (hp : xOK P) (S : XS) (X : va_W) (i : Nat) (hi : i < P.1) : MG l yX5_boils wsX5_boils ({ frames := 0, cells := 0, slots := 0, locals := 0 }) G [.ref (P.2.1 i)] (XW G q P S ++ X) (va_Qi (fun r u => r = (f_X5_boils P S i) ∧ u = XW G q P S ++ X)) := by
  have hi0 : ∀ w ∈ u_ws RX0 TX0 7, w ∈ wsX5_boils := fun _ h => List.mem_cons_of_mem _ (List.mem_append_left _ (List.mem_append_left _ (List.mem_append_left _ (List.mem_append_left _ (List.mem_append_right _ h)))))
  have hi2 : ∀ w ∈ u_ws RX2 TX2 7, w ∈ wsX5_boils := fun _ h => List.mem_cons_of_mem _ (List.mem_append_left _ (List.mem_append_left _ (List.mem_append_left _ (List.mem_append_right _ h))))
  have hi5 : ∀ w ∈ u_ws RX5 TX5 7, w ∈ wsX5_boils := fun _ h => List.mem_cons_of_mem _ (List.mem_append_left _ (List.mem_append_left _ (List.mem_append_right _ h)))
  have hi6 : ∀ w ∈ u_ws RX6 TX6 7, w ∈ wsX5_boils := fun _ h => List.mem_cons_of_mem _ (List.mem_append_left _ (List.mem_append_right _ h))
  have hi7 : ∀ w ∈ u_ws RX7 TX7 7, w ∈ wsX5_boils := fun _ h => List.mem_cons_of_mem _ (List.mem_append_right _ h)
  refine MG.of (cc := cX5_boils) (maxL := 1) (ret := (some .boolean)) (own := RX5) (nm := "boils") (by decide) rfl rfl rfl (Nat.le_of_ble_eq_true rfl) ?_
  intro p e s m args below meth c A C
  obtain ⟨res, h⟩ : ∃ z, f_X5_boils P S i = z := ⟨_, rfl⟩
  rw [h]
  rw [f_X5_boils] at h
  refine z_eq (lv2 := [(0, .ref (P.2.1 i))]) rfl rfl rfl rfl ?_
  refine z_aload_n C 0 dX5_boils_0 rfl rfl ?_
  refine xpg_1 C hp hi hi0 hi2 hi5 hi6 hi7 (List.mem_of_getElem? (i := 1) rfl) dX5_boils_1 ?_
  refine z_iconst (v := (-1)) C dX5_boils_4 (by decide) ?_
  refine z_icmp_eq (tgt := 12) C dX5_boils_5 (by decide) (fun c1 => ?_) (fun c1 => ?_)
  · replace h := zt c1 h
    refine z_iconst (v := 0) C dX5_boils_12 (by decide) ?_
    subst h
    exact z_zret C rfl (Or.inl rfl) ⟨rfl, rfl⟩ dX5_boils_13
  · replace h := zf c1 h
    refine z_iconst (v := 1) C dX5_boils_8 (by decide) ?_
    refine z_goto (tgt := 13) C dX5_boils_9 (by decide) ?_
    subst h
    exact z_zret C rfl (Or.inr rfl) ⟨rfl, rfl⟩ dX5_boils_13
theorem bf_X5_boils (P : XP) (S : XS) (i : Nat) : f_X5_boils P S i = 0 ∨ f_X5_boils P S i = 1 := by
  unfold f_X5_boils
  repeat' split
  all_goals first | exact Or.inl rfl | exact Or.inr rfl
def f_X5_due (P : XP) (S : XS) (i : Nat) : Int32 := ((xR S i 1) + (xR S i 0))
set_option maxHeartbeats 4000000 in
set_option maxRecDepth 100000 in
theorem c_X5_due (l : Launch) (G : zGT) (q : Nat → Nat) (P : XP) (hp : xOK P) (S : XS) (X : va_W) (i : Nat) (hi : i < P.1) : MG l yX5_due wsX5_due ({ frames := 0, cells := 0, slots := 0, locals := 0 }) G [.ref (P.2.1 i)] (XW G q P S ++ X) (va_Qi (fun r u => r = (f_X5_due P S i) ∧ u = XW G q P S ++ X)) := by
  have hi0 : ∀ w ∈ u_ws RX0 TX0 7, w ∈ wsX5_due := fun _ h => List.mem_cons_of_mem _ (List.mem_append_left _ (List.mem_append_left _ (List.mem_append_left _ (List.mem_append_left _ (List.mem_append_right _ h)))))
  have hi2 : ∀ w ∈ u_ws RX2 TX2 7, w ∈ wsX5_due := fun _ h => List.mem_cons_of_mem _ (List.mem_append_left _ (List.mem_append_left _ (List.mem_append_left _ (List.mem_append_right _ h))))
  have hi5 : ∀ w ∈ u_ws RX5 TX5 7, w ∈ wsX5_due := fun _ h => List.mem_cons_of_mem _ (List.mem_append_left _ (List.mem_append_left _ (List.mem_append_right _ h)))
  have hi6 : ∀ w ∈ u_ws RX6 TX6 7, w ∈ wsX5_due := fun _ h => List.mem_cons_of_mem _ (List.mem_append_left _ (List.mem_append_right _ h))
  have hi7 : ∀ w ∈ u_ws RX7 TX7 7, w ∈ wsX5_due := fun _ h => List.mem_cons_of_mem _ (List.mem_append_right _ h)
  refine MG.of (cc := cX5_due) (maxL := 1) (ret := (some .int)) (own := RX5) (nm := "due") (by decide) rfl rfl rfl (Nat.le_of_ble_eq_true rfl) ?_
  intro p e s m args below meth c A C
  obtain ⟨res, h⟩ : ∃ z, f_X5_due P S i = z := ⟨_, rfl⟩
  rw [h]
  rw [f_X5_due] at h
  refine z_eq (lv2 := [(0, .ref (P.2.1 i))]) rfl rfl rfl rfl ?_
  refine z_aload_n C 0 dX5_due_0 rfl rfl ?_
  refine xpg_1 C hp hi hi0 hi2 hi5 hi6 hi7 (List.mem_of_getElem? (i := 1) rfl) dX5_due_1 ?_
  refine z_aload_n C 0 dX5_due_4 rfl rfl ?_
  refine xpg_0 C hp hi hi0 hi2 hi5 hi6 hi7 (List.mem_of_getElem? (i := 2) rfl) dX5_due_5 ?_
  refine z_iadd C dX5_due_8 ?_
  subst h
  exact z_iret C rfl ⟨rfl, rfl⟩ dX5_due_9
def f_X5_outAt (P : XP) (S : XS) (i : Nat) (a1 : Int32) : Int32 := (f_X9_outBy (a1 - (f_X5_due P S i)) (kp (P.2.2.1 i)))
set_option maxHeartbeats 4000000 in
set_option maxRecDepth 100000 in
theorem c_X5_outAt (l : Launch) (G : zGT) (q : Nat → Nat) (P : XP) (hp : xOK P) (S : XS) (X : va_W) (i : Nat) (hi : i < P.1) (a1 : Int32) : MG l yX5_outAt wsX5_outAt ({ frames := 2, cells := 0, slots := 0, locals := 40 }) G [.ref (P.2.1 i), .int a1] (XW G q P S ++ X) (va_Qi (fun r u => r = (f_X5_outAt P S i a1) ∧ u = XW G q P S ++ X)) := by
  refine MG.of (cc := cX5_outAt) (maxL := 2) (ret := (some .int)) (own := RX5) (nm := "outAt") (by decide) rfl rfl rfl (Nat.le_of_ble_eq_true rfl) ?_
  intro p e s m args below meth c A C
  obtain ⟨res, h⟩ : ∃ z, f_X5_outAt P S i a1 = z := ⟨_, rfl⟩
  rw [h]
  rw [f_X5_outAt] at h
  refine z_eq (lv2 := [(0, .ref (P.2.1 i)), (1, .int a1)]) rfl rfl rfl rfl ?_
  refine z_iload_n C 1 dX5_outAt_0 rfl rfl ?_
  refine z_aload_n C 0 dX5_outAt_1 rfl rfl ?_
  refine z5 (hp.1 i hi)
    (fun h5 kk => z_goti1 C (z_runU C (c_X5_due l G q P hp S X i hi) (va_cwU 0 C.hts gX5_outAt_X5_due_u27X0 rfl rfl rfl rfl (by decide +kernel) ⟨Nat.le_of_ble_eq_true rfl, Nat.le_of_ble_eq_true rfl⟩) (18 + i) (xw_pot hi) (show vwCl[P.2.2.1 i]? = some (RX0, TX0, 7) by rw [h5]; rfl) rfl rfl (Nat.le_of_ble_eq_true rfl) dX5_outAt_2 ⟨Nat.le_of_ble_eq_true rfl, Nat.le_of_ble_eq_true rfl⟩) rfl rfl kk)
    (fun h5 kk => z_goti1 C (z_runU C (c_X5_due l G q P hp S X i hi) (va_cwU 0 C.hts gX5_outAt_X5_due_u27X2 rfl rfl rfl rfl (by decide +kernel) ⟨Nat.le_of_ble_eq_true rfl, Nat.le_of_ble_eq_true rfl⟩) (18 + i) (xw_pot hi) (show vwCl[P.2.2.1 i]? = some (RX2, TX2, 7) by rw [h5]; rfl) rfl rfl (Nat.le_of_ble_eq_true rfl) dX5_outAt_2 ⟨Nat.le_of_ble_eq_true rfl, Nat.le_of_ble_eq_true rfl⟩) rfl rfl kk)
    (fun h5 kk => z_goti1 C (z_runV C (c_X5_due l G q P hp S X i hi) (cwV 0 C.hts gX5_outAt_X5_due rfl rfl rfl (by decide +kernel) ⟨Nat.le_of_ble_eq_true rfl, Nat.le_of_ble_eq_true rfl⟩) (18 + i) (xw_pot hi) (show vwCl[P.2.2.1 i]? = some (RX5, TX5, 7) by rw [h5]; rfl) rfl rfl (Nat.le_of_ble_eq_true rfl) dX5_outAt_2 ⟨Nat.le_of_ble_eq_true rfl, Nat.le_of_ble_eq_true rfl⟩) rfl rfl kk)
    (fun h5 kk => z_goti1 C (z_runU C (c_X5_due l G q P hp S X i hi) (va_cwU 0 C.hts gX5_outAt_X5_due_u27X6 rfl rfl rfl rfl (by decide +kernel) ⟨Nat.le_of_ble_eq_true rfl, Nat.le_of_ble_eq_true rfl⟩) (18 + i) (xw_pot hi) (show vwCl[P.2.2.1 i]? = some (RX6, TX6, 7) by rw [h5]; rfl) rfl rfl (Nat.le_of_ble_eq_true rfl) dX5_outAt_2 ⟨Nat.le_of_ble_eq_true rfl, Nat.le_of_ble_eq_true rfl⟩) rfl rfl kk)
    (fun h5 kk => z_goti1 C (z_runU C (c_X5_due l G q P hp S X i hi) (va_cwU 0 C.hts gX5_outAt_X5_due_u27X7 rfl rfl rfl rfl (by decide +kernel) ⟨Nat.le_of_ble_eq_true rfl, Nat.le_of_ble_eq_true rfl⟩) (18 + i) (xw_pot hi) (show vwCl[P.2.2.1 i]? = some (RX7, TX7, 7) by rw [h5]; rfl) rfl rfl (Nat.le_of_ble_eq_true rfl) dX5_outAt_2 ⟨Nat.le_of_ble_eq_true rfl, Nat.le_of_ble_eq_true rfl⟩) rfl rfl kk)
    ?_
  refine z_isub C dX5_outAt_5 ?_
  refine z_aload_n C 0 dX5_outAt_6 rfl rfl ?_
  refine z5 (hp.1 i hi)
    (fun h5 kk => z_goti1 C (z_runU C (k_X0_keeps l G q P hp S X i hi h5) (va_cwO 0 C.hts gX5_outAt_X0_keeps_u31X0 rfl rfl rfl (h0 := (List.mem_of_getElem? (i := 27) rfl)) (by decide +kernel) ⟨Nat.le_of_ble_eq_true rfl, Nat.le_of_ble_eq_true rfl⟩) (18 + i) (xw_pot hi) (show vwCl[P.2.2.1 i]? = some (RX0, TX0, 7) by rw [h5]; rfl) rfl rfl (Nat.le_of_ble_eq_true rfl) dX5_outAt_7 ⟨Nat.le_of_ble_eq_true rfl, Nat.le_of_ble_eq_true rfl⟩) rfl rfl kk)
    (fun h5 kk => z_goti1 C (z_runU C (k_X2_keeps l G q P hp S X i hi h5) (va_cwO 0 C.hts gX5_outAt_X2_keeps_u31X2 rfl rfl rfl (h0 := (List.mem_of_getElem? (i := 27) rfl)) (by decide +kernel) ⟨Nat.le_of_ble_eq_true rfl, Nat.le_of_ble_eq_true rfl⟩) (18 + i) (xw_pot hi) (show vwCl[P.2.2.1 i]? = some (RX2, TX2, 7) by rw [h5]; rfl) rfl rfl (Nat.le_of_ble_eq_true rfl) dX5_outAt_7 ⟨Nat.le_of_ble_eq_true rfl, Nat.le_of_ble_eq_true rfl⟩) rfl rfl kk)
    (fun h5 kk => z_goti1 C (z_runV C (k_X5_keeps l G q P hp S X i hi h5) (cwV 0 C.hts gX5_outAt_X5_keeps rfl rfl rfl (by decide +kernel) ⟨Nat.le_of_ble_eq_true rfl, Nat.le_of_ble_eq_true rfl⟩) (18 + i) (xw_pot hi) (show vwCl[P.2.2.1 i]? = some (RX5, TX5, 7) by rw [h5]; rfl) rfl rfl (Nat.le_of_ble_eq_true rfl) dX5_outAt_7 ⟨Nat.le_of_ble_eq_true rfl, Nat.le_of_ble_eq_true rfl⟩) rfl rfl kk)
    (fun h5 kk => z_goti1 C (z_runU C (k_X6_keeps l G q P hp S X i hi h5) (va_cwO 0 C.hts gX5_outAt_X6_keeps_u31X6 rfl rfl rfl (h0 := (List.mem_of_getElem? (i := 27) rfl)) (by decide +kernel) ⟨Nat.le_of_ble_eq_true rfl, Nat.le_of_ble_eq_true rfl⟩) (18 + i) (xw_pot hi) (show vwCl[P.2.2.1 i]? = some (RX6, TX6, 7) by rw [h5]; rfl) rfl rfl (Nat.le_of_ble_eq_true rfl) dX5_outAt_7 ⟨Nat.le_of_ble_eq_true rfl, Nat.le_of_ble_eq_true rfl⟩) rfl rfl kk)
    (fun h5 kk => z_goti1 C (z_runU C (k_X7_keeps l G q P hp S X i hi h5) (va_cwO 0 C.hts gX5_outAt_X7_keeps_u31X7 rfl rfl rfl (h0 := (List.mem_of_getElem? (i := 27) rfl)) (by decide +kernel) ⟨Nat.le_of_ble_eq_true rfl, Nat.le_of_ble_eq_true rfl⟩) (18 + i) (xw_pot hi) (show vwCl[P.2.2.1 i]? = some (RX7, TX7, 7) by rw [h5]; rfl) rfl rfl (Nat.le_of_ble_eq_true rfl) dX5_outAt_7 ⟨Nat.le_of_ble_eq_true rfl, Nat.le_of_ble_eq_true rfl⟩) rfl rfl kk)
    ?_
  refine z_goti1 C (z_runSN (host := "OneTimer") C (c_X9_outBy l G (XW G q P S ++ X) (a1 - (f_X5_due P S i)) (kp (P.2.2.1 i))) ⟨va_cnB 2 C.hts gX5_outAt_X9_outBy_n34 rfl rfl rfl (C.hG.2.1 _ (List.mem_of_getElem? (i := 4) rfl)) (C.hts _ (List.mem_of_getElem? (i := 41) rfl)) (by decide +kernel) ⟨Nat.le_of_ble_eq_true rfl, Nat.le_of_ble_eq_true rfl⟩, C.hts _ (List.mem_of_getElem? (i := 40) rfl), trivial⟩ rfl rfl (Nat.le_of_ble_eq_true rfl) dX5_outAt_10 ⟨Nat.le_of_ble_eq_true rfl, Nat.le_of_ble_eq_true rfl⟩) rfl rfl ?_
  subst h
  exact z_iret C rfl ⟨rfl, rfl⟩ dX5_outAt_13
def f_X5_comeOut (P : XP) (S : XS) (i : Nat) (a1 : Int32) : XS := xsR (xsR (xsR S i 3 (f_X5_outAt P S i a1)) i 2 ((xR (xsR S i 3 (f_X5_outAt P S i a1)) i 2) + 1)) i 1 (-1)
set_option maxHeartbeats 4000000 in
set_option maxRecDepth 100000 in
theorem c_X5_comeOut (l : Launch) (G : zGT) (q : Nat → Nat) (P : XP) (hp : xOK P) (S : XS) (X : va_W) (i : Nat) (hi : i < P.1) (a1 : Int32) : MG l yX5_comeOut wsX5_comeOut ({ frames := 3, cells := 0, slots := 0, locals := 61 }) G [.ref (P.2.1 i), .int a1] (XW G q P S ++ X) (va_Qv (fun u => u = XW G q P (f_X5_comeOut P S i a1) ++ X)) := by
  have hi0 : ∀ w ∈ u_ws RX0 TX0 7, w ∈ wsX5_comeOut := fun _ h => List.mem_cons_of_mem _ (List.mem_append_left _ (List.mem_append_left _ (List.mem_append_left _ (List.mem_append_left _ (List.mem_append_right _ h)))))
  have hi2 : ∀ w ∈ u_ws RX2 TX2 7, w ∈ wsX5_comeOut := fun _ h => List.mem_cons_of_mem _ (List.mem_append_left _ (List.mem_append_left _ (List.mem_append_left _ (List.mem_append_right _ h))))
  have hi5 : ∀ w ∈ u_ws RX5 TX5 7, w ∈ wsX5_comeOut := fun _ h => List.mem_cons_of_mem _ (List.mem_append_left _ (List.mem_append_left _ (List.mem_append_right _ h)))
  have hi6 : ∀ w ∈ u_ws RX6 TX6 7, w ∈ wsX5_comeOut := fun _ h => List.mem_cons_of_mem _ (List.mem_append_left _ (List.mem_append_right _ h))
  have hi7 : ∀ w ∈ u_ws RX7 TX7 7, w ∈ wsX5_comeOut := fun _ h => List.mem_cons_of_mem _ (List.mem_append_right _ h)
  refine MG.of (cc := cX5_comeOut) (maxL := 2) (ret := none) (own := RX5) (nm := "comeOut") (by decide) rfl rfl rfl (Nat.le_of_ble_eq_true rfl) ?_
  intro p e s m args below meth c A C
  obtain ⟨res, h⟩ : ∃ z, f_X5_comeOut P S i a1 = z := ⟨_, rfl⟩
  rw [h]
  rw [f_X5_comeOut] at h
  refine z_eq (lv2 := [(0, .ref (P.2.1 i)), (1, .int a1)]) rfl rfl rfl rfl ?_
  refine z_aload_n C 0 dX5_comeOut_0 rfl rfl ?_
  refine z_aload_n C 0 dX5_comeOut_1 rfl rfl ?_
  refine z_iload_n C 1 dX5_comeOut_2 rfl rfl ?_
  refine z5 (hp.1 i hi)
    (fun h5 kk => z_goti1 C (z_runU C (c_X5_outAt l G q P hp S X i hi a1) (va_cwU 1 C.hts gX5_comeOut_X5_outAt_u38X0 rfl rfl rfl rfl (by decide +kernel) ⟨Nat.le_of_ble_eq_true rfl, Nat.le_of_ble_eq_true rfl⟩) (18 + i) (xw_pot hi) (show vwCl[P.2.2.1 i]? = some (RX0, TX0, 7) by rw [h5]; rfl) rfl rfl (Nat.le_of_ble_eq_true rfl) dX5_comeOut_3 ⟨Nat.le_of_ble_eq_true rfl, Nat.le_of_ble_eq_true rfl⟩) rfl rfl kk)
    (fun h5 kk => z_goti1 C (z_runU C (c_X5_outAt l G q P hp S X i hi a1) (va_cwU 1 C.hts gX5_comeOut_X5_outAt_u38X2 rfl rfl rfl rfl (by decide +kernel) ⟨Nat.le_of_ble_eq_true rfl, Nat.le_of_ble_eq_true rfl⟩) (18 + i) (xw_pot hi) (show vwCl[P.2.2.1 i]? = some (RX2, TX2, 7) by rw [h5]; rfl) rfl rfl (Nat.le_of_ble_eq_true rfl) dX5_comeOut_3 ⟨Nat.le_of_ble_eq_true rfl, Nat.le_of_ble_eq_true rfl⟩) rfl rfl kk)
    (fun h5 kk => z_goti1 C (z_runV C (c_X5_outAt l G q P hp S X i hi a1) (cwV 1 C.hts gX5_comeOut_X5_outAt rfl rfl rfl (by decide +kernel) ⟨Nat.le_of_ble_eq_true rfl, Nat.le_of_ble_eq_true rfl⟩) (18 + i) (xw_pot hi) (show vwCl[P.2.2.1 i]? = some (RX5, TX5, 7) by rw [h5]; rfl) rfl rfl (Nat.le_of_ble_eq_true rfl) dX5_comeOut_3 ⟨Nat.le_of_ble_eq_true rfl, Nat.le_of_ble_eq_true rfl⟩) rfl rfl kk)
    (fun h5 kk => z_goti1 C (z_runU C (c_X5_outAt l G q P hp S X i hi a1) (va_cwU 1 C.hts gX5_comeOut_X5_outAt_u38X6 rfl rfl rfl rfl (by decide +kernel) ⟨Nat.le_of_ble_eq_true rfl, Nat.le_of_ble_eq_true rfl⟩) (18 + i) (xw_pot hi) (show vwCl[P.2.2.1 i]? = some (RX6, TX6, 7) by rw [h5]; rfl) rfl rfl (Nat.le_of_ble_eq_true rfl) dX5_comeOut_3 ⟨Nat.le_of_ble_eq_true rfl, Nat.le_of_ble_eq_true rfl⟩) rfl rfl kk)
    (fun h5 kk => z_goti1 C (z_runU C (c_X5_outAt l G q P hp S X i hi a1) (va_cwU 1 C.hts gX5_comeOut_X5_outAt_u38X7 rfl rfl rfl rfl (by decide +kernel) ⟨Nat.le_of_ble_eq_true rfl, Nat.le_of_ble_eq_true rfl⟩) (18 + i) (xw_pot hi) (show vwCl[P.2.2.1 i]? = some (RX7, TX7, 7) by rw [h5]; rfl) rfl rfl (Nat.le_of_ble_eq_true rfl) dX5_comeOut_3 ⟨Nat.le_of_ble_eq_true rfl, Nat.le_of_ble_eq_true rfl⟩) rfl rfl kk)
    ?_
  refine xpp_3 C hp hi hi0 hi2 hi5 hi6 hi7 (List.mem_of_getElem? (i := 1) rfl) dX5_comeOut_6 ?_
  refine z_aload_n C 0 dX5_comeOut_9 rfl rfl ?_
  refine z_dup C dX5_comeOut_10 rfl ?_
  refine xpg_2 C hp hi hi0 hi2 hi5 hi6 hi7 (List.mem_of_getElem? (i := 2) rfl) dX5_comeOut_11 ?_
  refine z_iconst (v := 1) C dX5_comeOut_14 (by decide) ?_
  refine z_iadd C dX5_comeOut_15 ?_
  refine xpp_2 C hp hi hi0 hi2 hi5 hi6 hi7 (List.mem_of_getElem? (i := 2) rfl) dX5_comeOut_16 ?_
  refine z_aload_n C 0 dX5_comeOut_19 rfl rfl ?_
  refine z_iconst (v := (-1)) C dX5_comeOut_20 (by decide) ?_
  refine xpp_1 C hp hi hi0 hi2 hi5 hi6 hi7 (List.mem_of_getElem? (i := 3) rfl) dX5_comeOut_21 ?_
  subst h
  exact z_ret C rfl rfl dX5_comeOut_24
def f_X5_sureAt (P : XP) (S : XS) (i : Nat) (a1 : Int32) : Int32 := if (f_X5_outAt P S i a1) = 100 then if (f_X5_outAt P S i (a1 - 1)) = 100 then if (f_X5_outAt P S i (a1 + 1)) = 100 then (((18 : Int32) + 1) + 1) else (((18 : Int32) + 1) + 0) else if (f_X5_outAt P S i (a1 + 1)) = 100 then (((18 : Int32) + 0) + 1) else (((18 : Int32) + 0) + 0) else if (f_X5_outAt P S i (a1 - 1)) = 100 then if (f_X5_outAt P S i (a1 + 1)) = 100 then (((0 : Int32) + 1) + 1) else (((0 : Int32) + 1) + 0) else if (f_X5_outAt P S i (a1 + 1)) = 100 then (((0 : Int32) + 0) + 1) else (((0 : Int32) + 0) + 0)
set_option maxHeartbeats 4000000 in
set_option maxRecDepth 100000 in
theorem c_X5_sureAt (l : Launch) (G : zGT) (q : Nat → Nat) (P : XP) (hp : xOK P) (S : XS) (X : va_W) (i : Nat) (hi : i < P.1) (a1 : Int32) : MG l yX5_sureAt wsX5_sureAt ({ frames := 3, cells := 0, slots := 0, locals := 61 }) G [.ref (P.2.1 i), .int a1] (XW G q P S ++ X) (va_Qi (fun r u => r = (f_X5_sureAt P S i a1) ∧ u = XW G q P S ++ X)) := by
  refine MG.of (cc := cX5_sureAt) (maxL := 3) (ret := (some .int)) (own := RX5) (nm := "sureAt") (by decide) rfl rfl rfl (Nat.le_of_ble_eq_true rfl) ?_
  intro p e s m args below meth c A C
  obtain ⟨res, h⟩ : ∃ z, f_X5_sureAt P S i a1 = z := ⟨_, rfl⟩
  rw [h]
  rw [f_X5_sureAt] at h
  refine z_eq (lv2 := [(0, .ref (P.2.1 i)), (1, .int a1)]) rfl rfl rfl rfl ?_
  refine z_aload_n C 0 dX5_sureAt_0 rfl rfl ?_
  refine z_iload_n C 1 dX5_sureAt_1 rfl rfl ?_
  refine z5 (hp.1 i hi)
    (fun h5 kk => z_goti1 C (z_runU C (c_X5_outAt l G q P hp S X i hi a1) (va_cwU 1 C.hts gX5_sureAt_X5_outAt_u38X0 rfl rfl rfl rfl (by decide +kernel) ⟨Nat.le_of_ble_eq_true rfl, Nat.le_of_ble_eq_true rfl⟩) (18 + i) (xw_pot hi) (show vwCl[P.2.2.1 i]? = some (RX0, TX0, 7) by rw [h5]; rfl) rfl rfl (Nat.le_of_ble_eq_true rfl) dX5_sureAt_2 ⟨Nat.le_of_ble_eq_true rfl, Nat.le_of_ble_eq_true rfl⟩) rfl rfl kk)
    (fun h5 kk => z_goti1 C (z_runU C (c_X5_outAt l G q P hp S X i hi a1) (va_cwU 1 C.hts gX5_sureAt_X5_outAt_u38X2 rfl rfl rfl rfl (by decide +kernel) ⟨Nat.le_of_ble_eq_true rfl, Nat.le_of_ble_eq_true rfl⟩) (18 + i) (xw_pot hi) (show vwCl[P.2.2.1 i]? = some (RX2, TX2, 7) by rw [h5]; rfl) rfl rfl (Nat.le_of_ble_eq_true rfl) dX5_sureAt_2 ⟨Nat.le_of_ble_eq_true rfl, Nat.le_of_ble_eq_true rfl⟩) rfl rfl kk)
    (fun h5 kk => z_goti1 C (z_runV C (c_X5_outAt l G q P hp S X i hi a1) (cwV 1 C.hts gX5_sureAt_X5_outAt rfl rfl rfl (by decide +kernel) ⟨Nat.le_of_ble_eq_true rfl, Nat.le_of_ble_eq_true rfl⟩) (18 + i) (xw_pot hi) (show vwCl[P.2.2.1 i]? = some (RX5, TX5, 7) by rw [h5]; rfl) rfl rfl (Nat.le_of_ble_eq_true rfl) dX5_sureAt_2 ⟨Nat.le_of_ble_eq_true rfl, Nat.le_of_ble_eq_true rfl⟩) rfl rfl kk)
    (fun h5 kk => z_goti1 C (z_runU C (c_X5_outAt l G q P hp S X i hi a1) (va_cwU 1 C.hts gX5_sureAt_X5_outAt_u38X6 rfl rfl rfl rfl (by decide +kernel) ⟨Nat.le_of_ble_eq_true rfl, Nat.le_of_ble_eq_true rfl⟩) (18 + i) (xw_pot hi) (show vwCl[P.2.2.1 i]? = some (RX6, TX6, 7) by rw [h5]; rfl) rfl rfl (Nat.le_of_ble_eq_true rfl) dX5_sureAt_2 ⟨Nat.le_of_ble_eq_true rfl, Nat.le_of_ble_eq_true rfl⟩) rfl rfl kk)
    (fun h5 kk => z_goti1 C (z_runU C (c_X5_outAt l G q P hp S X i hi a1) (va_cwU 1 C.hts gX5_sureAt_X5_outAt_u38X7 rfl rfl rfl rfl (by decide +kernel) ⟨Nat.le_of_ble_eq_true rfl, Nat.le_of_ble_eq_true rfl⟩) (18 + i) (xw_pot hi) (show vwCl[P.2.2.1 i]? = some (RX7, TX7, 7) by rw [h5]; rfl) rfl rfl (Nat.le_of_ble_eq_true rfl) dX5_sureAt_2 ⟨Nat.le_of_ble_eq_true rfl, Nat.le_of_ble_eq_true rfl⟩) rfl rfl kk)
    ?_
  refine z_bipush (v := 100) C dX5_sureAt_5 (by decide) ?_
  refine z_icmp_ne (tgt := 15) C dX5_sureAt_7 (by decide) (fun c1 => ?_) (fun c1 => ?_)
  · replace h := zf c1 h
    refine z_iconst (v := 0) C dX5_sureAt_15 (by decide) ?_
    refine z_istore_n (lv2 := [(2, .int 0), (0, .ref (P.2.1 i)), (1, .int a1)]) C dX5_sureAt_16 rfl (by decide) rfl ?_
    refine z_iload_n C 0 dX5_sureAt_17 rfl rfl ?_
    refine z_aload_n C 1 dX5_sureAt_18 rfl rfl ?_
    refine z_iload_n C 2 dX5_sureAt_19 rfl rfl ?_
    refine z_iconst (v := 1) C dX5_sureAt_20 (by decide) ?_
    refine z_isub C dX5_sureAt_21 ?_
    refine z5 (hp.1 i hi)
      (fun h5 kk => z_goti1 C (z_runU C (c_X5_outAt l G q P hp S X i hi (a1 - 1)) (va_cwU 1 C.hts gX5_sureAt_X5_outAt_u38X0 rfl rfl rfl rfl (by decide +kernel) ⟨Nat.le_of_ble_eq_true rfl, Nat.le_of_ble_eq_true rfl⟩) (18 + i) (xw_pot hi) (show vwCl[P.2.2.1 i]? = some (RX0, TX0, 7) by rw [h5]; rfl) rfl rfl (Nat.le_of_ble_eq_true rfl) dX5_sureAt_22 ⟨Nat.le_of_ble_eq_true rfl, Nat.le_of_ble_eq_true rfl⟩) rfl rfl kk)
      (fun h5 kk => z_goti1 C (z_runU C (c_X5_outAt l G q P hp S X i hi (a1 - 1)) (va_cwU 1 C.hts gX5_sureAt_X5_outAt_u38X2 rfl rfl rfl rfl (by decide +kernel) ⟨Nat.le_of_ble_eq_true rfl, Nat.le_of_ble_eq_true rfl⟩) (18 + i) (xw_pot hi) (show vwCl[P.2.2.1 i]? = some (RX2, TX2, 7) by rw [h5]; rfl) rfl rfl (Nat.le_of_ble_eq_true rfl) dX5_sureAt_22 ⟨Nat.le_of_ble_eq_true rfl, Nat.le_of_ble_eq_true rfl⟩) rfl rfl kk)
      (fun h5 kk => z_goti1 C (z_runV C (c_X5_outAt l G q P hp S X i hi (a1 - 1)) (cwV 1 C.hts gX5_sureAt_X5_outAt rfl rfl rfl (by decide +kernel) ⟨Nat.le_of_ble_eq_true rfl, Nat.le_of_ble_eq_true rfl⟩) (18 + i) (xw_pot hi) (show vwCl[P.2.2.1 i]? = some (RX5, TX5, 7) by rw [h5]; rfl) rfl rfl (Nat.le_of_ble_eq_true rfl) dX5_sureAt_22 ⟨Nat.le_of_ble_eq_true rfl, Nat.le_of_ble_eq_true rfl⟩) rfl rfl kk)
      (fun h5 kk => z_goti1 C (z_runU C (c_X5_outAt l G q P hp S X i hi (a1 - 1)) (va_cwU 1 C.hts gX5_sureAt_X5_outAt_u38X6 rfl rfl rfl rfl (by decide +kernel) ⟨Nat.le_of_ble_eq_true rfl, Nat.le_of_ble_eq_true rfl⟩) (18 + i) (xw_pot hi) (show vwCl[P.2.2.1 i]? = some (RX6, TX6, 7) by rw [h5]; rfl) rfl rfl (Nat.le_of_ble_eq_true rfl) dX5_sureAt_22 ⟨Nat.le_of_ble_eq_true rfl, Nat.le_of_ble_eq_true rfl⟩) rfl rfl kk)
      (fun h5 kk => z_goti1 C (z_runU C (c_X5_outAt l G q P hp S X i hi (a1 - 1)) (va_cwU 1 C.hts gX5_sureAt_X5_outAt_u38X7 rfl rfl rfl rfl (by decide +kernel) ⟨Nat.le_of_ble_eq_true rfl, Nat.le_of_ble_eq_true rfl⟩) (18 + i) (xw_pot hi) (show vwCl[P.2.2.1 i]? = some (RX7, TX7, 7) by rw [h5]; rfl) rfl rfl (Nat.le_of_ble_eq_true rfl) dX5_sureAt_22 ⟨Nat.le_of_ble_eq_true rfl, Nat.le_of_ble_eq_true rfl⟩) rfl rfl kk)
      ?_
    refine z_bipush (v := 100) C dX5_sureAt_25 (by decide) ?_
    refine z_icmp_ne (tgt := 34) C dX5_sureAt_27 (by decide) (fun c2 => ?_) (fun c2 => ?_)
    · replace h := zf c2 h
      refine z_iconst (v := 0) C dX5_sureAt_34 (by decide) ?_
      refine z_iadd C dX5_sureAt_35 ?_
      refine z_istore_n (lv2 := [(2, .int ((0 : Int32) + 0)), (0, .ref (P.2.1 i)), (1, .int a1)]) C dX5_sureAt_36 rfl (by decide) rfl ?_
      refine z_iload_n C 0 dX5_sureAt_37 rfl rfl ?_
      refine z_aload_n C 1 dX5_sureAt_38 rfl rfl ?_
      refine z_iload_n C 2 dX5_sureAt_39 rfl rfl ?_
      refine z_iconst (v := 1) C dX5_sureAt_40 (by decide) ?_
      refine z_iadd C dX5_sureAt_41 ?_
      refine z5 (hp.1 i hi)
        (fun h5 kk => z_goti1 C (z_runU C (c_X5_outAt l G q P hp S X i hi (a1 + 1)) (va_cwU 1 C.hts gX5_sureAt_X5_outAt_u38X0 rfl rfl rfl rfl (by decide +kernel) ⟨Nat.le_of_ble_eq_true rfl, Nat.le_of_ble_eq_true rfl⟩) (18 + i) (xw_pot hi) (show vwCl[P.2.2.1 i]? = some (RX0, TX0, 7) by rw [h5]; rfl) rfl rfl (Nat.le_of_ble_eq_true rfl) dX5_sureAt_42 ⟨Nat.le_of_ble_eq_true rfl, Nat.le_of_ble_eq_true rfl⟩) rfl rfl kk)
        (fun h5 kk => z_goti1 C (z_runU C (c_X5_outAt l G q P hp S X i hi (a1 + 1)) (va_cwU 1 C.hts gX5_sureAt_X5_outAt_u38X2 rfl rfl rfl rfl (by decide +kernel) ⟨Nat.le_of_ble_eq_true rfl, Nat.le_of_ble_eq_true rfl⟩) (18 + i) (xw_pot hi) (show vwCl[P.2.2.1 i]? = some (RX2, TX2, 7) by rw [h5]; rfl) rfl rfl (Nat.le_of_ble_eq_true rfl) dX5_sureAt_42 ⟨Nat.le_of_ble_eq_true rfl, Nat.le_of_ble_eq_true rfl⟩) rfl rfl kk)
        (fun h5 kk => z_goti1 C (z_runV C (c_X5_outAt l G q P hp S X i hi (a1 + 1)) (cwV 1 C.hts gX5_sureAt_X5_outAt rfl rfl rfl (by decide +kernel) ⟨Nat.le_of_ble_eq_true rfl, Nat.le_of_ble_eq_true rfl⟩) (18 + i) (xw_pot hi) (show vwCl[P.2.2.1 i]? = some (RX5, TX5, 7) by rw [h5]; rfl) rfl rfl (Nat.le_of_ble_eq_true rfl) dX5_sureAt_42 ⟨Nat.le_of_ble_eq_true rfl, Nat.le_of_ble_eq_true rfl⟩) rfl rfl kk)
        (fun h5 kk => z_goti1 C (z_runU C (c_X5_outAt l G q P hp S X i hi (a1 + 1)) (va_cwU 1 C.hts gX5_sureAt_X5_outAt_u38X6 rfl rfl rfl rfl (by decide +kernel) ⟨Nat.le_of_ble_eq_true rfl, Nat.le_of_ble_eq_true rfl⟩) (18 + i) (xw_pot hi) (show vwCl[P.2.2.1 i]? = some (RX6, TX6, 7) by rw [h5]; rfl) rfl rfl (Nat.le_of_ble_eq_true rfl) dX5_sureAt_42 ⟨Nat.le_of_ble_eq_true rfl, Nat.le_of_ble_eq_true rfl⟩) rfl rfl kk)
        (fun h5 kk => z_goti1 C (z_runU C (c_X5_outAt l G q P hp S X i hi (a1 + 1)) (va_cwU 1 C.hts gX5_sureAt_X5_outAt_u38X7 rfl rfl rfl rfl (by decide +kernel) ⟨Nat.le_of_ble_eq_true rfl, Nat.le_of_ble_eq_true rfl⟩) (18 + i) (xw_pot hi) (show vwCl[P.2.2.1 i]? = some (RX7, TX7, 7) by rw [h5]; rfl) rfl rfl (Nat.le_of_ble_eq_true rfl) dX5_sureAt_42 ⟨Nat.le_of_ble_eq_true rfl, Nat.le_of_ble_eq_true rfl⟩) rfl rfl kk)
        ?_
      refine z_bipush (v := 100) C dX5_sureAt_45 (by decide) ?_
      refine z_icmp_ne (tgt := 54) C dX5_sureAt_47 (by decide) (fun c3 => ?_) (fun c3 => ?_)
      · replace h := zf c3 h
        refine z_iconst (v := 0) C dX5_sureAt_54 (by decide) ?_
        refine z_iadd C dX5_sureAt_55 ?_
        refine z_istore_n (lv2 := [(2, .int (((0 : Int32) + 0) + 0)), (0, .ref (P.2.1 i)), (1, .int a1)]) C dX5_sureAt_56 rfl (by decide) rfl ?_
        refine z_iload_n C 0 dX5_sureAt_57 rfl rfl ?_
        subst h
        exact z_iret C rfl ⟨rfl, rfl⟩ dX5_sureAt_58
      · replace h := zt c3 h
        refine z_iconst (v := 1) C dX5_sureAt_50 (by decide) ?_
        refine z_goto (tgt := 55) C dX5_sureAt_51 (by decide) ?_
        refine z_iadd C dX5_sureAt_55 ?_
        refine z_istore_n (lv2 := [(2, .int (((0 : Int32) + 0) + 1)), (0, .ref (P.2.1 i)), (1, .int a1)]) C dX5_sureAt_56 rfl (by decide) rfl ?_
        refine z_iload_n C 0 dX5_sureAt_57 rfl rfl ?_
        subst h
        exact z_iret C rfl ⟨rfl, rfl⟩ dX5_sureAt_58
    · replace h := zt c2 h
      refine z_iconst (v := 1) C dX5_sureAt_30 (by decide) ?_
      refine z_goto (tgt := 35) C dX5_sureAt_31 (by decide) ?_
      refine z_iadd C dX5_sureAt_35 ?_
      refine z_istore_n (lv2 := [(2, .int ((0 : Int32) + 1)), (0, .ref (P.2.1 i)), (1, .int a1)]) C dX5_sureAt_36 rfl (by decide) rfl ?_
      refine z_iload_n C 0 dX5_sureAt_37 rfl rfl ?_
      refine z_aload_n C 1 dX5_sureAt_38 rfl rfl ?_
      refine z_iload_n C 2 dX5_sureAt_39 rfl rfl ?_
      refine z_iconst (v := 1) C dX5_sureAt_40 (by decide) ?_
      refine z_iadd C dX5_sureAt_41 ?_
      refine z5 (hp.1 i hi)
        (fun h5 kk => z_goti1 C (z_runU C (c_X5_outAt l G q P hp S X i hi (a1 + 1)) (va_cwU 1 C.hts gX5_sureAt_X5_outAt_u38X0 rfl rfl rfl rfl (by decide +kernel) ⟨Nat.le_of_ble_eq_true rfl, Nat.le_of_ble_eq_true rfl⟩) (18 + i) (xw_pot hi) (show vwCl[P.2.2.1 i]? = some (RX0, TX0, 7) by rw [h5]; rfl) rfl rfl (Nat.le_of_ble_eq_true rfl) dX5_sureAt_42 ⟨Nat.le_of_ble_eq_true rfl, Nat.le_of_ble_eq_true rfl⟩) rfl rfl kk)
        (fun h5 kk => z_goti1 C (z_runU C (c_X5_outAt l G q P hp S X i hi (a1 + 1)) (va_cwU 1 C.hts gX5_sureAt_X5_outAt_u38X2 rfl rfl rfl rfl (by decide +kernel) ⟨Nat.le_of_ble_eq_true rfl, Nat.le_of_ble_eq_true rfl⟩) (18 + i) (xw_pot hi) (show vwCl[P.2.2.1 i]? = some (RX2, TX2, 7) by rw [h5]; rfl) rfl rfl (Nat.le_of_ble_eq_true rfl) dX5_sureAt_42 ⟨Nat.le_of_ble_eq_true rfl, Nat.le_of_ble_eq_true rfl⟩) rfl rfl kk)
        (fun h5 kk => z_goti1 C (z_runV C (c_X5_outAt l G q P hp S X i hi (a1 + 1)) (cwV 1 C.hts gX5_sureAt_X5_outAt rfl rfl rfl (by decide +kernel) ⟨Nat.le_of_ble_eq_true rfl, Nat.le_of_ble_eq_true rfl⟩) (18 + i) (xw_pot hi) (show vwCl[P.2.2.1 i]? = some (RX5, TX5, 7) by rw [h5]; rfl) rfl rfl (Nat.le_of_ble_eq_true rfl) dX5_sureAt_42 ⟨Nat.le_of_ble_eq_true rfl, Nat.le_of_ble_eq_true rfl⟩) rfl rfl kk)
        (fun h5 kk => z_goti1 C (z_runU C (c_X5_outAt l G q P hp S X i hi (a1 + 1)) (va_cwU 1 C.hts gX5_sureAt_X5_outAt_u38X6 rfl rfl rfl rfl (by decide +kernel) ⟨Nat.le_of_ble_eq_true rfl, Nat.le_of_ble_eq_true rfl⟩) (18 + i) (xw_pot hi) (show vwCl[P.2.2.1 i]? = some (RX6, TX6, 7) by rw [h5]; rfl) rfl rfl (Nat.le_of_ble_eq_true rfl) dX5_sureAt_42 ⟨Nat.le_of_ble_eq_true rfl, Nat.le_of_ble_eq_true rfl⟩) rfl rfl kk)
        (fun h5 kk => z_goti1 C (z_runU C (c_X5_outAt l G q P hp S X i hi (a1 + 1)) (va_cwU 1 C.hts gX5_sureAt_X5_outAt_u38X7 rfl rfl rfl rfl (by decide +kernel) ⟨Nat.le_of_ble_eq_true rfl, Nat.le_of_ble_eq_true rfl⟩) (18 + i) (xw_pot hi) (show vwCl[P.2.2.1 i]? = some (RX7, TX7, 7) by rw [h5]; rfl) rfl rfl (Nat.le_of_ble_eq_true rfl) dX5_sureAt_42 ⟨Nat.le_of_ble_eq_true rfl, Nat.le_of_ble_eq_true rfl⟩) rfl rfl kk)
        ?_
      refine z_bipush (v := 100) C dX5_sureAt_45 (by decide) ?_
      refine z_icmp_ne (tgt := 54) C dX5_sureAt_47 (by decide) (fun c4 => ?_) (fun c4 => ?_)
      · replace h := zf c4 h
        refine z_iconst (v := 0) C dX5_sureAt_54 (by decide) ?_
        refine z_iadd C dX5_sureAt_55 ?_
        refine z_istore_n (lv2 := [(2, .int (((0 : Int32) + 1) + 0)), (0, .ref (P.2.1 i)), (1, .int a1)]) C dX5_sureAt_56 rfl (by decide) rfl ?_
        refine z_iload_n C 0 dX5_sureAt_57 rfl rfl ?_
        subst h
        exact z_iret C rfl ⟨rfl, rfl⟩ dX5_sureAt_58
      · replace h := zt c4 h
        refine z_iconst (v := 1) C dX5_sureAt_50 (by decide) ?_
        refine z_goto (tgt := 55) C dX5_sureAt_51 (by decide) ?_
        refine z_iadd C dX5_sureAt_55 ?_
        refine z_istore_n (lv2 := [(2, .int (((0 : Int32) + 1) + 1)), (0, .ref (P.2.1 i)), (1, .int a1)]) C dX5_sureAt_56 rfl (by decide) rfl ?_
        refine z_iload_n C 0 dX5_sureAt_57 rfl rfl ?_
        subst h
        exact z_iret C rfl ⟨rfl, rfl⟩ dX5_sureAt_58
  · replace h := zt c1 h
    refine z_bipush (v := 18) C dX5_sureAt_10 (by decide) ?_
    refine z_goto (tgt := 16) C dX5_sureAt_12 (by decide) ?_
    refine z_istore_n (lv2 := [(2, .int 18), (0, .ref (P.2.1 i)), (1, .int a1)]) C dX5_sureAt_16 rfl (by decide) rfl ?_
    refine z_iload_n C 0 dX5_sureAt_17 rfl rfl ?_
    refine z_aload_n C 1 dX5_sureAt_18 rfl rfl ?_
    refine z_iload_n C 2 dX5_sureAt_19 rfl rfl ?_
    refine z_iconst (v := 1) C dX5_sureAt_20 (by decide) ?_
    refine z_isub C dX5_sureAt_21 ?_
    refine z5 (hp.1 i hi)
      (fun h5 kk => z_goti1 C (z_runU C (c_X5_outAt l G q P hp S X i hi (a1 - 1)) (va_cwU 1 C.hts gX5_sureAt_X5_outAt_u38X0 rfl rfl rfl rfl (by decide +kernel) ⟨Nat.le_of_ble_eq_true rfl, Nat.le_of_ble_eq_true rfl⟩) (18 + i) (xw_pot hi) (show vwCl[P.2.2.1 i]? = some (RX0, TX0, 7) by rw [h5]; rfl) rfl rfl (Nat.le_of_ble_eq_true rfl) dX5_sureAt_22 ⟨Nat.le_of_ble_eq_true rfl, Nat.le_of_ble_eq_true rfl⟩) rfl rfl kk)
      (fun h5 kk => z_goti1 C (z_runU C (c_X5_outAt l G q P hp S X i hi (a1 - 1)) (va_cwU 1 C.hts gX5_sureAt_X5_outAt_u38X2 rfl rfl rfl rfl (by decide +kernel) ⟨Nat.le_of_ble_eq_true rfl, Nat.le_of_ble_eq_true rfl⟩) (18 + i) (xw_pot hi) (show vwCl[P.2.2.1 i]? = some (RX2, TX2, 7) by rw [h5]; rfl) rfl rfl (Nat.le_of_ble_eq_true rfl) dX5_sureAt_22 ⟨Nat.le_of_ble_eq_true rfl, Nat.le_of_ble_eq_true rfl⟩) rfl rfl kk)
      (fun h5 kk => z_goti1 C (z_runV C (c_X5_outAt l G q P hp S X i hi (a1 - 1)) (cwV 1 C.hts gX5_sureAt_X5_outAt rfl rfl rfl (by decide +kernel) ⟨Nat.le_of_ble_eq_true rfl, Nat.le_of_ble_eq_true rfl⟩) (18 + i) (xw_pot hi) (show vwCl[P.2.2.1 i]? = some (RX5, TX5, 7) by rw [h5]; rfl) rfl rfl (Nat.le_of_ble_eq_true rfl) dX5_sureAt_22 ⟨Nat.le_of_ble_eq_true rfl, Nat.le_of_ble_eq_true rfl⟩) rfl rfl kk)
      (fun h5 kk => z_goti1 C (z_runU C (c_X5_outAt l G q P hp S X i hi (a1 - 1)) (va_cwU 1 C.hts gX5_sureAt_X5_outAt_u38X6 rfl rfl rfl rfl (by decide +kernel) ⟨Nat.le_of_ble_eq_true rfl, Nat.le_of_ble_eq_true rfl⟩) (18 + i) (xw_pot hi) (show vwCl[P.2.2.1 i]? = some (RX6, TX6, 7) by rw [h5]; rfl) rfl rfl (Nat.le_of_ble_eq_true rfl) dX5_sureAt_22 ⟨Nat.le_of_ble_eq_true rfl, Nat.le_of_ble_eq_true rfl⟩) rfl rfl kk)
      (fun h5 kk => z_goti1 C (z_runU C (c_X5_outAt l G q P hp S X i hi (a1 - 1)) (va_cwU 1 C.hts gX5_sureAt_X5_outAt_u38X7 rfl rfl rfl rfl (by decide +kernel) ⟨Nat.le_of_ble_eq_true rfl, Nat.le_of_ble_eq_true rfl⟩) (18 + i) (xw_pot hi) (show vwCl[P.2.2.1 i]? = some (RX7, TX7, 7) by rw [h5]; rfl) rfl rfl (Nat.le_of_ble_eq_true rfl) dX5_sureAt_22 ⟨Nat.le_of_ble_eq_true rfl, Nat.le_of_ble_eq_true rfl⟩) rfl rfl kk)
      ?_
    refine z_bipush (v := 100) C dX5_sureAt_25 (by decide) ?_
    refine z_icmp_ne (tgt := 34) C dX5_sureAt_27 (by decide) (fun c5 => ?_) (fun c5 => ?_)
    · replace h := zf c5 h
      refine z_iconst (v := 0) C dX5_sureAt_34 (by decide) ?_
      refine z_iadd C dX5_sureAt_35 ?_
      refine z_istore_n (lv2 := [(2, .int ((18 : Int32) + 0)), (0, .ref (P.2.1 i)), (1, .int a1)]) C dX5_sureAt_36 rfl (by decide) rfl ?_
      refine z_iload_n C 0 dX5_sureAt_37 rfl rfl ?_
      refine z_aload_n C 1 dX5_sureAt_38 rfl rfl ?_
      refine z_iload_n C 2 dX5_sureAt_39 rfl rfl ?_
      refine z_iconst (v := 1) C dX5_sureAt_40 (by decide) ?_
      refine z_iadd C dX5_sureAt_41 ?_
      refine z5 (hp.1 i hi)
        (fun h5 kk => z_goti1 C (z_runU C (c_X5_outAt l G q P hp S X i hi (a1 + 1)) (va_cwU 1 C.hts gX5_sureAt_X5_outAt_u38X0 rfl rfl rfl rfl (by decide +kernel) ⟨Nat.le_of_ble_eq_true rfl, Nat.le_of_ble_eq_true rfl⟩) (18 + i) (xw_pot hi) (show vwCl[P.2.2.1 i]? = some (RX0, TX0, 7) by rw [h5]; rfl) rfl rfl (Nat.le_of_ble_eq_true rfl) dX5_sureAt_42 ⟨Nat.le_of_ble_eq_true rfl, Nat.le_of_ble_eq_true rfl⟩) rfl rfl kk)
        (fun h5 kk => z_goti1 C (z_runU C (c_X5_outAt l G q P hp S X i hi (a1 + 1)) (va_cwU 1 C.hts gX5_sureAt_X5_outAt_u38X2 rfl rfl rfl rfl (by decide +kernel) ⟨Nat.le_of_ble_eq_true rfl, Nat.le_of_ble_eq_true rfl⟩) (18 + i) (xw_pot hi) (show vwCl[P.2.2.1 i]? = some (RX2, TX2, 7) by rw [h5]; rfl) rfl rfl (Nat.le_of_ble_eq_true rfl) dX5_sureAt_42 ⟨Nat.le_of_ble_eq_true rfl, Nat.le_of_ble_eq_true rfl⟩) rfl rfl kk)
        (fun h5 kk => z_goti1 C (z_runV C (c_X5_outAt l G q P hp S X i hi (a1 + 1)) (cwV 1 C.hts gX5_sureAt_X5_outAt rfl rfl rfl (by decide +kernel) ⟨Nat.le_of_ble_eq_true rfl, Nat.le_of_ble_eq_true rfl⟩) (18 + i) (xw_pot hi) (show vwCl[P.2.2.1 i]? = some (RX5, TX5, 7) by rw [h5]; rfl) rfl rfl (Nat.le_of_ble_eq_true rfl) dX5_sureAt_42 ⟨Nat.le_of_ble_eq_true rfl, Nat.le_of_ble_eq_true rfl⟩) rfl rfl kk)
        (fun h5 kk => z_goti1 C (z_runU C (c_X5_outAt l G q P hp S X i hi (a1 + 1)) (va_cwU 1 C.hts gX5_sureAt_X5_outAt_u38X6 rfl rfl rfl rfl (by decide +kernel) ⟨Nat.le_of_ble_eq_true rfl, Nat.le_of_ble_eq_true rfl⟩) (18 + i) (xw_pot hi) (show vwCl[P.2.2.1 i]? = some (RX6, TX6, 7) by rw [h5]; rfl) rfl rfl (Nat.le_of_ble_eq_true rfl) dX5_sureAt_42 ⟨Nat.le_of_ble_eq_true rfl, Nat.le_of_ble_eq_true rfl⟩) rfl rfl kk)
        (fun h5 kk => z_goti1 C (z_runU C (c_X5_outAt l G q P hp S X i hi (a1 + 1)) (va_cwU 1 C.hts gX5_sureAt_X5_outAt_u38X7 rfl rfl rfl rfl (by decide +kernel) ⟨Nat.le_of_ble_eq_true rfl, Nat.le_of_ble_eq_true rfl⟩) (18 + i) (xw_pot hi) (show vwCl[P.2.2.1 i]? = some (RX7, TX7, 7) by rw [h5]; rfl) rfl rfl (Nat.le_of_ble_eq_true rfl) dX5_sureAt_42 ⟨Nat.le_of_ble_eq_true rfl, Nat.le_of_ble_eq_true rfl⟩) rfl rfl kk)
        ?_
      refine z_bipush (v := 100) C dX5_sureAt_45 (by decide) ?_
      refine z_icmp_ne (tgt := 54) C dX5_sureAt_47 (by decide) (fun c6 => ?_) (fun c6 => ?_)
      · replace h := zf c6 h
        refine z_iconst (v := 0) C dX5_sureAt_54 (by decide) ?_
        refine z_iadd C dX5_sureAt_55 ?_
        refine z_istore_n (lv2 := [(2, .int (((18 : Int32) + 0) + 0)), (0, .ref (P.2.1 i)), (1, .int a1)]) C dX5_sureAt_56 rfl (by decide) rfl ?_
        refine z_iload_n C 0 dX5_sureAt_57 rfl rfl ?_
        subst h
        exact z_iret C rfl ⟨rfl, rfl⟩ dX5_sureAt_58
      · replace h := zt c6 h
        refine z_iconst (v := 1) C dX5_sureAt_50 (by decide) ?_
        refine z_goto (tgt := 55) C dX5_sureAt_51 (by decide) ?_
        refine z_iadd C dX5_sureAt_55 ?_
        refine z_istore_n (lv2 := [(2, .int (((18 : Int32) + 0) + 1)), (0, .ref (P.2.1 i)), (1, .int a1)]) C dX5_sureAt_56 rfl (by decide) rfl ?_
        refine z_iload_n C 0 dX5_sureAt_57 rfl rfl ?_
        subst h
        exact z_iret C rfl ⟨rfl, rfl⟩ dX5_sureAt_58
    · replace h := zt c5 h
      refine z_iconst (v := 1) C dX5_sureAt_30 (by decide) ?_
      refine z_goto (tgt := 35) C dX5_sureAt_31 (by decide) ?_
      refine z_iadd C dX5_sureAt_35 ?_
      refine z_istore_n (lv2 := [(2, .int ((18 : Int32) + 1)), (0, .ref (P.2.1 i)), (1, .int a1)]) C dX5_sureAt_36 rfl (by decide) rfl ?_
      refine z_iload_n C 0 dX5_sureAt_37 rfl rfl ?_
      refine z_aload_n C 1 dX5_sureAt_38 rfl rfl ?_
      refine z_iload_n C 2 dX5_sureAt_39 rfl rfl ?_
      refine z_iconst (v := 1) C dX5_sureAt_40 (by decide) ?_
      refine z_iadd C dX5_sureAt_41 ?_
      refine z5 (hp.1 i hi)
        (fun h5 kk => z_goti1 C (z_runU C (c_X5_outAt l G q P hp S X i hi (a1 + 1)) (va_cwU 1 C.hts gX5_sureAt_X5_outAt_u38X0 rfl rfl rfl rfl (by decide +kernel) ⟨Nat.le_of_ble_eq_true rfl, Nat.le_of_ble_eq_true rfl⟩) (18 + i) (xw_pot hi) (show vwCl[P.2.2.1 i]? = some (RX0, TX0, 7) by rw [h5]; rfl) rfl rfl (Nat.le_of_ble_eq_true rfl) dX5_sureAt_42 ⟨Nat.le_of_ble_eq_true rfl, Nat.le_of_ble_eq_true rfl⟩) rfl rfl kk)
        (fun h5 kk => z_goti1 C (z_runU C (c_X5_outAt l G q P hp S X i hi (a1 + 1)) (va_cwU 1 C.hts gX5_sureAt_X5_outAt_u38X2 rfl rfl rfl rfl (by decide +kernel) ⟨Nat.le_of_ble_eq_true rfl, Nat.le_of_ble_eq_true rfl⟩) (18 + i) (xw_pot hi) (show vwCl[P.2.2.1 i]? = some (RX2, TX2, 7) by rw [h5]; rfl) rfl rfl (Nat.le_of_ble_eq_true rfl) dX5_sureAt_42 ⟨Nat.le_of_ble_eq_true rfl, Nat.le_of_ble_eq_true rfl⟩) rfl rfl kk)
        (fun h5 kk => z_goti1 C (z_runV C (c_X5_outAt l G q P hp S X i hi (a1 + 1)) (cwV 1 C.hts gX5_sureAt_X5_outAt rfl rfl rfl (by decide +kernel) ⟨Nat.le_of_ble_eq_true rfl, Nat.le_of_ble_eq_true rfl⟩) (18 + i) (xw_pot hi) (show vwCl[P.2.2.1 i]? = some (RX5, TX5, 7) by rw [h5]; rfl) rfl rfl (Nat.le_of_ble_eq_true rfl) dX5_sureAt_42 ⟨Nat.le_of_ble_eq_true rfl, Nat.le_of_ble_eq_true rfl⟩) rfl rfl kk)
        (fun h5 kk => z_goti1 C (z_runU C (c_X5_outAt l G q P hp S X i hi (a1 + 1)) (va_cwU 1 C.hts gX5_sureAt_X5_outAt_u38X6 rfl rfl rfl rfl (by decide +kernel) ⟨Nat.le_of_ble_eq_true rfl, Nat.le_of_ble_eq_true rfl⟩) (18 + i) (xw_pot hi) (show vwCl[P.2.2.1 i]? = some (RX6, TX6, 7) by rw [h5]; rfl) rfl rfl (Nat.le_of_ble_eq_true rfl) dX5_sureAt_42 ⟨Nat.le_of_ble_eq_true rfl, Nat.le_of_ble_eq_true rfl⟩) rfl rfl kk)
        (fun h5 kk => z_goti1 C (z_runU C (c_X5_outAt l G q P hp S X i hi (a1 + 1)) (va_cwU 1 C.hts gX5_sureAt_X5_outAt_u38X7 rfl rfl rfl rfl (by decide +kernel) ⟨Nat.le_of_ble_eq_true rfl, Nat.le_of_ble_eq_true rfl⟩) (18 + i) (xw_pot hi) (show vwCl[P.2.2.1 i]? = some (RX7, TX7, 7) by rw [h5]; rfl) rfl rfl (Nat.le_of_ble_eq_true rfl) dX5_sureAt_42 ⟨Nat.le_of_ble_eq_true rfl, Nat.le_of_ble_eq_true rfl⟩) rfl rfl kk)
        ?_
      refine z_bipush (v := 100) C dX5_sureAt_45 (by decide) ?_
      refine z_icmp_ne (tgt := 54) C dX5_sureAt_47 (by decide) (fun c7 => ?_) (fun c7 => ?_)
      · replace h := zf c7 h
        refine z_iconst (v := 0) C dX5_sureAt_54 (by decide) ?_
        refine z_iadd C dX5_sureAt_55 ?_
        refine z_istore_n (lv2 := [(2, .int (((18 : Int32) + 1) + 0)), (0, .ref (P.2.1 i)), (1, .int a1)]) C dX5_sureAt_56 rfl (by decide) rfl ?_
        refine z_iload_n C 0 dX5_sureAt_57 rfl rfl ?_
        subst h
        exact z_iret C rfl ⟨rfl, rfl⟩ dX5_sureAt_58
      · replace h := zt c7 h
        refine z_iconst (v := 1) C dX5_sureAt_50 (by decide) ?_
        refine z_goto (tgt := 55) C dX5_sureAt_51 (by decide) ?_
        refine z_iadd C dX5_sureAt_55 ?_
        refine z_istore_n (lv2 := [(2, .int (((18 : Int32) + 1) + 1)), (0, .ref (P.2.1 i)), (1, .int a1)]) C dX5_sureAt_56 rfl (by decide) rfl ?_
        refine z_iload_n C 0 dX5_sureAt_57 rfl rfl ?_
        subst h
        exact z_iret C rfl ⟨rfl, rfl⟩ dX5_sureAt_58
def f_X5_keepImage (P : XP) (S : XS) (i : Nat) : XS := xsR (xsR (xsR S i 4 (xR S i 1)) i 5 (xR (xsR S i 4 (xR S i 1)) i 2)) i 6 (xR (xsR (xsR S i 4 (xR S i 1)) i 5 (xR (xsR S i 4 (xR S i 1)) i 2)) i 3)
set_option maxHeartbeats 4000000 in
set_option maxRecDepth 100000 in
theorem c_X5_keepImage (l : Launch) (G : zGT) (q : Nat → Nat) (P : XP) (hp : xOK P) (S : XS) (X : va_W) (i : Nat) (hi : i < P.1) : MG l yX5_keepImage wsX5_keepImage ({ frames := 0, cells := 0, slots := 0, locals := 0 }) G [.ref (P.2.1 i)] (XW G q P S ++ X) (va_Qv (fun u => u = XW G q P (f_X5_keepImage P S i) ++ X)) := by
  have hi0 : ∀ w ∈ u_ws RX0 TX0 7, w ∈ wsX5_keepImage := fun _ h => List.mem_cons_of_mem _ (List.mem_append_left _ (List.mem_append_left _ (List.mem_append_left _ (List.mem_append_left _ (List.mem_append_right _ h)))))
  have hi2 : ∀ w ∈ u_ws RX2 TX2 7, w ∈ wsX5_keepImage := fun _ h => List.mem_cons_of_mem _ (List.mem_append_left _ (List.mem_append_left _ (List.mem_append_left _ (List.mem_append_right _ h))))
  have hi5 : ∀ w ∈ u_ws RX5 TX5 7, w ∈ wsX5_keepImage := fun _ h => List.mem_cons_of_mem _ (List.mem_append_left _ (List.mem_append_left _ (List.mem_append_right _ h)))
  have hi6 : ∀ w ∈ u_ws RX6 TX6 7, w ∈ wsX5_keepImage := fun _ h => List.mem_cons_of_mem _ (List.mem_append_left _ (List.mem_append_right _ h))
  have hi7 : ∀ w ∈ u_ws RX7 TX7 7, w ∈ wsX5_keepImage := fun _ h => List.mem_cons_of_mem _ (List.mem_append_right _ h)
  refine MG.of (cc := cX5_keepImage) (maxL := 1) (ret := none) (own := RX5) (nm := "keepImage") (by decide) rfl rfl rfl (Nat.le_of_ble_eq_true rfl) ?_
  intro p e s m args below meth c A C
  obtain ⟨res, h⟩ : ∃ z, f_X5_keepImage P S i = z := ⟨_, rfl⟩
  rw [h]
  rw [f_X5_keepImage] at h
  refine z_eq (lv2 := [(0, .ref (P.2.1 i))]) rfl rfl rfl rfl ?_
  refine z_aload_n C 0 dX5_keepImage_0 rfl rfl ?_
  refine z_aload_n C 0 dX5_keepImage_1 rfl rfl ?_
  refine xpg_1 C hp hi hi0 hi2 hi5 hi6 hi7 (List.mem_of_getElem? (i := 1) rfl) dX5_keepImage_2 ?_
  refine xpp_4 C hp hi hi0 hi2 hi5 hi6 hi7 (List.mem_of_getElem? (i := 2) rfl) dX5_keepImage_5 ?_
  refine z_aload_n C 0 dX5_keepImage_8 rfl rfl ?_
  refine z_aload_n C 0 dX5_keepImage_9 rfl rfl ?_
  refine xpg_2 C hp hi hi0 hi2 hi5 hi6 hi7 (List.mem_of_getElem? (i := 3) rfl) dX5_keepImage_10 ?_
  refine xpp_5 C hp hi hi0 hi2 hi5 hi6 hi7 (List.mem_of_getElem? (i := 4) rfl) dX5_keepImage_13 ?_
  refine z_aload_n C 0 dX5_keepImage_16 rfl rfl ?_
  refine z_aload_n C 0 dX5_keepImage_17 rfl rfl ?_
  refine xpg_3 C hp hi hi0 hi2 hi5 hi6 hi7 (List.mem_of_getElem? (i := 5) rfl) dX5_keepImage_18 ?_
  refine xpp_6 C hp hi hi0 hi2 hi5 hi6 hi7 (List.mem_of_getElem? (i := 6) rfl) dX5_keepImage_21 ?_
  subst h
  exact z_ret C rfl rfl dX5_keepImage_24
def f_X5_goBack (P : XP) (S : XS) (i : Nat) : XS := xsR (xsR (xsR S i 1 (xR S i 4)) i 2 (xR (xsR S i 1 (xR S i 4)) i 5)) i 3 (xR (xsR (xsR S i 1 (xR S i 4)) i 2 (xR (xsR S i 1 (xR S i 4)) i 5)) i 6)
set_option maxHeartbeats 4000000 in
set_option maxRecDepth 100000 in
theorem c_X5_goBack (l : Launch) (G : zGT) (q : Nat → Nat) (P : XP) (hp : xOK P) (S : XS) (X : va_W) (i : Nat) (hi : i < P.1) : MG l yX5_goBack wsX5_goBack ({ frames := 0, cells := 0, slots := 0, locals := 0 }) G [.ref (P.2.1 i)] (XW G q P S ++ X) (va_Qv (fun u => u = XW G q P (f_X5_goBack P S i) ++ X)) := by
  have hi0 : ∀ w ∈ u_ws RX0 TX0 7, w ∈ wsX5_goBack := fun _ h => List.mem_cons_of_mem _ (List.mem_append_left _ (List.mem_append_left _ (List.mem_append_left _ (List.mem_append_left _ (List.mem_append_right _ h)))))
  have hi2 : ∀ w ∈ u_ws RX2 TX2 7, w ∈ wsX5_goBack := fun _ h => List.mem_cons_of_mem _ (List.mem_append_left _ (List.mem_append_left _ (List.mem_append_left _ (List.mem_append_right _ h))))
  have hi5 : ∀ w ∈ u_ws RX5 TX5 7, w ∈ wsX5_goBack := fun _ h => List.mem_cons_of_mem _ (List.mem_append_left _ (List.mem_append_left _ (List.mem_append_right _ h)))
  have hi6 : ∀ w ∈ u_ws RX6 TX6 7, w ∈ wsX5_goBack := fun _ h => List.mem_cons_of_mem _ (List.mem_append_left _ (List.mem_append_right _ h))
  have hi7 : ∀ w ∈ u_ws RX7 TX7 7, w ∈ wsX5_goBack := fun _ h => List.mem_cons_of_mem _ (List.mem_append_right _ h)
  refine MG.of (cc := cX5_goBack) (maxL := 1) (ret := none) (own := RX5) (nm := "goBack") (by decide) rfl rfl rfl (Nat.le_of_ble_eq_true rfl) ?_
  intro p e s m args below meth c A C
  obtain ⟨res, h⟩ : ∃ z, f_X5_goBack P S i = z := ⟨_, rfl⟩
  rw [h]
  rw [f_X5_goBack] at h
  refine z_eq (lv2 := [(0, .ref (P.2.1 i))]) rfl rfl rfl rfl ?_
  refine z_aload_n C 0 dX5_goBack_0 rfl rfl ?_
  refine z_aload_n C 0 dX5_goBack_1 rfl rfl ?_
  refine xpg_4 C hp hi hi0 hi2 hi5 hi6 hi7 (List.mem_of_getElem? (i := 1) rfl) dX5_goBack_2 ?_
  refine xpp_1 C hp hi hi0 hi2 hi5 hi6 hi7 (List.mem_of_getElem? (i := 2) rfl) dX5_goBack_5 ?_
  refine z_aload_n C 0 dX5_goBack_8 rfl rfl ?_
  refine z_aload_n C 0 dX5_goBack_9 rfl rfl ?_
  refine xpg_5 C hp hi hi0 hi2 hi5 hi6 hi7 (List.mem_of_getElem? (i := 3) rfl) dX5_goBack_10 ?_
  refine xpp_2 C hp hi hi0 hi2 hi5 hi6 hi7 (List.mem_of_getElem? (i := 4) rfl) dX5_goBack_13 ?_
  refine z_aload_n C 0 dX5_goBack_16 rfl rfl ?_
  refine z_aload_n C 0 dX5_goBack_17 rfl rfl ?_
  refine xpg_6 C hp hi hi0 hi2 hi5 hi6 hi7 (List.mem_of_getElem? (i := 5) rfl) dX5_goBack_18 ?_
  refine xpp_3 C hp hi hi0 hi2 hi5 hi6 hi7 (List.mem_of_getElem? (i := 6) rfl) dX5_goBack_21 ?_
  subst h
  exact z_ret C rfl rfl dX5_goBack_24
