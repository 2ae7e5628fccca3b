set_option maxHeartbeats 4000000 in
set_option maxRecDepth 100000 in
theorem law_body {p : Program} {l : Launch} {e : Env} {s : State} {m : MethodId} {below : List Frame} {meth : Method} {c : Code} {b L : Nat} {xs : Nat → Int32} {G : zGT} (C : zC p s m #[Value.ref b] meth c (fun q => s.heap.size ≤ q) G cL_law 4 ret RL meth.name wsL_law) (hX : va_X b L xs s s.heap) (hbl : b < s.heap.size) {k : Nat} (hk : 4 * k + 4 ≤ L) (hL : L ≤ 256) {q q2 : Nat → Nat} {P : XP} {S : XS} {T : MS} (h : RR k P S T) (nx : ∀ P S T, RR (k + 1) P S T → Z p l e room_1 s m #[Value.ref b] below meth c (fun q => s.heap.size ≤ q) G 4 (lw_Z below #[Value.ref b] s) (38 + 4 * (k + 1)) (6071 + 28 * (k + 1)) (XW G q P S ++ MW G q2 T) [(0, .ref b), (1, .ref (q 0)), (2, .ref (q2 0)), (3, .int (nI (4 * k)))] 616 []) : Z p l e room_1 s m #[Value.ref b] below meth c (fun q => s.heap.size ≤ q) G 4 (lw_Z below #[Value.ref b] s) (38 + 4 * k) (6071 + 28 * k) (XW G q P S ++ MW G q2 T) [(0, .ref b), (1, .ref (q 0)), (2, .ref (q2 0)), (3, .int (nI (4 * k)))] 26 [] := by
  have hbA : ¬ (fun q : Nat => s.heap.size ≤ q) b := Nat.not_le.mpr hbl
  refine z_aload_n C 0 dL_law_26 rfl rfl ?_
  refine z_iload_n C 3 dL_law_27 rfl rfl ?_
  refine z_sld C hX hbl hbA (vp_in_nI (by omega) (by omega)) dL_law_28 ?_
  refine z_bipush (v := 31) C dL_law_29 (by decide) ?_
  refine z_iand C dL_law_31 ?_
  obtain ⟨j, hj, e⟩ := and31 (xs (nI (4 * k)).toNatClampNeg)
  rw [e]
  by_cases hj2 : 20 < j
  · refine z_tableOut (tgt := 616) C dL_law_32 (Or.inr ?_) (by decide) ?_
    · rw [nI_toInt (by omega)]
      omega
    · exact z_widen (by omega) (by omega) (nx _ _ _ (h.mono (by omega)))
  · have : j = 0 ∨ j = 1 ∨ j = 2 ∨ j = 3 ∨ j = 4 ∨ j = 5 ∨ j = 6 ∨ j = 7 ∨ j = 8 ∨ j = 9 ∨ j = 10 ∨ j = 11 ∨ j = 12 ∨ j = 13 ∨ j = 14 ∨ j = 15 ∨ j = 16 ∨ j = 17 ∨ j = 18 ∨ j = 19 ∨ j = 20 := by omega
    rcases this with rfl | rfl | rfl | rfl | rfl | rfl | rfl | rfl | rfl | rfl | rfl | rfl | rfl | rfl | rfl | rfl | rfl | rfl | rfl | rfl | rfl
    · exact z_tableIn (off := 100) (tgt := 132) C dL_law_32 (by decide) (by decide) rfl (by decide) (law_letter C hX hbl hk hL h nx)
    · exact z_tableIn (off := 123) (tgt := 155) C dL_law_32 (by decide) (by decide) rfl (by decide) (law_blank C hX hbl hk hL h nx)
    · exact z_tableIn (off := 136) (tgt := 168) C dL_law_32 (by decide) (by decide) rfl (by decide) (law_fault C hX hbl hk hL h nx)
    · exact z_tableIn (off := 149) (tgt := 181) C dL_law_32 (by decide) (by decide) rfl (by decide) (law_kitchen C hX hbl hk hL h nx)
    · exact z_tableIn (off := 162) (tgt := 194) C dL_law_32 (by decide) (by decide) rfl (by decide) (law_about C hX hbl hk hL h nx)
    · exact z_tableIn (off := 195) (tgt := 227) C dL_law_32 (by decide) (by decide) rfl (by decide) (law_as C hX hbl hk hL h nx)
    · exact z_tableIn (off := 228) (tgt := 260) C dL_law_32 (by decide) (by decide) rfl (by decide) (law_boil C hX hbl hk hL h nx)
    · exact z_tableIn (off := 251) (tgt := 283) C dL_law_32 (by decide) (by decide) rfl (by decide) (law_wind C hX hbl hk hL h nx)
    · exact z_tableIn (off := 274) (tgt := 306) C dL_law_32 (by decide) (by decide) rfl (by decide) (law_take C hX hbl hk hL h nx)
    · exact z_tableIn (off := 297) (tgt := 329) C dL_law_32 (by decide) (by decide) rfl (by decide) (law_plan C hX hbl hk hL h nx)
    · exact z_tableIn (off := 320) (tgt := 352) C dL_law_32 (by decide) (by decide) rfl (by decide) (law_sure C hX hbl hk hL h nx)
    · exact z_tableIn (off := 353) (tgt := 385) C dL_law_32 (by decide) (by decide) rfl (by decide) (law_best C hX hbl hk hL h nx)
    · exact z_tableIn (off := 376) (tgt := 408) C dL_law_32 (by decide) (by decide) rfl (by decide) (law_together C hX hbl hk hL h nx)
    · exact z_tableIn (off := 409) (tgt := 441) C dL_law_32 (by decide) (by decide) rfl (by decide) (law_tell C hX hbl hk hL h nx)
    · exact z_tableIn (off := 442) (tgt := 474) C dL_law_32 (by decide) (by decide) rfl (by decide) (law_forget C hX hbl hk hL h nx)
    · exact z_tableIn (off := 455) (tgt := 487) C dL_law_32 (by decide) (by decide) rfl (by decide) (law_wound C hX hbl hk hL h nx)
    · exact z_tableIn (off := 478) (tgt := 510) C dL_law_32 (by decide) (by decide) rfl (by decide) (law_evenings C hX hbl hk hL h nx)
    · exact z_tableIn (off := 521) (tgt := 553) C dL_law_32 (by decide) (by decide) rfl (by decide) (law_image C hX hbl hk hL h nx)
    · exact z_tableIn (off := 534) (tgt := 566) C dL_law_32 (by decide) (by decide) rfl (by decide) (law_restore C hX hbl hk hL h nx)
    · exact z_tableIn (off := 547) (tgt := 579) C dL_law_32 (by decide) (by decide) rfl (by decide) (law_count C hX hbl hk hL h nx)
    · exact z_tableIn (off := 570) (tgt := 602) C dL_law_32 (by decide) (by decide) rfl (by decide) (law_digest C hX hbl hk hL h nx)
theorem z_fin {p : Program} {l : Launch} {e : Env} {s : State} {m : MethodId} {below : List Frame} {meth : Method} {c : Code} {b : Nat} {G : zGT} (C : zC p s m #[Value.ref b] meth c (fun q => s.heap.size ≤ q) G cL_law 4 ret RL meth.name wsL_law) {cs ss pc : Nat} {w : va_W} {lv : List (Nat × Value)} (h1 : cs ≤ 600000) (h2 : ss ≤ 7302250) (hd : decode cL_law pc = .ok (.ireturn, 1)) : Z p l e room_1 s m #[Value.ref b] below meth c (fun q => s.heap.size ≤ q) G 4 (lw_Z below #[Value.ref b] s) cs ss w lv pc [.int 1] := fun H locs ls hP hD hS hl => va_forget (fun q hq => hS.2.2 q hq) (W.widen h1 h2 (lw_ret C.hx C.hb C.hr C.hlk hd))
set_option maxHeartbeats 4000000 in
set_option maxRecDepth 100000 in
theorem law_loop {p : Program} {l : Launch} {e : Env} {s : State} {m : MethodId} {below : List Frame} {meth : Method} {c : Code} {b L : Nat} {xs : Nat → Int32} {G : zGT} (C : zC p s m #[Value.ref b] meth c (fun q => s.heap.size ≤ q) G cL_law 4 ret RL meth.name wsL_law) (hX : va_X b L xs s s.heap) (hbl : b < s.heap.size) (hL : L ≤ 256) {q q2 : Nat → Nat} : ∀ (d k : Nat) (P : XP) (S : XS) (T : MS), k + d = 64 → RR k P S T → Z p l e room_1 s m #[Value.ref b] below meth c (fun q => s.heap.size ≤ q) G 4 (lw_Z below #[Value.ref b] s) (38 + 4 * k) (6071 + 28 * k) (XW G q P S ++ MW G q2 T) [(0, .ref b), (1, .ref (q 0)), (2, .ref (q2 0)), (3, .int (nI (4 * k)))] 18 [] := by
  have hbA : ¬ (fun q : Nat => s.heap.size ≤ q) b := Nat.not_le.mpr hbl
  intro d
  induction d with
  | zero =>
    intro k P S T hk h
    refine z_iload_n C 3 dL_law_18 rfl rfl ?_
    refine z_aload_n C 0 dL_law_19 rfl rfl ?_
    refine z_slen C hX hbl hbA dL_law_20 ?_
    refine z_iconst (v := 4) C dL_law_21 (by decide) ?_
    refine z_isub C dL_law_22 ?_
    refine z_icmp_gt (tgt := 622) C dL_law_23 (by decide) (fun c1 => ?_) (fun c1 => ?_)
    · refine z_iconst (v := 1) C dL_law_622 (by decide) ?_
      exact z_fin C (by omega) (by omega) dL_law_623
    · exfalso
      apply c1
      have e1 : (nI L - 4).toInt = (L : Int) - 4 := pk_sub_toInt (a := L) (b := 4) (by omega) (by omega)
      have e2 := nI_toInt (n := 4 * k) (by omega)
      exact Int32.lt_iff_toInt_lt.mpr (by omega)
  | succ d ih =>
    intro k P S T hk h
    refine z_iload_n C 3 dL_law_18 rfl rfl ?_
    refine z_aload_n C 0 dL_law_19 rfl rfl ?_
    refine z_slen C hX hbl hbA dL_law_20 ?_
    refine z_iconst (v := 4) C dL_law_21 (by decide) ?_
    refine z_isub C dL_law_22 ?_
    refine z_icmp_gt (tgt := 622) C dL_law_23 (by decide) (fun c1 => ?_) (fun c1 => ?_)
    · refine z_iconst (v := 1) C dL_law_622 (by decide) ?_
      exact z_fin C (by omega) (by omega) dL_law_623
    · have hkL : 4 * k + 4 ≤ L := by
        have e1 : (nI L - 4).toInt = (L : Int) - 4 := pk_sub_toInt (a := L) (b := 4) (by omega) (by omega)
        have e2 := nI_toInt (n := 4 * k) (by omega)
        by_cases z : 4 * k + 4 ≤ L
        · exact z
        · exact absurd (Int32.lt_iff_toInt_lt.mpr (by omega)) c1
      refine law_body C hX hbl hkL hL h (fun P S T hr => ?_)
      refine z_iinc (v := nI (4 * (k + 1))) (lv2 := [(3, .int (nI (4 * (k + 1)))), (0, .ref b), (1, .ref (q 0)), (2, .ref (q2 0))]) C 3 dL_law_616 rfl (nI_add (4 * k) 4) (by decide) rfl ?_
      refine z_goto (tgt := 18) C dL_law_619 (by decide) ?_
      refine z_lv (lv2 := [(0, .ref b), (1, .ref (q 0)), (2, .ref (q2 0)), (3, .int (nI (4 * (k + 1))))]) [1, 2, 3, 0] rfl ?_
      exact ih (k + 1) P S T (by omega) hr
