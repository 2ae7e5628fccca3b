set_option maxHeartbeats 4000000 in
set_option maxRecDepth 100000 in
theorem law_best {p : Program} {l : Launch} {e : Env} {s : State} {m : MethodId} {below : List Frame} {meth : Method} {c : Code} {b L : Nat} {xs : Nat → Int32} {G : zGT} (C : zC p s m #[Value.ref b] meth c (fun q => s.heap.size ≤ q) G cL_law 4 ret RL meth.name wsL_law) (hX : va_X b L xs s s.heap) (hbl : b < s.heap.size) {k : Nat} (hk : 4 * k + 4 ≤ L) (hL : L ≤ 256) {q q2 : Nat → Nat} {P : XP} {S : XS} {T : MS} (h : RR k P S T) (nx : ∀ P S T, RR (k + 1) P S T → Z p l e room_1 s m #[Value.ref b] below meth c (fun q => s.heap.size ≤ q) G 4 (lw_Z below #[Value.ref b] s) (38 + 4 * (k + 1)) (6071 + 28 * (k + 1)) (XW G q P S ++ MW G q2 T) [(0, .ref b), (1, .ref (q 0)), (2, .ref (q2 0)), (3, .int (nI (4 * k)))] 616 []) : Z p l e room_1 s m #[Value.ref b] below meth c (fun q => s.heap.size ≤ q) G 4 (lw_Z below #[Value.ref b] s) (38 + 4 * k) (6071 + 28 * k) (XW G q P S ++ MW G q2 T) [(0, .ref b), (1, .ref (q 0)), (2, .ref (q2 0)), (3, .int (nI (4 * k)))] 385 [] := by
  have hbA : ¬ (fun q : Nat => s.heap.size ≤ q) b := Nat.not_le.mpr hbl
  obtain ⟨r, hx, hm⟩ := op_best (fu := 2000) h (xs (4 * k + 1)) (Nat.le_refl 2000)
  have hr := h.mono (show k ≤ k + 1 by omega)
  refine z_aload_n C 1 dL_law_385 rfl rfl ?_
  refine z_arg C hX hbl hbA (k := k) (j := 1) (by omega) hL (by decide) rfl rfl dL_law_386 dL_law_387 dL_law_388 dL_law_389 dL_law_390 ?_
  refine z_goti1 (cs2 := 38 + 4 * k) (ss2 := 6071 + 28 * k) C (z_runV C (c_X9_best l G q P h.1 S (MW G q2 T) 2000 (xs (4 * k + 1)) hx) (cwV 1 C.hts gL_law_X9_best rfl rfl rfl (by decide +kernel) ⟨Nat.le_of_ble_eq_true rfl, Nat.le_of_ble_eq_true rfl⟩) 0 rfl rfl rfl rfl (Nat.le_of_ble_eq_true rfl) dL_law_391 ⟨by show 38 + 4 * k + 0 ≤ 600000; omega, by show 6071 + 28 * k + 0 ≤ 7302250; omega⟩) rfl rfl ?_
  refine z_aload_n C 2 dL_law_394 rfl rfl ?_
  refine z_arg C hX hbl hbA (k := k) (j := 1) (by omega) hL (by decide) rfl rfl dL_law_395 dL_law_396 dL_law_397 dL_law_398 dL_law_399 ?_
  refine z_world (w2 := MW G q2 T ++ XW G q P S) (fun H h => va_P.swap (a := []) h) (fun h => va_D.swap (a := []) h) ?_
  refine z_goti1 (cs2 := 38 + 4 * k) (ss2 := 6071 + 28 * k) C (z_runV C (c_X10_best l G q2 T (XW G q P S) 2000 (xs (4 * k + 1)) hm) (cwV 1 C.hts gL_law_X10_best rfl rfl rfl (by decide +kernel) ⟨Nat.le_of_ble_eq_true rfl, Nat.le_of_ble_eq_true rfl⟩) 0 rfl rfl rfl rfl (Nat.le_of_ble_eq_true rfl) dL_law_400 ⟨by show 38 + 4 * k + 0 ≤ 600000; omega, by show 6071 + 28 * k + 0 ≤ 7302250; omega⟩) rfl rfl ?_
  refine z_world (w2 := XW G q P S ++ MW G q2 T) (fun H h => va_P.swap (a := []) h) (fun h => va_D.swap (a := []) h) ?_
  refine z_icmp_eq (tgt := 616) C dL_law_403 (by decide) (fun _ => ?_) (fun ne => absurd rfl ne)
  exact z_widen (by omega) (by omega) (nx _ _ _ hr)
set_option maxHeartbeats 4000000 in
set_option maxRecDepth 100000 in
theorem law_together {p : Program} {l : Launch} {e : Env} {s : State} {m : MethodId} {below : List Frame} {meth : Method} {c : Code} {b L : Nat} {xs : Nat → Int32} {G : zGT} (C : zC p s m #[Value.ref b] meth c (fun q => s.heap.size ≤ q) G cL_law 4 ret RL meth.name wsL_law) (hX : va_X b L xs s s.heap) (hbl : b < s.heap.size) {k : Nat} (hk : 4 * k + 4 ≤ L) (hL : L ≤ 256) {q q2 : Nat → Nat} {P : XP} {S : XS} {T : MS} (h : RR k P S T) (nx : ∀ P S T, RR (k + 1) P S T → Z p l e room_1 s m #[Value.ref b] below meth c (fun q => s.heap.size ≤ q) G 4 (lw_Z below #[Value.ref b] s) (38 + 4 * (k + 1)) (6071 + 28 * (k + 1)) (XW G q P S ++ MW G q2 T) [(0, .ref b), (1, .ref (q 0)), (2, .ref (q2 0)), (3, .int (nI (4 * k)))] 616 []) : Z p l e room_1 s m #[Value.ref b] below meth c (fun q => s.heap.size ≤ q) G 4 (lw_Z below #[Value.ref b] s) (38 + 4 * k) (6071 + 28 * k) (XW G q P S ++ MW G q2 T) [(0, .ref b), (1, .ref (q 0)), (2, .ref (q2 0)), (3, .int (nI (4 * k)))] 408 [] := by
  have hbA : ¬ (fun q : Nat => s.heap.size ≤ q) b := Nat.not_le.mpr hbl
  have hm := op_together h (xs (4 * k + 1)) (xs (4 * k + 2))
  have hr := h.mono (show k ≤ k + 1 by omega)
  refine z_aload_n C 1 dL_law_408 rfl rfl ?_
  refine z_arg C hX hbl hbA (k := k) (j := 1) (by omega) hL (by decide) rfl rfl dL_law_409 dL_law_410 dL_law_411 dL_law_412 dL_law_413 ?_
  refine z_arg C hX hbl hbA (k := k) (j := 2) (by omega) hL (by decide) rfl rfl dL_law_414 dL_law_415 dL_law_416 dL_law_417 dL_law_418 ?_
  refine z_goti1 (cs2 := 38 + 4 * k) (ss2 := 6071 + 28 * k) C (z_runV C (c_X9_together l G q P h.1 S (MW G q2 T) (xs (4 * k + 1)) (xs (4 * k + 2))) (cwV 2 C.hts gL_law_X9_together rfl rfl rfl (by decide +kernel) ⟨Nat.le_of_ble_eq_true rfl, Nat.le_of_ble_eq_true rfl⟩) 0 rfl rfl rfl rfl (Nat.le_of_ble_eq_true rfl) dL_law_419 ⟨by show 38 + 4 * k + 0 ≤ 600000; omega, by show 6071 + 28 * k + 0 ≤ 7302250; omega⟩) rfl rfl ?_
  refine z_aload_n C 2 dL_law_422 rfl rfl ?_
  refine z_arg C hX hbl hbA (k := k) (j := 1) (by omega) hL (by decide) rfl rfl dL_law_423 dL_law_424 dL_law_425 dL_law_426 dL_law_427 ?_
  refine z_arg C hX hbl hbA (k := k) (j := 2) (by omega) hL (by decide) rfl rfl dL_law_428 dL_law_429 dL_law_430 dL_law_431 dL_law_432 ?_
  refine z_world (w2 := MW G q2 T ++ XW G q P S) (fun H h => va_P.swap (a := []) h) (fun h => va_D.swap (a := []) h) ?_
  refine z_goti1 (cs2 := 38 + 4 * k) (ss2 := 6071 + 28 * k) C (z_runV C (c_X10_together l G q2 T (XW G q P S) (xs (4 * k + 1)) (xs (4 * k + 2)) hm) (cwV 2 C.hts gL_law_X10_together rfl rfl rfl (by decide +kernel) ⟨Nat.le_of_ble_eq_true rfl, Nat.le_of_ble_eq_true rfl⟩) 0 rfl rfl rfl rfl (Nat.le_of_ble_eq_true rfl) dL_law_433 ⟨by show 38 + 4 * k + 0 ≤ 600000; omega, by show 6071 + 28 * k + 0 ≤ 7302250; omega⟩) rfl rfl ?_
  refine z_world (w2 := XW G q P S ++ MW G q2 T) (fun H h => va_P.swap (a := []) h) (fun h => va_D.swap (a := []) h) ?_
  refine z_icmp_eq (tgt := 616) C dL_law_436 (by decide) (fun _ => ?_) (fun ne => absurd rfl ne)
  exact z_widen (by omega) (by omega) (nx _ _ _ hr)
set_option maxHeartbeats 4000000 in
set_option maxRecDepth 100000 in
theorem law_tell {p : Program} {l : Launch} {e : Env} {s : State} {m : MethodId} {below : List Frame} {meth : Method} {c : Code} {b L : Nat} {xs : Nat → Int32} {G : zGT} (C : zC p s m #[Value.ref b] meth c (fun q => s.heap.size ≤ q) G cL_law 4 ret RL meth.name wsL_law) (hX : va_X b L xs s s.heap) (hbl : b < s.heap.size) {k : Nat} (hk : 4 * k + 4 ≤ L) (hL : L ≤ 256) {q q2 : Nat → Nat} {P : XP} {S : XS} {T : MS} (h : RR k P S T) (nx : ∀ P S T, RR (k + 1) P S T → Z p l e room_1 s m #[Value.ref b] below meth c (fun q => s.heap.size ≤ q) G 4 (lw_Z below #[Value.ref b] s) (38 + 4 * (k + 1)) (6071 + 28 * (k + 1)) (XW G q P S ++ MW G q2 T) [(0, .ref b), (1, .ref (q 0)), (2, .ref (q2 0)), (3, .int (nI (4 * k)))] 616 []) : Z p l e room_1 s m #[Value.ref b] below meth c (fun q => s.heap.size ≤ q) G 4 (lw_Z below #[Value.ref b] s) (38 + 4 * k) (6071 + 28 * k) (XW G q P S ++ MW G q2 T) [(0, .ref b), (1, .ref (q 0)), (2, .ref (q2 0)), (3, .int (nI (4 * k)))] 441 [] := by
  have hbA : ¬ (fun q : Nat => s.heap.size ≤ q) b := Nat.not_le.mpr hbl
  obtain ⟨r, S', T', hx, hm, hr⟩ := op_tell h (xs (4 * k + 1)) (xs (4 * k + 2))
  refine z_aload_n C 1 dL_law_441 rfl rfl ?_
  refine z_arg C hX hbl hbA (k := k) (j := 1) (by omega) hL (by decide) rfl rfl dL_law_442 dL_law_443 dL_law_444 dL_law_445 dL_law_446 ?_
  refine z_arg C hX hbl hbA (k := k) (j := 2) (by omega) hL (by decide) rfl rfl dL_law_447 dL_law_448 dL_law_449 dL_law_450 dL_law_451 ?_
  refine z_goti1 (cs2 := 38 + 4 * k) (ss2 := 6071 + 28 * k) C (z_runV C (c_X9_tell l G q P h.1 S (MW G q2 T) (xs (4 * k + 1)) (xs (4 * k + 2)) hx) (cwV 2 C.hts gL_law_X9_tell rfl rfl rfl (by decide +kernel) ⟨Nat.le_of_ble_eq_true rfl, Nat.le_of_ble_eq_true rfl⟩) 0 rfl rfl rfl rfl (Nat.le_of_ble_eq_true rfl) dL_law_452 ⟨by show 38 + 4 * k + 0 ≤ 600000; omega, by show 6071 + 28 * k + 0 ≤ 7302250; omega⟩) rfl rfl ?_
  refine z_aload_n C 2 dL_law_455 rfl rfl ?_
  refine z_arg C hX hbl hbA (k := k) (j := 1) (by omega) hL (by decide) rfl rfl dL_law_456 dL_law_457 dL_law_458 dL_law_459 dL_law_460 ?_
  refine z_arg C hX hbl hbA (k := k) (j := 2) (by omega) hL (by decide) rfl rfl dL_law_461 dL_law_462 dL_law_463 dL_law_464 dL_law_465 ?_
  refine z_world (w2 := MW G q2 T ++ XW G q P S') (fun H h => va_P.swap (a := []) h) (fun h => va_D.swap (a := []) h) ?_
  refine z_goti1 (cs2 := 38 + 4 * k) (ss2 := 6071 + 28 * k) C (z_runV C (c_X10_tell l G q2 T (XW G q P S') (xs (4 * k + 1)) (xs (4 * k + 2)) hm) (cwV 2 C.hts gL_law_X10_tell rfl rfl rfl (by decide +kernel) ⟨Nat.le_of_ble_eq_true rfl, Nat.le_of_ble_eq_true rfl⟩) 0 rfl rfl rfl rfl (Nat.le_of_ble_eq_true rfl) dL_law_466 ⟨by show 38 + 4 * k + 0 ≤ 600000; omega, by show 6071 + 28 * k + 0 ≤ 7302250; omega⟩) rfl rfl ?_
  refine z_world (w2 := XW G q P S' ++ MW G q2 T') (fun H h => va_P.swap (a := []) h) (fun h => va_D.swap (a := []) h) ?_
  refine z_icmp_eq (tgt := 616) C dL_law_469 (by decide) (fun _ => ?_) (fun ne => absurd rfl ne)
  exact z_widen (by omega) (by omega) (nx _ _ _ hr)
set_option maxHeartbeats 4000000 in
set_option maxRecDepth 100000 in
theorem law_forget {p : Program} {l : Launch} {e : Env} {s : State} {m : MethodId} {below : List Frame} {meth : Method} {c : Code} {b L : Nat} {xs : Nat → Int32} {G : zGT} (C : zC p s m #[Value.ref b] meth c (fun q => s.heap.size ≤ q) G cL_law 4 ret RL meth.name wsL_law) (hX : va_X b L xs s s.heap) (hbl : b < s.heap.size) {k : Nat} (hk : 4 * k + 4 ≤ L) (hL : L ≤ 256) {q q2 : Nat → Nat} {P : XP} {S : XS} {T : MS} (h : RR k P S T) (nx : ∀ P S T, RR (k + 1) P S T → Z p l e room_1 s m #[Value.ref b] below meth c (fun q => s.heap.size ≤ q) G 4 (lw_Z below #[Value.ref b] s) (38 + 4 * (k + 1)) (6071 + 28 * (k + 1)) (XW G q P S ++ MW G q2 T) [(0, .ref b), (1, .ref (q 0)), (2, .ref (q2 0)), (3, .int (nI (4 * k)))] 616 []) : Z p l e room_1 s m #[Value.ref b] below meth c (fun q => s.heap.size ≤ q) G 4 (lw_Z below #[Value.ref b] s) (38 + 4 * k) (6071 + 28 * k) (XW G q P S ++ MW G q2 T) [(0, .ref b), (1, .ref (q 0)), (2, .ref (q2 0)), (3, .int (nI (4 * k)))] 474 [] := by
  have hbA : ¬ (fun q : Nat => s.heap.size ≤ q) b := Nat.not_le.mpr hbl
  obtain ⟨he, hr⟩ := op_forget h 
  refine z_aload_n C 1 dL_law_474 rfl rfl ?_
  refine z_goti1 (cs2 := 38 + 4 * k) (ss2 := 6071 + 28 * k) C (z_runV C (c_X9_forget l G q P h.1 S (MW G q2 T)) (cwV 0 C.hts gL_law_X9_forget rfl rfl rfl (by decide +kernel) ⟨Nat.le_of_ble_eq_true rfl, Nat.le_of_ble_eq_true rfl⟩) 0 rfl rfl rfl rfl (Nat.le_of_ble_eq_true rfl) dL_law_475 ⟨by show 38 + 4 * k + 0 ≤ 600000; omega, by show 6071 + 28 * k + 0 ≤ 7302250; omega⟩) rfl rfl ?_
  refine z_aload_n C 2 dL_law_478 rfl rfl ?_
  refine z_world (w2 := MW G q2 T ++ XW G q P (f_X9_forget P S).2) (fun H h => va_P.swap (a := []) h) (fun h => va_D.swap (a := []) h) ?_
  refine z_goti1 (cs2 := 38 + 4 * k) (ss2 := 6071 + 28 * k) C (z_runV C (c_X10_forget l G q2 T (XW G q P (f_X9_forget P S).2)) (cwV 0 C.hts gL_law_X10_forget rfl rfl rfl (by decide +kernel) ⟨Nat.le_of_ble_eq_true rfl, Nat.le_of_ble_eq_true rfl⟩) 0 rfl rfl rfl rfl (Nat.le_of_ble_eq_true rfl) dL_law_479 ⟨by show 38 + 4 * k + 0 ≤ 600000; omega, by show 6071 + 28 * k + 0 ≤ 7302250; omega⟩) rfl rfl ?_
  refine z_world (w2 := XW G q P (f_X9_forget P S).2 ++ MW G q2 (f_X10_forget T).2) (fun H h => va_P.swap (a := []) h) (fun h => va_D.swap (a := []) h) ?_
  refine z_icmp_eq (tgt := 616) C dL_law_482 (by decide) (fun _ => ?_) (fun ne => absurd he ne)
  exact z_widen (by omega) (by omega) (nx _ _ _ hr)
set_option maxHeartbeats 4000000 in
set_option maxRecDepth 100000 in
theorem law_wound {p : Program} {l : Launch} {e : Env} {s : State} {m : MethodId} {below : List Frame} {meth : Method} {c : Code} {b L : Nat} {xs : Nat → Int32} {G : zGT} (C : zC p s m #[Value.ref b] meth c (fun q => s.heap.size ≤ q) G cL_law 4 ret RL meth.name wsL_law) (hX : va_X b L xs s s.heap) (hbl : b < s.heap.size) {k : Nat} (hk : 4 * k + 4 ≤ L) (hL : L ≤ 256) {q q2 : Nat → Nat} {P : XP} {S : XS} {T : MS} (h : RR k P S T) (nx : ∀ P S T, RR (k + 1) P S T → Z p l e room_1 s m #[Value.ref b] below meth c (fun q => s.heap.size ≤ q) G 4 (lw_Z below #[Value.ref b] s) (38 + 4 * (k + 1)) (6071 + 28 * (k + 1)) (XW G q P S ++ MW G q2 T) [(0, .ref b), (1, .ref (q 0)), (2, .ref (q2 0)), (3, .int (nI (4 * k)))] 616 []) : Z p l e room_1 s m #[Value.ref b] below meth c (fun q => s.heap.size ≤ q) G 4 (lw_Z below #[Value.ref b] s) (38 + 4 * k) (6071 + 28 * k) (XW G q P S ++ MW G q2 T) [(0, .ref b), (1, .ref (q 0)), (2, .ref (q2 0)), (3, .int (nI (4 * k)))] 487 [] := by
  have hbA : ¬ (fun q : Nat => s.heap.size ≤ q) b := Nat.not_le.mpr hbl
  obtain ⟨r, hx, hm⟩ := op_wound (fu := 2000) h (xs (4 * k + 1)) (Nat.le_refl 2000)
  have hr := h.mono (show k ≤ k + 1 by omega)
  refine z_aload_n C 1 dL_law_487 rfl rfl ?_
  refine z_arg C hX hbl hbA (k := k) (j := 1) (by omega) hL (by decide) rfl rfl dL_law_488 dL_law_489 dL_law_490 dL_law_491 dL_law_492 ?_
  refine z_goti1 (cs2 := 38 + 4 * k) (ss2 := 6071 + 28 * k) C (z_runV C (c_X9_wound l G q P h.1 S (MW G q2 T) 2000 (xs (4 * k + 1)) hx) (cwV 1 C.hts gL_law_X9_wound rfl rfl rfl (by decide +kernel) ⟨Nat.le_of_ble_eq_true rfl, Nat.le_of_ble_eq_true rfl⟩) 0 rfl rfl rfl rfl (Nat.le_of_ble_eq_true rfl) dL_law_493 ⟨by show 38 + 4 * k + 0 ≤ 600000; omega, by show 6071 + 28 * k + 0 ≤ 7302250; omega⟩) rfl rfl ?_
  refine z_aload_n C 2 dL_law_496 rfl rfl ?_
  refine z_arg C hX hbl hbA (k := k) (j := 1) (by omega) hL (by decide) rfl rfl dL_law_497 dL_law_498 dL_law_499 dL_law_500 dL_law_501 ?_
  refine z_world (w2 := MW G q2 T ++ XW G q P S) (fun H h => va_P.swap (a := []) h) (fun h => va_D.swap (a := []) h) ?_
  refine z_goti1 (cs2 := 38 + 4 * k) (ss2 := 6071 + 28 * k) C (z_runV C (c_X10_wound l G q2 T (XW G q P S) 2000 (xs (4 * k + 1)) hm) (cwV 1 C.hts gL_law_X10_wound rfl rfl rfl (by decide +kernel) ⟨Nat.le_of_ble_eq_true rfl, Nat.le_of_ble_eq_true rfl⟩) 0 rfl rfl rfl rfl (Nat.le_of_ble_eq_true rfl) dL_law_502 ⟨by show 38 + 4 * k + 0 ≤ 600000; omega, by show 6071 + 28 * k + 0 ≤ 7302250; omega⟩) rfl rfl ?_
  refine z_world (w2 := XW G q P S ++ MW G q2 T) (fun H h => va_P.swap (a := []) h) (fun h => va_D.swap (a := []) h) ?_
  refine z_icmp_eq (tgt := 616) C dL_law_505 (by decide) (fun _ => ?_) (fun ne => absurd rfl ne)
  exact z_widen (by omega) (by omega) (nx _ _ _ hr)
set_option maxHeartbeats 4000000 in
set_option maxRecDepth 100000 in
theorem law_evenings {p : Program} {l : Launch} {e : Env} {s : State} {m : MethodId} {below : List Frame} {meth : Method} {c : Code} {b L : Nat} {xs : Nat → Int32} {G : zGT} (C : zC p s m #[Value.ref b] meth c (fun q => s.heap.size ≤ q) G cL_law 4 ret RL meth.name wsL_law) (hX : va_X b L xs s s.heap) (hbl : b < s.heap.size) {k : Nat} (hk : 4 * k + 4 ≤ L) (hL : L ≤ 256) {q q2 : Nat → Nat} {P : XP} {S : XS} {T : MS} (h : RR k P S T) (nx : ∀ P S T, RR (k + 1) P S T → Z p l e room_1 s m #[Value.ref b] below meth c (fun q => s.heap.size ≤ q) G 4 (lw_Z below #[Value.ref b] s) (38 + 4 * (k + 1)) (6071 + 28 * (k + 1)) (XW G q P S ++ MW G q2 T) [(0, .ref b), (1, .ref (q 0)), (2, .ref (q2 0)), (3, .int (nI (4 * k)))] 616 []) : Z p l e room_1 s m #[Value.ref b] below meth c (fun q => s.heap.size ≤ q) G 4 (lw_Z below #[Value.ref b] s) (38 + 4 * k) (6071 + 28 * k) (XW G q P S ++ MW G q2 T) [(0, .ref b), (1, .ref (q 0)), (2, .ref (q2 0)), (3, .int (nI (4 * k)))] 510 [] := by
  have hbA : ¬ (fun q : Nat => s.heap.size ≤ q) b := Nat.not_le.mpr hbl
  obtain ⟨r, S', T', hx, hm, hr⟩ := op_evenings (fu := 2000) h (xs (4 * k + 1)) (xs (4 * k + 2)) (xs (4 * k + 3)) (Nat.le_refl 2000)
  refine z_aload_n C 1 dL_law_510 rfl rfl ?_
  refine z_arg C hX hbl hbA (k := k) (j := 1) (by omega) hL (by decide) rfl rfl dL_law_511 dL_law_512 dL_law_513 dL_law_514 dL_law_515 ?_
  refine z_arg C hX hbl hbA (k := k) (j := 2) (by omega) hL (by decide) rfl rfl dL_law_516 dL_law_517 dL_law_518 dL_law_519 dL_law_520 ?_
  refine z_arg C hX hbl hbA (k := k) (j := 3) (by omega) hL (by decide) rfl rfl dL_law_521 dL_law_522 dL_law_523 dL_law_524 dL_law_525 ?_
  refine z_goti1 (cs2 := 38 + 4 * k) (ss2 := 6071 + 28 * k) C (z_runV C (c_X9_evenings l G q P h.1 S (MW G q2 T) 2000 (xs (4 * k + 1)) (xs (4 * k + 2)) (xs (4 * k + 3)) hx) (cwV 3 C.hts gL_law_X9_evenings rfl rfl rfl (by decide +kernel) ⟨Nat.le_of_ble_eq_true rfl, Nat.le_of_ble_eq_true rfl⟩) 0 rfl rfl rfl rfl (Nat.le_of_ble_eq_true rfl) dL_law_526 ⟨by show 38 + 4 * k + 0 ≤ 600000; omega, by show 6071 + 28 * k + 0 ≤ 7302250; omega⟩) rfl rfl ?_
  refine z_aload_n C 2 dL_law_529 rfl rfl ?_
  refine z_arg C hX hbl hbA (k := k) (j := 1) (by omega) hL (by decide) rfl rfl dL_law_530 dL_law_531 dL_law_532 dL_law_533 dL_law_534 ?_
  refine z_arg C hX hbl hbA (k := k) (j := 2) (by omega) hL (by decide) rfl rfl dL_law_535 dL_law_536 dL_law_537 dL_law_538 dL_law_539 ?_
  refine z_arg C hX hbl hbA (k := k) (j := 3) (by omega) hL (by decide) rfl rfl dL_law_540 dL_law_541 dL_law_542 dL_law_543 dL_law_544 ?_
  refine z_world (w2 := MW G q2 T ++ XW G q P S') (fun H h => va_P.swap (a := []) h) (fun h => va_D.swap (a := []) h) ?_
  refine z_goti1 (cs2 := 38 + 4 * k) (ss2 := 6071 + 28 * k) C (z_runV C (c_X10_evenings l G q2 T (XW G q P S') 2000 (xs (4 * k + 1)) (xs (4 * k + 2)) (xs (4 * k + 3)) hm) (cwV 3 C.hts gL_law_X10_evenings rfl rfl rfl (by decide +kernel) ⟨Nat.le_of_ble_eq_true rfl, Nat.le_of_ble_eq_true rfl⟩) 0 rfl rfl rfl rfl (Nat.le_of_ble_eq_true rfl) dL_law_545 ⟨by show 38 + 4 * k + 0 ≤ 600000; omega, by show 6071 + 28 * k + 0 ≤ 7302250; omega⟩) rfl rfl ?_
  refine z_world (w2 := XW G q P S' ++ MW G q2 T') (fun H h => va_P.swap (a := []) h) (fun h => va_D.swap (a := []) h) ?_
  refine z_icmp_eq (tgt := 616) C dL_law_548 (by decide) (fun _ => ?_) (fun ne => absurd rfl ne)
  exact z_widen (by omega) (by omega) (nx _ _ _ hr)
set_option maxHeartbeats 4000000 in
set_option maxRecDepth 100000 in
theorem law_image {p : Program} {l : Launch} {e : Env} {s : State} {m : MethodId} {below : List Frame} {meth : Method} {c : Code} {b L : Nat} {xs : Nat → Int32} {G : zGT} (C : zC p s m #[Value.ref b] meth c (fun q => s.heap.size ≤ q) G cL_law 4 ret RL meth.name wsL_law) (hX : va_X b L xs s s.heap) (hbl : b < s.heap.size) {k : Nat} (hk : 4 * k + 4 ≤ L) (hL : L ≤ 256) {q q2 : Nat → Nat} {P : XP} {S : XS} {T : MS} (h : RR k P S T) (nx : ∀ P S T, RR (k + 1) P S T → Z p l e room_1 s m #[Value.ref b] below meth c (fun q => s.heap.size ≤ q) G 4 (lw_Z below #[Value.ref b] s) (38 + 4 * (k + 1)) (6071 + 28 * (k + 1)) (XW G q P S ++ MW G q2 T) [(0, .ref b), (1, .ref (q 0)), (2, .ref (q2 0)), (3, .int (nI (4 * k)))] 616 []) : Z p l e room_1 s m #[Value.ref b] below meth c (fun q => s.heap.size ≤ q) G 4 (lw_Z below #[Value.ref b] s) (38 + 4 * k) (6071 + 28 * k) (XW G q P S ++ MW G q2 T) [(0, .ref b), (1, .ref (q 0)), (2, .ref (q2 0)), (3, .int (nI (4 * k)))] 553 [] := by
  have hbA : ¬ (fun q : Nat => s.heap.size ≤ q) b := Nat.not_le.mpr hbl
  obtain ⟨r, S', T', hx, hm, hr⟩ := op_image (fu := 2000) h (Nat.le_refl 2000)
  refine z_aload_n C 1 dL_law_553 rfl rfl ?_
  refine z_goti1 (cs2 := 38 + 4 * k) (ss2 := 6071 + 28 * k) C (z_runV C (c_X9_image l G q P h.1 S (MW G q2 T) 2000 hx) (cwV 0 C.hts gL_law_X9_image rfl rfl rfl (by decide +kernel) ⟨Nat.le_of_ble_eq_true rfl, Nat.le_of_ble_eq_true rfl⟩) 0 rfl rfl rfl rfl (Nat.le_of_ble_eq_true rfl) dL_law_554 ⟨by show 38 + 4 * k + 0 ≤ 600000; omega, by show 6071 + 28 * k + 0 ≤ 7302250; omega⟩) rfl rfl ?_
  refine z_aload_n C 2 dL_law_557 rfl rfl ?_
  refine z_world (w2 := MW G q2 T ++ XW G q P S') (fun H h => va_P.swap (a := []) h) (fun h => va_D.swap (a := []) h) ?_
  refine z_goti1 (cs2 := 38 + 4 * k) (ss2 := 6071 + 28 * k) C (z_runV C (c_X10_image l G q2 T (XW G q P S') 2000 hm) (cwV 0 C.hts gL_law_X10_image rfl rfl rfl (by decide +kernel) ⟨Nat.le_of_ble_eq_true rfl, Nat.le_of_ble_eq_true rfl⟩) 0 rfl rfl rfl rfl (Nat.le_of_ble_eq_true rfl) dL_law_558 ⟨by show 38 + 4 * k + 0 ≤ 600000; omega, by show 6071 + 28 * k + 0 ≤ 7302250; omega⟩) rfl rfl ?_
  refine z_world (w2 := XW G q P S' ++ MW G q2 T') (fun H h => va_P.swap (a := []) h) (fun h => va_D.swap (a := []) h) ?_
  refine z_icmp_eq (tgt := 616) C dL_law_561 (by decide) (fun _ => ?_) (fun ne => absurd rfl ne)
  exact z_widen (by omega) (by omega) (nx _ _ _ hr)
set_option maxHeartbeats 4000000 in
set_option maxRecDepth 100000 in
theorem law_restore {p : Program} {l : Launch} {e : Env} {s : State} {m : MethodId} {below : List Frame} {meth : Method} {c : Code} {b L : Nat} {xs : Nat → Int32} {G : zGT} (C : zC p s m #[Value.ref b] meth c (fun q => s.heap.size ≤ q) G cL_law 4 ret RL meth.name wsL_law) (hX : va_X b L xs s s.heap) (hbl : b < s.heap.size) {k : Nat} (hk : 4 * k + 4 ≤ L) (hL : L ≤ 256) {q q2 : Nat → Nat} {P : XP} {S : XS} {T : MS} (h : RR k P S T) (nx : ∀ P S T, RR (k + 1) P S T → Z p l e room_1 s m #[Value.ref b] below meth c (fun q => s.heap.size ≤ q) G 4 (lw_Z below #[Value.ref b] s) (38 + 4 * (k + 1)) (6071 + 28 * (k + 1)) (XW G q P S ++ MW G q2 T) [(0, .ref b), (1, .ref (q 0)), (2, .ref (q2 0)), (3, .int (nI (4 * k)))] 616 []) : Z p l e room_1 s m #[Value.ref b] below meth c (fun q => s.heap.size ≤ q) G 4 (lw_Z below #[Value.ref b] s) (38 + 4 * k) (6071 + 28 * k) (XW G q P S ++ MW G q2 T) [(0, .ref b), (1, .ref (q 0)), (2, .ref (q2 0)), (3, .int (nI (4 * k)))] 566 [] := by
  have hbA : ¬ (fun q : Nat => s.heap.size ≤ q) b := Nat.not_le.mpr hbl
  obtain ⟨r, S', T', hx, hm, hr⟩ := op_restore (fu := 2000) h (Nat.le_refl 2000)
  refine z_aload_n C 1 dL_law_566 rfl rfl ?_
  refine z_goti1 (cs2 := 38 + 4 * k) (ss2 := 6071 + 28 * k) C (z_runV C (c_X9_restore l G q P h.1 S (MW G q2 T) 2000 hx) (cwV 0 C.hts gL_law_X9_restore rfl rfl rfl (by decide +kernel) ⟨Nat.le_of_ble_eq_true rfl, Nat.le_of_ble_eq_true rfl⟩) 0 rfl rfl rfl rfl (Nat.le_of_ble_eq_true rfl) dL_law_567 ⟨by show 38 + 4 * k + 0 ≤ 600000; omega, by show 6071 + 28 * k + 0 ≤ 7302250; omega⟩) rfl rfl ?_
  refine z_aload_n C 2 dL_law_570 rfl rfl ?_
  refine z_world (w2 := MW G q2 T ++ XW G q P S') (fun H h => va_P.swap (a := []) h) (fun h => va_D.swap (a := []) h) ?_
  refine z_goti1 (cs2 := 38 + 4 * k) (ss2 := 6071 + 28 * k) C (z_runV C (c_X10_restore l G q2 T (XW G q P S') 2000 hm) (cwV 0 C.hts gL_law_X10_restore rfl rfl rfl (by decide +kernel) ⟨Nat.le_of_ble_eq_true rfl, Nat.le_of_ble_eq_true rfl⟩) 0 rfl rfl rfl rfl (Nat.le_of_ble_eq_true rfl) dL_law_571 ⟨by show 38 + 4 * k + 0 ≤ 600000; omega, by show 6071 + 28 * k + 0 ≤ 7302250; omega⟩) rfl rfl ?_
  refine z_world (w2 := XW G q P S' ++ MW G q2 T') (fun H h => va_P.swap (a := []) h) (fun h => va_D.swap (a := []) h) ?_
  refine z_icmp_eq (tgt := 616) C dL_law_574 (by decide) (fun _ => ?_) (fun ne => absurd rfl ne)
  exact z_widen (by omega) (by omega) (nx _ _ _ hr)
set_option maxHeartbeats 4000000 in
set_option maxRecDepth 100000 in
theorem law_count {p : Program} {l : Launch} {e : Env} {s : State} {m : MethodId} {below : List Frame} {meth : Method} {c : Code} {b L : Nat} {xs : Nat → Int32} {G : zGT} (C : zC p s m #[Value.ref b] meth c (fun q => s.heap.size ≤ q) G cL_law 4 ret RL meth.name wsL_law) (hX : va_X b L xs s s.heap) (hbl : b < s.heap.size) {k : Nat} (hk : 4 * k + 4 ≤ L) (hL : L ≤ 256) {q q2 : Nat → Nat} {P : XP} {S : XS} {T : MS} (h : RR k P S T) (nx : ∀ P S T, RR (k + 1) P S T → Z p l e room_1 s m #[Value.ref b] below meth c (fun q => s.heap.size ≤ q) G 4 (lw_Z below #[Value.ref b] s) (38 + 4 * (k + 1)) (6071 + 28 * (k + 1)) (XW G q P S ++ MW G q2 T) [(0, .ref b), (1, .ref (q 0)), (2, .ref (q2 0)), (3, .int (nI (4 * k)))] 616 []) : Z p l e room_1 s m #[Value.ref b] below meth c (fun q => s.heap.size ≤ q) G 4 (lw_Z below #[Value.ref b] s) (38 + 4 * k) (6071 + 28 * k) (XW G q P S ++ MW G q2 T) [(0, .ref b), (1, .ref (q 0)), (2, .ref (q2 0)), (3, .int (nI (4 * k)))] 579 [] := by
  have hbA : ¬ (fun q : Nat => s.heap.size ≤ q) b := Nat.not_le.mpr hbl
  obtain ⟨r, hx, hm⟩ := op_count2 (fu := 2000) h (xs (4 * k + 1)) (Nat.le_refl 2000)
  have hr := h.mono (show k ≤ k + 1 by omega)
  refine z_aload_n C 1 dL_law_579 rfl rfl ?_
  refine z_arg C hX hbl hbA (k := k) (j := 1) (by omega) hL (by decide) rfl rfl dL_law_580 dL_law_581 dL_law_582 dL_law_583 dL_law_584 ?_
  refine z_goti1 (cs2 := 38 + 4 * k) (ss2 := 6071 + 28 * k) C (z_runV C (c_X9_count l G q P h.1 S (MW G q2 T) 2000 (xs (4 * k + 1)) hx) (cwV 1 C.hts gL_law_X9_count rfl rfl rfl (by decide +kernel) ⟨Nat.le_of_ble_eq_true rfl, Nat.le_of_ble_eq_true rfl⟩) 0 rfl rfl rfl rfl (Nat.le_of_ble_eq_true rfl) dL_law_585 ⟨by show 38 + 4 * k + 0 ≤ 600000; omega, by show 6071 + 28 * k + 0 ≤ 7302250; omega⟩) rfl rfl ?_
  refine z_aload_n C 2 dL_law_588 rfl rfl ?_
  refine z_arg C hX hbl hbA (k := k) (j := 1) (by omega) hL (by decide) rfl rfl dL_law_589 dL_law_590 dL_law_591 dL_law_592 dL_law_593 ?_
  refine z_world (w2 := MW G q2 T ++ XW G q P S) (fun H h => va_P.swap (a := []) h) (fun h => va_D.swap (a := []) h) ?_
  refine z_goti1 (cs2 := 38 + 4 * k) (ss2 := 6071 + 28 * k) C (z_runV C (c_X10_count l G q2 T (XW G q P S) 2000 (xs (4 * k + 1)) hm) (cwV 1 C.hts gL_law_X10_count rfl rfl rfl (by decide +kernel) ⟨Nat.le_of_ble_eq_true rfl, Nat.le_of_ble_eq_true rfl⟩) 0 rfl rfl rfl rfl (Nat.le_of_ble_eq_true rfl) dL_law_594 ⟨by show 38 + 4 * k + 0 ≤ 600000; omega, by show 6071 + 28 * k + 0 ≤ 7302250; omega⟩) rfl rfl ?_
  refine z_world (w2 := XW G q P S ++ MW G q2 T) (fun H h => va_P.swap (a := []) h) (fun h => va_D.swap (a := []) h) ?_
  refine z_icmp_eq (tgt := 616) C dL_law_597 (by decide) (fun _ => ?_) (fun ne => absurd rfl ne)
  exact z_widen (by omega) (by omega) (nx _ _ _ hr)
set_option maxHeartbeats 4000000 in
set_option maxRecDepth 100000 in
theorem law_digest {p : Program} {l : Launch} {e : Env} {s : State} {m : MethodId} {below : List Frame} {meth : Method} {c : Code} {b L : Nat} {xs : Nat → Int32} {G : zGT} (C : zC p s m #[Value.ref b] meth c (fun q => s.heap.size ≤ q) G cL_law 4 ret RL meth.name wsL_law) (hX : va_X b L xs s s.heap) (hbl : b < s.heap.size) {k : Nat} (hk : 4 * k + 4 ≤ L) (hL : L ≤ 256) {q q2 : Nat → Nat} {P : XP} {S : XS} {T : MS} (h : RR k P S T) (nx : ∀ P S T, RR (k + 1) P S T → Z p l e room_1 s m #[Value.ref b] below meth c (fun q => s.heap.size ≤ q) G 4 (lw_Z below #[Value.ref b] s) (38 + 4 * (k + 1)) (6071 + 28 * (k + 1)) (XW G q P S ++ MW G q2 T) [(0, .ref b), (1, .ref (q 0)), (2, .ref (q2 0)), (3, .int (nI (4 * k)))] 616 []) : Z p l e room_1 s m #[Value.ref b] below meth c (fun q => s.heap.size ≤ q) G 4 (lw_Z below #[Value.ref b] s) (38 + 4 * k) (6071 + 28 * k) (XW G q P S ++ MW G q2 T) [(0, .ref b), (1, .ref (q 0)), (2, .ref (q2 0)), (3, .int (nI (4 * k)))] 602 [] := by
  have hbA : ¬ (fun q : Nat => s.heap.size ≤ q) b := Nat.not_le.mpr hbl
  obtain ⟨r, T', hx, hm, hr⟩ := op_digest (fu := 2000) h (Nat.le_refl 2000)
  refine z_aload_n C 1 dL_law_602 rfl rfl ?_
  refine z_gotl1 (cs2 := 38 + 4 * k) (ss2 := 6071 + 28 * k) C (z_runV C (c_X9_digest l G q P h.1 S (MW G q2 T) 2000 hx) (cwV 0 C.hts gL_law_X9_digest rfl rfl rfl (by decide +kernel) ⟨Nat.le_of_ble_eq_true rfl, Nat.le_of_ble_eq_true rfl⟩) 0 rfl rfl rfl rfl (Nat.le_of_ble_eq_true rfl) dL_law_603 ⟨by show 38 + 4 * k + 0 ≤ 600000; omega, by show 6071 + 28 * k + 0 ≤ 7302250; omega⟩) rfl rfl ?_
  refine z_aload_n C 2 dL_law_606 rfl rfl ?_
  refine z_world (w2 := MW G q2 T ++ XW G q P S) (fun H h => va_P.swap (a := []) h) (fun h => va_D.swap (a := []) h) ?_
  refine z_gotl1 (cs2 := 38 + 4 * k) (ss2 := 6071 + 28 * k) C (z_runV C (c_X10_digest l G q2 T (XW G q P S) 2000 hm) (cwV 0 C.hts gL_law_X10_digest rfl rfl rfl (by decide +kernel) ⟨Nat.le_of_ble_eq_true rfl, Nat.le_of_ble_eq_true rfl⟩) 0 rfl rfl rfl rfl (Nat.le_of_ble_eq_true rfl) dL_law_607 ⟨by show 38 + 4 * k + 0 ≤ 600000; omega, by show 6071 + 28 * k + 0 ≤ 7302250; omega⟩) rfl rfl ?_
  refine z_world (w2 := XW G q P S ++ MW G q2 T') (fun H h => va_P.swap (a := []) h) (fun h => va_D.swap (a := []) h) ?_
  refine z_lcmp C dL_law_610 ?_
  refine z_if_eq (tgt := 616) C dL_law_611 (by decide) (fun _ => ?_) (fun ne => absurd (lcmp_self r) ne)
  exact z_widen (by omega) (by omega) (nx _ _ _ hr)
