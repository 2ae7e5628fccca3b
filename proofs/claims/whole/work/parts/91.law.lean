set_option maxHeartbeats 4000000 in
set_option maxRecDepth 100000 in
theorem law_letter {p : Program} {l : Launch} {e : Env} {s : State} {m : MethodId} {below : List Frame} {meth : Method} {c : Code} {b L : Nat} {xs : Nat → Int32} {G : zGT} (C : zC p s m #[Value.ref b] meth c (fun q => s.heap.size ≤ q) G cL_law 4 ret RL meth.name wsL_law) (hX : va_X b L xs s s.heap) (hbl : b < s.heap.size) {k : Nat} (hk : 4 * k + 4 ≤ L) (hL : L ≤ 256) {q q2 : Nat → Nat} {P : XP} {S : XS} {T : MS} (h : RR k P S T) (nx : ∀ P S T, RR (k + 1) P S T → Z p l e room_1 s m #[Value.ref b] below meth c (fun q => s.heap.size ≤ q) G 4 (lw_Z below #[Value.ref b] s) (38 + 4 * (k + 1)) (6071 + 28 * (k + 1)) (XW G q P S ++ MW G q2 T) [(0, .ref b), (1, .ref (q 0)), (2, .ref (q2 0)), (3, .int (nI (4 * k)))] 616 []) : Z p l e room_1 s m #[Value.ref b] below meth c (fun q => s.heap.size ≤ q) G 4 (lw_Z below #[Value.ref b] s) (38 + 4 * k) (6071 + 28 * k) (XW G q P S ++ MW G q2 T) [(0, .ref b), (1, .ref (q 0)), (2, .ref (q2 0)), (3, .int (nI (4 * k)))] 132 [] := by
  have hbA : ¬ (fun q : Nat => s.heap.size ≤ q) b := Nat.not_le.mpr hbl
  obtain ⟨r, S', T', hx, hm, hr⟩ := op_letter h (xs (4 * k + 1))
  refine z_aload_n C 1 dL_law_132 rfl rfl ?_
  refine z_arg C hX hbl hbA (k := k) (j := 1) (by omega) hL (by decide) rfl rfl dL_law_133 dL_law_134 dL_law_135 dL_law_136 dL_law_137 ?_
  refine z_goti1 (cs2 := 38 + 4 * k) (ss2 := 6071 + 28 * k) C (z_runV C (c_X9_letter l G q P h.1 S (MW G q2 T) (xs (4 * k + 1)) hx) (cwV 1 C.hts gL_law_X9_letter rfl rfl rfl (by decide +kernel) ⟨Nat.le_of_ble_eq_true rfl, Nat.le_of_ble_eq_true rfl⟩) 0 rfl rfl rfl rfl (Nat.le_of_ble_eq_true rfl) dL_law_138 ⟨by show 38 + 4 * k + 0 ≤ 600000; omega, by show 6071 + 28 * k + 0 ≤ 7302250; omega⟩) rfl rfl ?_
  refine z_aload_n C 2 dL_law_141 rfl rfl ?_
  refine z_arg C hX hbl hbA (k := k) (j := 1) (by omega) hL (by decide) rfl rfl dL_law_142 dL_law_143 dL_law_144 dL_law_145 dL_law_146 ?_
  refine z_world (w2 := MW G q2 T ++ XW G q P S') (fun H h => va_P.swap (a := []) h) (fun h => va_D.swap (a := []) h) ?_
  refine z_goti1 (cs2 := 38 + 4 * k) (ss2 := 6071 + 28 * k) C (z_runV C (c_X10_letter l G q2 T (XW G q P S') (xs (4 * k + 1)) hm) (cwV 1 C.hts gL_law_X10_letter rfl rfl rfl (by decide +kernel) ⟨Nat.le_of_ble_eq_true rfl, Nat.le_of_ble_eq_true rfl⟩) 0 rfl rfl rfl rfl (Nat.le_of_ble_eq_true rfl) dL_law_147 ⟨by show 38 + 4 * k + 0 ≤ 600000; omega, by show 6071 + 28 * k + 0 ≤ 7302250; omega⟩) rfl rfl ?_
  refine z_world (w2 := XW G q P S' ++ MW G q2 T') (fun H h => va_P.swap (a := []) h) (fun h => va_D.swap (a := []) h) ?_
  refine z_icmp_eq (tgt := 616) C dL_law_150 (by decide) (fun _ => ?_) (fun ne => absurd rfl ne)
  exact z_widen (by omega) (by omega) (nx _ _ _ hr)
set_option maxHeartbeats 4000000 in
set_option maxRecDepth 100000 in
theorem law_blank {p : Program} {l : Launch} {e : Env} {s : State} {m : MethodId} {below : List Frame} {meth : Method} {c : Code} {b L : Nat} {xs : Nat → Int32} {G : zGT} (C : zC p s m #[Value.ref b] meth c (fun q => s.heap.size ≤ q) G cL_law 4 ret RL meth.name wsL_law) (hX : va_X b L xs s s.heap) (hbl : b < s.heap.size) {k : Nat} (hk : 4 * k + 4 ≤ L) (hL : L ≤ 256) {q q2 : Nat → Nat} {P : XP} {S : XS} {T : MS} (h : RR k P S T) (nx : ∀ P S T, RR (k + 1) P S T → Z p l e room_1 s m #[Value.ref b] below meth c (fun q => s.heap.size ≤ q) G 4 (lw_Z below #[Value.ref b] s) (38 + 4 * (k + 1)) (6071 + 28 * (k + 1)) (XW G q P S ++ MW G q2 T) [(0, .ref b), (1, .ref (q 0)), (2, .ref (q2 0)), (3, .int (nI (4 * k)))] 616 []) : Z p l e room_1 s m #[Value.ref b] below meth c (fun q => s.heap.size ≤ q) G 4 (lw_Z below #[Value.ref b] s) (38 + 4 * k) (6071 + 28 * k) (XW G q P S ++ MW G q2 T) [(0, .ref b), (1, .ref (q 0)), (2, .ref (q2 0)), (3, .int (nI (4 * k)))] 155 [] := by
  have hbA : ¬ (fun q : Nat => s.heap.size ≤ q) b := Nat.not_le.mpr hbl
  obtain ⟨he, hr⟩ := op_blank h 
  refine z_aload_n C 1 dL_law_155 rfl rfl ?_
  refine z_goti1 (cs2 := 38 + 4 * k) (ss2 := 6071 + 28 * k) C (z_runV C (c_X9_blank l G q P h.1 S (MW G q2 T)) (cwV 0 C.hts gL_law_X9_blank rfl rfl rfl (by decide +kernel) ⟨Nat.le_of_ble_eq_true rfl, Nat.le_of_ble_eq_true rfl⟩) 0 rfl rfl rfl rfl (Nat.le_of_ble_eq_true rfl) dL_law_156 ⟨by show 38 + 4 * k + 0 ≤ 600000; omega, by show 6071 + 28 * k + 0 ≤ 7302250; omega⟩) rfl rfl ?_
  refine z_aload_n C 2 dL_law_159 rfl rfl ?_
  refine z_world (w2 := MW G q2 T ++ XW G q P (f_X9_blank P S).2) (fun H h => va_P.swap (a := []) h) (fun h => va_D.swap (a := []) h) ?_
  refine z_goti1 (cs2 := 38 + 4 * k) (ss2 := 6071 + 28 * k) C (z_runV C (c_X10_blank l G q2 T (XW G q P (f_X9_blank P S).2)) (cwV 0 C.hts gL_law_X10_blank rfl rfl rfl (by decide +kernel) ⟨Nat.le_of_ble_eq_true rfl, Nat.le_of_ble_eq_true rfl⟩) 0 rfl rfl rfl rfl (Nat.le_of_ble_eq_true rfl) dL_law_160 ⟨by show 38 + 4 * k + 0 ≤ 600000; omega, by show 6071 + 28 * k + 0 ≤ 7302250; omega⟩) rfl rfl ?_
  refine z_world (w2 := XW G q P (f_X9_blank P S).2 ++ MW G q2 (f_X10_blank T).2) (fun H h => va_P.swap (a := []) h) (fun h => va_D.swap (a := []) h) ?_
  refine z_icmp_eq (tgt := 616) C dL_law_163 (by decide) (fun _ => ?_) (fun ne => absurd he ne)
  exact z_widen (by omega) (by omega) (nx _ _ _ hr)
set_option maxHeartbeats 4000000 in
set_option maxRecDepth 100000 in
theorem law_fault {p : Program} {l : Launch} {e : Env} {s : State} {m : MethodId} {below : List Frame} {meth : Method} {c : Code} {b L : Nat} {xs : Nat → Int32} {G : zGT} (C : zC p s m #[Value.ref b] meth c (fun q => s.heap.size ≤ q) G cL_law 4 ret RL meth.name wsL_law) (hX : va_X b L xs s s.heap) (hbl : b < s.heap.size) {k : Nat} (hk : 4 * k + 4 ≤ L) (hL : L ≤ 256) {q q2 : Nat → Nat} {P : XP} {S : XS} {T : MS} (h : RR k P S T) (nx : ∀ P S T, RR (k + 1) P S T → Z p l e room_1 s m #[Value.ref b] below meth c (fun q => s.heap.size ≤ q) G 4 (lw_Z below #[Value.ref b] s) (38 + 4 * (k + 1)) (6071 + 28 * (k + 1)) (XW G q P S ++ MW G q2 T) [(0, .ref b), (1, .ref (q 0)), (2, .ref (q2 0)), (3, .int (nI (4 * k)))] 616 []) : Z p l e room_1 s m #[Value.ref b] below meth c (fun q => s.heap.size ≤ q) G 4 (lw_Z below #[Value.ref b] s) (38 + 4 * k) (6071 + 28 * k) (XW G q P S ++ MW G q2 T) [(0, .ref b), (1, .ref (q 0)), (2, .ref (q2 0)), (3, .int (nI (4 * k)))] 168 [] := by
  have hbA : ¬ (fun q : Nat => s.heap.size ≤ q) b := Nat.not_le.mpr hbl
  obtain ⟨r, T', hx, hm, hr⟩ := op_fault (fu := 2000) h (Nat.le_refl 2000)
  refine z_aload_n C 1 dL_law_168 rfl rfl ?_
  refine z_goti1 (cs2 := 38 + 4 * k) (ss2 := 6071 + 28 * k) C (z_runV C (c_X9_fault l G q P h.1 S (MW G q2 T) 2000 hx) (cwV 0 C.hts gL_law_X9_fault rfl rfl rfl (by decide +kernel) ⟨Nat.le_of_ble_eq_true rfl, Nat.le_of_ble_eq_true rfl⟩) 0 rfl rfl rfl rfl (Nat.le_of_ble_eq_true rfl) dL_law_169 ⟨by show 38 + 4 * k + 0 ≤ 600000; omega, by show 6071 + 28 * k + 0 ≤ 7302250; omega⟩) rfl rfl ?_
  refine z_aload_n C 2 dL_law_172 rfl rfl ?_
  refine z_world (w2 := MW G q2 T ++ XW G q P S) (fun H h => va_P.swap (a := []) h) (fun h => va_D.swap (a := []) h) ?_
  refine z_goti1 (cs2 := 38 + 4 * k) (ss2 := 6071 + 28 * k) C (z_runV C (c_X10_fault l G q2 T (XW G q P S) 2000 hm) (cwV 0 C.hts gL_law_X10_fault rfl rfl rfl (by decide +kernel) ⟨Nat.le_of_ble_eq_true rfl, Nat.le_of_ble_eq_true rfl⟩) 0 rfl rfl rfl rfl (Nat.le_of_ble_eq_true rfl) dL_law_173 ⟨by show 38 + 4 * k + 0 ≤ 600000; omega, by show 6071 + 28 * k + 0 ≤ 7302250; omega⟩) rfl rfl ?_
  refine z_world (w2 := XW G q P S ++ MW G q2 T') (fun H h => va_P.swap (a := []) h) (fun h => va_D.swap (a := []) h) ?_
  refine z_icmp_eq (tgt := 616) C dL_law_176 (by decide) (fun _ => ?_) (fun ne => absurd rfl ne)
  exact z_widen (by omega) (by omega) (nx _ _ _ hr)
set_option maxHeartbeats 4000000 in
set_option maxRecDepth 100000 in
theorem law_kitchen {p : Program} {l : Launch} {e : Env} {s : State} {m : MethodId} {below : List Frame} {meth : Method} {c : Code} {b L : Nat} {xs : Nat → Int32} {G : zGT} (C : zC p s m #[Value.ref b] meth c (fun q => s.heap.size ≤ q) G cL_law 4 ret RL meth.name wsL_law) (hX : va_X b L xs s s.heap) (hbl : b < s.heap.size) {k : Nat} (hk : 4 * k + 4 ≤ L) (hL : L ≤ 256) {q q2 : Nat → Nat} {P : XP} {S : XS} {T : MS} (h : RR k P S T) (nx : ∀ P S T, RR (k + 1) P S T → Z p l e room_1 s m #[Value.ref b] below meth c (fun q => s.heap.size ≤ q) G 4 (lw_Z below #[Value.ref b] s) (38 + 4 * (k + 1)) (6071 + 28 * (k + 1)) (XW G q P S ++ MW G q2 T) [(0, .ref b), (1, .ref (q 0)), (2, .ref (q2 0)), (3, .int (nI (4 * k)))] 616 []) : Z p l e room_1 s m #[Value.ref b] below meth c (fun q => s.heap.size ≤ q) G 4 (lw_Z below #[Value.ref b] s) (38 + 4 * k) (6071 + 28 * k) (XW G q P S ++ MW G q2 T) [(0, .ref b), (1, .ref (q 0)), (2, .ref (q2 0)), (3, .int (nI (4 * k)))] 181 [] := by
  have hbA : ¬ (fun q : Nat => s.heap.size ≤ q) b := Nat.not_le.mpr hbl
  obtain ⟨r0, n, kf, wf, sp, hd, r, T', h1, h2, h3, h4, h5, h6⟩ := op_kitchen (fu := 2000) h (by omega) (Nat.le_refl 2000)
  refine z_aload_n C 1 dL_law_181 rfl rfl ?_
  refine z_goti (cs2 := 38 + 4 * k + 4) (ss2 := 6071 + 28 * k + 28) C (z_runV C (c_X9_kitchen l G q P S (MW G q2 T) 2000 r0 h1 n kf wf sp hd h2 h3) (cwV 0 C.hts gL_law_X9_kitchen rfl rfl rfl (by decide +kernel) ⟨Nat.le_of_ble_eq_true rfl, Nat.le_of_ble_eq_true rfl⟩) 0 rfl rfl rfl rfl (Nat.le_of_ble_eq_true rfl) dL_law_182 ⟨by show 38 + 4 * k + 4 ≤ 600000; omega, by show 6071 + 28 * k + 28 ≤ 7302250; omega⟩) rfl rfl (fun rr u hu => ?_)
  rcases hu with ⟨e0, e1, rfl⟩ | ⟨e0, e1, pa, f, hf, rfl⟩
  · subst e1
    refine z_aload_n C 2 dL_law_185 rfl rfl ?_
    refine z_world (w2 := MW G q2 T ++ XW G q P S) (fun H h => va_P.swap (a := []) h) (fun h => va_D.swap (a := []) h) ?_
    refine z_goti1 (cs2 := 38 + 4 * k + 4) (ss2 := 6071 + 28 * k + 28) C (z_runV C (c_X10_kitchen l G q2 T (XW G q P S) 2000 h4) (cwV 0 C.hts gL_law_X10_kitchen rfl rfl rfl (by decide +kernel) ⟨Nat.le_of_ble_eq_true rfl, Nat.le_of_ble_eq_true rfl⟩) 0 rfl rfl rfl rfl (Nat.le_of_ble_eq_true rfl) dL_law_186 ⟨by show 38 + 4 * k + 4 + 0 ≤ 600000; omega, by show 6071 + 28 * k + 28 + 0 ≤ 7302250; omega⟩) rfl rfl ?_
    refine z_world (w2 := XW G q P S ++ MW G q2 T') (fun H h => va_P.swap (a := []) h) (fun h => va_D.swap (a := []) h) ?_
    refine z_icmp_eq (tgt := 616) C dL_law_189 (by decide) (fun _ => ?_) (fun ne => absurd ((h5 e0).1).symm ne)
    exact z_widen (by omega) (by omega) (nx _ _ _ ((h5 e0).2))
  · subst e1
    refine z_aload_n C 2 dL_law_185 rfl rfl ?_
    refine z_world (w2 := MW G q2 T ++ XW G q (xPnew n kf pa f) (xKit S n wf sp hd)) (fun H h => va_P.swap (a := []) h) (fun h => va_D.swap (a := []) h) ?_
    refine z_goti1 (cs2 := 38 + 4 * k + 4) (ss2 := 6071 + 28 * k + 28) C (z_runV C (c_X10_kitchen l G q2 T (XW G q (xPnew n kf pa f) (xKit S n wf sp hd)) 2000 h4) (cwV 0 C.hts gL_law_X10_kitchen rfl rfl rfl (by decide +kernel) ⟨Nat.le_of_ble_eq_true rfl, Nat.le_of_ble_eq_true rfl⟩) 0 rfl rfl rfl rfl (Nat.le_of_ble_eq_true rfl) dL_law_186 ⟨by show 38 + 4 * k + 4 + 0 ≤ 600000; omega, by show 6071 + 28 * k + 28 + 0 ≤ 7302250; omega⟩) rfl rfl ?_
    refine z_world (w2 := XW G q (xPnew n kf pa f) (xKit S n wf sp hd) ++ MW G q2 T') (fun H h => va_P.swap (a := []) h) (fun h => va_D.swap (a := []) h) ?_
    refine z_icmp_eq (tgt := 616) C dL_law_189 (by decide) (fun _ => ?_) (fun ne => absurd ((h6 e0).1).symm ne)
    exact z_widen (by omega) (by omega) (nx _ _ _ ((h6 e0).2 pa f hf))
set_option maxHeartbeats 4000000 in
set_option maxRecDepth 100000 in
theorem law_about {p : Program} {l : Launch} {e : Env} {s : State} {m : MethodId} {below : List Frame} {meth : Method} {c : Code} {b L : Nat} {xs : Nat → Int32} {G : zGT} (C : zC p s m #[Value.ref b] meth c (fun q => s.heap.size ≤ q) G cL_law 4 ret RL meth.name wsL_law) (hX : va_X b L xs s s.heap) (hbl : b < s.heap.size) {k : Nat} (hk : 4 * k + 4 ≤ L) (hL : L ≤ 256) {q q2 : Nat → Nat} {P : XP} {S : XS} {T : MS} (h : RR k P S T) (nx : ∀ P S T, RR (k + 1) P S T → Z p l e room_1 s m #[Value.ref b] below meth c (fun q => s.heap.size ≤ q) G 4 (lw_Z below #[Value.ref b] s) (38 + 4 * (k + 1)) (6071 + 28 * (k + 1)) (XW G q P S ++ MW G q2 T) [(0, .ref b), (1, .ref (q 0)), (2, .ref (q2 0)), (3, .int (nI (4 * k)))] 616 []) : Z p l e room_1 s m #[Value.ref b] below meth c (fun q => s.heap.size ≤ q) G 4 (lw_Z below #[Value.ref b] s) (38 + 4 * k) (6071 + 28 * k) (XW G q P S ++ MW G q2 T) [(0, .ref b), (1, .ref (q 0)), (2, .ref (q2 0)), (3, .int (nI (4 * k)))] 194 [] := by
  have hbA : ¬ (fun q : Nat => s.heap.size ≤ q) b := Nat.not_le.mpr hbl
  have hm := op_about h (xs (4 * k + 1)) (xs (4 * k + 2))
  have hr := h.mono (show k ≤ k + 1 by omega)
  refine z_aload_n C 1 dL_law_194 rfl rfl ?_
  refine z_arg C hX hbl hbA (k := k) (j := 1) (by omega) hL (by decide) rfl rfl dL_law_195 dL_law_196 dL_law_197 dL_law_198 dL_law_199 ?_
  refine z_arg C hX hbl hbA (k := k) (j := 2) (by omega) hL (by decide) rfl rfl dL_law_200 dL_law_201 dL_law_202 dL_law_203 dL_law_204 ?_
  refine z_goti1 (cs2 := 38 + 4 * k) (ss2 := 6071 + 28 * k) C (z_runV C (c_X9_about l G q P h.1 S (MW G q2 T) (xs (4 * k + 1)) (xs (4 * k + 2))) (cwV 2 C.hts gL_law_X9_about rfl rfl rfl (by decide +kernel) ⟨Nat.le_of_ble_eq_true rfl, Nat.le_of_ble_eq_true rfl⟩) 0 rfl rfl rfl rfl (Nat.le_of_ble_eq_true rfl) dL_law_205 ⟨by show 38 + 4 * k + 0 ≤ 600000; omega, by show 6071 + 28 * k + 0 ≤ 7302250; omega⟩) rfl rfl ?_
  refine z_aload_n C 2 dL_law_208 rfl rfl ?_
  refine z_arg C hX hbl hbA (k := k) (j := 1) (by omega) hL (by decide) rfl rfl dL_law_209 dL_law_210 dL_law_211 dL_law_212 dL_law_213 ?_
  refine z_arg C hX hbl hbA (k := k) (j := 2) (by omega) hL (by decide) rfl rfl dL_law_214 dL_law_215 dL_law_216 dL_law_217 dL_law_218 ?_
  refine z_world (w2 := MW G q2 T ++ XW G q P S) (fun H h => va_P.swap (a := []) h) (fun h => va_D.swap (a := []) h) ?_
  refine z_goti1 (cs2 := 38 + 4 * k) (ss2 := 6071 + 28 * k) C (z_runV C (c_X10_about l G q2 T (XW G q P S) (xs (4 * k + 1)) (xs (4 * k + 2)) hm) (cwV 2 C.hts gL_law_X10_about rfl rfl rfl (by decide +kernel) ⟨Nat.le_of_ble_eq_true rfl, Nat.le_of_ble_eq_true rfl⟩) 0 rfl rfl rfl rfl (Nat.le_of_ble_eq_true rfl) dL_law_219 ⟨by show 38 + 4 * k + 0 ≤ 600000; omega, by show 6071 + 28 * k + 0 ≤ 7302250; omega⟩) rfl rfl ?_
  refine z_world (w2 := XW G q P S ++ MW G q2 T) (fun H h => va_P.swap (a := []) h) (fun h => va_D.swap (a := []) h) ?_
  refine z_icmp_eq (tgt := 616) C dL_law_222 (by decide) (fun _ => ?_) (fun ne => absurd rfl ne)
  exact z_widen (by omega) (by omega) (nx _ _ _ hr)
set_option maxHeartbeats 4000000 in
set_option maxRecDepth 100000 in
theorem law_as {p : Program} {l : Launch} {e : Env} {s : State} {m : MethodId} {below : List Frame} {meth : Method} {c : Code} {b L : Nat} {xs : Nat → Int32} {G : zGT} (C : zC p s m #[Value.ref b] meth c (fun q => s.heap.size ≤ q) G cL_law 4 ret RL meth.name wsL_law) (hX : va_X b L xs s s.heap) (hbl : b < s.heap.size) {k : Nat} (hk : 4 * k + 4 ≤ L) (hL : L ≤ 256) {q q2 : Nat → Nat} {P : XP} {S : XS} {T : MS} (h : RR k P S T) (nx : ∀ P S T, RR (k + 1) P S T → Z p l e room_1 s m #[Value.ref b] below meth c (fun q => s.heap.size ≤ q) G 4 (lw_Z below #[Value.ref b] s) (38 + 4 * (k + 1)) (6071 + 28 * (k + 1)) (XW G q P S ++ MW G q2 T) [(0, .ref b), (1, .ref (q 0)), (2, .ref (q2 0)), (3, .int (nI (4 * k)))] 616 []) : Z p l e room_1 s m #[Value.ref b] below meth c (fun q => s.heap.size ≤ q) G 4 (lw_Z below #[Value.ref b] s) (38 + 4 * k) (6071 + 28 * k) (XW G q P S ++ MW G q2 T) [(0, .ref b), (1, .ref (q 0)), (2, .ref (q2 0)), (3, .int (nI (4 * k)))] 227 [] := by
  have hbA : ¬ (fun q : Nat => s.heap.size ≤ q) b := Nat.not_le.mpr hbl
  have hm := op_as h (xs (4 * k + 1)) (xs (4 * k + 2))
  have hr := h.mono (show k ≤ k + 1 by omega)
  refine z_aload_n C 1 dL_law_227 rfl rfl ?_
  refine z_arg C hX hbl hbA (k := k) (j := 1) (by omega) hL (by decide) rfl rfl dL_law_228 dL_law_229 dL_law_230 dL_law_231 dL_law_232 ?_
  refine z_arg C hX hbl hbA (k := k) (j := 2) (by omega) hL (by decide) rfl rfl dL_law_233 dL_law_234 dL_law_235 dL_law_236 dL_law_237 ?_
  refine z_goti1 (cs2 := 38 + 4 * k) (ss2 := 6071 + 28 * k) C (z_runV C (c_X9_as l G q P h.1 S (MW G q2 T) (xs (4 * k + 1)) (xs (4 * k + 2))) (cwV 2 C.hts gL_law_X9_as rfl rfl rfl (by decide +kernel) ⟨Nat.le_of_ble_eq_true rfl, Nat.le_of_ble_eq_true rfl⟩) 0 rfl rfl rfl rfl (Nat.le_of_ble_eq_true rfl) dL_law_238 ⟨by show 38 + 4 * k + 0 ≤ 600000; omega, by show 6071 + 28 * k + 0 ≤ 7302250; omega⟩) rfl rfl ?_
  refine z_aload_n C 2 dL_law_241 rfl rfl ?_
  refine z_arg C hX hbl hbA (k := k) (j := 1) (by omega) hL (by decide) rfl rfl dL_law_242 dL_law_243 dL_law_244 dL_law_245 dL_law_246 ?_
  refine z_arg C hX hbl hbA (k := k) (j := 2) (by omega) hL (by decide) rfl rfl dL_law_247 dL_law_248 dL_law_249 dL_law_250 dL_law_251 ?_
  refine z_world (w2 := MW G q2 T ++ XW G q P S) (fun H h => va_P.swap (a := []) h) (fun h => va_D.swap (a := []) h) ?_
  refine z_goti1 (cs2 := 38 + 4 * k) (ss2 := 6071 + 28 * k) C (z_runV C (c_X10_as l G q2 T (XW G q P S) (xs (4 * k + 1)) (xs (4 * k + 2)) hm) (cwV 2 C.hts gL_law_X10_as rfl rfl rfl (by decide +kernel) ⟨Nat.le_of_ble_eq_true rfl, Nat.le_of_ble_eq_true rfl⟩) 0 rfl rfl rfl rfl (Nat.le_of_ble_eq_true rfl) dL_law_252 ⟨by show 38 + 4 * k + 0 ≤ 600000; omega, by show 6071 + 28 * k + 0 ≤ 7302250; omega⟩) rfl rfl ?_
  refine z_world (w2 := XW G q P S ++ MW G q2 T) (fun H h => va_P.swap (a := []) h) (fun h => va_D.swap (a := []) h) ?_
  refine z_icmp_eq (tgt := 616) C dL_law_255 (by decide) (fun _ => ?_) (fun ne => absurd rfl ne)
  exact z_widen (by omega) (by omega) (nx _ _ _ hr)
set_option maxHeartbeats 4000000 in
set_option maxRecDepth 100000 in
theorem law_boil {p : Program} {l : Launch} {e : Env} {s : State} {m : MethodId} {below : List Frame} {meth : Method} {c : Code} {b L : Nat} {xs : Nat → Int32} {G : zGT} (C : zC p s m #[Value.ref b] meth c (fun q => s.heap.size ≤ q) G cL_law 4 ret RL meth.name wsL_law) (hX : va_X b L xs s s.heap) (hbl : b < s.heap.size) {k : Nat} (hk : 4 * k + 4 ≤ L) (hL : L ≤ 256) {q q2 : Nat → Nat} {P : XP} {S : XS} {T : MS} (h : RR k P S T) (nx : ∀ P S T, RR (k + 1) P S T → Z p l e room_1 s m #[Value.ref b] below meth c (fun q => s.heap.size ≤ q) G 4 (lw_Z below #[Value.ref b] s) (38 + 4 * (k + 1)) (6071 + 28 * (k + 1)) (XW G q P S ++ MW G q2 T) [(0, .ref b), (1, .ref (q 0)), (2, .ref (q2 0)), (3, .int (nI (4 * k)))] 616 []) : Z p l e room_1 s m #[Value.ref b] below meth c (fun q => s.heap.size ≤ q) G 4 (lw_Z below #[Value.ref b] s) (38 + 4 * k) (6071 + 28 * k) (XW G q P S ++ MW G q2 T) [(0, .ref b), (1, .ref (q 0)), (2, .ref (q2 0)), (3, .int (nI (4 * k)))] 260 [] := by
  have hbA : ¬ (fun q : Nat => s.heap.size ≤ q) b := Nat.not_le.mpr hbl
  obtain ⟨r, S', T', hx, hm, hr⟩ := op_boil h (xs (4 * k + 1))
  refine z_aload_n C 1 dL_law_260 rfl rfl ?_
  refine z_arg C hX hbl hbA (k := k) (j := 1) (by omega) hL (by decide) rfl rfl dL_law_261 dL_law_262 dL_law_263 dL_law_264 dL_law_265 ?_
  refine z_goti1 (cs2 := 38 + 4 * k) (ss2 := 6071 + 28 * k) C (z_runV C (c_X9_boil l G q P h.1 S (MW G q2 T) (xs (4 * k + 1))) (cwV 1 C.hts gL_law_X9_boil rfl rfl rfl (by decide +kernel) ⟨Nat.le_of_ble_eq_true rfl, Nat.le_of_ble_eq_true rfl⟩) 0 rfl rfl rfl rfl (Nat.le_of_ble_eq_true rfl) dL_law_266 ⟨by show 38 + 4 * k + 0 ≤ 600000; omega, by show 6071 + 28 * k + 0 ≤ 7302250; omega⟩) rfl rfl ?_
  rw [hx]
  refine z_aload_n C 2 dL_law_269 rfl rfl ?_
  refine z_arg C hX hbl hbA (k := k) (j := 1) (by omega) hL (by decide) rfl rfl dL_law_270 dL_law_271 dL_law_272 dL_law_273 dL_law_274 ?_
  refine z_world (w2 := MW G q2 T ++ XW G q P S') (fun H h => va_P.swap (a := []) h) (fun h => va_D.swap (a := []) h) ?_
  refine z_goti1 (cs2 := 38 + 4 * k) (ss2 := 6071 + 28 * k) C (z_runV C (c_X10_boil l G q2 T (XW G q P S') (xs (4 * k + 1)) hm) (cwV 1 C.hts gL_law_X10_boil rfl rfl rfl (by decide +kernel) ⟨Nat.le_of_ble_eq_true rfl, Nat.le_of_ble_eq_true rfl⟩) 0 rfl rfl rfl rfl (Nat.le_of_ble_eq_true rfl) dL_law_275 ⟨by show 38 + 4 * k + 0 ≤ 600000; omega, by show 6071 + 28 * k + 0 ≤ 7302250; omega⟩) rfl rfl ?_
  refine z_world (w2 := XW G q P S' ++ MW G q2 T') (fun H h => va_P.swap (a := []) h) (fun h => va_D.swap (a := []) h) ?_
  refine z_icmp_eq (tgt := 616) C dL_law_278 (by decide) (fun _ => ?_) (fun ne => absurd rfl ne)
  exact z_widen (by omega) (by omega) (nx _ _ _ hr)
set_option maxHeartbeats 4000000 in
set_option maxRecDepth 100000 in
theorem law_wind {p : Program} {l : Launch} {e : Env} {s : State} {m : MethodId} {below : List Frame} {meth : Method} {c : Code} {b L : Nat} {xs : Nat → Int32} {G : zGT} (C : zC p s m #[Value.ref b] meth c (fun q => s.heap.size ≤ q) G cL_law 4 ret RL meth.name wsL_law) (hX : va_X b L xs s s.heap) (hbl : b < s.heap.size) {k : Nat} (hk : 4 * k + 4 ≤ L) (hL : L ≤ 256) {q q2 : Nat → Nat} {P : XP} {S : XS} {T : MS} (h : RR k P S T) (nx : ∀ P S T, RR (k + 1) P S T → Z p l e room_1 s m #[Value.ref b] below meth c (fun q => s.heap.size ≤ q) G 4 (lw_Z below #[Value.ref b] s) (38 + 4 * (k + 1)) (6071 + 28 * (k + 1)) (XW G q P S ++ MW G q2 T) [(0, .ref b), (1, .ref (q 0)), (2, .ref (q2 0)), (3, .int (nI (4 * k)))] 616 []) : Z p l e room_1 s m #[Value.ref b] below meth c (fun q => s.heap.size ≤ q) G 4 (lw_Z below #[Value.ref b] s) (38 + 4 * k) (6071 + 28 * k) (XW G q P S ++ MW G q2 T) [(0, .ref b), (1, .ref (q 0)), (2, .ref (q2 0)), (3, .int (nI (4 * k)))] 283 [] := by
  have hbA : ¬ (fun q : Nat => s.heap.size ≤ q) b := Nat.not_le.mpr hbl
  obtain ⟨he, hr⟩ := op_wind h (xs (4 * k + 1))
  refine z_aload_n C 1 dL_law_283 rfl rfl ?_
  refine z_arg C hX hbl hbA (k := k) (j := 1) (by omega) hL (by decide) rfl rfl dL_law_284 dL_law_285 dL_law_286 dL_law_287 dL_law_288 ?_
  refine z_goti1 (cs2 := 38 + 4 * k) (ss2 := 6071 + 28 * k) C (z_runV C (c_X9_wind l G q P h.1 S (MW G q2 T) (xs (4 * k + 1))) (cwV 1 C.hts gL_law_X9_wind rfl rfl rfl (by decide +kernel) ⟨Nat.le_of_ble_eq_true rfl, Nat.le_of_ble_eq_true rfl⟩) 0 rfl rfl rfl rfl (Nat.le_of_ble_eq_true rfl) dL_law_289 ⟨by show 38 + 4 * k + 0 ≤ 600000; omega, by show 6071 + 28 * k + 0 ≤ 7302250; omega⟩) rfl rfl ?_
  refine z_aload_n C 2 dL_law_292 rfl rfl ?_
  refine z_arg C hX hbl hbA (k := k) (j := 1) (by omega) hL (by decide) rfl rfl dL_law_293 dL_law_294 dL_law_295 dL_law_296 dL_law_297 ?_
  refine z_world (w2 := MW G q2 T ++ XW G q P (f_X9_wind P S (xs (4 * k + 1))).2) (fun H h => va_P.swap (a := []) h) (fun h => va_D.swap (a := []) h) ?_
  refine z_goti1 (cs2 := 38 + 4 * k) (ss2 := 6071 + 28 * k) C (z_runV C (c_X10_wind l G q2 T (XW G q P (f_X9_wind P S (xs (4 * k + 1))).2) (xs (4 * k + 1))) (cwV 1 C.hts gL_law_X10_wind rfl rfl rfl (by decide +kernel) ⟨Nat.le_of_ble_eq_true rfl, Nat.le_of_ble_eq_true rfl⟩) 0 rfl rfl rfl rfl (Nat.le_of_ble_eq_true rfl) dL_law_298 ⟨by show 38 + 4 * k + 0 ≤ 600000; omega, by show 6071 + 28 * k + 0 ≤ 7302250; omega⟩) rfl rfl ?_
  refine z_world (w2 := XW G q P (f_X9_wind P S (xs (4 * k + 1))).2 ++ MW G q2 (f_X10_wind T (xs (4 * k + 1))).2) (fun H h => va_P.swap (a := []) h) (fun h => va_D.swap (a := []) h) ?_
  refine z_icmp_eq (tgt := 616) C dL_law_301 (by decide) (fun _ => ?_) (fun ne => absurd he ne)
  exact z_widen (by omega) (by omega) (nx _ _ _ hr)
set_option maxHeartbeats 4000000 in
set_option maxRecDepth 100000 in
theorem law_take {p : Program} {l : Launch} {e : Env} {s : State} {m : MethodId} {below : List Frame} {meth : Method} {c : Code} {b L : Nat} {xs : Nat → Int32} {G : zGT} (C : zC p s m #[Value.ref b] meth c (fun q => s.heap.size ≤ q) G cL_law 4 ret RL meth.name wsL_law) (hX : va_X b L xs s s.heap) (hbl : b < s.heap.size) {k : Nat} (hk : 4 * k + 4 ≤ L) (hL : L ≤ 256) {q q2 : Nat → Nat} {P : XP} {S : XS} {T : MS} (h : RR k P S T) (nx : ∀ P S T, RR (k + 1) P S T → Z p l e room_1 s m #[Value.ref b] below meth c (fun q => s.heap.size ≤ q) G 4 (lw_Z below #[Value.ref b] s) (38 + 4 * (k + 1)) (6071 + 28 * (k + 1)) (XW G q P S ++ MW G q2 T) [(0, .ref b), (1, .ref (q 0)), (2, .ref (q2 0)), (3, .int (nI (4 * k)))] 616 []) : Z p l e room_1 s m #[Value.ref b] below meth c (fun q => s.heap.size ≤ q) G 4 (lw_Z below #[Value.ref b] s) (38 + 4 * k) (6071 + 28 * k) (XW G q P S ++ MW G q2 T) [(0, .ref b), (1, .ref (q 0)), (2, .ref (q2 0)), (3, .int (nI (4 * k)))] 306 [] := by
  have hbA : ¬ (fun q : Nat => s.heap.size ≤ q) b := Nat.not_le.mpr hbl
  obtain ⟨r, S', T', hx, hm, hr⟩ := op_take h (xs (4 * k + 1))
  refine z_aload_n C 1 dL_law_306 rfl rfl ?_
  refine z_arg C hX hbl hbA (k := k) (j := 1) (by omega) hL (by decide) rfl rfl dL_law_307 dL_law_308 dL_law_309 dL_law_310 dL_law_311 ?_
  refine z_goti1 (cs2 := 38 + 4 * k) (ss2 := 6071 + 28 * k) C (z_runV C (c_X9_take l G q P h.1 S (MW G q2 T) (xs (4 * k + 1))) (cwV 1 C.hts gL_law_X9_take rfl rfl rfl (by decide +kernel) ⟨Nat.le_of_ble_eq_true rfl, Nat.le_of_ble_eq_true rfl⟩) 0 rfl rfl rfl rfl (Nat.le_of_ble_eq_true rfl) dL_law_312 ⟨by show 38 + 4 * k + 0 ≤ 600000; omega, by show 6071 + 28 * k + 0 ≤ 7302250; omega⟩) rfl rfl ?_
  rw [hx]
  refine z_aload_n C 2 dL_law_315 rfl rfl ?_
  refine z_arg C hX hbl hbA (k := k) (j := 1) (by omega) hL (by decide) rfl rfl dL_law_316 dL_law_317 dL_law_318 dL_law_319 dL_law_320 ?_
  refine z_world (w2 := MW G q2 T ++ XW G q P S') (fun H h => va_P.swap (a := []) h) (fun h => va_D.swap (a := []) h) ?_
  refine z_goti1 (cs2 := 38 + 4 * k) (ss2 := 6071 + 28 * k) C (z_runV C (c_X10_take l G q2 T (XW G q P S') (xs (4 * k + 1)) hm) (cwV 1 C.hts gL_law_X10_take rfl rfl rfl (by decide +kernel) ⟨Nat.le_of_ble_eq_true rfl, Nat.le_of_ble_eq_true rfl⟩) 0 rfl rfl rfl rfl (Nat.le_of_ble_eq_true rfl) dL_law_321 ⟨by show 38 + 4 * k + 0 ≤ 600000; omega, by show 6071 + 28 * k + 0 ≤ 7302250; omega⟩) rfl rfl ?_
  refine z_world (w2 := XW G q P S' ++ MW G q2 T') (fun H h => va_P.swap (a := []) h) (fun h => va_D.swap (a := []) h) ?_
  refine z_icmp_eq (tgt := 616) C dL_law_324 (by decide) (fun _ => ?_) (fun ne => absurd rfl ne)
  exact z_widen (by omega) (by omega) (nx _ _ _ hr)
set_option maxHeartbeats 4000000 in
set_option maxRecDepth 100000 in
theorem law_plan {p : Program} {l : Launch} {e : Env} {s : State} {m : MethodId} {below : List Frame} {meth : Method} {c : Code} {b L : Nat} {xs : Nat → Int32} {G : zGT} (C : zC p s m #[Value.ref b] meth c (fun q => s.heap.size ≤ q) G cL_law 4 ret RL meth.name wsL_law) (hX : va_X b L xs s s.heap) (hbl : b < s.heap.size) {k : Nat} (hk : 4 * k + 4 ≤ L) (hL : L ≤ 256) {q q2 : Nat → Nat} {P : XP} {S : XS} {T : MS} (h : RR k P S T) (nx : ∀ P S T, RR (k + 1) P S T → Z p l e room_1 s m #[Value.ref b] below meth c (fun q => s.heap.size ≤ q) G 4 (lw_Z below #[Value.ref b] s) (38 + 4 * (k + 1)) (6071 + 28 * (k + 1)) (XW G q P S ++ MW G q2 T) [(0, .ref b), (1, .ref (q 0)), (2, .ref (q2 0)), (3, .int (nI (4 * k)))] 616 []) : Z p l e room_1 s m #[Value.ref b] below meth c (fun q => s.heap.size ≤ q) G 4 (lw_Z below #[Value.ref b] s) (38 + 4 * k) (6071 + 28 * k) (XW G q P S ++ MW G q2 T) [(0, .ref b), (1, .ref (q 0)), (2, .ref (q2 0)), (3, .int (nI (4 * k)))] 329 [] := by
  have hbA : ¬ (fun q : Nat => s.heap.size ≤ q) b := Nat.not_le.mpr hbl
  obtain ⟨r, S', T', hx, hm, hr⟩ := op_plan (fu := 2000) h (Nat.le_refl 2000) (xs (4 * k + 1))
  refine z_aload_n C 1 dL_law_329 rfl rfl ?_
  refine z_arg C hX hbl hbA (k := k) (j := 1) (by omega) hL (by decide) rfl rfl dL_law_330 dL_law_331 dL_law_332 dL_law_333 dL_law_334 ?_
  refine z_goti1 (cs2 := 38 + 4 * k) (ss2 := 6071 + 28 * k) C (z_runV C (c_X9_plan l G q P h.1 S (MW G q2 T) 2000 (xs (4 * k + 1)) hx) (cwV 1 C.hts gL_law_X9_plan rfl rfl rfl (by decide +kernel) ⟨Nat.le_of_ble_eq_true rfl, Nat.le_of_ble_eq_true rfl⟩) 0 rfl rfl rfl rfl (Nat.le_of_ble_eq_true rfl) dL_law_335 ⟨by show 38 + 4 * k + 0 ≤ 600000; omega, by show 6071 + 28 * k + 0 ≤ 7302250; omega⟩) rfl rfl ?_
  refine z_aload_n C 2 dL_law_338 rfl rfl ?_
  refine z_arg C hX hbl hbA (k := k) (j := 1) (by omega) hL (by decide) rfl rfl dL_law_339 dL_law_340 dL_law_341 dL_law_342 dL_law_343 ?_
  refine z_world (w2 := MW G q2 T ++ XW G q P S') (fun H h => va_P.swap (a := []) h) (fun h => va_D.swap (a := []) h) ?_
  refine z_goti1 (cs2 := 38 + 4 * k) (ss2 := 6071 + 28 * k) C (z_runV C (c_X10_plan l G q2 T (XW G q P S') 2000 (xs (4 * k + 1)) hm) (cwV 1 C.hts gL_law_X10_plan rfl rfl rfl (by decide +kernel) ⟨Nat.le_of_ble_eq_true rfl, Nat.le_of_ble_eq_true rfl⟩) 0 rfl rfl rfl rfl (Nat.le_of_ble_eq_true rfl) dL_law_344 ⟨by show 38 + 4 * k + 0 ≤ 600000; omega, by show 6071 + 28 * k + 0 ≤ 7302250; omega⟩) rfl rfl ?_
  refine z_world (w2 := XW G q P S' ++ MW G q2 T') (fun H h => va_P.swap (a := []) h) (fun h => va_D.swap (a := []) h) ?_
  refine z_icmp_eq (tgt := 616) C dL_law_347 (by decide) (fun _ => ?_) (fun ne => absurd rfl ne)
  exact z_widen (by omega) (by omega) (nx _ _ _ hr)
set_option maxHeartbeats 4000000 in
set_option maxRecDepth 100000 in
theorem law_sure {p : Program} {l : Launch} {e : Env} {s : State} {m : MethodId} {below : List Frame} {meth : Method} {c : Code} {b L : Nat} {xs : Nat → Int32} {G : zGT} (C : zC p s m #[Value.ref b] meth c (fun q => s.heap.size ≤ q) G cL_law 4 ret RL meth.name wsL_law) (hX : va_X b L xs s s.heap) (hbl : b < s.heap.size) {k : Nat} (hk : 4 * k + 4 ≤ L) (hL : L ≤ 256) {q q2 : Nat → Nat} {P : XP} {S : XS} {T : MS} (h : RR k P S T) (nx : ∀ P S T, RR (k + 1) P S T → Z p l e room_1 s m #[Value.ref b] below meth c (fun q => s.heap.size ≤ q) G 4 (lw_Z below #[Value.ref b] s) (38 + 4 * (k + 1)) (6071 + 28 * (k + 1)) (XW G q P S ++ MW G q2 T) [(0, .ref b), (1, .ref (q 0)), (2, .ref (q2 0)), (3, .int (nI (4 * k)))] 616 []) : Z p l e room_1 s m #[Value.ref b] below meth c (fun q => s.heap.size ≤ q) G 4 (lw_Z below #[Value.ref b] s) (38 + 4 * k) (6071 + 28 * k) (XW G q P S ++ MW G q2 T) [(0, .ref b), (1, .ref (q 0)), (2, .ref (q2 0)), (3, .int (nI (4 * k)))] 352 [] := by
  have hbA : ¬ (fun q : Nat => s.heap.size ≤ q) b := Nat.not_le.mpr hbl
  have hm := op_sure h (xs (4 * k + 1)) (xs (4 * k + 2)) 2000 (by omega)
  have hr := h.mono (show k ≤ k + 1 by omega)
  refine z_aload_n C 1 dL_law_352 rfl rfl ?_
  refine z_arg C hX hbl hbA (k := k) (j := 1) (by omega) hL (by decide) rfl rfl dL_law_353 dL_law_354 dL_law_355 dL_law_356 dL_law_357 ?_
  refine z_arg C hX hbl hbA (k := k) (j := 2) (by omega) hL (by decide) rfl rfl dL_law_358 dL_law_359 dL_law_360 dL_law_361 dL_law_362 ?_
  refine z_goti1 (cs2 := 38 + 4 * k) (ss2 := 6071 + 28 * k) C (z_runV C (c_X9_sure l G q P h.1 S (MW G q2 T) (xs (4 * k + 1)) (xs (4 * k + 2))) (cwV 2 C.hts gL_law_X9_sure rfl rfl rfl (by decide +kernel) ⟨Nat.le_of_ble_eq_true rfl, Nat.le_of_ble_eq_true rfl⟩) 0 rfl rfl rfl rfl (Nat.le_of_ble_eq_true rfl) dL_law_363 ⟨by show 38 + 4 * k + 0 ≤ 600000; omega, by show 6071 + 28 * k + 0 ≤ 7302250; omega⟩) rfl rfl ?_
  refine z_aload_n C 2 dL_law_366 rfl rfl ?_
  refine z_arg C hX hbl hbA (k := k) (j := 1) (by omega) hL (by decide) rfl rfl dL_law_367 dL_law_368 dL_law_369 dL_law_370 dL_law_371 ?_
  refine z_arg C hX hbl hbA (k := k) (j := 2) (by omega) hL (by decide) rfl rfl dL_law_372 dL_law_373 dL_law_374 dL_law_375 dL_law_376 ?_
  refine z_world (w2 := MW G q2 T ++ XW G q P S) (fun H h => va_P.swap (a := []) h) (fun h => va_D.swap (a := []) h) ?_
  refine z_goti1 (cs2 := 38 + 4 * k) (ss2 := 6071 + 28 * k) C (z_runV C (c_X10_sure l G q2 T (XW G q P S) 2000 (xs (4 * k + 1)) (xs (4 * k + 2)) hm) (cwV 2 C.hts gL_law_X10_sure rfl rfl rfl (by decide +kernel) ⟨Nat.le_of_ble_eq_true rfl, Nat.le_of_ble_eq_true rfl⟩) 0 rfl rfl rfl rfl (Nat.le_of_ble_eq_true rfl) dL_law_377 ⟨by show 38 + 4 * k + 0 ≤ 600000; omega, by show 6071 + 28 * k + 0 ≤ 7302250; omega⟩) rfl rfl ?_
  refine z_world (w2 := XW G q P S ++ MW G q2 T) (fun H h => va_P.swap (a := []) h) (fun h => va_D.swap (a := []) h) ?_
  refine z_icmp_eq (tgt := 616) C dL_law_380 (by decide) (fun _ => ?_) (fun ne => absurd rfl ne)
  exact z_widen (by omega) (by omega) (nx _ _ _ hr)
