theorem hiL_X9 : ∀ w ∈ u_ws RX9 TX9 18, w ∈ wsL_law := fun _ h => List.mem_append_left _ (List.mem_append_left _ (List.mem_append_left _ (List.mem_append_left _ (List.mem_append_left _ (List.mem_append_left _ (List.mem_append_left _ (List.mem_append_left _ (List.mem_append_left _ (List.mem_append_left _ (List.mem_append_left _ (List.mem_append_right _ h)))))))))))
theorem hiL_X10 : ∀ w ∈ u_ws RX10 TX10 39, w ∈ wsL_law := fun _ h => List.mem_append_left _ (List.mem_append_left _ (List.mem_append_left _ (List.mem_append_left _ (List.mem_append_left _ (List.mem_append_left _ (List.mem_append_left _ (List.mem_append_left _ (List.mem_append_left _ (List.mem_append_left _ (List.mem_append_right _ h))))))))))
theorem hiL_X3 : ∀ w ∈ u_ws RX3 TX3 2, w ∈ wsL_law := fun _ h => List.mem_append_left _ (List.mem_append_left _ (List.mem_append_left _ (List.mem_append_left _ (List.mem_append_left _ (List.mem_append_left _ (List.mem_append_left _ (List.mem_append_left _ (List.mem_append_left _ (List.mem_append_right _ h)))))))))
theorem hiL_X8 : ∀ w ∈ u_ws RX8 TX8 4, w ∈ wsL_law := fun _ h => List.mem_append_left _ (List.mem_append_left _ (List.mem_append_left _ (List.mem_append_left _ (List.mem_append_left _ (List.mem_append_left _ (List.mem_append_left _ (List.mem_append_left _ (List.mem_append_right _ h))))))))
theorem hiL_X4 : ∀ w ∈ u_ws RX4 TX4 9, w ∈ wsL_law := fun _ h => List.mem_append_left _ (List.mem_append_left _ (List.mem_append_left _ (List.mem_append_left _ (List.mem_append_left _ (List.mem_append_left _ (List.mem_append_left _ (List.mem_append_right _ h)))))))
theorem hiL_X1 : ∀ w ∈ u_ws RX1 TX1 1, w ∈ wsL_law := fun _ h => List.mem_append_left _ (List.mem_append_left _ (List.mem_append_left _ (List.mem_append_left _ (List.mem_append_left _ (List.mem_append_left _ (List.mem_append_right _ h))))))
theorem hiL_X2 : ∀ w ∈ u_ws RX2 TX2 7, w ∈ wsL_law := fun _ h => List.mem_append_left _ (List.mem_append_left _ (List.mem_append_left _ (List.mem_append_left _ (List.mem_append_left _ (List.mem_append_right _ h)))))
theorem hiL_X6 : ∀ w ∈ u_ws RX6 TX6 7, w ∈ wsL_law := fun _ h => List.mem_append_left _ (List.mem_append_left _ (List.mem_append_left _ (List.mem_append_left _ (List.mem_append_right _ h))))
theorem hiL_X7 : ∀ w ∈ u_ws RX7 TX7 7, w ∈ wsL_law := fun _ h => List.mem_append_left _ (List.mem_append_left _ (List.mem_append_left _ (List.mem_append_right _ h)))
theorem hiL_X0 : ∀ w ∈ u_ws RX0 TX0 7, w ∈ wsL_law := fun _ h => List.mem_append_left _ (List.mem_append_left _ (List.mem_append_right _ h))
theorem hiL_X5 : ∀ w ∈ u_ws RX5 TX5 7, w ∈ wsL_law := fun _ h => List.mem_append_left _ (List.mem_append_right _ h)
set_option maxHeartbeats 4000000 in
set_option maxRecDepth 100000 in
theorem whole_G {s : State} {b : Nat} (hts : ∀ w ∈ lw_tbl, w.before #[Value.ref b] s = true) (hgv : (Jvm.Cond.and given_1 narrow_1).before #[Value.ref b] s = true) : ∃ G : zGT, zG G s := by
  have htl : ∀ w ∈ wsL_law, w.before #[Value.ref b] s = true := fun w hw => hts w (wsL_law_in w hw)
  have hfl := flat_of_before _ hgv
  obtain ⟨cX0, iX0, hKX0⟩ := u_known (C := RX0) (T := TX0) (N := 7) (n := 7) htl hiL_X0 (hts (.instantiable RX0 7) (by decide +kernel))
  obtain ⟨cX1, iX1, hKX1⟩ := u_known (C := RX1) (T := TX1) (N := 1) (n := 1) htl hiL_X1 (hts (.instantiable RX1 1) (by decide +kernel))
  obtain ⟨cX2, iX2, hKX2⟩ := u_known (C := RX2) (T := TX2) (N := 7) (n := 7) htl hiL_X2 (hts (.instantiable RX2 7) (by decide +kernel))
  obtain ⟨cX3, iX3, hKX3⟩ := u_known (C := RX3) (T := TX3) (N := 2) (n := 2) htl hiL_X3 (hts (.instantiable RX3 2) (by decide +kernel))
  obtain ⟨cX4, iX4, hKX4⟩ := u_known (C := RX4) (T := TX4) (N := 9) (n := 9) htl hiL_X4 (hts (.instantiable RX4 9) (by decide +kernel))
  obtain ⟨cX5, iX5, hKX5⟩ := u_known (C := RX5) (T := TX5) (N := 7) (n := 7) htl hiL_X5 (hts (.instantiable RX5 7) (by decide +kernel))
  obtain ⟨cX6, iX6, hKX6⟩ := u_known (C := RX6) (T := TX6) (N := 7) (n := 7) htl hiL_X6 (hts (.instantiable RX6 7) (by decide +kernel))
  obtain ⟨cX7, iX7, hKX7⟩ := u_known (C := RX7) (T := TX7) (N := 7) (n := 7) htl hiL_X7 (hts (.instantiable RX7 7) (by decide +kernel))
  obtain ⟨cX8, iX8, hKX8⟩ := u_known (C := RX8) (T := TX8) (N := 4) (n := 4) htl hiL_X8 (hts (.instantiable RX8 4) (by decide +kernel))
  obtain ⟨cX9, iX9, hKX9⟩ := u_known (C := RX9) (T := TX9) (N := 18) (n := 18) htl hiL_X9 (hts (.instantiable RX9 18) (by decide +kernel))
  obtain ⟨cX10, iX10, hKX10⟩ := u_known (C := RX10) (T := TX10) (N := 39) (n := 39) htl hiL_X10 (hts (.instantiable RX10 39) (by decide +kernel))
  obtain ⟨cI, kI, compI, i1, i2, i3⟩ := Cond.arrayClass_spec (hts (.arrayClass .int) (by decide +kernel))
  obtain ⟨cB, kB, compB, b1, b2, b3⟩ := Cond.arrayClass_spec (hts (.arrayClass .byte) (by decide +kernel))
  have hAO := hts (.arrayOver (.object "OneTimer$Pot")) (by decide +kernel)
  obtain ⟨compP, cP, kP, p1, p2, p3, p4, p5⟩ := Cond.arrayOver_spec hAO
  refine ⟨((fun k => if k = 0 then cX0 else if k = 1 then cX1 else if k = 2 then cX2 else if k = 3 then cX3 else if k = 4 then cX4 else if k = 5 then cX5 else if k = 6 then cX6 else if k = 7 then cX7 else if k = 8 then cX8 else if k = 9 then cX9 else cX10, fun k => if k = 0 then iX0 else if k = 1 then iX1 else if k = 2 then iX2 else if k = 3 then iX3 else if k = 4 then iX4 else if k = 5 then iX5 else if k = 6 then iX6 else if k = 7 then iX7 else if k = 8 then iX8 else if k = 9 then iX9 else iX10), cI, cB, cP), ⟨?_, ?_⟩, ?_, ?_, va_AO.of hAO, ?_⟩
  · intro k q hq
    match k, hq with
    | 0, hq => cases hq; exact hKX0
    | 1, hq => cases hq; exact hKX1
    | 2, hq => cases hq; exact hKX2
    | 3, hq => cases hq; exact hKX3
    | 4, hq => cases hq; exact hKX4
    | 5, hq => cases hq; exact hKX5
    | 6, hq => cases hq; exact hKX6
    | 7, hq => cases hq; exact hKX7
    | 8, hq => cases hq; exact hKX8
    | 9, hq => cases hq; exact hKX9
    | 10, hq => cases hq; exact hKX10
    | k + 11, hq => simp [vwCl] at hq
  · intro k q hq
    match k, hq with
    | 0, hq => cases hq; exact ⟨fun N z => ⟨(fun k h => by cases h), kI, i2, compI, i3⟩, i1⟩
    | 1, hq => cases hq; exact ⟨fun N z => ⟨(fun k h => by cases h), kB, b2, compB, b3⟩, b1⟩
    | 2, hq => cases hq; exact ⟨fun N z => ⟨(fun k h => by cases h), kP, p3, compP, p4⟩, kP, compP, p3, p4, p1, p5⟩
    | k + 3, hq => simp [z_tys] at hq
  · exact List.forall_mem_cons.mpr ⟨va_Nw.of rfl (hts _ (by decide +kernel)), List.forall_mem_cons.mpr ⟨va_Nw.of rfl (hts _ (by decide +kernel)), List.forall_mem_cons.mpr ⟨va_Nw.of rfl (hts _ (by decide +kernel)), List.forall_mem_cons.mpr ⟨va_Nw.of rfl (hts _ (by decide +kernel)), List.forall_mem_cons.mpr ⟨va_Nw.of rfl (hts _ (by decide +kernel)), List.forall_mem_cons.mpr ⟨va_Nw.of rfl (hts _ (by decide +kernel)), fun _ h => absurd h List.not_mem_nil⟩⟩⟩⟩⟩⟩
  · exact List.forall_mem_cons.mpr ⟨va_Nw.of rfl (hts _ (by decide +kernel)), List.forall_mem_cons.mpr ⟨va_Nw.of rfl (hts _ (by decide +kernel)), List.forall_mem_cons.mpr ⟨va_Nw.of rfl (hts _ (by decide +kernel)), List.forall_mem_cons.mpr ⟨va_Nw.of rfl (hts _ (by decide +kernel)), List.forall_mem_cons.mpr ⟨va_Nw.of rfl (hts _ (by decide +kernel)), fun _ h => absurd h List.not_mem_nil⟩⟩⟩⟩⟩
  · exact List.forall_mem_cons.mpr ⟨va_Nc.of (hfl _ (by decide +kernel)), List.forall_mem_cons.mpr ⟨va_Nc.of (hfl _ (by decide +kernel)), List.forall_mem_cons.mpr ⟨va_Nc.of (hfl _ (by decide +kernel)), List.forall_mem_cons.mpr ⟨va_Nc.of (hfl _ (by decide +kernel)), List.forall_mem_cons.mpr ⟨va_Nc.of (hfl _ (by decide +kernel)), List.forall_mem_cons.mpr ⟨va_Nc.of (hfl _ (by decide +kernel)), List.forall_mem_cons.mpr ⟨va_Nc.of (hfl _ (by decide +kernel)), List.forall_mem_cons.mpr ⟨va_Nc.of (hfl _ (by decide +kernel)), List.forall_mem_cons.mpr ⟨va_Nc.of (hfl _ (by decide +kernel)), List.forall_mem_cons.mpr ⟨va_Nc.of (hfl _ (by decide +kernel)), List.forall_mem_cons.mpr ⟨va_Nc.of (hfl _ (by decide +kernel)), List.forall_mem_cons.mpr ⟨va_Nc.of (hfl _ (by decide +kernel)), List.forall_mem_cons.mpr ⟨va_Nc.of (hfl _ (by decide +kernel)), List.forall_mem_cons.mpr ⟨va_Nc.of (hfl _ (by decide +kernel)), List.forall_mem_cons.mpr ⟨va_Nc.of (hfl _ (by decide +kernel)), fun _ h => absurd h List.not_mem_nil⟩⟩⟩⟩⟩⟩⟩⟩⟩⟩⟩⟩⟩⟩⟩
