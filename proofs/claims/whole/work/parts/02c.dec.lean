theorem inlX0 : ∀ w ∈ wsX00, w ∈ wsL_law := fun _ h => List.mem_append_left _ (List.mem_append_left _ (List.mem_append_right _ h))
theorem inX0 : ∀ w ∈ wsX00, w ∈ lw_tbl := fun w h => wsL_law_in w (inlX0 w h)
theorem inlX1 : ∀ w ∈ wsX10, w ∈ wsL_law := fun _ h => List.mem_append_left _ (List.mem_append_left _ (List.mem_append_left _ (List.mem_append_left _ (List.mem_append_left _ (List.mem_append_left _ (List.mem_append_right _ h))))))
theorem inX1 : ∀ w ∈ wsX10, w ∈ lw_tbl := fun w h => wsL_law_in w (inlX1 w h)
theorem inlX2 : ∀ w ∈ wsX20, w ∈ wsL_law := fun _ h => List.mem_append_left _ (List.mem_append_left _ (List.mem_append_left _ (List.mem_append_left _ (List.mem_append_left _ (List.mem_append_right _ h)))))
theorem inX2 : ∀ w ∈ wsX20, w ∈ lw_tbl := fun w h => wsL_law_in w (inlX2 w h)
theorem inlX3 : ∀ w ∈ wsX30, w ∈ wsL_law := fun _ h => List.mem_append_left _ (List.mem_append_left _ (List.mem_append_left _ (List.mem_append_left _ (List.mem_append_left _ (List.mem_append_left _ (List.mem_append_left _ (List.mem_append_left _ (List.mem_append_left _ (List.mem_append_right _ h)))))))))
theorem inX3 : ∀ w ∈ wsX30, w ∈ lw_tbl := fun w h => wsL_law_in w (inlX3 w h)
theorem inlX4 : ∀ w ∈ wsX40, w ∈ wsL_law := fun _ h => List.mem_append_left _ (List.mem_append_left _ (List.mem_append_left _ (List.mem_append_left _ (List.mem_append_left _ (List.mem_append_left _ (List.mem_append_left _ (List.mem_append_right _ h)))))))
theorem inX4 : ∀ w ∈ wsX40, w ∈ lw_tbl := fun w h => wsL_law_in w (inlX4 w h)
theorem inlX5 : ∀ w ∈ wsX50, w ∈ wsL_law := fun _ h => List.mem_append_left _ (List.mem_append_right _ h)
theorem inX5 : ∀ w ∈ wsX50, w ∈ lw_tbl := fun w h => wsL_law_in w (inlX5 w h)
theorem inlX6 : ∀ w ∈ wsX60, w ∈ wsL_law := fun _ h => List.mem_append_left _ (List.mem_append_left _ (List.mem_append_left _ (List.mem_append_left _ (List.mem_append_right _ h))))
theorem inX6 : ∀ w ∈ wsX60, w ∈ lw_tbl := fun w h => wsL_law_in w (inlX6 w h)
theorem inlX7 : ∀ w ∈ wsX70, w ∈ wsL_law := fun _ h => List.mem_append_left _ (List.mem_append_left _ (List.mem_append_left _ (List.mem_append_right _ h)))
theorem inX7 : ∀ w ∈ wsX70, w ∈ lw_tbl := fun w h => wsL_law_in w (inlX7 w h)
theorem inlX8 : ∀ w ∈ wsX80, w ∈ wsL_law := fun _ h => List.mem_append_left _ (List.mem_append_left _ (List.mem_append_left _ (List.mem_append_left _ (List.mem_append_left _ (List.mem_append_left _ (List.mem_append_left _ (List.mem_append_left _ (List.mem_append_right _ h))))))))
theorem inX8 : ∀ w ∈ wsX80, w ∈ lw_tbl := fun w h => wsL_law_in w (inlX8 w h)
theorem inlX9 : ∀ w ∈ wsX90, w ∈ wsL_law := fun _ h => List.mem_append_left _ (List.mem_append_left _ (List.mem_append_left _ (List.mem_append_left _ (List.mem_append_left _ (List.mem_append_left _ (List.mem_append_left _ (List.mem_append_left _ (List.mem_append_left _ (List.mem_append_left _ (List.mem_append_left _ (List.mem_append_right _ h)))))))))))
theorem inX9 : ∀ w ∈ wsX90, w ∈ lw_tbl := fun w h => wsL_law_in w (inlX9 w h)
theorem inlX10 : ∀ w ∈ wsX100, w ∈ wsL_law := fun _ h => List.mem_append_left _ (List.mem_append_left _ (List.mem_append_left _ (List.mem_append_left _ (List.mem_append_left _ (List.mem_append_left _ (List.mem_append_left _ (List.mem_append_left _ (List.mem_append_left _ (List.mem_append_left _ (List.mem_append_right _ h))))))))))
theorem inX10 : ∀ w ∈ wsX100, w ∈ lw_tbl := fun w h => wsL_law_in w (inlX10 w h)
theorem inJ6 : ∀ w ∈ wsJ60, w ∈ lw_tbl := by decide +kernel
theorem inJ9 : ∀ w ∈ wsJ90, w ∈ lw_tbl := by decide +kernel
set_option maxRecDepth 20000 in
theorem ggX0_init_X6_init : GoodIn wsX0_init wsX6_init := goodIn_r _ [4, 5, 6, 7, 8, 9, 10, 11, 12, 13, 14, 15, 16, 17, 18, 19, 20, 21, 22, 23, 24, 25, 26, 27, 28, 29, 30, 31, 32, 33, 34, 35, 36, 37, 38, 39, 40, 41, 42, 43, 44, 45, 46, 47, 48, 49, 50, 51] (by decide +kernel) (by decide +kernel)
set_option maxRecDepth 20000 in
theorem gX0_init_X6_init : GoodIn wsX0_init (wsX6_init) := ggX0_init_X6_init
theorem dX0_init_0 : decode cX0_init 0 = .ok (.aload_n 0, 1) := by decide +kernel
theorem dX0_init_1 : decode cX0_init 1 = .ok (.iload_n 1, 1) := by decide +kernel
theorem dX0_init_2 : decode cX0_init 2 = .ok (.invokespecial 1, 3) := by decide +kernel
theorem dX0_init_5 : decode cX0_init 5 = .ok (.return_, 1) := by decide +kernel
theorem dX0_kind_0 : decode cX0_kind 0 = .ok (.iconst 4, 1) := by decide +kernel
theorem dX0_kind_1 : decode cX0_kind 1 = .ok (.ireturn, 1) := by decide +kernel
set_option maxRecDepth 20000 in
theorem ggX0_keeps_X6_keeps : GoodIn wsX0_keeps wsX6_keeps := goodIn_r _ [6] (by decide +kernel) (by decide +kernel)
set_option maxRecDepth 20000 in
theorem gX0_keeps_X6_keeps_s7 : GoodIn wsX0_keeps (va_wsSU RX0 7 yX6_keeps wsX6_keeps) := goodIn_app (goodIn_of _ (by decide +kernel)) ggX0_keeps_X6_keeps
theorem dX0_keeps_0 : decode cX0_keeps 0 = .ok (.iconst 2, 1) := by decide +kernel
theorem dX0_keeps_1 : decode cX0_keeps 1 = .ok (.aload_n 0, 1) := by decide +kernel
theorem dX0_keeps_2 : decode cX0_keeps 2 = .ok (.invokespecial 7, 3) := by decide +kernel
theorem dX0_keeps_5 : decode cX0_keeps 5 = .ok (.imul, 1) := by decide +kernel
theorem dX0_keeps_6 : decode cX0_keeps 6 = .ok (.ireturn, 1) := by decide +kernel
theorem dX1_init_0 : decode cX1_init 0 = .ok (.aload_n 0, 1) := by decide +kernel
theorem dX1_init_1 : decode cX1_init 1 = .ok (.invokespecial 1, 3) := by decide +kernel
theorem dX1_init_4 : decode cX1_init 4 = .ok (.return_, 1) := by decide +kernel
theorem dX1_next_0 : decode cX1_next 0 = .ok (.aload_n 0, 1) := by decide +kernel
theorem dX1_next_1 : decode cX1_next 1 = .ok (.ldc2_w 7, 3) := by decide +kernel
theorem dX1_next_4 : decode cX1_next 4 = .ok (.aload_n 0, 1) := by decide +kernel
theorem dX1_next_5 : decode cX1_next 5 = .ok (.getfield 9, 3) := by decide +kernel
theorem dX1_next_8 : decode cX1_next 8 = .ok (.i2l, 1) := by decide +kernel
theorem dX1_next_9 : decode cX1_next 9 = .ok (.lmul, 1) := by decide +kernel
theorem dX1_next_10 : decode cX1_next 10 = .ok (.ldc2_w 15, 3) := by decide +kernel
theorem dX1_next_13 : decode cX1_next 13 = .ok (.ladd, 1) := by decide +kernel
theorem dX1_next_14 : decode cX1_next 14 = .ok (.ldc2_w 17, 3) := by decide +kernel
theorem dX1_next_17 : decode cX1_next 17 = .ok (.land, 1) := by decide +kernel
theorem dX1_next_18 : decode cX1_next 18 = .ok (.l2i, 1) := by decide +kernel
theorem dX1_next_19 : decode cX1_next 19 = .ok (.putfield 9, 3) := by decide +kernel
theorem dX1_next_22 : decode cX1_next 22 = .ok (.iload_n 1, 1) := by decide +kernel
theorem dX1_next_23 : decode cX1_next 23 = .ok (.ifCond .le 15, 3) := by decide +kernel
theorem dX1_next_26 : decode cX1_next 26 = .ok (.aload_n 0, 1) := by decide +kernel
theorem dX1_next_27 : decode cX1_next 27 = .ok (.getfield 9, 3) := by decide +kernel
theorem dX1_next_30 : decode cX1_next 30 = .ok (.ldc 19, 2) := by decide +kernel
theorem dX1_next_32 : decode cX1_next 32 = .ok (.idiv, 1) := by decide +kernel
theorem dX1_next_33 : decode cX1_next 33 = .ok (.iload_n 1, 1) := by decide +kernel
theorem dX1_next_34 : decode cX1_next 34 = .ok (.irem, 1) := by decide +kernel
theorem dX1_next_35 : decode cX1_next 35 = .ok (.goto 4, 3) := by decide +kernel
theorem dX1_next_38 : decode cX1_next 38 = .ok (.iconst 0, 1) := by decide +kernel
theorem dX1_next_39 : decode cX1_next 39 = .ok (.ireturn, 1) := by decide +kernel
set_option maxRecDepth 20000 in
theorem ggX2_init_X5_init : GoodIn wsX2_init wsX5_init := goodIn_r _ [4, 5, 6, 7, 8, 9, 10, 11, 12, 13, 14, 15, 16, 17, 18, 19, 20, 21, 22, 23, 24, 25, 26, 27, 28, 29, 30, 31, 32, 33, 34, 35, 36, 37, 38, 39, 40, 41, 42, 43, 44, 45, 46, 47] (by decide +kernel) (by decide +kernel)
set_option maxRecDepth 20000 in
theorem gX2_init_X5_init : GoodIn wsX2_init (wsX5_init) := ggX2_init_X5_init
theorem dX2_init_0 : decode cX2_init 0 = .ok (.aload_n 0, 1) := by decide +kernel
theorem dX2_init_1 : decode cX2_init 1 = .ok (.iload_n 1, 1) := by decide +kernel
theorem dX2_init_2 : decode cX2_init 2 = .ok (.invokespecial 1, 3) := by decide +kernel
theorem dX2_init_5 : decode cX2_init 5 = .ok (.return_, 1) := by decide +kernel
theorem dX2_kind_0 : decode cX2_kind 0 = .ok (.iconst 1, 1) := by decide +kernel
theorem dX2_kind_1 : decode cX2_kind 1 = .ok (.ireturn, 1) := by decide +kernel
theorem dX2_keeps_0 : decode cX2_keeps 0 = .ok (.iconst 1, 1) := by decide +kernel
theorem dX2_keeps_1 : decode cX2_keeps 1 = .ok (.ireturn, 1) := by decide +kernel
theorem dX3_init_0 : decode cX3_init 0 = .ok (.aload_n 0, 1) := by decide +kernel
theorem dX3_init_1 : decode cX3_init 1 = .ok (.invokespecial 3, 3) := by decide +kernel
theorem dX3_init_4 : decode cX3_init 4 = .ok (.aload_n 0, 1) := by decide +kernel
theorem dX3_init_5 : decode cX3_init 5 = .ok (.bipush 21, 2) := by decide +kernel
theorem dX3_init_7 : decode cX3_init 7 = .ok (.newarray .int, 2) := by decide +kernel
theorem dX3_init_9 : decode cX3_init 9 = .ok (.putfield 11, 3) := by decide +kernel
theorem dX3_init_12 : decode cX3_init 12 = .ok (.return_, 1) := by decide +kernel
theorem dX3_write_0 : decode cX3_write 0 = .ok (.aload_n 0, 1) := by decide +kernel
theorem dX3_write_1 : decode cX3_write 1 = .ok (.getfield 15, 3) := by decide +kernel
theorem dX3_write_4 : decode cX3_write 4 = .ok (.ifCond .lt 15, 3) := by decide +kernel
theorem dX3_write_7 : decode cX3_write 7 = .ok (.aload_n 0, 1) := by decide +kernel
theorem dX3_write_8 : decode cX3_write 8 = .ok (.getfield 15, 3) := by decide +kernel
theorem dX3_write_11 : decode cX3_write 11 = .ok (.aload_n 0, 1) := by decide +kernel
theorem dX3_write_12 : decode cX3_write 12 = .ok (.getfield 11, 3) := by decide +kernel
theorem dX3_write_15 : decode cX3_write 15 = .ok (.arraylength, 1) := by decide +kernel
theorem dX3_write_16 : decode cX3_write 16 = .ok (.if_icmp .lt 5, 3) := by decide +kernel
theorem dX3_write_19 : decode cX3_write 19 = .ok (.iconst 0, 1) := by decide +kernel
theorem dX3_write_20 : decode cX3_write 20 = .ok (.ireturn, 1) := by decide +kernel
theorem dX3_write_21 : decode cX3_write 21 = .ok (.aload_n 0, 1) := by decide +kernel
theorem dX3_write_22 : decode cX3_write 22 = .ok (.getfield 11, 3) := by decide +kernel
theorem dX3_write_25 : decode cX3_write 25 = .ok (.aload_n 0, 1) := by decide +kernel
theorem dX3_write_26 : decode cX3_write 26 = .ok (.getfield 15, 3) := by decide +kernel
theorem dX3_write_29 : decode cX3_write 29 = .ok (.iload_n 1, 1) := by decide +kernel
theorem dX3_write_30 : decode cX3_write 30 = .ok (.iastore, 1) := by decide +kernel
theorem dX3_write_31 : decode cX3_write 31 = .ok (.aload_n 0, 1) := by decide +kernel
theorem dX3_write_32 : decode cX3_write 32 = .ok (.dup, 1) := by decide +kernel
theorem dX3_write_33 : decode cX3_write 33 = .ok (.getfield 15, 3) := by decide +kernel
theorem dX3_write_36 : decode cX3_write 36 = .ok (.iconst 1, 1) := by decide +kernel
theorem dX3_write_37 : decode cX3_write 37 = .ok (.iadd, 1) := by decide +kernel
theorem dX3_write_38 : decode cX3_write 38 = .ok (.putfield 15, 3) := by decide +kernel
theorem dX3_write_41 : decode cX3_write 41 = .ok (.iconst 1, 1) := by decide +kernel
theorem dX3_write_42 : decode cX3_write 42 = .ok (.ireturn, 1) := by decide +kernel
theorem dX3_codeAt_0 : decode cX3_codeAt 0 = .ok (.iload_n 1, 1) := by decide +kernel
theorem dX3_codeAt_1 : decode cX3_codeAt 1 = .ok (.ifCond .lt 29, 3) := by decide +kernel
theorem dX3_codeAt_4 : decode cX3_codeAt 4 = .ok (.iload_n 1, 1) := by decide +kernel
theorem dX3_codeAt_5 : decode cX3_codeAt 5 = .ok (.aload_n 0, 1) := by decide +kernel
theorem dX3_codeAt_6 : decode cX3_codeAt 6 = .ok (.getfield 15, 3) := by decide +kernel
theorem dX3_codeAt_9 : decode cX3_codeAt 9 = .ok (.if_icmp .ge 21, 3) := by decide +kernel
theorem dX3_codeAt_12 : decode cX3_codeAt 12 = .ok (.iload_n 1, 1) := by decide +kernel
theorem dX3_codeAt_13 : decode cX3_codeAt 13 = .ok (.aload_n 0, 1) := by decide +kernel
theorem dX3_codeAt_14 : decode cX3_codeAt 14 = .ok (.getfield 11, 3) := by decide +kernel
theorem dX3_codeAt_17 : decode cX3_codeAt 17 = .ok (.arraylength, 1) := by decide +kernel
theorem dX3_codeAt_18 : decode cX3_codeAt 18 = .ok (.if_icmp .ge 12, 3) := by decide +kernel
theorem dX3_codeAt_21 : decode cX3_codeAt 21 = .ok (.aload_n 0, 1) := by decide +kernel
theorem dX3_codeAt_22 : decode cX3_codeAt 22 = .ok (.getfield 11, 3) := by decide +kernel
theorem dX3_codeAt_25 : decode cX3_codeAt 25 = .ok (.iload_n 1, 1) := by decide +kernel
theorem dX3_codeAt_26 : decode cX3_codeAt 26 = .ok (.iaload, 1) := by decide +kernel
theorem dX3_codeAt_27 : decode cX3_codeAt 27 = .ok (.goto 4, 3) := by decide +kernel
theorem dX3_codeAt_30 : decode cX3_codeAt 30 = .ok (.iconst (-1), 1) := by decide +kernel
theorem dX3_codeAt_31 : decode cX3_codeAt 31 = .ok (.ireturn, 1) := by decide +kernel
set_option maxRecDepth 20000 in
theorem ggX3_faultPlace_X3_fitsPots : GoodIn wsX3_faultPlace wsX3_fitsPots := goodIn_r _ [6, 7, 8, 9, 5, 10, 1, 11, 12, 13, 14, 15, 16, 17, 22, 23] (by decide +kernel) (by decide +kernel)
set_option maxRecDepth 20000 in
theorem gX3_faultPlace_X3_fitsPots : GoodIn wsX3_faultPlace (wsV RX3 19 RX3 yX3_fitsPots wsX3_fitsPots) := goodIn_app (goodIn_of _ (by decide +kernel)) ggX3_faultPlace_X3_fitsPots
set_option maxRecDepth 20000 in
theorem ggX3_faultPlace_X3_fitsEnd : GoodIn wsX3_faultPlace wsX3_fitsEnd := goodIn_r _ [21, 7, 8, 9, 5, 10, 1, 11, 15, 16, 17, 22, 23] (by decide +kernel) (by decide +kernel)
set_option maxRecDepth 20000 in
theorem gX3_faultPlace_X3_fitsEnd : GoodIn wsX3_faultPlace (wsV RX3 23 RX3 yX3_fitsEnd wsX3_fitsEnd) := goodIn_app (goodIn_of _ (by decide +kernel)) ggX3_faultPlace_X3_fitsEnd
set_option maxRecDepth 20000 in
theorem ggX3_faultPlace_X3_codeAt : GoodIn wsX3_faultPlace wsX3_codeAt := goodIn_r _ [10, 1, 11, 22, 23] (by decide +kernel) (by decide +kernel)
set_option maxRecDepth 20000 in
theorem gX3_faultPlace_X3_codeAt : GoodIn wsX3_faultPlace (wsV RX3 27 RX3 yX3_codeAt wsX3_codeAt) := goodIn_app (goodIn_of _ (by decide +kernel)) ggX3_faultPlace_X3_codeAt
theorem dX3_faultPlace_0 : decode cX3_faultPlace 0 = .ok (.iconst (-1), 1) := by decide +kernel
theorem dX3_faultPlace_1 : decode cX3_faultPlace 1 = .ok (.istore_n 1, 1) := by decide +kernel
theorem dX3_faultPlace_2 : decode cX3_faultPlace 2 = .ok (.iconst 0, 1) := by decide +kernel
theorem dX3_faultPlace_3 : decode cX3_faultPlace 3 = .ok (.istore_n 2, 1) := by decide +kernel
theorem dX3_faultPlace_4 : decode cX3_faultPlace 4 = .ok (.iload_n 2, 1) := by decide +kernel
theorem dX3_faultPlace_5 : decode cX3_faultPlace 5 = .ok (.aload_n 0, 1) := by decide +kernel
theorem dX3_faultPlace_6 : decode cX3_faultPlace 6 = .ok (.getfield 15, 3) := by decide +kernel
theorem dX3_faultPlace_9 : decode cX3_faultPlace 9 = .ok (.if_icmp .ge 49, 3) := by decide +kernel
theorem dX3_faultPlace_12 : decode cX3_faultPlace 12 = .ok (.iload_n 1, 1) := by decide +kernel
theorem dX3_faultPlace_13 : decode cX3_faultPlace 13 = .ok (.iconst (-1), 1) := by decide +kernel
theorem dX3_faultPlace_14 : decode cX3_faultPlace 14 = .ok (.if_icmp .ne 11, 3) := by decide +kernel
theorem dX3_faultPlace_17 : decode cX3_faultPlace 17 = .ok (.aload_n 0, 1) := by decide +kernel
theorem dX3_faultPlace_18 : decode cX3_faultPlace 18 = .ok (.iload_n 2, 1) := by decide +kernel
theorem dX3_faultPlace_19 : decode cX3_faultPlace 19 = .ok (.invokevirtual 19, 3) := by decide +kernel
theorem dX3_faultPlace_22 : decode cX3_faultPlace 22 = .ok (.goto 11, 3) := by decide +kernel
theorem dX3_faultPlace_25 : decode cX3_faultPlace 25 = .ok (.aload_n 0, 1) := by decide +kernel
theorem dX3_faultPlace_26 : decode cX3_faultPlace 26 = .ok (.iload_n 2, 1) := by decide +kernel
theorem dX3_faultPlace_27 : decode cX3_faultPlace 27 = .ok (.iload_n 2, 1) := by decide +kernel
theorem dX3_faultPlace_28 : decode cX3_faultPlace 28 = .ok (.iload_n 1, 1) := by decide +kernel
theorem dX3_faultPlace_29 : decode cX3_faultPlace 29 = .ok (.isub, 1) := by decide +kernel
theorem dX3_faultPlace_30 : decode cX3_faultPlace 30 = .ok (.invokevirtual 23, 3) := by decide +kernel
theorem dX3_faultPlace_33 : decode cX3_faultPlace 33 = .ok (.istore_n 3, 1) := by decide +kernel
theorem dX3_faultPlace_34 : decode cX3_faultPlace 34 = .ok (.iload_n 3, 1) := by decide +kernel
theorem dX3_faultPlace_35 : decode cX3_faultPlace 35 = .ok (.ifCond .ne 5, 3) := by decide +kernel
theorem dX3_faultPlace_38 : decode cX3_faultPlace 38 = .ok (.iload_n 2, 1) := by decide +kernel
theorem dX3_faultPlace_39 : decode cX3_faultPlace 39 = .ok (.ireturn, 1) := by decide +kernel
theorem dX3_faultPlace_40 : decode cX3_faultPlace 40 = .ok (.aload_n 0, 1) := by decide +kernel
theorem dX3_faultPlace_41 : decode cX3_faultPlace 41 = .ok (.iload_n 2, 1) := by decide +kernel
theorem dX3_faultPlace_42 : decode cX3_faultPlace 42 = .ok (.invokevirtual 27, 3) := by decide +kernel
theorem dX3_faultPlace_45 : decode cX3_faultPlace 45 = .ok (.bipush 59, 2) := by decide +kernel
theorem dX3_faultPlace_47 : decode cX3_faultPlace 47 = .ok (.if_icmp .ne 5, 3) := by decide +kernel
theorem dX3_faultPlace_50 : decode cX3_faultPlace 50 = .ok (.iload_n 2, 1) := by decide +kernel
theorem dX3_faultPlace_51 : decode cX3_faultPlace 51 = .ok (.istore_n 1, 1) := by decide +kernel
theorem dX3_faultPlace_52 : decode cX3_faultPlace 52 = .ok (.iinc 2 1, 3) := by decide +kernel
theorem dX3_faultPlace_55 : decode cX3_faultPlace 55 = .ok (.goto (-51), 3) := by decide +kernel
theorem dX3_faultPlace_58 : decode cX3_faultPlace 58 = .ok (.aload_n 0, 1) := by decide +kernel
theorem dX3_faultPlace_59 : decode cX3_faultPlace 59 = .ok (.getfield 15, 3) := by decide +kernel
theorem dX3_faultPlace_62 : decode cX3_faultPlace 62 = .ok (.ireturn, 1) := by decide +kernel
set_option maxRecDepth 20000 in
theorem ggX3_fitsPots_X3_codeAt : GoodIn wsX3_fitsPots wsX3_codeAt := goodIn_r _ [5, 6, 7, 14, 15] (by decide +kernel) (by decide +kernel)
set_option maxRecDepth 20000 in
theorem gX3_fitsPots_X3_codeAt : GoodIn wsX3_fitsPots (wsV RX3 27 RX3 yX3_codeAt wsX3_codeAt) := goodIn_app (goodIn_of _ (by decide +kernel)) ggX3_fitsPots_X3_codeAt
set_option maxRecDepth 20000 in
theorem ggX3_fitsPots_X3_kindOf : GoodIn wsX3_fitsPots wsX3_kindOf := goodIn_r _ [10] (by decide +kernel) (by decide +kernel)
set_option maxRecDepth 20000 in
theorem gX3_fitsPots_X3_kindOf : GoodIn wsX3_fitsPots (va_wsS RX3 31 yX3_kindOf wsX3_kindOf) := goodIn_app (goodIn_of _ (by decide +kernel)) ggX3_fitsPots_X3_kindOf
set_option maxRecDepth 20000 in
theorem ggX3_fitsPots_X3_fitsSecondDigit : GoodIn wsX3_fitsPots wsX3_fitsSecondDigit := goodIn_r _ [13] (by decide +kernel) (by decide +kernel)
set_option maxRecDepth 20000 in
theorem gX3_fitsPots_X3_fitsSecondDigit : GoodIn wsX3_fitsPots (va_wsS RX3 34 yX3_fitsSecondDigit wsX3_fitsSecondDigit) := goodIn_app (goodIn_of _ (by decide +kernel)) ggX3_fitsPots_X3_fitsSecondDigit
theorem dX3_fitsPots_0 : decode cX3_fitsPots 0 = .ok (.aload_n 0, 1) := by decide +kernel
theorem dX3_fitsPots_1 : decode cX3_fitsPots 1 = .ok (.iload_n 1, 1) := by decide +kernel
theorem dX3_fitsPots_2 : decode cX3_fitsPots 2 = .ok (.invokevirtual 27, 3) := by decide +kernel
theorem dX3_fitsPots_5 : decode cX3_fitsPots 5 = .ok (.istore_n 2, 1) := by decide +kernel
theorem dX3_fitsPots_6 : decode cX3_fitsPots 6 = .ok (.iload_n 1, 1) := by decide +kernel
theorem dX3_fitsPots_7 : decode cX3_fitsPots 7 = .ok (.iconst 4, 1) := by decide +kernel
theorem dX3_fitsPots_8 : decode cX3_fitsPots 8 = .ok (.irem, 1) := by decide +kernel
theorem dX3_fitsPots_9 : decode cX3_fitsPots 9 = .ok (.tableswitch 73 0 2 #[27, 41, 59], 27) := by decide +kernel
theorem dX3_fitsPots_36 : decode cX3_fitsPots 36 = .ok (.iload_n 2, 1) := by decide +kernel
theorem dX3_fitsPots_37 : decode cX3_fitsPots 37 = .ok (.invokestatic 31, 3) := by decide +kernel
theorem dX3_fitsPots_40 : decode cX3_fitsPots 40 = .ok (.iconst (-1), 1) := by decide +kernel
theorem dX3_fitsPots_41 : decode cX3_fitsPots 41 = .ok (.if_icmp .eq 7, 3) := by decide +kernel
theorem dX3_fitsPots_44 : decode cX3_fitsPots 44 = .ok (.iconst 1, 1) := by decide +kernel
theorem dX3_fitsPots_45 : decode cX3_fitsPots 45 = .ok (.goto 4, 3) := by decide +kernel
theorem dX3_fitsPots_48 : decode cX3_fitsPots 48 = .ok (.iconst 0, 1) := by decide +kernel
theorem dX3_fitsPots_49 : decode cX3_fitsPots 49 = .ok (.ireturn, 1) := by decide +kernel
theorem dX3_fitsPots_50 : decode cX3_fitsPots 50 = .ok (.iload_n 2, 1) := by decide +kernel
theorem dX3_fitsPots_51 : decode cX3_fitsPots 51 = .ok (.bipush 48, 2) := by decide +kernel
theorem dX3_fitsPots_53 : decode cX3_fitsPots 53 = .ok (.if_icmp .lt 13, 3) := by decide +kernel
theorem dX3_fitsPots_56 : decode cX3_fitsPots 56 = .ok (.iload_n 2, 1) := by decide +kernel
theorem dX3_fitsPots_57 : decode cX3_fitsPots 57 = .ok (.bipush 52, 2) := by decide +kernel
theorem dX3_fitsPots_59 : decode cX3_fitsPots 59 = .ok (.if_icmp .gt 7, 3) := by decide +kernel
theorem dX3_fitsPots_62 : decode cX3_fitsPots 62 = .ok (.iconst 1, 1) := by decide +kernel
theorem dX3_fitsPots_63 : decode cX3_fitsPots 63 = .ok (.goto 4, 3) := by decide +kernel
theorem dX3_fitsPots_66 : decode cX3_fitsPots 66 = .ok (.iconst 0, 1) := by decide +kernel
theorem dX3_fitsPots_67 : decode cX3_fitsPots 67 = .ok (.ireturn, 1) := by decide +kernel
theorem dX3_fitsPots_68 : decode cX3_fitsPots 68 = .ok (.aload_n 0, 1) := by decide +kernel
theorem dX3_fitsPots_69 : decode cX3_fitsPots 69 = .ok (.iload_n 1, 1) := by decide +kernel
theorem dX3_fitsPots_70 : decode cX3_fitsPots 70 = .ok (.iconst 1, 1) := by decide +kernel
theorem dX3_fitsPots_71 : decode cX3_fitsPots 71 = .ok (.isub, 1) := by decide +kernel
theorem dX3_fitsPots_72 : decode cX3_fitsPots 72 = .ok (.invokevirtual 27, 3) := by decide +kernel
theorem dX3_fitsPots_75 : decode cX3_fitsPots 75 = .ok (.iload_n 2, 1) := by decide +kernel
theorem dX3_fitsPots_76 : decode cX3_fitsPots 76 = .ok (.bipush 52, 2) := by decide +kernel
theorem dX3_fitsPots_78 : decode cX3_fitsPots 78 = .ok (.invokestatic 34, 3) := by decide +kernel
theorem dX3_fitsPots_81 : decode cX3_fitsPots 81 = .ok (.ireturn, 1) := by decide +kernel
theorem dX3_fitsPots_82 : decode cX3_fitsPots 82 = .ok (.iload_n 2, 1) := by decide +kernel
theorem dX3_fitsPots_83 : decode cX3_fitsPots 83 = .ok (.bipush 44, 2) := by decide +kernel
theorem dX3_fitsPots_85 : decode cX3_fitsPots 85 = .ok (.if_icmp .ne 9, 3) := by decide +kernel
theorem dX3_fitsPots_88 : decode cX3_fitsPots 88 = .ok (.iload_n 1, 1) := by decide +kernel
theorem dX3_fitsPots_89 : decode cX3_fitsPots 89 = .ok (.bipush 15, 2) := by decide +kernel
theorem dX3_fitsPots_91 : decode cX3_fitsPots 91 = .ok (.if_icmp .lt 15, 3) := by decide +kernel
theorem dX3_fitsPots_94 : decode cX3_fitsPots 94 = .ok (.iload_n 2, 1) := by decide +kernel
theorem dX3_fitsPots_95 : decode cX3_fitsPots 95 = .ok (.bipush 59, 2) := by decide +kernel
theorem dX3_fitsPots_97 : decode cX3_fitsPots 97 = .ok (.if_icmp .ne 13, 3) := by decide +kernel
theorem dX3_fitsPots_100 : decode cX3_fitsPots 100 = .ok (.iload_n 1, 1) := by decide +kernel
theorem dX3_fitsPots_101 : decode cX3_fitsPots 101 = .ok (.bipush 7, 2) := by decide +kernel
theorem dX3_fitsPots_103 : decode cX3_fitsPots 103 = .ok (.if_icmp .lt 7, 3) := by decide +kernel
theorem dX3_fitsPots_106 : decode cX3_fitsPots 106 = .ok (.iconst 1, 1) := by decide +kernel
theorem dX3_fitsPots_107 : decode cX3_fitsPots 107 = .ok (.goto 4, 3) := by decide +kernel
theorem dX3_fitsPots_110 : decode cX3_fitsPots 110 = .ok (.iconst 0, 1) := by decide +kernel
theorem dX3_fitsPots_111 : decode cX3_fitsPots 111 = .ok (.ireturn, 1) := by decide +kernel
set_option maxRecDepth 20000 in
theorem ggX3_fitsEnd_X3_codeAt : GoodIn wsX3_fitsEnd wsX3_codeAt := goodIn_r _ [5, 6, 7, 11, 12] (by decide +kernel) (by decide +kernel)
set_option maxRecDepth 20000 in
theorem gX3_fitsEnd_X3_codeAt : GoodIn wsX3_fitsEnd (wsV RX3 27 RX3 yX3_codeAt wsX3_codeAt) := goodIn_app (goodIn_of _ (by decide +kernel)) ggX3_fitsEnd_X3_codeAt
set_option maxRecDepth 20000 in
theorem ggX3_fitsEnd_X3_fitsSecondDigit : GoodIn wsX3_fitsEnd wsX3_fitsSecondDigit := goodIn_r _ [10] (by decide +kernel) (by decide +kernel)
set_option maxRecDepth 20000 in
theorem gX3_fitsEnd_X3_fitsSecondDigit : GoodIn wsX3_fitsEnd (va_wsS RX3 34 yX3_fitsSecondDigit wsX3_fitsSecondDigit) := goodIn_app (goodIn_of _ (by decide +kernel)) ggX3_fitsEnd_X3_fitsSecondDigit
theorem dX3_fitsEnd_0 : decode cX3_fitsEnd 0 = .ok (.aload_n 0, 1) := by decide +kernel
theorem dX3_fitsEnd_1 : decode cX3_fitsEnd 1 = .ok (.iload_n 1, 1) := by decide +kernel
theorem dX3_fitsEnd_2 : decode cX3_fitsEnd 2 = .ok (.invokevirtual 27, 3) := by decide +kernel
theorem dX3_fitsEnd_5 : decode cX3_fitsEnd 5 = .ok (.istore_n 3, 1) := by decide +kernel
theorem dX3_fitsEnd_6 : decode cX3_fitsEnd 6 = .ok (.iload_n 2, 1) := by decide +kernel
theorem dX3_fitsEnd_7 : decode cX3_fitsEnd 7 = .ok (.tableswitch 75 1 3 #[25, 43, 57], 25) := by decide +kernel
theorem dX3_fitsEnd_32 : decode cX3_fitsEnd 32 = .ok (.iload_n 3, 1) := by decide +kernel
theorem dX3_fitsEnd_33 : decode cX3_fitsEnd 33 = .ok (.bipush 48, 2) := by decide +kernel
theorem dX3_fitsEnd_35 : decode cX3_fitsEnd 35 = .ok (.if_icmp .lt 13, 3) := by decide +kernel
theorem dX3_fitsEnd_38 : decode cX3_fitsEnd 38 = .ok (.iload_n 3, 1) := by decide +kernel
theorem dX3_fitsEnd_39 : decode cX3_fitsEnd 39 = .ok (.bipush 54, 2) := by decide +kernel
theorem dX3_fitsEnd_41 : decode cX3_fitsEnd 41 = .ok (.if_icmp .gt 7, 3) := by decide +kernel
theorem dX3_fitsEnd_44 : decode cX3_fitsEnd 44 = .ok (.iconst 1, 1) := by decide +kernel
theorem dX3_fitsEnd_45 : decode cX3_fitsEnd 45 = .ok (.goto 4, 3) := by decide +kernel
theorem dX3_fitsEnd_48 : decode cX3_fitsEnd 48 = .ok (.iconst 0, 1) := by decide +kernel
theorem dX3_fitsEnd_49 : decode cX3_fitsEnd 49 = .ok (.ireturn, 1) := by decide +kernel
theorem dX3_fitsEnd_50 : decode cX3_fitsEnd 50 = .ok (.aload_n 0, 1) := by decide +kernel
theorem dX3_fitsEnd_51 : decode cX3_fitsEnd 51 = .ok (.iload_n 1, 1) := by decide +kernel
theorem dX3_fitsEnd_52 : decode cX3_fitsEnd 52 = .ok (.iconst 1, 1) := by decide +kernel
theorem dX3_fitsEnd_53 : decode cX3_fitsEnd 53 = .ok (.isub, 1) := by decide +kernel
theorem dX3_fitsEnd_54 : decode cX3_fitsEnd 54 = .ok (.invokevirtual 27, 3) := by decide +kernel
theorem dX3_fitsEnd_57 : decode cX3_fitsEnd 57 = .ok (.iload_n 3, 1) := by decide +kernel
theorem dX3_fitsEnd_58 : decode cX3_fitsEnd 58 = .ok (.bipush 54, 2) := by decide +kernel
theorem dX3_fitsEnd_60 : decode cX3_fitsEnd 60 = .ok (.invokestatic 34, 3) := by decide +kernel
theorem dX3_fitsEnd_63 : decode cX3_fitsEnd 63 = .ok (.ireturn, 1) := by decide +kernel
theorem dX3_fitsEnd_64 : decode cX3_fitsEnd 64 = .ok (.iload_n 3, 1) := by decide +kernel
theorem dX3_fitsEnd_65 : decode cX3_fitsEnd 65 = .ok (.bipush 49, 2) := by decide +kernel
theorem dX3_fitsEnd_67 : decode cX3_fitsEnd 67 = .ok (.if_icmp .lt 13, 3) := by decide +kernel
theorem dX3_fitsEnd_70 : decode cX3_fitsEnd 70 = .ok (.iload_n 3, 1) := by decide +kernel
theorem dX3_fitsEnd_71 : decode cX3_fitsEnd 71 = .ok (.bipush 52, 2) := by decide +kernel
theorem dX3_fitsEnd_73 : decode cX3_fitsEnd 73 = .ok (.if_icmp .gt 7, 3) := by decide +kernel
theorem dX3_fitsEnd_76 : decode cX3_fitsEnd 76 = .ok (.iconst 1, 1) := by decide +kernel
theorem dX3_fitsEnd_77 : decode cX3_fitsEnd 77 = .ok (.goto 4, 3) := by decide +kernel
theorem dX3_fitsEnd_80 : decode cX3_fitsEnd 80 = .ok (.iconst 0, 1) := by decide +kernel
theorem dX3_fitsEnd_81 : decode cX3_fitsEnd 81 = .ok (.ireturn, 1) := by decide +kernel
theorem dX3_fitsEnd_82 : decode cX3_fitsEnd 82 = .ok (.iconst 0, 1) := by decide +kernel
theorem dX3_fitsEnd_83 : decode cX3_fitsEnd 83 = .ok (.ireturn, 1) := by decide +kernel
theorem dX3_fitsSecondDigit_0 : decode cX3_fitsSecondDigit 0 = .ok (.iload_n 0, 1) := by decide +kernel
theorem dX3_fitsSecondDigit_1 : decode cX3_fitsSecondDigit 1 = .ok (.iload_n 2, 1) := by decide +kernel
theorem dX3_fitsSecondDigit_2 : decode cX3_fitsSecondDigit 2 = .ok (.if_icmp .ne 15, 3) := by decide +kernel
theorem dX3_fitsSecondDigit_5 : decode cX3_fitsSecondDigit 5 = .ok (.iload_n 1, 1) := by decide +kernel
theorem dX3_fitsSecondDigit_6 : decode cX3_fitsSecondDigit 6 = .ok (.bipush 48, 2) := by decide +kernel
theorem dX3_fitsSecondDigit_8 : decode cX3_fitsSecondDigit 8 = .ok (.if_icmp .ne 7, 3) := by decide +kernel
theorem dX3_fitsSecondDigit_11 : decode cX3_fitsSecondDigit 11 = .ok (.iconst 1, 1) := by decide +kernel
theorem dX3_fitsSecondDigit_12 : decode cX3_fitsSecondDigit 12 = .ok (.goto 4, 3) := by decide +kernel
theorem dX3_fitsSecondDigit_15 : decode cX3_fitsSecondDigit 15 = .ok (.iconst 0, 1) := by decide +kernel
theorem dX3_fitsSecondDigit_16 : decode cX3_fitsSecondDigit 16 = .ok (.ireturn, 1) := by decide +kernel
theorem dX3_fitsSecondDigit_17 : decode cX3_fitsSecondDigit 17 = .ok (.iload_n 1, 1) := by decide +kernel
theorem dX3_fitsSecondDigit_18 : decode cX3_fitsSecondDigit 18 = .ok (.iload_n 0, 1) := by decide +kernel
theorem dX3_fitsSecondDigit_19 : decode cX3_fitsSecondDigit 19 = .ok (.bipush 48, 2) := by decide +kernel
theorem dX3_fitsSecondDigit_21 : decode cX3_fitsSecondDigit 21 = .ok (.if_icmp .ne 8, 3) := by decide +kernel
theorem dX3_fitsSecondDigit_24 : decode cX3_fitsSecondDigit 24 = .ok (.bipush 49, 2) := by decide +kernel
theorem dX3_fitsSecondDigit_26 : decode cX3_fitsSecondDigit 26 = .ok (.goto 5, 3) := by decide +kernel
theorem dX3_fitsSecondDigit_29 : decode cX3_fitsSecondDigit 29 = .ok (.bipush 48, 2) := by decide +kernel
theorem dX3_fitsSecondDigit_31 : decode cX3_fitsSecondDigit 31 = .ok (.if_icmp .lt 13, 3) := by decide +kernel
theorem dX3_fitsSecondDigit_34 : decode cX3_fitsSecondDigit 34 = .ok (.iload_n 1, 1) := by decide +kernel
theorem dX3_fitsSecondDigit_35 : decode cX3_fitsSecondDigit 35 = .ok (.bipush 57, 2) := by decide +kernel
theorem dX3_fitsSecondDigit_37 : decode cX3_fitsSecondDigit 37 = .ok (.if_icmp .gt 7, 3) := by decide +kernel
theorem dX3_fitsSecondDigit_40 : decode cX3_fitsSecondDigit 40 = .ok (.iconst 1, 1) := by decide +kernel
theorem dX3_fitsSecondDigit_41 : decode cX3_fitsSecondDigit 41 = .ok (.goto 4, 3) := by decide +kernel
theorem dX3_fitsSecondDigit_44 : decode cX3_fitsSecondDigit 44 = .ok (.iconst 0, 1) := by decide +kernel
theorem dX3_fitsSecondDigit_45 : decode cX3_fitsSecondDigit 45 = .ok (.ireturn, 1) := by decide +kernel
theorem dX3_kindOf_0 : decode cX3_kindOf 0 = .ok (.iload_n 0, 1) := by decide +kernel
theorem dX3_kindOf_1 : decode cX3_kindOf 1 = .ok (.lookupswitch 61 #[(98, 59), (101, 53), (112, 51), (114, 55), (115, 57)], 51) := by decide +kernel
theorem dX3_kindOf_52 : decode cX3_kindOf 52 = .ok (.iconst 0, 1) := by decide +kernel
theorem dX3_kindOf_53 : decode cX3_kindOf 53 = .ok (.ireturn, 1) := by decide +kernel
theorem dX3_kindOf_54 : decode cX3_kindOf 54 = .ok (.iconst 1, 1) := by decide +kernel
theorem dX3_kindOf_55 : decode cX3_kindOf 55 = .ok (.ireturn, 1) := by decide +kernel
theorem dX3_kindOf_56 : decode cX3_kindOf 56 = .ok (.iconst 2, 1) := by decide +kernel
theorem dX3_kindOf_57 : decode cX3_kindOf 57 = .ok (.ireturn, 1) := by decide +kernel
theorem dX3_kindOf_58 : decode cX3_kindOf 58 = .ok (.iconst 3, 1) := by decide +kernel
theorem dX3_kindOf_59 : decode cX3_kindOf 59 = .ok (.ireturn, 1) := by decide +kernel
theorem dX3_kindOf_60 : decode cX3_kindOf 60 = .ok (.iconst 4, 1) := by decide +kernel
theorem dX3_kindOf_61 : decode cX3_kindOf 61 = .ok (.ireturn, 1) := by decide +kernel
theorem dX3_kindOf_62 : decode cX3_kindOf 62 = .ok (.iconst (-1), 1) := by decide +kernel
theorem dX3_kindOf_63 : decode cX3_kindOf 63 = .ok (.ireturn, 1) := by decide +kernel
set_option maxRecDepth 20000 in
theorem ggX3_isKitchen_X3_codeAt : GoodIn wsX3_isKitchen wsX3_codeAt := goodIn_r _ [6, 1, 7, 26, 27] (by decide +kernel) (by decide +kernel)
set_option maxRecDepth 20000 in
theorem gX3_isKitchen_X3_codeAt : GoodIn wsX3_isKitchen (wsV RX3 27 RX3 yX3_codeAt wsX3_codeAt) := goodIn_app (goodIn_of _ (by decide +kernel)) ggX3_isKitchen_X3_codeAt
set_option maxRecDepth 20000 in
theorem ggX3_isKitchen_X3_faultPlace : GoodIn wsX3_isKitchen wsX3_faultPlace := goodIn_r _ [11, 1, 12, 13, 14, 5, 15, 2, 3, 4, 6, 7, 16, 17, 18, 19, 20, 21, 22, 23, 24, 25, 26, 27] (by decide +kernel) (by decide +kernel)
set_option maxRecDepth 20000 in
theorem gX3_isKitchen_X3_faultPlace : GoodIn wsX3_isKitchen (wsV RX3 38 RX3 yX3_faultPlace wsX3_faultPlace) := goodIn_app (goodIn_of _ (by decide +kernel)) ggX3_isKitchen_X3_faultPlace
theorem dX3_isKitchen_0 : decode cX3_isKitchen 0 = .ok (.aload_n 0, 1) := by decide +kernel
theorem dX3_isKitchen_1 : decode cX3_isKitchen 1 = .ok (.aload_n 0, 1) := by decide +kernel
theorem dX3_isKitchen_2 : decode cX3_isKitchen 2 = .ok (.getfield 15, 3) := by decide +kernel
theorem dX3_isKitchen_5 : decode cX3_isKitchen 5 = .ok (.iconst 4, 1) := by decide +kernel
theorem dX3_isKitchen_6 : decode cX3_isKitchen 6 = .ok (.isub, 1) := by decide +kernel
theorem dX3_isKitchen_7 : decode cX3_isKitchen 7 = .ok (.invokevirtual 27, 3) := by decide +kernel
theorem dX3_isKitchen_10 : decode cX3_isKitchen 10 = .ok (.bipush 59, 2) := by decide +kernel
theorem dX3_isKitchen_12 : decode cX3_isKitchen 12 = .ok (.if_icmp .ne 18, 3) := by decide +kernel
theorem dX3_isKitchen_15 : decode cX3_isKitchen 15 = .ok (.aload_n 0, 1) := by decide +kernel
theorem dX3_isKitchen_16 : decode cX3_isKitchen 16 = .ok (.invokevirtual 38, 3) := by decide +kernel
theorem dX3_isKitchen_19 : decode cX3_isKitchen 19 = .ok (.aload_n 0, 1) := by decide +kernel
theorem dX3_isKitchen_20 : decode cX3_isKitchen 20 = .ok (.getfield 15, 3) := by decide +kernel
theorem dX3_isKitchen_23 : decode cX3_isKitchen 23 = .ok (.if_icmp .ne 7, 3) := by decide +kernel
theorem dX3_isKitchen_26 : decode cX3_isKitchen 26 = .ok (.iconst 1, 1) := by decide +kernel
theorem dX3_isKitchen_27 : decode cX3_isKitchen 27 = .ok (.goto 4, 3) := by decide +kernel
theorem dX3_isKitchen_30 : decode cX3_isKitchen 30 = .ok (.iconst 0, 1) := by decide +kernel
theorem dX3_isKitchen_31 : decode cX3_isKitchen 31 = .ok (.ireturn, 1) := by decide +kernel
theorem dX3_potsTold_0 : decode cX3_potsTold 0 = .ok (.aload_n 0, 1) := by decide +kernel
theorem dX3_potsTold_1 : decode cX3_potsTold 1 = .ok (.getfield 15, 3) := by decide +kernel
theorem dX3_potsTold_4 : decode cX3_potsTold 4 = .ok (.iconst 4, 1) := by decide +kernel
theorem dX3_potsTold_5 : decode cX3_potsTold 5 = .ok (.idiv, 1) := by decide +kernel
theorem dX3_potsTold_6 : decode cX3_potsTold 6 = .ok (.ireturn, 1) := by decide +kernel
set_option maxRecDepth 20000 in
theorem ggX3_kindTold_X3_codeAt : GoodIn wsX3_kindTold wsX3_codeAt := goodIn_r _ [5, 6, 7, 11, 12] (by decide +kernel) (by decide +kernel)
set_option maxRecDepth 20000 in
theorem gX3_kindTold_X3_codeAt : GoodIn wsX3_kindTold (wsV RX3 27 RX3 yX3_codeAt wsX3_codeAt) := goodIn_app (goodIn_of _ (by decide +kernel)) ggX3_kindTold_X3_codeAt
set_option maxRecDepth 20000 in
theorem ggX3_kindTold_X3_kindOf : GoodIn wsX3_kindTold wsX3_kindOf := goodIn_r _ [10] (by decide +kernel) (by decide +kernel)
set_option maxRecDepth 20000 in
theorem gX3_kindTold_X3_kindOf : GoodIn wsX3_kindTold (va_wsS RX3 31 yX3_kindOf wsX3_kindOf) := goodIn_app (goodIn_of _ (by decide +kernel)) ggX3_kindTold_X3_kindOf
theorem dX3_kindTold_0 : decode cX3_kindTold 0 = .ok (.aload_n 0, 1) := by decide +kernel
theorem dX3_kindTold_1 : decode cX3_kindTold 1 = .ok (.iload_n 1, 1) := by decide +kernel
theorem dX3_kindTold_2 : decode cX3_kindTold 2 = .ok (.iconst 4, 1) := by decide +kernel
theorem dX3_kindTold_3 : decode cX3_kindTold 3 = .ok (.imul, 1) := by decide +kernel
theorem dX3_kindTold_4 : decode cX3_kindTold 4 = .ok (.invokevirtual 27, 3) := by decide +kernel
theorem dX3_kindTold_7 : decode cX3_kindTold 7 = .ok (.invokestatic 31, 3) := by decide +kernel
theorem dX3_kindTold_10 : decode cX3_kindTold 10 = .ok (.ireturn, 1) := by decide +kernel
set_option maxRecDepth 20000 in
theorem ggX3_wantsTold_X3_twoDigits : GoodIn wsX3_wantsTold wsX3_twoDigits := goodIn_r _ [5, 6, 7, 8, 4, 9, 10, 11, 12, 13] (by decide +kernel) (by decide +kernel)
set_option maxRecDepth 20000 in
theorem gX3_wantsTold_X3_twoDigits : GoodIn wsX3_wantsTold (wsV RX3 42 RX3 yX3_twoDigits wsX3_twoDigits) := goodIn_app (goodIn_of _ (by decide +kernel)) ggX3_wantsTold_X3_twoDigits
theorem dX3_wantsTold_0 : decode cX3_wantsTold 0 = .ok (.aload_n 0, 1) := by decide +kernel
theorem dX3_wantsTold_1 : decode cX3_wantsTold 1 = .ok (.iload_n 1, 1) := by decide +kernel
theorem dX3_wantsTold_2 : decode cX3_wantsTold 2 = .ok (.iconst 4, 1) := by decide +kernel
theorem dX3_wantsTold_3 : decode cX3_wantsTold 3 = .ok (.imul, 1) := by decide +kernel
theorem dX3_wantsTold_4 : decode cX3_wantsTold 4 = .ok (.iconst 1, 1) := by decide +kernel
theorem dX3_wantsTold_5 : decode cX3_wantsTold 5 = .ok (.iadd, 1) := by decide +kernel
theorem dX3_wantsTold_6 : decode cX3_wantsTold 6 = .ok (.invokevirtual 42, 3) := by decide +kernel
theorem dX3_wantsTold_9 : decode cX3_wantsTold 9 = .ok (.ireturn, 1) := by decide +kernel
set_option maxRecDepth 20000 in
theorem ggX3_springTold_X3_twoDigits : GoodIn wsX3_springTold wsX3_twoDigits := goodIn_r _ [6, 7, 8, 9, 5, 10, 1, 11, 12, 13] (by decide +kernel) (by decide +kernel)
set_option maxRecDepth 20000 in
theorem gX3_springTold_X3_twoDigits : GoodIn wsX3_springTold (wsV RX3 42 RX3 yX3_twoDigits wsX3_twoDigits) := goodIn_app (goodIn_of _ (by decide +kernel)) ggX3_springTold_X3_twoDigits
theorem dX3_springTold_0 : decode cX3_springTold 0 = .ok (.aload_n 0, 1) := by decide +kernel
theorem dX3_springTold_1 : decode cX3_springTold 1 = .ok (.aload_n 0, 1) := by decide +kernel
theorem dX3_springTold_2 : decode cX3_springTold 2 = .ok (.getfield 15, 3) := by decide +kernel
theorem dX3_springTold_5 : decode cX3_springTold 5 = .ok (.iconst 3, 1) := by decide +kernel
theorem dX3_springTold_6 : decode cX3_springTold 6 = .ok (.isub, 1) := by decide +kernel
theorem dX3_springTold_7 : decode cX3_springTold 7 = .ok (.invokevirtual 42, 3) := by decide +kernel
theorem dX3_springTold_10 : decode cX3_springTold 10 = .ok (.ireturn, 1) := by decide +kernel
set_option maxRecDepth 20000 in
theorem ggX3_handsTold_X3_codeAt : GoodIn wsX3_handsTold wsX3_codeAt := goodIn_r _ [6, 1, 7, 8, 9] (by decide +kernel) (by decide +kernel)
set_option maxRecDepth 20000 in
theorem gX3_handsTold_X3_codeAt : GoodIn wsX3_handsTold (wsV RX3 27 RX3 yX3_codeAt wsX3_codeAt) := goodIn_app (goodIn_of _ (by decide +kernel)) ggX3_handsTold_X3_codeAt
theorem dX3_handsTold_0 : decode cX3_handsTold 0 = .ok (.aload_n 0, 1) := by decide +kernel
theorem dX3_handsTold_1 : decode cX3_handsTold 1 = .ok (.aload_n 0, 1) := by decide +kernel
theorem dX3_handsTold_2 : decode cX3_handsTold 2 = .ok (.getfield 15, 3) := by decide +kernel
theorem dX3_handsTold_5 : decode cX3_handsTold 5 = .ok (.iconst 1, 1) := by decide +kernel
theorem dX3_handsTold_6 : decode cX3_handsTold 6 = .ok (.isub, 1) := by decide +kernel
theorem dX3_handsTold_7 : decode cX3_handsTold 7 = .ok (.invokevirtual 27, 3) := by decide +kernel
theorem dX3_handsTold_10 : decode cX3_handsTold 10 = .ok (.bipush 48, 2) := by decide +kernel
theorem dX3_handsTold_12 : decode cX3_handsTold 12 = .ok (.isub, 1) := by decide +kernel
theorem dX3_handsTold_13 : decode cX3_handsTold 13 = .ok (.ireturn, 1) := by decide +kernel
set_option maxRecDepth 20000 in
theorem ggX3_twoDigits_X3_codeAt : GoodIn wsX3_twoDigits wsX3_codeAt := goodIn_r _ [5, 6, 7, 8, 9] (by decide +kernel) (by decide +kernel)
set_option maxRecDepth 20000 in
theorem gX3_twoDigits_X3_codeAt : GoodIn wsX3_twoDigits (wsV RX3 27 RX3 yX3_codeAt wsX3_codeAt) := goodIn_app (goodIn_of _ (by decide +kernel)) ggX3_twoDigits_X3_codeAt
theorem dX3_twoDigits_0 : decode cX3_twoDigits 0 = .ok (.bipush 10, 2) := by decide +kernel
theorem dX3_twoDigits_2 : decode cX3_twoDigits 2 = .ok (.aload_n 0, 1) := by decide +kernel
theorem dX3_twoDigits_3 : decode cX3_twoDigits 3 = .ok (.iload_n 1, 1) := by decide +kernel
theorem dX3_twoDigits_4 : decode cX3_twoDigits 4 = .ok (.invokevirtual 27, 3) := by decide +kernel
theorem dX3_twoDigits_7 : decode cX3_twoDigits 7 = .ok (.bipush 48, 2) := by decide +kernel
theorem dX3_twoDigits_9 : decode cX3_twoDigits 9 = .ok (.isub, 1) := by decide +kernel
theorem dX3_twoDigits_10 : decode cX3_twoDigits 10 = .ok (.imul, 1) := by decide +kernel
theorem dX3_twoDigits_11 : decode cX3_twoDigits 11 = .ok (.aload_n 0, 1) := by decide +kernel
theorem dX3_twoDigits_12 : decode cX3_twoDigits 12 = .ok (.iload_n 1, 1) := by decide +kernel
theorem dX3_twoDigits_13 : decode cX3_twoDigits 13 = .ok (.iconst 1, 1) := by decide +kernel
theorem dX3_twoDigits_14 : decode cX3_twoDigits 14 = .ok (.iadd, 1) := by decide +kernel
theorem dX3_twoDigits_15 : decode cX3_twoDigits 15 = .ok (.invokevirtual 27, 3) := by decide +kernel
theorem dX3_twoDigits_18 : decode cX3_twoDigits 18 = .ok (.iadd, 1) := by decide +kernel
theorem dX3_twoDigits_19 : decode cX3_twoDigits 19 = .ok (.bipush 48, 2) := by decide +kernel
theorem dX3_twoDigits_21 : decode cX3_twoDigits 21 = .ok (.isub, 1) := by decide +kernel
theorem dX3_twoDigits_22 : decode cX3_twoDigits 22 = .ok (.ireturn, 1) := by decide +kernel
theorem dX4_init_0 : decode cX4_init 0 = .ok (.aload_n 0, 1) := by decide +kernel
theorem dX4_init_1 : decode cX4_init 1 = .ok (.invokespecial 3, 3) := by decide +kernel
theorem dX4_init_4 : decode cX4_init 4 = .ok (.aload_n 0, 1) := by decide +kernel
theorem dX4_init_5 : decode cX4_init 5 = .ok (.sipush 1936, 3) := by decide +kernel
theorem dX4_init_8 : decode cX4_init 8 = .ok (.newarray .int, 2) := by decide +kernel
theorem dX4_init_10 : decode cX4_init 10 = .ok (.putfield 11, 3) := by decide +kernel
theorem dX4_init_13 : decode cX4_init 13 = .ok (.aload_n 0, 1) := by decide +kernel
theorem dX4_init_14 : decode cX4_init 14 = .ok (.bipush 16, 2) := by decide +kernel
theorem dX4_init_16 : decode cX4_init 16 = .ok (.newarray .int, 2) := by decide +kernel
theorem dX4_init_18 : decode cX4_init 18 = .ok (.putfield 15, 3) := by decide +kernel
theorem dX4_init_21 : decode cX4_init 21 = .ok (.aload_n 0, 1) := by decide +kernel
theorem dX4_init_22 : decode cX4_init 22 = .ok (.iconst 4, 1) := by decide +kernel
theorem dX4_init_23 : decode cX4_init 23 = .ok (.newarray .int, 2) := by decide +kernel
theorem dX4_init_25 : decode cX4_init 25 = .ok (.putfield 18, 3) := by decide +kernel
theorem dX4_init_28 : decode cX4_init 28 = .ok (.aload_n 0, 1) := by decide +kernel
theorem dX4_init_29 : decode cX4_init 29 = .ok (.iconst 4, 1) := by decide +kernel
theorem dX4_init_30 : decode cX4_init 30 = .ok (.newarray .int, 2) := by decide +kernel
theorem dX4_init_32 : decode cX4_init 32 = .ok (.putfield 21, 3) := by decide +kernel
theorem dX4_init_35 : decode cX4_init 35 = .ok (.return_, 1) := by decide +kernel
theorem dX4_begin_0 : decode cX4_begin 0 = .ok (.aload_n 0, 1) := by decide +kernel
theorem dX4_begin_1 : decode cX4_begin 1 = .ok (.iconst 0, 1) := by decide +kernel
theorem dX4_begin_2 : decode cX4_begin 2 = .ok (.putfield 24, 3) := by decide +kernel
theorem dX4_begin_5 : decode cX4_begin 5 = .ok (.aload_n 0, 1) := by decide +kernel
theorem dX4_begin_6 : decode cX4_begin 6 = .ok (.iconst 0, 1) := by decide +kernel
theorem dX4_begin_7 : decode cX4_begin 7 = .ok (.putfield 28, 3) := by decide +kernel
theorem dX4_begin_10 : decode cX4_begin 10 = .ok (.aload_n 0, 1) := by decide +kernel
theorem dX4_begin_11 : decode cX4_begin 11 = .ok (.iload_n 1, 1) := by decide +kernel
theorem dX4_begin_12 : decode cX4_begin 12 = .ok (.putfield 31, 3) := by decide +kernel
theorem dX4_begin_15 : decode cX4_begin 15 = .ok (.aload_n 0, 1) := by decide +kernel
theorem dX4_begin_16 : decode cX4_begin 16 = .ok (.iload_n 2, 1) := by decide +kernel
theorem dX4_begin_17 : decode cX4_begin 17 = .ok (.putfield 34, 3) := by decide +kernel
theorem dX4_begin_20 : decode cX4_begin 20 = .ok (.aload_n 0, 1) := by decide +kernel
theorem dX4_begin_21 : decode cX4_begin 21 = .ok (.iload_n 3, 1) := by decide +kernel
theorem dX4_begin_22 : decode cX4_begin 22 = .ok (.putfield 37, 3) := by decide +kernel
theorem dX4_begin_25 : decode cX4_begin 25 = .ok (.return_, 1) := by decide +kernel
theorem dX4_add_0 : decode cX4_add 0 = .ok (.aload_n 0, 1) := by decide +kernel
theorem dX4_add_1 : decode cX4_add 1 = .ok (.getfield 24, 3) := by decide +kernel
theorem dX4_add_4 : decode cX4_add 4 = .ok (.ifCond .lt 11, 3) := by decide +kernel
theorem dX4_add_7 : decode cX4_add 7 = .ok (.aload_n 0, 1) := by decide +kernel
theorem dX4_add_8 : decode cX4_add 8 = .ok (.getfield 24, 3) := by decide +kernel
theorem dX4_add_11 : decode cX4_add 11 = .ok (.iconst 4, 1) := by decide +kernel
theorem dX4_add_12 : decode cX4_add 12 = .ok (.if_icmp .lt 4, 3) := by decide +kernel
theorem dX4_add_15 : decode cX4_add 15 = .ok (.return_, 1) := by decide +kernel
theorem dX4_add_16 : decode cX4_add 16 = .ok (.aload_n 0, 1) := by decide +kernel
theorem dX4_add_17 : decode cX4_add 17 = .ok (.getfield 18, 3) := by decide +kernel
theorem dX4_add_20 : decode cX4_add 20 = .ok (.aload_n 0, 1) := by decide +kernel
theorem dX4_add_21 : decode cX4_add 21 = .ok (.getfield 24, 3) := by decide +kernel
theorem dX4_add_24 : decode cX4_add 24 = .ok (.iload_n 1, 1) := by decide +kernel
theorem dX4_add_25 : decode cX4_add 25 = .ok (.iastore, 1) := by decide +kernel
theorem dX4_add_26 : decode cX4_add 26 = .ok (.aload_n 0, 1) := by decide +kernel
theorem dX4_add_27 : decode cX4_add 27 = .ok (.getfield 21, 3) := by decide +kernel
theorem dX4_add_30 : decode cX4_add 30 = .ok (.aload_n 0, 1) := by decide +kernel
theorem dX4_add_31 : decode cX4_add 31 = .ok (.getfield 24, 3) := by decide +kernel
theorem dX4_add_34 : decode cX4_add 34 = .ok (.iload_n 1, 1) := by decide +kernel
theorem dX4_add_35 : decode cX4_add 35 = .ok (.iload_n 2, 1) := by decide +kernel
theorem dX4_add_36 : decode cX4_add 36 = .ok (.iadd, 1) := by decide +kernel
theorem dX4_add_37 : decode cX4_add 37 = .ok (.iastore, 1) := by decide +kernel
theorem dX4_add_38 : decode cX4_add 38 = .ok (.aload_n 0, 1) := by decide +kernel
theorem dX4_add_39 : decode cX4_add 39 = .ok (.bipush 120, 2) := by decide +kernel
theorem dX4_add_41 : decode cX4_add 41 = .ok (.aload_n 0, 1) := by decide +kernel
theorem dX4_add_42 : decode cX4_add 42 = .ok (.getfield 28, 3) := by decide +kernel
theorem dX4_add_45 : decode cX4_add 45 = .ok (.aload_n 0, 1) := by decide +kernel
theorem dX4_add_46 : decode cX4_add 46 = .ok (.getfield 21, 3) := by decide +kernel
theorem dX4_add_49 : decode cX4_add 49 = .ok (.aload_n 0, 1) := by decide +kernel
theorem dX4_add_50 : decode cX4_add 50 = .ok (.getfield 24, 3) := by decide +kernel
theorem dX4_add_53 : decode cX4_add 53 = .ok (.iaload, 1) := by decide +kernel
theorem dX4_add_54 : decode cX4_add 54 = .ok (.invokestatic 40, 3) := by decide +kernel
theorem dX4_add_57 : decode cX4_add 57 = .ok (.invokestatic 46, 3) := by decide +kernel
theorem dX4_add_60 : decode cX4_add 60 = .ok (.putfield 28, 3) := by decide +kernel
theorem dX4_add_63 : decode cX4_add 63 = .ok (.aload_n 0, 1) := by decide +kernel
theorem dX4_add_64 : decode cX4_add 64 = .ok (.dup, 1) := by decide +kernel
theorem dX4_add_65 : decode cX4_add 65 = .ok (.getfield 24, 3) := by decide +kernel
theorem dX4_add_68 : decode cX4_add 68 = .ok (.iconst 1, 1) := by decide +kernel
theorem dX4_add_69 : decode cX4_add 69 = .ok (.iadd, 1) := by decide +kernel
theorem dX4_add_70 : decode cX4_add 70 = .ok (.putfield 24, 3) := by decide +kernel
theorem dX4_add_73 : decode cX4_add 73 = .ok (.return_, 1) := by decide +kernel
set_option maxRecDepth 20000 in
theorem ggX4_fill_X4_fillMinute : GoodIn wsX4_fill wsX4_fillMinute := goodIn_r _ [6, 7, 8, 9, 10, 11, 12, 13, 5, 14, 15, 16, 17, 18, 19, 20, 21, 22, 23, 24, 25, 26, 27, 28, 29, 1, 30, 31, 32, 33, 34, 35, 36, 37, 38, 39, 40, 41, 42, 43, 44, 45, 46, 47, 48, 49, 50, 51, 52, 53, 54, 55, 56, 57, 58, 59, 60, 61, 62, 63, 64, 65, 66, 67] (by decide +kernel) (by decide +kernel)
set_option maxRecDepth 20000 in
theorem gX4_fill_X4_fillMinute : GoodIn wsX4_fill (wsV RX4 49 RX4 yX4_fillMinute wsX4_fillMinute) := goodIn_app (goodIn_of _ (by decide +kernel)) ggX4_fill_X4_fillMinute
theorem dX4_fill_0 : decode cX4_fill 0 = .ok (.aload_n 0, 1) := by decide +kernel
theorem dX4_fill_1 : decode cX4_fill 1 = .ok (.getfield 28, 3) := by decide +kernel
theorem dX4_fill_4 : decode cX4_fill 4 = .ok (.istore_n 1, 1) := by decide +kernel
theorem dX4_fill_5 : decode cX4_fill 5 = .ok (.iload_n 1, 1) := by decide +kernel
theorem dX4_fill_6 : decode cX4_fill 6 = .ok (.ifCond .lt 14, 3) := by decide +kernel
theorem dX4_fill_9 : decode cX4_fill 9 = .ok (.aload_n 0, 1) := by decide +kernel
theorem dX4_fill_10 : decode cX4_fill 10 = .ok (.iload_n 1, 1) := by decide +kernel
theorem dX4_fill_11 : decode cX4_fill 11 = .ok (.invokevirtual 49, 3) := by decide +kernel
theorem dX4_fill_14 : decode cX4_fill 14 = .ok (.iinc 1 (-1), 3) := by decide +kernel
theorem dX4_fill_17 : decode cX4_fill 17 = .ok (.goto (-12), 3) := by decide +kernel
theorem dX4_fill_20 : decode cX4_fill 20 = .ok (.return_, 1) := by decide +kernel
theorem dX4_allPots_0 : decode cX4_allPots 0 = .ok (.iconst 1, 1) := by decide +kernel
theorem dX4_allPots_1 : decode cX4_allPots 1 = .ok (.aload_n 0, 1) := by decide +kernel
theorem dX4_allPots_2 : decode cX4_allPots 2 = .ok (.getfield 24, 3) := by decide +kernel
theorem dX4_allPots_5 : decode cX4_allPots 5 = .ok (.ishl, 1) := by decide +kernel
theorem dX4_allPots_6 : decode cX4_allPots 6 = .ok (.iconst 1, 1) := by decide +kernel
theorem dX4_allPots_7 : decode cX4_allPots 7 = .ok (.isub, 1) := by decide +kernel
theorem dX4_allPots_8 : decode cX4_allPots 8 = .ok (.ireturn, 1) := by decide +kernel
theorem dX4_isSet_0 : decode cX4_isSet 0 = .ok (.iload_n 0, 1) := by decide +kernel
theorem dX4_isSet_1 : decode cX4_isSet 1 = .ok (.ifCond .lt 13, 3) := by decide +kernel
theorem dX4_isSet_4 : decode cX4_isSet 4 = .ok (.iload_n 0, 1) := by decide +kernel
theorem dX4_isSet_5 : decode cX4_isSet 5 = .ok (.bipush 16, 2) := by decide +kernel
theorem dX4_isSet_7 : decode cX4_isSet 7 = .ok (.if_icmp .ge 7, 3) := by decide +kernel
theorem dX4_isSet_10 : decode cX4_isSet 10 = .ok (.iconst 1, 1) := by decide +kernel
theorem dX4_isSet_11 : decode cX4_isSet 11 = .ok (.goto 4, 3) := by decide +kernel
theorem dX4_isSet_14 : decode cX4_isSet 14 = .ok (.iconst 0, 1) := by decide +kernel
theorem dX4_isSet_15 : decode cX4_isSet 15 = .ok (.ireturn, 1) := by decide +kernel
set_option maxRecDepth 20000 in
theorem ggX4_isInRow_X4_isSet : GoodIn wsX4_isInRow wsX4_isSet := goodIn_r _ [4] (by decide +kernel) (by decide +kernel)
set_option maxRecDepth 20000 in
theorem gX4_isInRow_X4_isSet : GoodIn wsX4_isInRow (va_wsS RX4 53 yX4_isSet wsX4_isSet) := goodIn_app (goodIn_of _ (by decide +kernel)) ggX4_isInRow_X4_isSet
theorem dX4_isInRow_0 : decode cX4_isInRow 0 = .ok (.iload_n 0, 1) := by decide +kernel
theorem dX4_isInRow_1 : decode cX4_isInRow 1 = .ok (.ifCond .lt 20, 3) := by decide +kernel
theorem dX4_isInRow_4 : decode cX4_isInRow 4 = .ok (.iload_n 0, 1) := by decide +kernel
theorem dX4_isInRow_5 : decode cX4_isInRow 5 = .ok (.bipush 120, 2) := by decide +kernel
theorem dX4_isInRow_7 : decode cX4_isInRow 7 = .ok (.if_icmp .gt 14, 3) := by decide +kernel
theorem dX4_isInRow_10 : decode cX4_isInRow 10 = .ok (.iload_n 1, 1) := by decide +kernel
theorem dX4_isInRow_11 : decode cX4_isInRow 11 = .ok (.invokestatic 53, 3) := by decide +kernel
theorem dX4_isInRow_14 : decode cX4_isInRow 14 = .ok (.ifCond .eq 7, 3) := by decide +kernel
theorem dX4_isInRow_17 : decode cX4_isInRow 17 = .ok (.iconst 1, 1) := by decide +kernel
theorem dX4_isInRow_18 : decode cX4_isInRow 18 = .ok (.goto 4, 3) := by decide +kernel
theorem dX4_isInRow_21 : decode cX4_isInRow 21 = .ok (.iconst 0, 1) := by decide +kernel
theorem dX4_isInRow_22 : decode cX4_isInRow 22 = .ok (.ireturn, 1) := by decide +kernel
set_option maxRecDepth 20000 in
theorem ggX4_fewestAt_X4_isInRow : GoodIn wsX4_fewestAt wsX4_isInRow := goodIn_r _ [5, 6, 7, 4, 8] (by decide +kernel) (by decide +kernel)
set_option maxRecDepth 20000 in
theorem gX4_fewestAt_X4_isInRow : GoodIn wsX4_fewestAt (va_wsS RX4 57 yX4_isInRow wsX4_isInRow) := goodIn_app (goodIn_of _ (by decide +kernel)) ggX4_fewestAt_X4_isInRow
theorem dX4_fewestAt_0 : decode cX4_fewestAt 0 = .ok (.iload_n 1, 1) := by decide +kernel
theorem dX4_fewestAt_1 : decode cX4_fewestAt 1 = .ok (.iload_n 2, 1) := by decide +kernel
theorem dX4_fewestAt_2 : decode cX4_fewestAt 2 = .ok (.invokestatic 57, 3) := by decide +kernel
theorem dX4_fewestAt_5 : decode cX4_fewestAt 5 = .ok (.ifCond .eq 17, 3) := by decide +kernel
theorem dX4_fewestAt_8 : decode cX4_fewestAt 8 = .ok (.aload_n 0, 1) := by decide +kernel
theorem dX4_fewestAt_9 : decode cX4_fewestAt 9 = .ok (.getfield 11, 3) := by decide +kernel
theorem dX4_fewestAt_12 : decode cX4_fewestAt 12 = .ok (.iload_n 1, 1) := by decide +kernel
theorem dX4_fewestAt_13 : decode cX4_fewestAt 13 = .ok (.bipush 16, 2) := by decide +kernel
theorem dX4_fewestAt_15 : decode cX4_fewestAt 15 = .ok (.imul, 1) := by decide +kernel
theorem dX4_fewestAt_16 : decode cX4_fewestAt 16 = .ok (.iload_n 2, 1) := by decide +kernel
theorem dX4_fewestAt_17 : decode cX4_fewestAt 17 = .ok (.iadd, 1) := by decide +kernel
theorem dX4_fewestAt_18 : decode cX4_fewestAt 18 = .ok (.iaload, 1) := by decide +kernel
theorem dX4_fewestAt_19 : decode cX4_fewestAt 19 = .ok (.goto 6, 3) := by decide +kernel
theorem dX4_fewestAt_22 : decode cX4_fewestAt 22 = .ok (.sipush 1000, 3) := by decide +kernel
theorem dX4_fewestAt_25 : decode cX4_fewestAt 25 = .ok (.ireturn, 1) := by decide +kernel
set_option maxRecDepth 20000 in
theorem ggX4_fewestAfterTaking_X4_isSet : GoodIn wsX4_fewestAfterTaking wsX4_isSet := goodIn_r _ [5] (by decide +kernel) (by decide +kernel)
set_option maxRecDepth 20000 in
theorem gX4_fewestAfterTaking_X4_isSet : GoodIn wsX4_fewestAfterTaking (va_wsS RX4 53 yX4_isSet wsX4_isSet) := goodIn_app (goodIn_of _ (by decide +kernel)) ggX4_fewestAfterTaking_X4_isSet
theorem dX4_fewestAfterTaking_0 : decode cX4_fewestAfterTaking 0 = .ok (.iload_n 1, 1) := by decide +kernel
theorem dX4_fewestAfterTaking_1 : decode cX4_fewestAfterTaking 1 = .ok (.invokestatic 53, 3) := by decide +kernel
theorem dX4_fewestAfterTaking_4 : decode cX4_fewestAfterTaking 4 = .ok (.ifCond .eq 12, 3) := by decide +kernel
theorem dX4_fewestAfterTaking_7 : decode cX4_fewestAfterTaking 7 = .ok (.aload_n 0, 1) := by decide +kernel
theorem dX4_fewestAfterTaking_8 : decode cX4_fewestAfterTaking 8 = .ok (.getfield 15, 3) := by decide +kernel
theorem dX4_fewestAfterTaking_11 : decode cX4_fewestAfterTaking 11 = .ok (.iload_n 1, 1) := by decide +kernel
theorem dX4_fewestAfterTaking_12 : decode cX4_fewestAfterTaking 12 = .ok (.iaload, 1) := by decide +kernel
theorem dX4_fewestAfterTaking_13 : decode cX4_fewestAfterTaking 13 = .ok (.goto 6, 3) := by decide +kernel
theorem dX4_fewestAfterTaking_16 : decode cX4_fewestAfterTaking 16 = .ok (.sipush 1000, 3) := by decide +kernel
theorem dX4_fewestAfterTaking_19 : decode cX4_fewestAfterTaking 19 = .ok (.ireturn, 1) := by decide +kernel
set_option maxRecDepth 20000 in
theorem ggX4_fillMinute_X4_allPots : GoodIn wsX4_fillMinute wsX4_allPots := goodIn_r _ [9, 10, 55, 56, 57, 58, 59, 60, 61, 62, 63] (by decide +kernel) (by decide +kernel)
set_option maxRecDepth 20000 in
theorem gX4_fillMinute_X4_allPots : GoodIn wsX4_fillMinute (wsV RX4 61 RX4 yX4_allPots wsX4_allPots) := goodIn_app (goodIn_of _ (by decide +kernel)) ggX4_fillMinute_X4_allPots
set_option maxRecDepth 20000 in
theorem ggX4_fillMinute_X4_goodAt : GoodIn wsX4_fillMinute wsX4_goodAt := goodIn_r _ [14, 10, 15, 16, 55, 56, 57, 58, 59, 60, 61, 62, 63] (by decide +kernel) (by decide +kernel)
set_option maxRecDepth 20000 in
theorem gX4_fillMinute_X4_goodAt : GoodIn wsX4_fillMinute (wsV RX4 65 RX4 yX4_goodAt wsX4_goodAt) := goodIn_app (goodIn_of _ (by decide +kernel)) ggX4_fillMinute_X4_goodAt
set_option maxRecDepth 20000 in
theorem ggX4_fillMinute_X4_isSet : GoodIn wsX4_fillMinute wsX4_isSet := goodIn_r _ [19] (by decide +kernel) (by decide +kernel)
set_option maxRecDepth 20000 in
theorem gX4_fillMinute_X4_isSet : GoodIn wsX4_fillMinute (va_wsS RX4 53 yX4_isSet wsX4_isSet) := goodIn_app (goodIn_of _ (by decide +kernel)) ggX4_fillMinute_X4_isSet
set_option maxRecDepth 20000 in
theorem ggX4_fillMinute_X4_byWinding : GoodIn wsX4_fillMinute wsX4_byWinding := goodIn_r _ [23, 24, 25, 26, 27, 28, 29, 30, 31, 32, 8, 33, 2, 34, 35, 36, 17, 18, 19, 55, 56, 57, 58, 59, 60, 61, 62, 63] (by decide +kernel) (by decide +kernel)
set_option maxRecDepth 20000 in
theorem gX4_fillMinute_X4_byWinding : GoodIn wsX4_fillMinute (wsV RX4 69 RX4 yX4_byWinding wsX4_byWinding) := goodIn_app (goodIn_of _ (by decide +kernel)) ggX4_fillMinute_X4_byWinding
set_option maxRecDepth 20000 in
theorem ggX4_fillMinute_X4_isInRow : GoodIn wsX4_fillMinute wsX4_isInRow := goodIn_r _ [36, 17, 18, 8, 19] (by decide +kernel) (by decide +kernel)
set_option maxRecDepth 20000 in
theorem gX4_fillMinute_X4_isInRow : GoodIn wsX4_fillMinute (va_wsS RX4 57 yX4_isInRow wsX4_isInRow) := goodIn_app (goodIn_of _ (by decide +kernel)) ggX4_fillMinute_X4_isInRow
set_option maxRecDepth 20000 in
theorem ggX4_fillMinute_X4_byTaking : GoodIn wsX4_fillMinute wsX4_byTaking := goodIn_r _ [40, 26, 27, 28, 29, 41, 42, 8, 43, 44, 45, 46, 47, 48, 49, 50, 51, 52, 53, 54, 1, 17, 18, 19, 55, 56, 57, 58, 59, 60, 61, 62, 63] (by decide +kernel) (by decide +kernel)
set_option maxRecDepth 20000 in
theorem gX4_fillMinute_X4_byTaking : GoodIn wsX4_fillMinute (wsV RX4 72 RX4 yX4_byTaking wsX4_byTaking) := goodIn_app (goodIn_of _ (by decide +kernel)) ggX4_fillMinute_X4_byTaking
theorem dX4_fillMinute_0 : decode cX4_fillMinute 0 = .ok (.aload_n 0, 1) := by decide +kernel
theorem dX4_fillMinute_1 : decode cX4_fillMinute 1 = .ok (.invokevirtual 61, 3) := by decide +kernel
theorem dX4_fillMinute_4 : decode cX4_fillMinute 4 = .ok (.istore_n 2, 1) := by decide +kernel
theorem dX4_fillMinute_5 : decode cX4_fillMinute 5 = .ok (.aload_n 0, 1) := by decide +kernel
theorem dX4_fillMinute_6 : decode cX4_fillMinute 6 = .ok (.iload_n 1, 1) := by decide +kernel
theorem dX4_fillMinute_7 : decode cX4_fillMinute 7 = .ok (.invokevirtual 65, 3) := by decide +kernel
theorem dX4_fillMinute_10 : decode cX4_fillMinute 10 = .ok (.istore_n 3, 1) := by decide +kernel
theorem dX4_fillMinute_11 : decode cX4_fillMinute 11 = .ok (.iconst 0, 1) := by decide +kernel
theorem dX4_fillMinute_12 : decode cX4_fillMinute 12 = .ok (.istore 4, 2) := by decide +kernel
theorem dX4_fillMinute_14 : decode cX4_fillMinute 14 = .ok (.iload 4, 2) := by decide +kernel
theorem dX4_fillMinute_16 : decode cX4_fillMinute 16 = .ok (.iload_n 2, 1) := by decide +kernel
theorem dX4_fillMinute_17 : decode cX4_fillMinute 17 = .ok (.if_icmp .gt 31, 3) := by decide +kernel
theorem dX4_fillMinute_20 : decode cX4_fillMinute 20 = .ok (.iload 4, 2) := by decide +kernel
theorem dX4_fillMinute_22 : decode cX4_fillMinute 22 = .ok (.invokestatic 53, 3) := by decide +kernel
theorem dX4_fillMinute_25 : decode cX4_fillMinute 25 = .ok (.ifCond .eq 23, 3) := by decide +kernel
theorem dX4_fillMinute_28 : decode cX4_fillMinute 28 = .ok (.aload_n 0, 1) := by decide +kernel
theorem dX4_fillMinute_29 : decode cX4_fillMinute 29 = .ok (.getfield 15, 3) := by decide +kernel
theorem dX4_fillMinute_32 : decode cX4_fillMinute 32 = .ok (.iload 4, 2) := by decide +kernel
theorem dX4_fillMinute_34 : decode cX4_fillMinute 34 = .ok (.aload_n 0, 1) := by decide +kernel
theorem dX4_fillMinute_35 : decode cX4_fillMinute 35 = .ok (.iload_n 1, 1) := by decide +kernel
theorem dX4_fillMinute_36 : decode cX4_fillMinute 36 = .ok (.iload 4, 2) := by decide +kernel
theorem dX4_fillMinute_38 : decode cX4_fillMinute 38 = .ok (.invokevirtual 69, 3) := by decide +kernel
theorem dX4_fillMinute_41 : decode cX4_fillMinute 41 = .ok (.iastore, 1) := by decide +kernel
theorem dX4_fillMinute_42 : decode cX4_fillMinute 42 = .ok (.iinc 4 1, 3) := by decide +kernel
theorem dX4_fillMinute_45 : decode cX4_fillMinute 45 = .ok (.goto (-31), 3) := by decide +kernel
theorem dX4_fillMinute_48 : decode cX4_fillMinute 48 = .ok (.iconst 0, 1) := by decide +kernel
theorem dX4_fillMinute_49 : decode cX4_fillMinute 49 = .ok (.istore 4, 2) := by decide +kernel
theorem dX4_fillMinute_51 : decode cX4_fillMinute 51 = .ok (.iload 4, 2) := by decide +kernel
theorem dX4_fillMinute_53 : decode cX4_fillMinute 53 = .ok (.iload_n 2, 1) := by decide +kernel
theorem dX4_fillMinute_54 : decode cX4_fillMinute 54 = .ok (.if_icmp .gt 55, 3) := by decide +kernel
theorem dX4_fillMinute_57 : decode cX4_fillMinute 57 = .ok (.iload_n 1, 1) := by decide +kernel
theorem dX4_fillMinute_58 : decode cX4_fillMinute 58 = .ok (.iload 4, 2) := by decide +kernel
theorem dX4_fillMinute_60 : decode cX4_fillMinute 60 = .ok (.invokestatic 57, 3) := by decide +kernel
theorem dX4_fillMinute_63 : decode cX4_fillMinute 63 = .ok (.ifCond .eq 46, 3) := by decide +kernel
theorem dX4_fillMinute_66 : decode cX4_fillMinute 66 = .ok (.aload_n 0, 1) := by decide +kernel
theorem dX4_fillMinute_67 : decode cX4_fillMinute 67 = .ok (.getfield 11, 3) := by decide +kernel
theorem dX4_fillMinute_70 : decode cX4_fillMinute 70 = .ok (.iload_n 1, 1) := by decide +kernel
theorem dX4_fillMinute_71 : decode cX4_fillMinute 71 = .ok (.bipush 16, 2) := by decide +kernel
theorem dX4_fillMinute_73 : decode cX4_fillMinute 73 = .ok (.imul, 1) := by decide +kernel
theorem dX4_fillMinute_74 : decode cX4_fillMinute 74 = .ok (.iload 4, 2) := by decide +kernel
theorem dX4_fillMinute_76 : decode cX4_fillMinute 76 = .ok (.iadd, 1) := by decide +kernel
theorem dX4_fillMinute_77 : decode cX4_fillMinute 77 = .ok (.aload_n 0, 1) := by decide +kernel
theorem dX4_fillMinute_78 : decode cX4_fillMinute 78 = .ok (.iload 4, 2) := by decide +kernel
theorem dX4_fillMinute_80 : decode cX4_fillMinute 80 = .ok (.iload 4, 2) := by decide +kernel
theorem dX4_fillMinute_82 : decode cX4_fillMinute 82 = .ok (.iload_n 3, 1) := by decide +kernel
theorem dX4_fillMinute_83 : decode cX4_fillMinute 83 = .ok (.iand, 1) := by decide +kernel
theorem dX4_fillMinute_84 : decode cX4_fillMinute 84 = .ok (.iload_n 1, 1) := by decide +kernel
theorem dX4_fillMinute_85 : decode cX4_fillMinute 85 = .ok (.ifCond .ne 10, 3) := by decide +kernel
theorem dX4_fillMinute_88 : decode cX4_fillMinute 88 = .ok (.aload_n 0, 1) := by decide +kernel
theorem dX4_fillMinute_89 : decode cX4_fillMinute 89 = .ok (.getfield 37, 3) := by decide +kernel
theorem dX4_fillMinute_92 : decode cX4_fillMinute 92 = .ok (.goto 7, 3) := by decide +kernel
theorem dX4_fillMinute_95 : decode cX4_fillMinute 95 = .ok (.aload_n 0, 1) := by decide +kernel
theorem dX4_fillMinute_96 : decode cX4_fillMinute 96 = .ok (.getfield 34, 3) := by decide +kernel
theorem dX4_fillMinute_99 : decode cX4_fillMinute 99 = .ok (.invokevirtual 72, 3) := by decide +kernel
theorem dX4_fillMinute_102 : decode cX4_fillMinute 102 = .ok (.iastore, 1) := by decide +kernel
theorem dX4_fillMinute_103 : decode cX4_fillMinute 103 = .ok (.iinc 4 1, 3) := by decide +kernel
theorem dX4_fillMinute_106 : decode cX4_fillMinute 106 = .ok (.goto (-55), 3) := by decide +kernel
theorem dX4_fillMinute_109 : decode cX4_fillMinute 109 = .ok (.return_, 1) := by decide +kernel
theorem dX4_goodAt_0 : decode cX4_goodAt 0 = .ok (.iconst 0, 1) := by decide +kernel
theorem dX4_goodAt_1 : decode cX4_goodAt 1 = .ok (.istore_n 2, 1) := by decide +kernel
theorem dX4_goodAt_2 : decode cX4_goodAt 2 = .ok (.iconst 0, 1) := by decide +kernel
theorem dX4_goodAt_3 : decode cX4_goodAt 3 = .ok (.istore_n 3, 1) := by decide +kernel
theorem dX4_goodAt_4 : decode cX4_goodAt 4 = .ok (.iload_n 3, 1) := by decide +kernel
theorem dX4_goodAt_5 : decode cX4_goodAt 5 = .ok (.aload_n 0, 1) := by decide +kernel
theorem dX4_goodAt_6 : decode cX4_goodAt 6 = .ok (.getfield 24, 3) := by decide +kernel
theorem dX4_goodAt_9 : decode cX4_goodAt 9 = .ok (.if_icmp .ge 40, 3) := by decide +kernel
theorem dX4_goodAt_12 : decode cX4_goodAt 12 = .ok (.iload_n 3, 1) := by decide +kernel
theorem dX4_goodAt_13 : decode cX4_goodAt 13 = .ok (.iconst 4, 1) := by decide +kernel
theorem dX4_goodAt_14 : decode cX4_goodAt 14 = .ok (.if_icmp .ge 35, 3) := by decide +kernel
theorem dX4_goodAt_17 : decode cX4_goodAt 17 = .ok (.aload_n 0, 1) := by decide +kernel
theorem dX4_goodAt_18 : decode cX4_goodAt 18 = .ok (.getfield 18, 3) := by decide +kernel
theorem dX4_goodAt_21 : decode cX4_goodAt 21 = .ok (.iload_n 3, 1) := by decide +kernel
theorem dX4_goodAt_22 : decode cX4_goodAt 22 = .ok (.iaload, 1) := by decide +kernel
theorem dX4_goodAt_23 : decode cX4_goodAt 23 = .ok (.iload_n 1, 1) := by decide +kernel
theorem dX4_goodAt_24 : decode cX4_goodAt 24 = .ok (.if_icmp .gt 19, 3) := by decide +kernel
theorem dX4_goodAt_27 : decode cX4_goodAt 27 = .ok (.iload_n 1, 1) := by decide +kernel
theorem dX4_goodAt_28 : decode cX4_goodAt 28 = .ok (.aload_n 0, 1) := by decide +kernel
theorem dX4_goodAt_29 : decode cX4_goodAt 29 = .ok (.getfield 21, 3) := by decide +kernel
theorem dX4_goodAt_32 : decode cX4_goodAt 32 = .ok (.iload_n 3, 1) := by decide +kernel
theorem dX4_goodAt_33 : decode cX4_goodAt 33 = .ok (.iaload, 1) := by decide +kernel
theorem dX4_goodAt_34 : decode cX4_goodAt 34 = .ok (.if_icmp .gt 9, 3) := by decide +kernel
theorem dX4_goodAt_37 : decode cX4_goodAt 37 = .ok (.iload_n 2, 1) := by decide +kernel
theorem dX4_goodAt_38 : decode cX4_goodAt 38 = .ok (.iconst 1, 1) := by decide +kernel
theorem dX4_goodAt_39 : decode cX4_goodAt 39 = .ok (.iload_n 3, 1) := by decide +kernel
theorem dX4_goodAt_40 : decode cX4_goodAt 40 = .ok (.ishl, 1) := by decide +kernel
theorem dX4_goodAt_41 : decode cX4_goodAt 41 = .ok (.ior, 1) := by decide +kernel
theorem dX4_goodAt_42 : decode cX4_goodAt 42 = .ok (.istore_n 2, 1) := by decide +kernel
theorem dX4_goodAt_43 : decode cX4_goodAt 43 = .ok (.iinc 3 1, 3) := by decide +kernel
theorem dX4_goodAt_46 : decode cX4_goodAt 46 = .ok (.goto (-42), 3) := by decide +kernel
theorem dX4_goodAt_49 : decode cX4_goodAt 49 = .ok (.iload_n 2, 1) := by decide +kernel
theorem dX4_goodAt_50 : decode cX4_goodAt 50 = .ok (.ireturn, 1) := by decide +kernel
set_option maxRecDepth 20000 in
theorem ggX4_byWinding_X4_fewestAt : GoodIn wsX4_byWinding wsX4_fewestAt := goodIn_r _ [11, 12, 13, 14, 10, 15, 16, 17, 18, 19, 20, 21, 22, 23, 24, 25, 26, 27] (by decide +kernel) (by decide +kernel)
set_option maxRecDepth 20000 in
theorem gX4_byWinding_X4_fewestAt : GoodIn wsX4_byWinding (wsV RX4 76 RX4 yX4_fewestAt wsX4_fewestAt) := goodIn_app (goodIn_of _ (by decide +kernel)) ggX4_byWinding_X4_fewestAt
theorem dX4_byWinding_0 : decode cX4_byWinding 0 = .ok (.iload_n 2, 1) := by decide +kernel
theorem dX4_byWinding_1 : decode cX4_byWinding 1 = .ok (.ifCond .ne 5, 3) := by decide +kernel
theorem dX4_byWinding_4 : decode cX4_byWinding 4 = .ok (.iconst 0, 1) := by decide +kernel
theorem dX4_byWinding_5 : decode cX4_byWinding 5 = .ok (.ireturn, 1) := by decide +kernel
theorem dX4_byWinding_6 : decode cX4_byWinding 6 = .ok (.sipush 1000, 3) := by decide +kernel
theorem dX4_byWinding_9 : decode cX4_byWinding 9 = .ok (.istore_n 3, 1) := by decide +kernel
theorem dX4_byWinding_10 : decode cX4_byWinding 10 = .ok (.iload_n 1, 1) := by decide +kernel
theorem dX4_byWinding_11 : decode cX4_byWinding 11 = .ok (.iconst 1, 1) := by decide +kernel
theorem dX4_byWinding_12 : decode cX4_byWinding 12 = .ok (.iadd, 1) := by decide +kernel
theorem dX4_byWinding_13 : decode cX4_byWinding 13 = .ok (.istore 4, 2) := by decide +kernel
theorem dX4_byWinding_15 : decode cX4_byWinding 15 = .ok (.iload 4, 2) := by decide +kernel
theorem dX4_byWinding_17 : decode cX4_byWinding 17 = .ok (.iload_n 1, 1) := by decide +kernel
theorem dX4_byWinding_18 : decode cX4_byWinding 18 = .ok (.aload_n 0, 1) := by decide +kernel
theorem dX4_byWinding_19 : decode cX4_byWinding 19 = .ok (.getfield 31, 3) := by decide +kernel
theorem dX4_byWinding_22 : decode cX4_byWinding 22 = .ok (.iadd, 1) := by decide +kernel
theorem dX4_byWinding_23 : decode cX4_byWinding 23 = .ok (.if_icmp .gt 30, 3) := by decide +kernel
theorem dX4_byWinding_26 : decode cX4_byWinding 26 = .ok (.iload 4, 2) := by decide +kernel
theorem dX4_byWinding_28 : decode cX4_byWinding 28 = .ok (.aload_n 0, 1) := by decide +kernel
theorem dX4_byWinding_29 : decode cX4_byWinding 29 = .ok (.getfield 28, 3) := by decide +kernel
theorem dX4_byWinding_32 : decode cX4_byWinding 32 = .ok (.if_icmp .gt 21, 3) := by decide +kernel
theorem dX4_byWinding_35 : decode cX4_byWinding 35 = .ok (.iload_n 3, 1) := by decide +kernel
theorem dX4_byWinding_36 : decode cX4_byWinding 36 = .ok (.aload_n 0, 1) := by decide +kernel
theorem dX4_byWinding_37 : decode cX4_byWinding 37 = .ok (.iload 4, 2) := by decide +kernel
theorem dX4_byWinding_39 : decode cX4_byWinding 39 = .ok (.iload_n 2, 1) := by decide +kernel
theorem dX4_byWinding_40 : decode cX4_byWinding 40 = .ok (.invokevirtual 76, 3) := by decide +kernel
theorem dX4_byWinding_43 : decode cX4_byWinding 43 = .ok (.invokestatic 46, 3) := by decide +kernel
theorem dX4_byWinding_46 : decode cX4_byWinding 46 = .ok (.istore_n 3, 1) := by decide +kernel
theorem dX4_byWinding_47 : decode cX4_byWinding 47 = .ok (.iinc 4 1, 3) := by decide +kernel
theorem dX4_byWinding_50 : decode cX4_byWinding 50 = .ok (.goto (-35), 3) := by decide +kernel
theorem dX4_byWinding_53 : decode cX4_byWinding 53 = .ok (.iload_n 3, 1) := by decide +kernel
theorem dX4_byWinding_54 : decode cX4_byWinding 54 = .ok (.sipush 1000, 3) := by decide +kernel
theorem dX4_byWinding_57 : decode cX4_byWinding 57 = .ok (.if_icmp .ne 9, 3) := by decide +kernel
theorem dX4_byWinding_60 : decode cX4_byWinding 60 = .ok (.sipush 1000, 3) := by decide +kernel
theorem dX4_byWinding_63 : decode cX4_byWinding 63 = .ok (.goto 6, 3) := by decide +kernel
theorem dX4_byWinding_66 : decode cX4_byWinding 66 = .ok (.iload_n 3, 1) := by decide +kernel
theorem dX4_byWinding_67 : decode cX4_byWinding 67 = .ok (.iconst 1, 1) := by decide +kernel
theorem dX4_byWinding_68 : decode cX4_byWinding 68 = .ok (.iadd, 1) := by decide +kernel
theorem dX4_byWinding_69 : decode cX4_byWinding 69 = .ok (.ireturn, 1) := by decide +kernel
set_option maxRecDepth 20000 in
theorem ggX4_byTaking_X4_canTake : GoodIn wsX4_byTaking wsX4_canTake := goodIn_r _ [8, 9, 10, 11, 12, 13, 14, 15] (by decide +kernel) (by decide +kernel)
