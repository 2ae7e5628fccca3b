set_option maxRecDepth 20000 in
theorem gX10_tell_X10_keepsOf : GoodIn wsX10_tell (wsV RX10 131 RX10 yX10_keepsOf wsX10_keepsOf) := goodIn_app (goodIn_of _ (by decide +kernel)) ggX10_tell_X10_keepsOf
theorem dX10_tell_0 : decode cX10_tell 0 = .ok (.aload_n 0, 1) := by decide +kernel
theorem dX10_tell_1 : decode cX10_tell 1 = .ok (.iload_n 1, 1) := by decide +kernel
theorem dX10_tell_2 : decode cX10_tell 2 = .ok (.invokevirtual 145, 3) := by decide +kernel
theorem dX10_tell_5 : decode cX10_tell 5 = .ok (.ifCond .ne 6, 3) := by decide +kernel
theorem dX10_tell_8 : decode cX10_tell 8 = .ok (.bipush (-101), 2) := by decide +kernel
theorem dX10_tell_10 : decode cX10_tell 10 = .ok (.ireturn, 1) := by decide +kernel
theorem dX10_tell_11 : decode cX10_tell 11 = .ok (.iload_n 2, 1) := by decide +kernel
theorem dX10_tell_12 : decode cX10_tell 12 = .ok (.bipush 50, 2) := by decide +kernel
theorem dX10_tell_14 : decode cX10_tell 14 = .ok (.sipush 199, 3) := by decide +kernel
theorem dX10_tell_17 : decode cX10_tell 17 = .ok (.invokestatic 68, 3) := by decide +kernel
theorem dX10_tell_20 : decode cX10_tell 20 = .ok (.ifCond .ne 6, 3) := by decide +kernel
theorem dX10_tell_23 : decode cX10_tell 23 = .ok (.bipush (-102), 2) := by decide +kernel
theorem dX10_tell_25 : decode cX10_tell 25 = .ok (.ireturn, 1) := by decide +kernel
theorem dX10_tell_26 : decode cX10_tell 26 = .ok (.aload_n 0, 1) := by decide +kernel
theorem dX10_tell_27 : decode cX10_tell 27 = .ok (.iload_n 1, 1) := by decide +kernel
theorem dX10_tell_28 : decode cX10_tell 28 = .ok (.invokevirtual 138, 3) := by decide +kernel
theorem dX10_tell_31 : decode cX10_tell 31 = .ok (.ifCond .ne 6, 3) := by decide +kernel
theorem dX10_tell_34 : decode cX10_tell 34 = .ok (.bipush (-103), 2) := by decide +kernel
theorem dX10_tell_36 : decode cX10_tell 36 = .ok (.ireturn, 1) := by decide +kernel
theorem dX10_tell_37 : decode cX10_tell 37 = .ok (.aload_n 0, 1) := by decide +kernel
theorem dX10_tell_38 : decode cX10_tell 38 = .ok (.getfield 125, 3) := by decide +kernel
theorem dX10_tell_41 : decode cX10_tell 41 = .ok (.bipush 6, 2) := by decide +kernel
theorem dX10_tell_43 : decode cX10_tell 43 = .ok (.if_icmp .ne 6, 3) := by decide +kernel
theorem dX10_tell_46 : decode cX10_tell 46 = .ok (.bipush (-104), 2) := by decide +kernel
theorem dX10_tell_48 : decode cX10_tell 48 = .ok (.ireturn, 1) := by decide +kernel
theorem dX10_tell_49 : decode cX10_tell 49 = .ok (.aload_n 0, 1) := by decide +kernel
theorem dX10_tell_50 : decode cX10_tell 50 = .ok (.getfield 25, 3) := by decide +kernel
theorem dX10_tell_53 : decode cX10_tell 53 = .ok (.aload_n 0, 1) := by decide +kernel
theorem dX10_tell_54 : decode cX10_tell 54 = .ok (.getfield 125, 3) := by decide +kernel
theorem dX10_tell_57 : decode cX10_tell 57 = .ok (.aload_n 0, 1) := by decide +kernel
theorem dX10_tell_58 : decode cX10_tell 58 = .ok (.getfield 116, 3) := by decide +kernel
theorem dX10_tell_61 : decode cX10_tell 61 = .ok (.iastore, 1) := by decide +kernel
theorem dX10_tell_62 : decode cX10_tell 62 = .ok (.aload_n 0, 1) := by decide +kernel
theorem dX10_tell_63 : decode cX10_tell 63 = .ok (.getfield 28, 3) := by decide +kernel
theorem dX10_tell_66 : decode cX10_tell 66 = .ok (.aload_n 0, 1) := by decide +kernel
theorem dX10_tell_67 : decode cX10_tell 67 = .ok (.getfield 125, 3) := by decide +kernel
theorem dX10_tell_70 : decode cX10_tell 70 = .ok (.aload_n 0, 1) := by decide +kernel
theorem dX10_tell_71 : decode cX10_tell 71 = .ok (.iload_n 1, 1) := by decide +kernel
theorem dX10_tell_72 : decode cX10_tell 72 = .ok (.invokevirtual 128, 3) := by decide +kernel
theorem dX10_tell_75 : decode cX10_tell 75 = .ok (.iastore, 1) := by decide +kernel
theorem dX10_tell_76 : decode cX10_tell 76 = .ok (.aload_n 0, 1) := by decide +kernel
theorem dX10_tell_77 : decode cX10_tell 77 = .ok (.getfield 31, 3) := by decide +kernel
theorem dX10_tell_80 : decode cX10_tell 80 = .ok (.aload_n 0, 1) := by decide +kernel
theorem dX10_tell_81 : decode cX10_tell 81 = .ok (.getfield 125, 3) := by decide +kernel
theorem dX10_tell_84 : decode cX10_tell 84 = .ok (.aload_n 0, 1) := by decide +kernel
theorem dX10_tell_85 : decode cX10_tell 85 = .ok (.iload_n 1, 1) := by decide +kernel
theorem dX10_tell_86 : decode cX10_tell 86 = .ok (.invokevirtual 131, 3) := by decide +kernel
theorem dX10_tell_89 : decode cX10_tell 89 = .ok (.iastore, 1) := by decide +kernel
theorem dX10_tell_90 : decode cX10_tell 90 = .ok (.aload_n 0, 1) := by decide +kernel
theorem dX10_tell_91 : decode cX10_tell 91 = .ok (.getfield 34, 3) := by decide +kernel
theorem dX10_tell_94 : decode cX10_tell 94 = .ok (.aload_n 0, 1) := by decide +kernel
theorem dX10_tell_95 : decode cX10_tell 95 = .ok (.getfield 125, 3) := by decide +kernel
theorem dX10_tell_98 : decode cX10_tell 98 = .ok (.iload_n 2, 1) := by decide +kernel
theorem dX10_tell_99 : decode cX10_tell 99 = .ok (.iastore, 1) := by decide +kernel
theorem dX10_tell_100 : decode cX10_tell 100 = .ok (.aload_n 0, 1) := by decide +kernel
theorem dX10_tell_101 : decode cX10_tell 101 = .ok (.dup, 1) := by decide +kernel
theorem dX10_tell_102 : decode cX10_tell 102 = .ok (.getfield 125, 3) := by decide +kernel
theorem dX10_tell_105 : decode cX10_tell 105 = .ok (.iconst 1, 1) := by decide +kernel
theorem dX10_tell_106 : decode cX10_tell 106 = .ok (.iadd, 1) := by decide +kernel
theorem dX10_tell_107 : decode cX10_tell 107 = .ok (.putfield 125, 3) := by decide +kernel
theorem dX10_tell_110 : decode cX10_tell 110 = .ok (.aload_n 0, 1) := by decide +kernel
theorem dX10_tell_111 : decode cX10_tell 111 = .ok (.getfield 125, 3) := by decide +kernel
theorem dX10_tell_114 : decode cX10_tell 114 = .ok (.ireturn, 1) := by decide +kernel
theorem dX10_forget_0 : decode cX10_forget 0 = .ok (.aload_n 0, 1) := by decide +kernel
theorem dX10_forget_1 : decode cX10_forget 1 = .ok (.getfield 125, 3) := by decide +kernel
theorem dX10_forget_4 : decode cX10_forget 4 = .ok (.istore_n 1, 1) := by decide +kernel
theorem dX10_forget_5 : decode cX10_forget 5 = .ok (.aload_n 0, 1) := by decide +kernel
theorem dX10_forget_6 : decode cX10_forget 6 = .ok (.iconst 0, 1) := by decide +kernel
theorem dX10_forget_7 : decode cX10_forget 7 = .ok (.putfield 125, 3) := by decide +kernel
theorem dX10_forget_10 : decode cX10_forget 10 = .ok (.iload_n 1, 1) := by decide +kernel
theorem dX10_forget_11 : decode cX10_forget 11 = .ok (.ireturn, 1) := by decide +kernel
set_option maxRecDepth 20000 in
theorem ggX10_couldBe_X10_out : GoodIn wsX10_couldBe wsX10_out := goodIn_r _ [9] (by decide +kernel) (by decide +kernel)
set_option maxRecDepth 20000 in
theorem gX10_couldBe_X10_out : GoodIn wsX10_couldBe (va_wsS RX10 134 yX10_out wsX10_out) := goodIn_app (goodIn_of _ (by decide +kernel)) ggX10_couldBe_X10_out
theorem dX10_couldBe_0 : decode cX10_couldBe 0 = .ok (.iconst 1, 1) := by decide +kernel
theorem dX10_couldBe_1 : decode cX10_couldBe 1 = .ok (.istore_n 2, 1) := by decide +kernel
theorem dX10_couldBe_2 : decode cX10_couldBe 2 = .ok (.iconst 0, 1) := by decide +kernel
theorem dX10_couldBe_3 : decode cX10_couldBe 3 = .ok (.istore_n 3, 1) := by decide +kernel
theorem dX10_couldBe_4 : decode cX10_couldBe 4 = .ok (.iload_n 3, 1) := by decide +kernel
theorem dX10_couldBe_5 : decode cX10_couldBe 5 = .ok (.aload_n 0, 1) := by decide +kernel
theorem dX10_couldBe_6 : decode cX10_couldBe 6 = .ok (.getfield 125, 3) := by decide +kernel
theorem dX10_couldBe_9 : decode cX10_couldBe 9 = .ok (.if_icmp .ge 51, 3) := by decide +kernel
theorem dX10_couldBe_12 : decode cX10_couldBe 12 = .ok (.iload_n 2, 1) := by decide +kernel
theorem dX10_couldBe_13 : decode cX10_couldBe 13 = .ok (.ifCond .eq 39, 3) := by decide +kernel
theorem dX10_couldBe_16 : decode cX10_couldBe 16 = .ok (.aload_n 0, 1) := by decide +kernel
theorem dX10_couldBe_17 : decode cX10_couldBe 17 = .ok (.getfield 25, 3) := by decide +kernel
theorem dX10_couldBe_20 : decode cX10_couldBe 20 = .ok (.iload_n 3, 1) := by decide +kernel
theorem dX10_couldBe_21 : decode cX10_couldBe 21 = .ok (.iaload, 1) := by decide +kernel
theorem dX10_couldBe_22 : decode cX10_couldBe 22 = .ok (.iload_n 1, 1) := by decide +kernel
theorem dX10_couldBe_23 : decode cX10_couldBe 23 = .ok (.iadd, 1) := by decide +kernel
theorem dX10_couldBe_24 : decode cX10_couldBe 24 = .ok (.aload_n 0, 1) := by decide +kernel
theorem dX10_couldBe_25 : decode cX10_couldBe 25 = .ok (.getfield 28, 3) := by decide +kernel
theorem dX10_couldBe_28 : decode cX10_couldBe 28 = .ok (.iload_n 3, 1) := by decide +kernel
theorem dX10_couldBe_29 : decode cX10_couldBe 29 = .ok (.iaload, 1) := by decide +kernel
theorem dX10_couldBe_30 : decode cX10_couldBe 30 = .ok (.aload_n 0, 1) := by decide +kernel
theorem dX10_couldBe_31 : decode cX10_couldBe 31 = .ok (.getfield 31, 3) := by decide +kernel
theorem dX10_couldBe_34 : decode cX10_couldBe 34 = .ok (.iload_n 3, 1) := by decide +kernel
theorem dX10_couldBe_35 : decode cX10_couldBe 35 = .ok (.iaload, 1) := by decide +kernel
theorem dX10_couldBe_36 : decode cX10_couldBe 36 = .ok (.invokestatic 134, 3) := by decide +kernel
theorem dX10_couldBe_39 : decode cX10_couldBe 39 = .ok (.aload_n 0, 1) := by decide +kernel
theorem dX10_couldBe_40 : decode cX10_couldBe 40 = .ok (.getfield 34, 3) := by decide +kernel
theorem dX10_couldBe_43 : decode cX10_couldBe 43 = .ok (.iload_n 3, 1) := by decide +kernel
theorem dX10_couldBe_44 : decode cX10_couldBe 44 = .ok (.iaload, 1) := by decide +kernel
theorem dX10_couldBe_45 : decode cX10_couldBe 45 = .ok (.if_icmp .ne 7, 3) := by decide +kernel
theorem dX10_couldBe_48 : decode cX10_couldBe 48 = .ok (.iconst 1, 1) := by decide +kernel
theorem dX10_couldBe_49 : decode cX10_couldBe 49 = .ok (.goto 4, 3) := by decide +kernel
theorem dX10_couldBe_52 : decode cX10_couldBe 52 = .ok (.iconst 0, 1) := by decide +kernel
theorem dX10_couldBe_53 : decode cX10_couldBe 53 = .ok (.istore_n 2, 1) := by decide +kernel
theorem dX10_couldBe_54 : decode cX10_couldBe 54 = .ok (.iinc 3 1, 3) := by decide +kernel
theorem dX10_couldBe_57 : decode cX10_couldBe 57 = .ok (.goto (-53), 3) := by decide +kernel
theorem dX10_couldBe_60 : decode cX10_couldBe 60 = .ok (.iload_n 2, 1) := by decide +kernel
theorem dX10_couldBe_61 : decode cX10_couldBe 61 = .ok (.ireturn, 1) := by decide +kernel
set_option maxRecDepth 20000 in
theorem ggX10_woundNow_X10_couldBe : GoodIn wsX10_woundNow wsX10_couldBe := goodIn_r _ [6, 7, 8, 9, 10, 11, 12, 13, 5, 14, 15, 16, 17, 18, 19, 20, 21, 22, 23, 24, 25, 26, 27, 28, 29, 30, 31, 32, 33, 34, 35, 36, 37, 38, 39, 40, 41, 42, 43, 44, 45, 46, 47, 48, 49, 50, 51, 52, 53] (by decide +kernel) (by decide +kernel)
set_option maxRecDepth 20000 in
theorem gX10_woundNow_X10_couldBe : GoodIn wsX10_woundNow (wsV RX10 180 RX10 yX10_couldBe wsX10_couldBe) := goodIn_app (goodIn_of _ (by decide +kernel)) ggX10_woundNow_X10_couldBe
theorem dX10_woundNow_0 : decode cX10_woundNow 0 = .ok (.iconst 0, 1) := by decide +kernel
theorem dX10_woundNow_1 : decode cX10_woundNow 1 = .ok (.istore_n 2, 1) := by decide +kernel
theorem dX10_woundNow_2 : decode cX10_woundNow 2 = .ok (.iconst (-1), 1) := by decide +kernel
theorem dX10_woundNow_3 : decode cX10_woundNow 3 = .ok (.istore_n 3, 1) := by decide +kernel
theorem dX10_woundNow_4 : decode cX10_woundNow 4 = .ok (.aload_n 0, 1) := by decide +kernel
theorem dX10_woundNow_5 : decode cX10_woundNow 5 = .ok (.getfield 107, 3) := by decide +kernel
theorem dX10_woundNow_8 : decode cX10_woundNow 8 = .ok (.istore 4, 2) := by decide +kernel
theorem dX10_woundNow_10 : decode cX10_woundNow 10 = .ok (.iload 4, 2) := by decide +kernel
theorem dX10_woundNow_12 : decode cX10_woundNow 12 = .ok (.ifCond .le 42, 3) := by decide +kernel
theorem dX10_woundNow_15 : decode cX10_woundNow 15 = .ok (.aload_n 0, 1) := by decide +kernel
theorem dX10_woundNow_16 : decode cX10_woundNow 16 = .ok (.iload 4, 2) := by decide +kernel
theorem dX10_woundNow_18 : decode cX10_woundNow 18 = .ok (.invokevirtual 180, 3) := by decide +kernel
theorem dX10_woundNow_21 : decode cX10_woundNow 21 = .ok (.istore 5, 2) := by decide +kernel
theorem dX10_woundNow_23 : decode cX10_woundNow 23 = .ok (.iload_n 2, 1) := by decide +kernel
theorem dX10_woundNow_24 : decode cX10_woundNow 24 = .ok (.iload 5, 2) := by decide +kernel
theorem dX10_woundNow_26 : decode cX10_woundNow 26 = .ok (.ifCond .eq 7, 3) := by decide +kernel
theorem dX10_woundNow_29 : decode cX10_woundNow 29 = .ok (.iconst 1, 1) := by decide +kernel
theorem dX10_woundNow_30 : decode cX10_woundNow 30 = .ok (.goto 4, 3) := by decide +kernel
theorem dX10_woundNow_33 : decode cX10_woundNow 33 = .ok (.iconst 0, 1) := by decide +kernel
theorem dX10_woundNow_34 : decode cX10_woundNow 34 = .ok (.iadd, 1) := by decide +kernel
theorem dX10_woundNow_35 : decode cX10_woundNow 35 = .ok (.istore_n 2, 1) := by decide +kernel
theorem dX10_woundNow_36 : decode cX10_woundNow 36 = .ok (.iload 5, 2) := by decide +kernel
theorem dX10_woundNow_38 : decode cX10_woundNow 38 = .ok (.ifCond .eq 8, 3) := by decide +kernel
theorem dX10_woundNow_41 : decode cX10_woundNow 41 = .ok (.iload 4, 2) := by decide +kernel
theorem dX10_woundNow_43 : decode cX10_woundNow 43 = .ok (.goto 4, 3) := by decide +kernel
theorem dX10_woundNow_46 : decode cX10_woundNow 46 = .ok (.iload_n 3, 1) := by decide +kernel
theorem dX10_woundNow_47 : decode cX10_woundNow 47 = .ok (.istore_n 3, 1) := by decide +kernel
theorem dX10_woundNow_48 : decode cX10_woundNow 48 = .ok (.iinc 4 (-1), 3) := by decide +kernel
theorem dX10_woundNow_51 : decode cX10_woundNow 51 = .ok (.goto (-41), 3) := by decide +kernel
theorem dX10_woundNow_54 : decode cX10_woundNow 54 = .ok (.iload_n 1, 1) := by decide +kernel
theorem dX10_woundNow_55 : decode cX10_woundNow 55 = .ok (.ifCond .ne 7, 3) := by decide +kernel
theorem dX10_woundNow_58 : decode cX10_woundNow 58 = .ok (.iload_n 2, 1) := by decide +kernel
theorem dX10_woundNow_59 : decode cX10_woundNow 59 = .ok (.goto 4, 3) := by decide +kernel
theorem dX10_woundNow_62 : decode cX10_woundNow 62 = .ok (.iload_n 3, 1) := by decide +kernel
theorem dX10_woundNow_63 : decode cX10_woundNow 63 = .ok (.ireturn, 1) := by decide +kernel
set_option maxRecDepth 20000 in
theorem ggX10_wound_X10_within : GoodIn wsX10_wound wsX10_within := goodIn_r _ [5] (by decide +kernel) (by decide +kernel)
set_option maxRecDepth 20000 in
theorem gX10_wound_X10_within : GoodIn wsX10_wound (va_wsS RX10 68 yX10_within wsX10_within) := goodIn_app (goodIn_of _ (by decide +kernel)) ggX10_wound_X10_within
set_option maxRecDepth 20000 in
theorem ggX10_wound_X10_woundNow : GoodIn wsX10_wound wsX10_woundNow := goodIn_r _ [9, 10, 11, 12, 13, 4, 14, 15, 16, 17, 18, 19, 20, 21, 22, 23, 24, 25, 26, 27, 28, 29, 30, 31, 32, 33, 34, 35, 36, 37, 38, 39, 40, 41, 42, 43, 44, 45, 46, 47, 48, 49, 50, 51, 52, 53, 54, 55, 56, 57, 58, 59, 60, 61] (by decide +kernel) (by decide +kernel)
set_option maxRecDepth 20000 in
theorem gX10_wound_X10_woundNow : GoodIn wsX10_wound (wsV RX10 183 RX10 yX10_woundNow wsX10_woundNow) := goodIn_app (goodIn_of _ (by decide +kernel)) ggX10_wound_X10_woundNow
theorem dX10_wound_0 : decode cX10_wound 0 = .ok (.iload_n 1, 1) := by decide +kernel
theorem dX10_wound_1 : decode cX10_wound 1 = .ok (.iconst 0, 1) := by decide +kernel
theorem dX10_wound_2 : decode cX10_wound 2 = .ok (.iconst 1, 1) := by decide +kernel
theorem dX10_wound_3 : decode cX10_wound 3 = .ok (.invokestatic 68, 3) := by decide +kernel
theorem dX10_wound_6 : decode cX10_wound 6 = .ok (.ifCond .ne 6, 3) := by decide +kernel
theorem dX10_wound_9 : decode cX10_wound 9 = .ok (.bipush (-102), 2) := by decide +kernel
theorem dX10_wound_11 : decode cX10_wound 11 = .ok (.ireturn, 1) := by decide +kernel
theorem dX10_wound_12 : decode cX10_wound 12 = .ok (.aload_n 0, 1) := by decide +kernel
theorem dX10_wound_13 : decode cX10_wound 13 = .ok (.getfield 101, 3) := by decide +kernel
theorem dX10_wound_16 : decode cX10_wound 16 = .ok (.ifCond .ne 8, 3) := by decide +kernel
theorem dX10_wound_19 : decode cX10_wound 19 = .ok (.bipush (-103), 2) := by decide +kernel
theorem dX10_wound_21 : decode cX10_wound 21 = .ok (.goto 8, 3) := by decide +kernel
theorem dX10_wound_24 : decode cX10_wound 24 = .ok (.aload_n 0, 1) := by decide +kernel
theorem dX10_wound_25 : decode cX10_wound 25 = .ok (.iload_n 1, 1) := by decide +kernel
theorem dX10_wound_26 : decode cX10_wound 26 = .ok (.invokevirtual 183, 3) := by decide +kernel
theorem dX10_wound_29 : decode cX10_wound 29 = .ok (.ireturn, 1) := by decide +kernel
theorem dX10_draw_0 : decode cX10_draw 0 = .ok (.aload_n 0, 1) := by decide +kernel
theorem dX10_draw_1 : decode cX10_draw 1 = .ok (.ldc2_w 186, 3) := by decide +kernel
theorem dX10_draw_4 : decode cX10_draw 4 = .ok (.aload_n 0, 1) := by decide +kernel
theorem dX10_draw_5 : decode cX10_draw 5 = .ok (.getfield 188, 3) := by decide +kernel
theorem dX10_draw_8 : decode cX10_draw 8 = .ok (.lmul, 1) := by decide +kernel
theorem dX10_draw_9 : decode cX10_draw 9 = .ok (.ldc2_w 192, 3) := by decide +kernel
theorem dX10_draw_12 : decode cX10_draw 12 = .ok (.ladd, 1) := by decide +kernel
theorem dX10_draw_13 : decode cX10_draw 13 = .ok (.ldc2_w 194, 3) := by decide +kernel
theorem dX10_draw_16 : decode cX10_draw 16 = .ok (.land, 1) := by decide +kernel
theorem dX10_draw_17 : decode cX10_draw 17 = .ok (.putfield 188, 3) := by decide +kernel
theorem dX10_draw_20 : decode cX10_draw 20 = .ok (.aload_n 0, 1) := by decide +kernel
theorem dX10_draw_21 : decode cX10_draw 21 = .ok (.getfield 188, 3) := by decide +kernel
theorem dX10_draw_24 : decode cX10_draw 24 = .ok (.ldc2_w 196, 3) := by decide +kernel
theorem dX10_draw_27 : decode cX10_draw 27 = .ok (.ldiv, 1) := by decide +kernel
theorem dX10_draw_28 : decode cX10_draw 28 = .ok (.iload_n 1, 1) := by decide +kernel
theorem dX10_draw_29 : decode cX10_draw 29 = .ok (.i2l, 1) := by decide +kernel
theorem dX10_draw_30 : decode cX10_draw 30 = .ok (.lrem, 1) := by decide +kernel
theorem dX10_draw_31 : decode cX10_draw 31 = .ok (.l2i, 1) := by decide +kernel
theorem dX10_draw_32 : decode cX10_draw 32 = .ok (.ireturn, 1) := by decide +kernel
set_option maxRecDepth 20000 in
theorem ggX10_eveningsNow_X10_draw : GoodIn wsX10_eveningsNow wsX10_draw := goodIn_r _ [9, 10, 1, 11, 12, 13, 22, 23, 24, 25, 26, 27, 28, 29, 30, 31, 32, 33, 34, 35, 36, 37, 38, 39, 40, 41, 42, 43, 44, 45, 46, 47, 48, 49, 50, 51, 52, 53, 54, 55, 56, 57, 58, 59, 60] (by decide +kernel) (by decide +kernel)
set_option maxRecDepth 20000 in
theorem gX10_eveningsNow_X10_draw : GoodIn wsX10_eveningsNow (wsV RX10 198 RX10 yX10_draw wsX10_draw) := goodIn_app (goodIn_of _ (by decide +kernel)) ggX10_eveningsNow_X10_draw
set_option maxRecDepth 20000 in
theorem ggX10_eveningsNow_X10_keepsOf : GoodIn wsX10_eveningsNow wsX10_keepsOf := goodIn_r _ [17, 18, 22, 23, 24, 25, 26, 27, 28, 29, 30, 31, 32, 33, 34, 35, 36, 37, 38, 39, 40, 41, 42, 43, 44, 45, 46, 47, 48, 49, 50, 51, 52, 53, 54, 55, 56, 57, 58, 59, 60] (by decide +kernel) (by decide +kernel)
set_option maxRecDepth 20000 in
theorem gX10_eveningsNow_X10_keepsOf : GoodIn wsX10_eveningsNow (wsV RX10 131 RX10 yX10_keepsOf wsX10_keepsOf) := goodIn_app (goodIn_of _ (by decide +kernel)) ggX10_eveningsNow_X10_keepsOf
set_option maxRecDepth 20000 in
theorem ggX10_eveningsNow_X10_out : GoodIn wsX10_eveningsNow wsX10_out := goodIn_r _ [21] (by decide +kernel) (by decide +kernel)
set_option maxRecDepth 20000 in
theorem gX10_eveningsNow_X10_out : GoodIn wsX10_eveningsNow (va_wsS RX10 134 yX10_out wsX10_out) := goodIn_app (goodIn_of _ (by decide +kernel)) ggX10_eveningsNow_X10_out
theorem dX10_eveningsNow_0 : decode cX10_eveningsNow 0 = .ok (.aload_n 0, 1) := by decide +kernel
theorem dX10_eveningsNow_1 : decode cX10_eveningsNow 1 = .ok (.iload_n 2, 1) := by decide +kernel
theorem dX10_eveningsNow_2 : decode cX10_eveningsNow 2 = .ok (.i2l, 1) := by decide +kernel
theorem dX10_eveningsNow_3 : decode cX10_eveningsNow 3 = .ok (.putfield 188, 3) := by decide +kernel
theorem dX10_eveningsNow_6 : decode cX10_eveningsNow 6 = .ok (.iconst 0, 1) := by decide +kernel
theorem dX10_eveningsNow_7 : decode cX10_eveningsNow 7 = .ok (.istore 4, 2) := by decide +kernel
theorem dX10_eveningsNow_9 : decode cX10_eveningsNow 9 = .ok (.iconst 0, 1) := by decide +kernel
theorem dX10_eveningsNow_10 : decode cX10_eveningsNow 10 = .ok (.istore 5, 2) := by decide +kernel
theorem dX10_eveningsNow_12 : decode cX10_eveningsNow 12 = .ok (.iconst 0, 1) := by decide +kernel
theorem dX10_eveningsNow_13 : decode cX10_eveningsNow 13 = .ok (.istore 6, 2) := by decide +kernel
theorem dX10_eveningsNow_15 : decode cX10_eveningsNow 15 = .ok (.iconst 0, 1) := by decide +kernel
theorem dX10_eveningsNow_16 : decode cX10_eveningsNow 16 = .ok (.istore 7, 2) := by decide +kernel
theorem dX10_eveningsNow_18 : decode cX10_eveningsNow 18 = .ok (.iconst 0, 1) := by decide +kernel
theorem dX10_eveningsNow_19 : decode cX10_eveningsNow 19 = .ok (.istore 8, 2) := by decide +kernel
theorem dX10_eveningsNow_21 : decode cX10_eveningsNow 21 = .ok (.iload 8, 2) := by decide +kernel
theorem dX10_eveningsNow_23 : decode cX10_eveningsNow 23 = .ok (.iload_n 1, 1) := by decide +kernel
theorem dX10_eveningsNow_24 : decode cX10_eveningsNow 24 = .ok (.if_icmp .ge 124, 3) := by decide +kernel
theorem dX10_eveningsNow_27 : decode cX10_eveningsNow 27 = .ok (.iload 4, 2) := by decide +kernel
theorem dX10_eveningsNow_29 : decode cX10_eveningsNow 29 = .ok (.iconst 1, 1) := by decide +kernel
theorem dX10_eveningsNow_30 : decode cX10_eveningsNow 30 = .ok (.aload_n 0, 1) := by decide +kernel
theorem dX10_eveningsNow_31 : decode cX10_eveningsNow 31 = .ok (.aload_n 0, 1) := by decide +kernel
theorem dX10_eveningsNow_32 : decode cX10_eveningsNow 32 = .ok (.getfield 107, 3) := by decide +kernel
theorem dX10_eveningsNow_35 : decode cX10_eveningsNow 35 = .ok (.invokevirtual 198, 3) := by decide +kernel
theorem dX10_eveningsNow_38 : decode cX10_eveningsNow 38 = .ok (.iadd, 1) := by decide +kernel
theorem dX10_eveningsNow_39 : decode cX10_eveningsNow 39 = .ok (.iadd, 1) := by decide +kernel
theorem dX10_eveningsNow_40 : decode cX10_eveningsNow 40 = .ok (.istore 4, 2) := by decide +kernel
theorem dX10_eveningsNow_42 : decode cX10_eveningsNow 42 = .ok (.aload_n 0, 1) := by decide +kernel
theorem dX10_eveningsNow_43 : decode cX10_eveningsNow 43 = .ok (.aload_n 0, 1) := by decide +kernel
theorem dX10_eveningsNow_44 : decode cX10_eveningsNow 44 = .ok (.getfield 101, 3) := by decide +kernel
theorem dX10_eveningsNow_47 : decode cX10_eveningsNow 47 = .ok (.invokevirtual 198, 3) := by decide +kernel
theorem dX10_eveningsNow_50 : decode cX10_eveningsNow 50 = .ok (.istore 9, 2) := by decide +kernel
theorem dX10_eveningsNow_52 : decode cX10_eveningsNow 52 = .ok (.iload 4, 2) := by decide +kernel
theorem dX10_eveningsNow_54 : decode cX10_eveningsNow 54 = .ok (.aload_n 0, 1) := by decide +kernel
theorem dX10_eveningsNow_55 : decode cX10_eveningsNow 55 = .ok (.getfield 13, 3) := by decide +kernel
theorem dX10_eveningsNow_58 : decode cX10_eveningsNow 58 = .ok (.iload 9, 2) := by decide +kernel
theorem dX10_eveningsNow_60 : decode cX10_eveningsNow 60 = .ok (.iaload, 1) := by decide +kernel
theorem dX10_eveningsNow_61 : decode cX10_eveningsNow 61 = .ok (.aload_n 0, 1) := by decide +kernel
theorem dX10_eveningsNow_62 : decode cX10_eveningsNow 62 = .ok (.iload 9, 2) := by decide +kernel
theorem dX10_eveningsNow_64 : decode cX10_eveningsNow 64 = .ok (.invokevirtual 131, 3) := by decide +kernel
theorem dX10_eveningsNow_67 : decode cX10_eveningsNow 67 = .ok (.invokestatic 134, 3) := by decide +kernel
theorem dX10_eveningsNow_70 : decode cX10_eveningsNow 70 = .ok (.istore 10, 2) := by decide +kernel
theorem dX10_eveningsNow_72 : decode cX10_eveningsNow 72 = .ok (.iload 5, 2) := by decide +kernel
theorem dX10_eveningsNow_74 : decode cX10_eveningsNow 74 = .ok (.iload 9, 2) := by decide +kernel
theorem dX10_eveningsNow_76 : decode cX10_eveningsNow 76 = .ok (.ishr, 1) := by decide +kernel
theorem dX10_eveningsNow_77 : decode cX10_eveningsNow 77 = .ok (.iconst 1, 1) := by decide +kernel
theorem dX10_eveningsNow_78 : decode cX10_eveningsNow 78 = .ok (.iand, 1) := by decide +kernel
theorem dX10_eveningsNow_79 : decode cX10_eveningsNow 79 = .ok (.ifCond .ne 7, 3) := by decide +kernel
theorem dX10_eveningsNow_82 : decode cX10_eveningsNow 82 = .ok (.iconst 1, 1) := by decide +kernel
theorem dX10_eveningsNow_83 : decode cX10_eveningsNow 83 = .ok (.goto 4, 3) := by decide +kernel
theorem dX10_eveningsNow_86 : decode cX10_eveningsNow 86 = .ok (.iconst 0, 1) := by decide +kernel
theorem dX10_eveningsNow_87 : decode cX10_eveningsNow 87 = .ok (.istore 11, 2) := by decide +kernel
theorem dX10_eveningsNow_89 : decode cX10_eveningsNow 89 = .ok (.iload 6, 2) := by decide +kernel
theorem dX10_eveningsNow_91 : decode cX10_eveningsNow 91 = .ok (.iload 11, 2) := by decide +kernel
theorem dX10_eveningsNow_93 : decode cX10_eveningsNow 93 = .ok (.ifCond .eq 14, 3) := by decide +kernel
theorem dX10_eveningsNow_96 : decode cX10_eveningsNow 96 = .ok (.iload 10, 2) := by decide +kernel
theorem dX10_eveningsNow_98 : decode cX10_eveningsNow 98 = .ok (.bipush 100, 2) := by decide +kernel
theorem dX10_eveningsNow_100 : decode cX10_eveningsNow 100 = .ok (.if_icmp .ne 7, 3) := by decide +kernel
theorem dX10_eveningsNow_103 : decode cX10_eveningsNow 103 = .ok (.iconst 1, 1) := by decide +kernel
theorem dX10_eveningsNow_104 : decode cX10_eveningsNow 104 = .ok (.goto 4, 3) := by decide +kernel
theorem dX10_eveningsNow_107 : decode cX10_eveningsNow 107 = .ok (.iconst 0, 1) := by decide +kernel
theorem dX10_eveningsNow_108 : decode cX10_eveningsNow 108 = .ok (.iadd, 1) := by decide +kernel
theorem dX10_eveningsNow_109 : decode cX10_eveningsNow 109 = .ok (.istore 6, 2) := by decide +kernel
theorem dX10_eveningsNow_111 : decode cX10_eveningsNow 111 = .ok (.iload 7, 2) := by decide +kernel
theorem dX10_eveningsNow_113 : decode cX10_eveningsNow 113 = .ok (.iload 11, 2) := by decide +kernel
theorem dX10_eveningsNow_115 : decode cX10_eveningsNow 115 = .ok (.ifCond .eq 14, 3) := by decide +kernel
theorem dX10_eveningsNow_118 : decode cX10_eveningsNow 118 = .ok (.iload 10, 2) := by decide +kernel
theorem dX10_eveningsNow_120 : decode cX10_eveningsNow 120 = .ok (.bipush 100, 2) := by decide +kernel
theorem dX10_eveningsNow_122 : decode cX10_eveningsNow 122 = .ok (.if_icmp .le 7, 3) := by decide +kernel
theorem dX10_eveningsNow_125 : decode cX10_eveningsNow 125 = .ok (.iconst 1, 1) := by decide +kernel
theorem dX10_eveningsNow_126 : decode cX10_eveningsNow 126 = .ok (.goto 4, 3) := by decide +kernel
theorem dX10_eveningsNow_129 : decode cX10_eveningsNow 129 = .ok (.iconst 0, 1) := by decide +kernel
theorem dX10_eveningsNow_130 : decode cX10_eveningsNow 130 = .ok (.iadd, 1) := by decide +kernel
theorem dX10_eveningsNow_131 : decode cX10_eveningsNow 131 = .ok (.istore 7, 2) := by decide +kernel
theorem dX10_eveningsNow_133 : decode cX10_eveningsNow 133 = .ok (.iload 5, 2) := by decide +kernel
theorem dX10_eveningsNow_135 : decode cX10_eveningsNow 135 = .ok (.iconst 1, 1) := by decide +kernel
theorem dX10_eveningsNow_136 : decode cX10_eveningsNow 136 = .ok (.iload 9, 2) := by decide +kernel
theorem dX10_eveningsNow_138 : decode cX10_eveningsNow 138 = .ok (.ishl, 1) := by decide +kernel
theorem dX10_eveningsNow_139 : decode cX10_eveningsNow 139 = .ok (.ior, 1) := by decide +kernel
theorem dX10_eveningsNow_140 : decode cX10_eveningsNow 140 = .ok (.istore 5, 2) := by decide +kernel
theorem dX10_eveningsNow_142 : decode cX10_eveningsNow 142 = .ok (.iinc 8 1, 3) := by decide +kernel
theorem dX10_eveningsNow_145 : decode cX10_eveningsNow 145 = .ok (.goto (-124), 3) := by decide +kernel
theorem dX10_eveningsNow_148 : decode cX10_eveningsNow 148 = .ok (.iload_n 3, 1) := by decide +kernel
theorem dX10_eveningsNow_149 : decode cX10_eveningsNow 149 = .ok (.ifCond .ne 8, 3) := by decide +kernel
theorem dX10_eveningsNow_152 : decode cX10_eveningsNow 152 = .ok (.iload 6, 2) := by decide +kernel
theorem dX10_eveningsNow_154 : decode cX10_eveningsNow 154 = .ok (.goto 18, 3) := by decide +kernel
theorem dX10_eveningsNow_157 : decode cX10_eveningsNow 157 = .ok (.iload_n 3, 1) := by decide +kernel
theorem dX10_eveningsNow_158 : decode cX10_eveningsNow 158 = .ok (.iconst 1, 1) := by decide +kernel
theorem dX10_eveningsNow_159 : decode cX10_eveningsNow 159 = .ok (.if_icmp .ne 8, 3) := by decide +kernel
theorem dX10_eveningsNow_162 : decode cX10_eveningsNow 162 = .ok (.iload 7, 2) := by decide +kernel
theorem dX10_eveningsNow_164 : decode cX10_eveningsNow 164 = .ok (.goto 8, 3) := by decide +kernel
theorem dX10_eveningsNow_167 : decode cX10_eveningsNow 167 = .ok (.aload_n 0, 1) := by decide +kernel
theorem dX10_eveningsNow_168 : decode cX10_eveningsNow 168 = .ok (.getfield 188, 3) := by decide +kernel
theorem dX10_eveningsNow_171 : decode cX10_eveningsNow 171 = .ok (.l2i, 1) := by decide +kernel
theorem dX10_eveningsNow_172 : decode cX10_eveningsNow 172 = .ok (.ireturn, 1) := by decide +kernel
set_option maxRecDepth 20000 in
theorem ggX10_evenings_X10_within : GoodIn wsX10_evenings wsX10_within := goodIn_r _ [5] (by decide +kernel) (by decide +kernel)
set_option maxRecDepth 20000 in
theorem gX10_evenings_X10_within : GoodIn wsX10_evenings (va_wsS RX10 68 yX10_within wsX10_within) := goodIn_app (goodIn_of _ (by decide +kernel)) ggX10_evenings_X10_within
set_option maxRecDepth 20000 in
theorem ggX10_evenings_X10_eveningsNow : GoodIn wsX10_evenings wsX10_eveningsNow := goodIn_r _ [9, 10, 11, 1, 12, 13, 14, 15, 4, 16, 17, 18, 19, 20, 21, 22, 23, 24, 25, 26, 27, 28, 29, 30, 31, 32, 33, 34, 35, 36, 37, 38, 39, 40, 41, 42, 43, 44, 45, 46, 47, 48, 49, 50, 51, 52, 53, 54, 55, 56, 57, 58, 59, 60, 61, 62, 63, 64, 65, 66, 67] (by decide +kernel) (by decide +kernel)
set_option maxRecDepth 20000 in
theorem gX10_evenings_X10_eveningsNow : GoodIn wsX10_evenings (wsV RX10 201 RX10 yX10_eveningsNow wsX10_eveningsNow) := goodIn_app (goodIn_of _ (by decide +kernel)) ggX10_evenings_X10_eveningsNow
theorem dX10_evenings_0 : decode cX10_evenings 0 = .ok (.iload_n 1, 1) := by decide +kernel
theorem dX10_evenings_1 : decode cX10_evenings 1 = .ok (.iconst 1, 1) := by decide +kernel
theorem dX10_evenings_2 : decode cX10_evenings 2 = .ok (.bipush 30, 2) := by decide +kernel
theorem dX10_evenings_4 : decode cX10_evenings 4 = .ok (.invokestatic 68, 3) := by decide +kernel
theorem dX10_evenings_7 : decode cX10_evenings 7 = .ok (.ifCond .eq 16, 3) := by decide +kernel
theorem dX10_evenings_10 : decode cX10_evenings 10 = .ok (.iload_n 2, 1) := by decide +kernel
theorem dX10_evenings_11 : decode cX10_evenings 11 = .ok (.ifCond .lt 12, 3) := by decide +kernel
theorem dX10_evenings_14 : decode cX10_evenings 14 = .ok (.iload_n 3, 1) := by decide +kernel
theorem dX10_evenings_15 : decode cX10_evenings 15 = .ok (.iconst 0, 1) := by decide +kernel
theorem dX10_evenings_16 : decode cX10_evenings 16 = .ok (.iconst 2, 1) := by decide +kernel
theorem dX10_evenings_17 : decode cX10_evenings 17 = .ok (.invokestatic 68, 3) := by decide +kernel
theorem dX10_evenings_20 : decode cX10_evenings 20 = .ok (.ifCond .ne 6, 3) := by decide +kernel
theorem dX10_evenings_23 : decode cX10_evenings 23 = .ok (.bipush (-102), 2) := by decide +kernel
theorem dX10_evenings_25 : decode cX10_evenings 25 = .ok (.ireturn, 1) := by decide +kernel
theorem dX10_evenings_26 : decode cX10_evenings 26 = .ok (.aload_n 0, 1) := by decide +kernel
theorem dX10_evenings_27 : decode cX10_evenings 27 = .ok (.getfield 101, 3) := by decide +kernel
theorem dX10_evenings_30 : decode cX10_evenings 30 = .ok (.ifCond .ne 8, 3) := by decide +kernel
theorem dX10_evenings_33 : decode cX10_evenings 33 = .ok (.bipush (-103), 2) := by decide +kernel
theorem dX10_evenings_35 : decode cX10_evenings 35 = .ok (.goto 10, 3) := by decide +kernel
theorem dX10_evenings_38 : decode cX10_evenings 38 = .ok (.aload_n 0, 1) := by decide +kernel
theorem dX10_evenings_39 : decode cX10_evenings 39 = .ok (.iload_n 1, 1) := by decide +kernel
theorem dX10_evenings_40 : decode cX10_evenings 40 = .ok (.iload_n 2, 1) := by decide +kernel
theorem dX10_evenings_41 : decode cX10_evenings 41 = .ok (.iload_n 3, 1) := by decide +kernel
theorem dX10_evenings_42 : decode cX10_evenings 42 = .ok (.invokevirtual 201, 3) := by decide +kernel
theorem dX10_evenings_45 : decode cX10_evenings 45 = .ok (.ireturn, 1) := by decide +kernel
theorem dX10_image_0 : decode cX10_image 0 = .ok (.aload_n 0, 1) := by decide +kernel
theorem dX10_image_1 : decode cX10_image 1 = .ok (.getfield 101, 3) := by decide +kernel
theorem dX10_image_4 : decode cX10_image 4 = .ok (.ifCond .ne 6, 3) := by decide +kernel
theorem dX10_image_7 : decode cX10_image 7 = .ok (.bipush (-103), 2) := by decide +kernel
theorem dX10_image_9 : decode cX10_image 9 = .ok (.ireturn, 1) := by decide +kernel
theorem dX10_image_10 : decode cX10_image 10 = .ok (.aload_n 0, 1) := by decide +kernel
theorem dX10_image_11 : decode cX10_image 11 = .ok (.iconst 1, 1) := by decide +kernel
theorem dX10_image_12 : decode cX10_image 12 = .ok (.putfield 204, 3) := by decide +kernel
theorem dX10_image_15 : decode cX10_image 15 = .ok (.aload_n 0, 1) := by decide +kernel
theorem dX10_image_16 : decode cX10_image 16 = .ok (.aload_n 0, 1) := by decide +kernel
theorem dX10_image_17 : decode cX10_image 17 = .ok (.getfield 113, 3) := by decide +kernel
theorem dX10_image_20 : decode cX10_image 20 = .ok (.putfield 207, 3) := by decide +kernel
theorem dX10_image_23 : decode cX10_image 23 = .ok (.aload_n 0, 1) := by decide +kernel
theorem dX10_image_24 : decode cX10_image 24 = .ok (.aload_n 0, 1) := by decide +kernel
theorem dX10_image_25 : decode cX10_image 25 = .ok (.getfield 116, 3) := by decide +kernel
theorem dX10_image_28 : decode cX10_image 28 = .ok (.putfield 210, 3) := by decide +kernel
theorem dX10_image_31 : decode cX10_image 31 = .ok (.aload_n 0, 1) := by decide +kernel
theorem dX10_image_32 : decode cX10_image 32 = .ok (.aload_n 0, 1) := by decide +kernel
theorem dX10_image_33 : decode cX10_image 33 = .ok (.getfield 119, 3) := by decide +kernel
theorem dX10_image_36 : decode cX10_image 36 = .ok (.putfield 213, 3) := by decide +kernel
theorem dX10_image_39 : decode cX10_image 39 = .ok (.aload_n 0, 1) := by decide +kernel
theorem dX10_image_40 : decode cX10_image 40 = .ok (.aload_n 0, 1) := by decide +kernel
theorem dX10_image_41 : decode cX10_image 41 = .ok (.getfield 122, 3) := by decide +kernel
theorem dX10_image_44 : decode cX10_image 44 = .ok (.putfield 216, 3) := by decide +kernel
theorem dX10_image_47 : decode cX10_image 47 = .ok (.aload_n 0, 1) := by decide +kernel
theorem dX10_image_48 : decode cX10_image 48 = .ok (.aload_n 0, 1) := by decide +kernel
theorem dX10_image_49 : decode cX10_image 49 = .ok (.getfield 125, 3) := by decide +kernel
theorem dX10_image_52 : decode cX10_image 52 = .ok (.putfield 219, 3) := by decide +kernel
theorem dX10_image_55 : decode cX10_image 55 = .ok (.iconst 0, 1) := by decide +kernel
theorem dX10_image_56 : decode cX10_image 56 = .ok (.istore_n 1, 1) := by decide +kernel
theorem dX10_image_57 : decode cX10_image 57 = .ok (.iload_n 1, 1) := by decide +kernel
theorem dX10_image_58 : decode cX10_image 58 = .ok (.iconst 4, 1) := by decide +kernel
theorem dX10_image_59 : decode cX10_image 59 = .ok (.if_icmp .ge 45, 3) := by decide +kernel
theorem dX10_image_62 : decode cX10_image 62 = .ok (.aload_n 0, 1) := by decide +kernel
theorem dX10_image_63 : decode cX10_image 63 = .ok (.getfield 47, 3) := by decide +kernel
theorem dX10_image_66 : decode cX10_image 66 = .ok (.iload_n 1, 1) := by decide +kernel
theorem dX10_image_67 : decode cX10_image 67 = .ok (.aload_n 0, 1) := by decide +kernel
theorem dX10_image_68 : decode cX10_image 68 = .ok (.getfield 16, 3) := by decide +kernel
theorem dX10_image_71 : decode cX10_image 71 = .ok (.iload_n 1, 1) := by decide +kernel
theorem dX10_image_72 : decode cX10_image 72 = .ok (.iaload, 1) := by decide +kernel
theorem dX10_image_73 : decode cX10_image 73 = .ok (.iastore, 1) := by decide +kernel
theorem dX10_image_74 : decode cX10_image 74 = .ok (.aload_n 0, 1) := by decide +kernel
theorem dX10_image_75 : decode cX10_image 75 = .ok (.getfield 50, 3) := by decide +kernel
theorem dX10_image_78 : decode cX10_image 78 = .ok (.iload_n 1, 1) := by decide +kernel
theorem dX10_image_79 : decode cX10_image 79 = .ok (.aload_n 0, 1) := by decide +kernel
theorem dX10_image_80 : decode cX10_image 80 = .ok (.getfield 19, 3) := by decide +kernel
theorem dX10_image_83 : decode cX10_image 83 = .ok (.iload_n 1, 1) := by decide +kernel
theorem dX10_image_84 : decode cX10_image 84 = .ok (.iaload, 1) := by decide +kernel
theorem dX10_image_85 : decode cX10_image 85 = .ok (.iastore, 1) := by decide +kernel
theorem dX10_image_86 : decode cX10_image 86 = .ok (.aload_n 0, 1) := by decide +kernel
theorem dX10_image_87 : decode cX10_image 87 = .ok (.getfield 53, 3) := by decide +kernel
theorem dX10_image_90 : decode cX10_image 90 = .ok (.iload_n 1, 1) := by decide +kernel
theorem dX10_image_91 : decode cX10_image 91 = .ok (.aload_n 0, 1) := by decide +kernel
theorem dX10_image_92 : decode cX10_image 92 = .ok (.getfield 22, 3) := by decide +kernel
theorem dX10_image_95 : decode cX10_image 95 = .ok (.iload_n 1, 1) := by decide +kernel
theorem dX10_image_96 : decode cX10_image 96 = .ok (.iaload, 1) := by decide +kernel
theorem dX10_image_97 : decode cX10_image 97 = .ok (.iastore, 1) := by decide +kernel
theorem dX10_image_98 : decode cX10_image 98 = .ok (.iinc 1 1, 3) := by decide +kernel
theorem dX10_image_101 : decode cX10_image 101 = .ok (.goto (-44), 3) := by decide +kernel
theorem dX10_image_104 : decode cX10_image 104 = .ok (.iconst 0, 1) := by decide +kernel
theorem dX10_image_105 : decode cX10_image 105 = .ok (.istore_n 1, 1) := by decide +kernel
theorem dX10_image_106 : decode cX10_image 106 = .ok (.iload_n 1, 1) := by decide +kernel
theorem dX10_image_107 : decode cX10_image 107 = .ok (.bipush 6, 2) := by decide +kernel
theorem dX10_image_109 : decode cX10_image 109 = .ok (.if_icmp .ge 57, 3) := by decide +kernel
theorem dX10_image_112 : decode cX10_image 112 = .ok (.aload_n 0, 1) := by decide +kernel
theorem dX10_image_113 : decode cX10_image 113 = .ok (.getfield 56, 3) := by decide +kernel
theorem dX10_image_116 : decode cX10_image 116 = .ok (.iload_n 1, 1) := by decide +kernel
theorem dX10_image_117 : decode cX10_image 117 = .ok (.aload_n 0, 1) := by decide +kernel
theorem dX10_image_118 : decode cX10_image 118 = .ok (.getfield 25, 3) := by decide +kernel
theorem dX10_image_121 : decode cX10_image 121 = .ok (.iload_n 1, 1) := by decide +kernel
theorem dX10_image_122 : decode cX10_image 122 = .ok (.iaload, 1) := by decide +kernel
theorem dX10_image_123 : decode cX10_image 123 = .ok (.iastore, 1) := by decide +kernel
theorem dX10_image_124 : decode cX10_image 124 = .ok (.aload_n 0, 1) := by decide +kernel
theorem dX10_image_125 : decode cX10_image 125 = .ok (.getfield 59, 3) := by decide +kernel
theorem dX10_image_128 : decode cX10_image 128 = .ok (.iload_n 1, 1) := by decide +kernel
theorem dX10_image_129 : decode cX10_image 129 = .ok (.aload_n 0, 1) := by decide +kernel
theorem dX10_image_130 : decode cX10_image 130 = .ok (.getfield 28, 3) := by decide +kernel
theorem dX10_image_133 : decode cX10_image 133 = .ok (.iload_n 1, 1) := by decide +kernel
theorem dX10_image_134 : decode cX10_image 134 = .ok (.iaload, 1) := by decide +kernel
theorem dX10_image_135 : decode cX10_image 135 = .ok (.iastore, 1) := by decide +kernel
theorem dX10_image_136 : decode cX10_image 136 = .ok (.aload_n 0, 1) := by decide +kernel
theorem dX10_image_137 : decode cX10_image 137 = .ok (.getfield 62, 3) := by decide +kernel
theorem dX10_image_140 : decode cX10_image 140 = .ok (.iload_n 1, 1) := by decide +kernel
theorem dX10_image_141 : decode cX10_image 141 = .ok (.aload_n 0, 1) := by decide +kernel
theorem dX10_image_142 : decode cX10_image 142 = .ok (.getfield 31, 3) := by decide +kernel
theorem dX10_image_145 : decode cX10_image 145 = .ok (.iload_n 1, 1) := by decide +kernel
theorem dX10_image_146 : decode cX10_image 146 = .ok (.iaload, 1) := by decide +kernel
theorem dX10_image_147 : decode cX10_image 147 = .ok (.iastore, 1) := by decide +kernel
theorem dX10_image_148 : decode cX10_image 148 = .ok (.aload_n 0, 1) := by decide +kernel
theorem dX10_image_149 : decode cX10_image 149 = .ok (.getfield 65, 3) := by decide +kernel
theorem dX10_image_152 : decode cX10_image 152 = .ok (.iload_n 1, 1) := by decide +kernel
theorem dX10_image_153 : decode cX10_image 153 = .ok (.aload_n 0, 1) := by decide +kernel
theorem dX10_image_154 : decode cX10_image 154 = .ok (.getfield 34, 3) := by decide +kernel
theorem dX10_image_157 : decode cX10_image 157 = .ok (.iload_n 1, 1) := by decide +kernel
theorem dX10_image_158 : decode cX10_image 158 = .ok (.iaload, 1) := by decide +kernel
theorem dX10_image_159 : decode cX10_image 159 = .ok (.iastore, 1) := by decide +kernel
theorem dX10_image_160 : decode cX10_image 160 = .ok (.iinc 1 1, 3) := by decide +kernel
theorem dX10_image_163 : decode cX10_image 163 = .ok (.goto (-57), 3) := by decide +kernel
theorem dX10_image_166 : decode cX10_image 166 = .ok (.aload_n 0, 1) := by decide +kernel
theorem dX10_image_167 : decode cX10_image 167 = .ok (.getfield 116, 3) := by decide +kernel
theorem dX10_image_170 : decode cX10_image 170 = .ok (.ireturn, 1) := by decide +kernel
theorem dX10_restore_0 : decode cX10_restore 0 = .ok (.aload_n 0, 1) := by decide +kernel
theorem dX10_restore_1 : decode cX10_restore 1 = .ok (.getfield 204, 3) := by decide +kernel
theorem dX10_restore_4 : decode cX10_restore 4 = .ok (.ifCond .eq 14, 3) := by decide +kernel
theorem dX10_restore_7 : decode cX10_restore 7 = .ok (.aload_n 0, 1) := by decide +kernel
theorem dX10_restore_8 : decode cX10_restore 8 = .ok (.getfield 207, 3) := by decide +kernel
theorem dX10_restore_11 : decode cX10_restore 11 = .ok (.aload_n 0, 1) := by decide +kernel
theorem dX10_restore_12 : decode cX10_restore 12 = .ok (.getfield 113, 3) := by decide +kernel
theorem dX10_restore_15 : decode cX10_restore 15 = .ok (.if_icmp .eq 6, 3) := by decide +kernel
theorem dX10_restore_18 : decode cX10_restore 18 = .ok (.bipush (-103), 2) := by decide +kernel
theorem dX10_restore_20 : decode cX10_restore 20 = .ok (.ireturn, 1) := by decide +kernel
theorem dX10_restore_21 : decode cX10_restore 21 = .ok (.aload_n 0, 1) := by decide +kernel
theorem dX10_restore_22 : decode cX10_restore 22 = .ok (.aload_n 0, 1) := by decide +kernel
theorem dX10_restore_23 : decode cX10_restore 23 = .ok (.getfield 210, 3) := by decide +kernel
theorem dX10_restore_26 : decode cX10_restore 26 = .ok (.putfield 116, 3) := by decide +kernel
theorem dX10_restore_29 : decode cX10_restore 29 = .ok (.aload_n 0, 1) := by decide +kernel
theorem dX10_restore_30 : decode cX10_restore 30 = .ok (.aload_n 0, 1) := by decide +kernel
theorem dX10_restore_31 : decode cX10_restore 31 = .ok (.getfield 213, 3) := by decide +kernel
theorem dX10_restore_34 : decode cX10_restore 34 = .ok (.putfield 119, 3) := by decide +kernel
theorem dX10_restore_37 : decode cX10_restore 37 = .ok (.aload_n 0, 1) := by decide +kernel
theorem dX10_restore_38 : decode cX10_restore 38 = .ok (.aload_n 0, 1) := by decide +kernel
theorem dX10_restore_39 : decode cX10_restore 39 = .ok (.getfield 216, 3) := by decide +kernel
theorem dX10_restore_42 : decode cX10_restore 42 = .ok (.putfield 122, 3) := by decide +kernel
theorem dX10_restore_45 : decode cX10_restore 45 = .ok (.aload_n 0, 1) := by decide +kernel
theorem dX10_restore_46 : decode cX10_restore 46 = .ok (.aload_n 0, 1) := by decide +kernel
theorem dX10_restore_47 : decode cX10_restore 47 = .ok (.getfield 219, 3) := by decide +kernel
theorem dX10_restore_50 : decode cX10_restore 50 = .ok (.putfield 125, 3) := by decide +kernel
theorem dX10_restore_53 : decode cX10_restore 53 = .ok (.iconst 0, 1) := by decide +kernel
theorem dX10_restore_54 : decode cX10_restore 54 = .ok (.istore_n 1, 1) := by decide +kernel
theorem dX10_restore_55 : decode cX10_restore 55 = .ok (.iload_n 1, 1) := by decide +kernel
theorem dX10_restore_56 : decode cX10_restore 56 = .ok (.iconst 4, 1) := by decide +kernel
theorem dX10_restore_57 : decode cX10_restore 57 = .ok (.if_icmp .ge 45, 3) := by decide +kernel
theorem dX10_restore_60 : decode cX10_restore 60 = .ok (.aload_n 0, 1) := by decide +kernel
theorem dX10_restore_61 : decode cX10_restore 61 = .ok (.getfield 16, 3) := by decide +kernel
theorem dX10_restore_64 : decode cX10_restore 64 = .ok (.iload_n 1, 1) := by decide +kernel
theorem dX10_restore_65 : decode cX10_restore 65 = .ok (.aload_n 0, 1) := by decide +kernel
theorem dX10_restore_66 : decode cX10_restore 66 = .ok (.getfield 47, 3) := by decide +kernel
theorem dX10_restore_69 : decode cX10_restore 69 = .ok (.iload_n 1, 1) := by decide +kernel
theorem dX10_restore_70 : decode cX10_restore 70 = .ok (.iaload, 1) := by decide +kernel
theorem dX10_restore_71 : decode cX10_restore 71 = .ok (.iastore, 1) := by decide +kernel
theorem dX10_restore_72 : decode cX10_restore 72 = .ok (.aload_n 0, 1) := by decide +kernel
theorem dX10_restore_73 : decode cX10_restore 73 = .ok (.getfield 19, 3) := by decide +kernel
theorem dX10_restore_76 : decode cX10_restore 76 = .ok (.iload_n 1, 1) := by decide +kernel
theorem dX10_restore_77 : decode cX10_restore 77 = .ok (.aload_n 0, 1) := by decide +kernel
theorem dX10_restore_78 : decode cX10_restore 78 = .ok (.getfield 50, 3) := by decide +kernel
theorem dX10_restore_81 : decode cX10_restore 81 = .ok (.iload_n 1, 1) := by decide +kernel
theorem dX10_restore_82 : decode cX10_restore 82 = .ok (.iaload, 1) := by decide +kernel
theorem dX10_restore_83 : decode cX10_restore 83 = .ok (.iastore, 1) := by decide +kernel
theorem dX10_restore_84 : decode cX10_restore 84 = .ok (.aload_n 0, 1) := by decide +kernel
theorem dX10_restore_85 : decode cX10_restore 85 = .ok (.getfield 22, 3) := by decide +kernel
theorem dX10_restore_88 : decode cX10_restore 88 = .ok (.iload_n 1, 1) := by decide +kernel
theorem dX10_restore_89 : decode cX10_restore 89 = .ok (.aload_n 0, 1) := by decide +kernel
theorem dX10_restore_90 : decode cX10_restore 90 = .ok (.getfield 53, 3) := by decide +kernel
theorem dX10_restore_93 : decode cX10_restore 93 = .ok (.iload_n 1, 1) := by decide +kernel
theorem dX10_restore_94 : decode cX10_restore 94 = .ok (.iaload, 1) := by decide +kernel
theorem dX10_restore_95 : decode cX10_restore 95 = .ok (.iastore, 1) := by decide +kernel
theorem dX10_restore_96 : decode cX10_restore 96 = .ok (.iinc 1 1, 3) := by decide +kernel
theorem dX10_restore_99 : decode cX10_restore 99 = .ok (.goto (-44), 3) := by decide +kernel
theorem dX10_restore_102 : decode cX10_restore 102 = .ok (.iconst 0, 1) := by decide +kernel
theorem dX10_restore_103 : decode cX10_restore 103 = .ok (.istore_n 1, 1) := by decide +kernel
theorem dX10_restore_104 : decode cX10_restore 104 = .ok (.iload_n 1, 1) := by decide +kernel
theorem dX10_restore_105 : decode cX10_restore 105 = .ok (.bipush 6, 2) := by decide +kernel
theorem dX10_restore_107 : decode cX10_restore 107 = .ok (.if_icmp .ge 57, 3) := by decide +kernel
theorem dX10_restore_110 : decode cX10_restore 110 = .ok (.aload_n 0, 1) := by decide +kernel
theorem dX10_restore_111 : decode cX10_restore 111 = .ok (.getfield 25, 3) := by decide +kernel
theorem dX10_restore_114 : decode cX10_restore 114 = .ok (.iload_n 1, 1) := by decide +kernel
theorem dX10_restore_115 : decode cX10_restore 115 = .ok (.aload_n 0, 1) := by decide +kernel
theorem dX10_restore_116 : decode cX10_restore 116 = .ok (.getfield 56, 3) := by decide +kernel
theorem dX10_restore_119 : decode cX10_restore 119 = .ok (.iload_n 1, 1) := by decide +kernel
theorem dX10_restore_120 : decode cX10_restore 120 = .ok (.iaload, 1) := by decide +kernel
theorem dX10_restore_121 : decode cX10_restore 121 = .ok (.iastore, 1) := by decide +kernel
theorem dX10_restore_122 : decode cX10_restore 122 = .ok (.aload_n 0, 1) := by decide +kernel
theorem dX10_restore_123 : decode cX10_restore 123 = .ok (.getfield 28, 3) := by decide +kernel
theorem dX10_restore_126 : decode cX10_restore 126 = .ok (.iload_n 1, 1) := by decide +kernel
theorem dX10_restore_127 : decode cX10_restore 127 = .ok (.aload_n 0, 1) := by decide +kernel
theorem dX10_restore_128 : decode cX10_restore 128 = .ok (.getfield 59, 3) := by decide +kernel
theorem dX10_restore_131 : decode cX10_restore 131 = .ok (.iload_n 1, 1) := by decide +kernel
theorem dX10_restore_132 : decode cX10_restore 132 = .ok (.iaload, 1) := by decide +kernel
theorem dX10_restore_133 : decode cX10_restore 133 = .ok (.iastore, 1) := by decide +kernel
theorem dX10_restore_134 : decode cX10_restore 134 = .ok (.aload_n 0, 1) := by decide +kernel
theorem dX10_restore_135 : decode cX10_restore 135 = .ok (.getfield 31, 3) := by decide +kernel
theorem dX10_restore_138 : decode cX10_restore 138 = .ok (.iload_n 1, 1) := by decide +kernel
theorem dX10_restore_139 : decode cX10_restore 139 = .ok (.aload_n 0, 1) := by decide +kernel
theorem dX10_restore_140 : decode cX10_restore 140 = .ok (.getfield 62, 3) := by decide +kernel
theorem dX10_restore_143 : decode cX10_restore 143 = .ok (.iload_n 1, 1) := by decide +kernel
theorem dX10_restore_144 : decode cX10_restore 144 = .ok (.iaload, 1) := by decide +kernel
theorem dX10_restore_145 : decode cX10_restore 145 = .ok (.iastore, 1) := by decide +kernel
theorem dX10_restore_146 : decode cX10_restore 146 = .ok (.aload_n 0, 1) := by decide +kernel
theorem dX10_restore_147 : decode cX10_restore 147 = .ok (.getfield 34, 3) := by decide +kernel
theorem dX10_restore_150 : decode cX10_restore 150 = .ok (.iload_n 1, 1) := by decide +kernel
theorem dX10_restore_151 : decode cX10_restore 151 = .ok (.aload_n 0, 1) := by decide +kernel
theorem dX10_restore_152 : decode cX10_restore 152 = .ok (.getfield 65, 3) := by decide +kernel
theorem dX10_restore_155 : decode cX10_restore 155 = .ok (.iload_n 1, 1) := by decide +kernel
theorem dX10_restore_156 : decode cX10_restore 156 = .ok (.iaload, 1) := by decide +kernel
theorem dX10_restore_157 : decode cX10_restore 157 = .ok (.iastore, 1) := by decide +kernel
theorem dX10_restore_158 : decode cX10_restore 158 = .ok (.iinc 1 1, 3) := by decide +kernel
theorem dX10_restore_161 : decode cX10_restore 161 = .ok (.goto (-57), 3) := by decide +kernel
theorem dX10_restore_164 : decode cX10_restore 164 = .ok (.aload_n 0, 1) := by decide +kernel
theorem dX10_restore_165 : decode cX10_restore 165 = .ok (.getfield 116, 3) := by decide +kernel
theorem dX10_restore_168 : decode cX10_restore 168 = .ok (.ireturn, 1) := by decide +kernel
set_option maxRecDepth 20000 in
theorem ggX10_boiling_X10_boils : GoodIn wsX10_boiling wsX10_boils := goodIn_r _ [6, 7, 8, 9, 10, 11, 12, 13, 14, 15, 16, 17, 18, 19, 20, 21, 22, 23, 24, 25, 26, 27, 28, 29, 30, 31, 32, 33, 34, 35, 36, 37, 38, 39, 40, 41, 42, 43, 44, 45, 46] (by decide +kernel) (by decide +kernel)
set_option maxRecDepth 20000 in
theorem gX10_boiling_X10_boils : GoodIn wsX10_boiling (wsV RX10 138 RX10 yX10_boils wsX10_boils) := goodIn_app (goodIn_of _ (by decide +kernel)) ggX10_boiling_X10_boils
theorem dX10_boiling_0 : decode cX10_boiling 0 = .ok (.iconst 0, 1) := by decide +kernel
theorem dX10_boiling_1 : decode cX10_boiling 1 = .ok (.istore_n 1, 1) := by decide +kernel
theorem dX10_boiling_2 : decode cX10_boiling 2 = .ok (.iconst 0, 1) := by decide +kernel
theorem dX10_boiling_3 : decode cX10_boiling 3 = .ok (.istore_n 2, 1) := by decide +kernel
theorem dX10_boiling_4 : decode cX10_boiling 4 = .ok (.iload_n 2, 1) := by decide +kernel
theorem dX10_boiling_5 : decode cX10_boiling 5 = .ok (.aload_n 0, 1) := by decide +kernel
theorem dX10_boiling_6 : decode cX10_boiling 6 = .ok (.getfield 101, 3) := by decide +kernel
theorem dX10_boiling_9 : decode cX10_boiling 9 = .ok (.if_icmp .ge 25, 3) := by decide +kernel
theorem dX10_boiling_12 : decode cX10_boiling 12 = .ok (.iload_n 1, 1) := by decide +kernel
theorem dX10_boiling_13 : decode cX10_boiling 13 = .ok (.aload_n 0, 1) := by decide +kernel
theorem dX10_boiling_14 : decode cX10_boiling 14 = .ok (.iload_n 2, 1) := by decide +kernel
theorem dX10_boiling_15 : decode cX10_boiling 15 = .ok (.invokevirtual 138, 3) := by decide +kernel
theorem dX10_boiling_18 : decode cX10_boiling 18 = .ok (.ifCond .eq 7, 3) := by decide +kernel
theorem dX10_boiling_21 : decode cX10_boiling 21 = .ok (.iconst 1, 1) := by decide +kernel
theorem dX10_boiling_22 : decode cX10_boiling 22 = .ok (.goto 4, 3) := by decide +kernel
theorem dX10_boiling_25 : decode cX10_boiling 25 = .ok (.iconst 0, 1) := by decide +kernel
theorem dX10_boiling_26 : decode cX10_boiling 26 = .ok (.iadd, 1) := by decide +kernel
theorem dX10_boiling_27 : decode cX10_boiling 27 = .ok (.istore_n 1, 1) := by decide +kernel
theorem dX10_boiling_28 : decode cX10_boiling 28 = .ok (.iinc 2 1, 3) := by decide +kernel
theorem dX10_boiling_31 : decode cX10_boiling 31 = .ok (.goto (-27), 3) := by decide +kernel
theorem dX10_boiling_34 : decode cX10_boiling 34 = .ok (.iload_n 1, 1) := by decide +kernel
theorem dX10_boiling_35 : decode cX10_boiling 35 = .ok (.ireturn, 1) := by decide +kernel
set_option maxRecDepth 20000 in
theorem ggX10_howMany_X10_boiling : GoodIn wsX10_howMany wsX10_boiling := goodIn_r _ [15, 1, 16, 17, 18, 14, 19, 20, 21, 22, 23, 24, 25, 26, 27, 28, 29, 30, 31, 32, 33, 34, 35, 36, 37, 38, 39, 40, 41, 42, 43, 44, 45, 46, 47, 48, 49, 50, 51, 52, 53, 54, 55, 56, 57, 58, 59] (by decide +kernel) (by decide +kernel)
set_option maxRecDepth 20000 in
theorem gX10_howMany_X10_boiling : GoodIn wsX10_howMany (wsV RX10 222 RX10 yX10_boiling wsX10_boiling) := goodIn_app (goodIn_of _ (by decide +kernel)) ggX10_howMany_X10_boiling
theorem dX10_howMany_0 : decode cX10_howMany 0 = .ok (.iload_n 1, 1) := by decide +kernel
theorem dX10_howMany_1 : decode cX10_howMany 1 = .ok (.tableswitch 114 0 10 #[59, 64, 69, 74, 79, 84, 89, 94, 99, 104, 109], 59) := by decide +kernel
theorem dX10_howMany_60 : decode cX10_howMany 60 = .ok (.aload_n 0, 1) := by decide +kernel
theorem dX10_howMany_61 : decode cX10_howMany 61 = .ok (.getfield 101, 3) := by decide +kernel
theorem dX10_howMany_64 : decode cX10_howMany 64 = .ok (.ireturn, 1) := by decide +kernel
theorem dX10_howMany_65 : decode cX10_howMany 65 = .ok (.aload_n 0, 1) := by decide +kernel
theorem dX10_howMany_66 : decode cX10_howMany 66 = .ok (.getfield 107, 3) := by decide +kernel
theorem dX10_howMany_69 : decode cX10_howMany 69 = .ok (.ireturn, 1) := by decide +kernel
theorem dX10_howMany_70 : decode cX10_howMany 70 = .ok (.aload_n 0, 1) := by decide +kernel
theorem dX10_howMany_71 : decode cX10_howMany 71 = .ok (.getfield 110, 3) := by decide +kernel
theorem dX10_howMany_74 : decode cX10_howMany 74 = .ok (.ireturn, 1) := by decide +kernel
theorem dX10_howMany_75 : decode cX10_howMany 75 = .ok (.aload_n 0, 1) := by decide +kernel
theorem dX10_howMany_76 : decode cX10_howMany 76 = .ok (.getfield 116, 3) := by decide +kernel
theorem dX10_howMany_79 : decode cX10_howMany 79 = .ok (.ireturn, 1) := by decide +kernel
theorem dX10_howMany_80 : decode cX10_howMany 80 = .ok (.aload_n 0, 1) := by decide +kernel
theorem dX10_howMany_81 : decode cX10_howMany 81 = .ok (.invokevirtual 222, 3) := by decide +kernel
theorem dX10_howMany_84 : decode cX10_howMany 84 = .ok (.ireturn, 1) := by decide +kernel
theorem dX10_howMany_85 : decode cX10_howMany 85 = .ok (.aload_n 0, 1) := by decide +kernel
theorem dX10_howMany_86 : decode cX10_howMany 86 = .ok (.getfield 119, 3) := by decide +kernel
theorem dX10_howMany_89 : decode cX10_howMany 89 = .ok (.ireturn, 1) := by decide +kernel
theorem dX10_howMany_90 : decode cX10_howMany 90 = .ok (.aload_n 0, 1) := by decide +kernel
theorem dX10_howMany_91 : decode cX10_howMany 91 = .ok (.getfield 122, 3) := by decide +kernel
theorem dX10_howMany_94 : decode cX10_howMany 94 = .ok (.ireturn, 1) := by decide +kernel
theorem dX10_howMany_95 : decode cX10_howMany 95 = .ok (.aload_n 0, 1) := by decide +kernel
theorem dX10_howMany_96 : decode cX10_howMany 96 = .ok (.getfield 125, 3) := by decide +kernel
theorem dX10_howMany_99 : decode cX10_howMany 99 = .ok (.ireturn, 1) := by decide +kernel
theorem dX10_howMany_100 : decode cX10_howMany 100 = .ok (.aload_n 0, 1) := by decide +kernel
theorem dX10_howMany_101 : decode cX10_howMany 101 = .ok (.getfield 72, 3) := by decide +kernel
theorem dX10_howMany_104 : decode cX10_howMany 104 = .ok (.ireturn, 1) := by decide +kernel
theorem dX10_howMany_105 : decode cX10_howMany 105 = .ok (.aload_n 0, 1) := by decide +kernel
theorem dX10_howMany_106 : decode cX10_howMany 106 = .ok (.getfield 113, 3) := by decide +kernel
theorem dX10_howMany_109 : decode cX10_howMany 109 = .ok (.ireturn, 1) := by decide +kernel
theorem dX10_howMany_110 : decode cX10_howMany 110 = .ok (.aload_n 0, 1) := by decide +kernel
theorem dX10_howMany_111 : decode cX10_howMany 111 = .ok (.getfield 165, 3) := by decide +kernel
theorem dX10_howMany_114 : decode cX10_howMany 114 = .ok (.ireturn, 1) := by decide +kernel
theorem dX10_howMany_115 : decode cX10_howMany 115 = .ok (.bipush (-102), 2) := by decide +kernel
theorem dX10_howMany_117 : decode cX10_howMany 117 = .ok (.ireturn, 1) := by decide +kernel
set_option maxRecDepth 20000 in
theorem ggX10_count_X10_howMany : GoodIn wsX10_count wsX10_howMany := goodIn_r _ [5, 6, 7, 8, 9, 10, 11, 12, 13, 14, 15, 16, 17, 18, 4, 19, 20, 21, 22, 23, 24, 25, 26, 27, 28, 29, 30, 31, 32, 33, 34, 35, 36, 37, 38, 39, 40, 41, 42, 43, 44, 45, 46, 47, 48, 49, 50, 51, 52, 53, 54, 55, 56, 57, 58, 59, 60, 61, 62, 63] (by decide +kernel) (by decide +kernel)
set_option maxRecDepth 20000 in
theorem gX10_count_X10_howMany : GoodIn wsX10_count (wsV RX10 225 RX10 yX10_howMany wsX10_howMany) := goodIn_app (goodIn_of _ (by decide +kernel)) ggX10_count_X10_howMany
theorem dX10_count_0 : decode cX10_count 0 = .ok (.aload_n 0, 1) := by decide +kernel
theorem dX10_count_1 : decode cX10_count 1 = .ok (.iload_n 1, 1) := by decide +kernel
theorem dX10_count_2 : decode cX10_count 2 = .ok (.invokevirtual 225, 3) := by decide +kernel
theorem dX10_count_5 : decode cX10_count 5 = .ok (.ireturn, 1) := by decide +kernel
theorem dX10_mix_0 : decode cX10_mix 0 = .ok (.aload_n 0, 1) := by decide +kernel
theorem dX10_mix_1 : decode cX10_mix 1 = .ok (.ldc2_w 228, 3) := by decide +kernel
theorem dX10_mix_4 : decode cX10_mix 4 = .ok (.aload_n 0, 1) := by decide +kernel
theorem dX10_mix_5 : decode cX10_mix 5 = .ok (.getfield 230, 3) := by decide +kernel
theorem dX10_mix_8 : decode cX10_mix 8 = .ok (.lmul, 1) := by decide +kernel
theorem dX10_mix_9 : decode cX10_mix 9 = .ok (.lload_n 1, 1) := by decide +kernel
theorem dX10_mix_10 : decode cX10_mix 10 = .ok (.ladd, 1) := by decide +kernel
theorem dX10_mix_11 : decode cX10_mix 11 = .ok (.putfield 230, 3) := by decide +kernel
theorem dX10_mix_14 : decode cX10_mix 14 = .ok (.return_, 1) := by decide +kernel
set_option maxRecDepth 20000 in
theorem ggX10_digest_X10_potNow : GoodIn wsX10_digest wsX10_potNow := goodIn_r _ [10, 11, 12, 13, 14, 15, 16, 17, 18, 19, 9, 20, 21, 22, 23, 24, 25, 26, 27, 28, 29, 30, 31, 32, 33, 34, 35, 80, 81, 82, 83, 84, 85, 86, 87, 88, 89, 90, 91, 92, 93, 94, 95, 96, 97, 98, 99, 100, 101, 102, 103, 104, 105, 106, 107, 108, 109, 110, 111, 112, 113, 114, 115, 116, 117, 118] (by decide +kernel) (by decide +kernel)
set_option maxRecDepth 20000 in
theorem gX10_digest_X10_potNow : GoodIn wsX10_digest (wsV RX10 148 RX10 yX10_potNow wsX10_potNow) := goodIn_app (goodIn_of _ (by decide +kernel)) ggX10_digest_X10_potNow
set_option maxRecDepth 20000 in
theorem ggX10_digest_X10_mix : GoodIn wsX10_digest wsX10_mix := goodIn_r _ [39, 40, 2, 80, 81, 82, 83, 84, 85, 86, 87, 88, 89, 90, 91, 92, 93, 94, 95, 96, 97, 98, 99, 100, 101, 102, 103, 104, 105, 106, 107, 108, 109, 110, 111, 112, 113, 114, 115, 116, 117, 118] (by decide +kernel) (by decide +kernel)
set_option maxRecDepth 20000 in
theorem gX10_digest_X10_mix : GoodIn wsX10_digest (wsV RX10 235 RX10 yX10_mix wsX10_mix) := goodIn_app (goodIn_of _ (by decide +kernel)) ggX10_digest_X10_mix
set_option maxRecDepth 20000 in
theorem ggX10_digest_X10_boils : GoodIn wsX10_digest wsX10_boils := goodIn_r _ [24, 13, 80, 81, 82, 83, 84, 85, 86, 87, 88, 89, 90, 91, 92, 93, 94, 95, 96, 97, 98, 99, 100, 101, 102, 103, 104, 105, 106, 107, 108, 109, 110, 111, 112, 113, 114, 115, 116, 117, 118] (by decide +kernel) (by decide +kernel)
set_option maxRecDepth 20000 in
theorem gX10_digest_X10_boils : GoodIn wsX10_digest (wsV RX10 138 RX10 yX10_boils wsX10_boils) := goodIn_app (goodIn_of _ (by decide +kernel)) ggX10_digest_X10_boils
set_option maxRecDepth 20000 in
theorem ggX10_digest_X10_bestNow : GoodIn wsX10_digest wsX10_bestNow := goodIn_r _ [44, 45, 46, 47, 48, 9, 49, 14, 29, 30, 31, 32, 25, 26, 27, 28, 13, 12, 17, 18, 19, 20, 11, 33, 34, 35, 80, 81, 82, 83, 84, 85, 86, 87, 88, 89, 90, 91, 92, 93, 94, 95, 96, 97, 98, 99, 100, 101, 102, 103, 104, 105, 106, 107, 108, 109, 110, 111, 112, 113, 114, 115, 116, 117, 118] (by decide +kernel) (by decide +kernel)
set_option maxRecDepth 20000 in
theorem gX10_digest_X10_bestNow : GoodIn wsX10_digest (wsV RX10 174 RX10 yX10_bestNow wsX10_bestNow) := goodIn_app (goodIn_of _ (by decide +kernel)) ggX10_digest_X10_bestNow
set_option maxRecDepth 20000 in
theorem ggX10_digest_X10_togetherNow : GoodIn wsX10_digest wsX10_togetherNow := goodIn_r _ [53, 12, 14, 80, 81, 82, 83, 84, 85, 86, 87, 88, 89, 90, 91, 92, 93, 94, 95, 96, 97, 98, 99, 100, 101, 102, 103, 104, 105, 106, 107, 108, 109, 110, 111, 112, 113, 114, 115, 116, 117, 118] (by decide +kernel) (by decide +kernel)
set_option maxRecDepth 20000 in
theorem gX10_digest_X10_togetherNow : GoodIn wsX10_digest (wsV RX10 177 RX10 yX10_togetherNow wsX10_togetherNow) := goodIn_app (goodIn_of _ (by decide +kernel)) ggX10_digest_X10_togetherNow
set_option maxRecDepth 20000 in
theorem ggX10_digest_X10_woundNow : GoodIn wsX10_digest wsX10_woundNow := goodIn_r _ [57, 45, 58, 59, 60, 9, 61, 62, 63, 64, 65, 66, 33, 34, 35, 80, 81, 82, 83, 84, 85, 86, 87, 88, 89, 90, 91, 92, 93, 94, 95, 96, 97, 98, 99, 100, 101, 102, 103, 104, 105, 106, 107, 108, 109, 110, 111, 112, 113, 114, 115, 116, 117, 118] (by decide +kernel) (by decide +kernel)
set_option maxRecDepth 20000 in
theorem gX10_digest_X10_woundNow : GoodIn wsX10_digest (wsV RX10 183 RX10 yX10_woundNow wsX10_woundNow) := goodIn_app (goodIn_of _ (by decide +kernel)) ggX10_digest_X10_woundNow
set_option maxRecDepth 20000 in
theorem ggX10_digest_X10_howMany : GoodIn wsX10_digest wsX10_howMany := goodIn_r _ [70, 3, 45, 71, 14, 72, 73, 62, 4, 74, 75, 76, 77, 78, 9, 79, 21, 22, 23, 24, 13, 80, 81, 82, 83, 84, 85, 86, 87, 88, 89, 90, 91, 92, 93, 94, 95, 96, 97, 98, 99, 100, 101, 102, 103, 104, 105, 106, 107, 108, 109, 110, 111, 112, 113, 114, 115, 116, 117, 118] (by decide +kernel) (by decide +kernel)
set_option maxRecDepth 20000 in
theorem gX10_digest_X10_howMany : GoodIn wsX10_digest (wsV RX10 225 RX10 yX10_howMany wsX10_howMany) := goodIn_app (goodIn_of _ (by decide +kernel)) ggX10_digest_X10_howMany
theorem dX10_digest_0 : decode cX10_digest 0 = .ok (.aload_n 0, 1) := by decide +kernel
theorem dX10_digest_1 : decode cX10_digest 1 = .ok (.ldc2_w 233, 3) := by decide +kernel
theorem dX10_digest_4 : decode cX10_digest 4 = .ok (.putfield 230, 3) := by decide +kernel
theorem dX10_digest_7 : decode cX10_digest 7 = .ok (.iconst 0, 1) := by decide +kernel
theorem dX10_digest_8 : decode cX10_digest 8 = .ok (.istore_n 1, 1) := by decide +kernel
theorem dX10_digest_9 : decode cX10_digest 9 = .ok (.iload_n 1, 1) := by decide +kernel
theorem dX10_digest_10 : decode cX10_digest 10 = .ok (.aload_n 0, 1) := by decide +kernel
theorem dX10_digest_11 : decode cX10_digest 11 = .ok (.getfield 101, 3) := by decide +kernel
theorem dX10_digest_14 : decode cX10_digest 14 = .ok (.if_icmp .ge 68, 3) := by decide +kernel
theorem dX10_digest_17 : decode cX10_digest 17 = .ok (.iconst 0, 1) := by decide +kernel
theorem dX10_digest_18 : decode cX10_digest 18 = .ok (.istore_n 2, 1) := by decide +kernel
theorem dX10_digest_19 : decode cX10_digest 19 = .ok (.iload_n 2, 1) := by decide +kernel
theorem dX10_digest_20 : decode cX10_digest 20 = .ok (.bipush 8, 2) := by decide +kernel
theorem dX10_digest_22 : decode cX10_digest 22 = .ok (.if_icmp .ge 20, 3) := by decide +kernel
theorem dX10_digest_25 : decode cX10_digest 25 = .ok (.aload_n 0, 1) := by decide +kernel
theorem dX10_digest_26 : decode cX10_digest 26 = .ok (.aload_n 0, 1) := by decide +kernel
theorem dX10_digest_27 : decode cX10_digest 27 = .ok (.iload_n 1, 1) := by decide +kernel
theorem dX10_digest_28 : decode cX10_digest 28 = .ok (.iload_n 2, 1) := by decide +kernel
theorem dX10_digest_29 : decode cX10_digest 29 = .ok (.invokevirtual 148, 3) := by decide +kernel
theorem dX10_digest_32 : decode cX10_digest 32 = .ok (.i2l, 1) := by decide +kernel
theorem dX10_digest_33 : decode cX10_digest 33 = .ok (.invokevirtual 235, 3) := by decide +kernel
theorem dX10_digest_36 : decode cX10_digest 36 = .ok (.iinc 2 1, 3) := by decide +kernel
theorem dX10_digest_39 : decode cX10_digest 39 = .ok (.goto (-20), 3) := by decide +kernel
theorem dX10_digest_42 : decode cX10_digest 42 = .ok (.aload_n 0, 1) := by decide +kernel
theorem dX10_digest_43 : decode cX10_digest 43 = .ok (.aload_n 0, 1) := by decide +kernel
theorem dX10_digest_44 : decode cX10_digest 44 = .ok (.iload_n 1, 1) := by decide +kernel
theorem dX10_digest_45 : decode cX10_digest 45 = .ok (.invokevirtual 138, 3) := by decide +kernel
theorem dX10_digest_48 : decode cX10_digest 48 = .ok (.ifCond .eq 12, 3) := by decide +kernel
theorem dX10_digest_51 : decode cX10_digest 51 = .ok (.aload_n 0, 1) := by decide +kernel
theorem dX10_digest_52 : decode cX10_digest 52 = .ok (.iload_n 1, 1) := by decide +kernel
theorem dX10_digest_53 : decode cX10_digest 53 = .ok (.invokevirtual 174, 3) := by decide +kernel
theorem dX10_digest_56 : decode cX10_digest 56 = .ok (.i2l, 1) := by decide +kernel
theorem dX10_digest_57 : decode cX10_digest 57 = .ok (.goto 4, 3) := by decide +kernel
theorem dX10_digest_60 : decode cX10_digest 60 = .ok (.lconst 0, 1) := by decide +kernel
theorem dX10_digest_61 : decode cX10_digest 61 = .ok (.invokevirtual 235, 3) := by decide +kernel
theorem dX10_digest_64 : decode cX10_digest 64 = .ok (.aload_n 0, 1) := by decide +kernel
theorem dX10_digest_65 : decode cX10_digest 65 = .ok (.aload_n 0, 1) := by decide +kernel
theorem dX10_digest_66 : decode cX10_digest 66 = .ok (.iload_n 1, 1) := by decide +kernel
theorem dX10_digest_67 : decode cX10_digest 67 = .ok (.bipush 60, 2) := by decide +kernel
theorem dX10_digest_69 : decode cX10_digest 69 = .ok (.invokevirtual 177, 3) := by decide +kernel
theorem dX10_digest_72 : decode cX10_digest 72 = .ok (.i2l, 1) := by decide +kernel
theorem dX10_digest_73 : decode cX10_digest 73 = .ok (.invokevirtual 235, 3) := by decide +kernel
theorem dX10_digest_76 : decode cX10_digest 76 = .ok (.iinc 1 1, 3) := by decide +kernel
theorem dX10_digest_79 : decode cX10_digest 79 = .ok (.goto (-70), 3) := by decide +kernel
theorem dX10_digest_82 : decode cX10_digest 82 = .ok (.aload_n 0, 1) := by decide +kernel
theorem dX10_digest_83 : decode cX10_digest 83 = .ok (.getfield 101, 3) := by decide +kernel
theorem dX10_digest_86 : decode cX10_digest 86 = .ok (.ifCond .le 23, 3) := by decide +kernel
theorem dX10_digest_89 : decode cX10_digest 89 = .ok (.aload_n 0, 1) := by decide +kernel
theorem dX10_digest_90 : decode cX10_digest 90 = .ok (.aload_n 0, 1) := by decide +kernel
theorem dX10_digest_91 : decode cX10_digest 91 = .ok (.iconst 0, 1) := by decide +kernel
theorem dX10_digest_92 : decode cX10_digest 92 = .ok (.invokevirtual 183, 3) := by decide +kernel
theorem dX10_digest_95 : decode cX10_digest 95 = .ok (.i2l, 1) := by decide +kernel
theorem dX10_digest_96 : decode cX10_digest 96 = .ok (.invokevirtual 235, 3) := by decide +kernel
theorem dX10_digest_99 : decode cX10_digest 99 = .ok (.aload_n 0, 1) := by decide +kernel
theorem dX10_digest_100 : decode cX10_digest 100 = .ok (.aload_n 0, 1) := by decide +kernel
theorem dX10_digest_101 : decode cX10_digest 101 = .ok (.iconst 1, 1) := by decide +kernel
theorem dX10_digest_102 : decode cX10_digest 102 = .ok (.invokevirtual 183, 3) := by decide +kernel
theorem dX10_digest_105 : decode cX10_digest 105 = .ok (.i2l, 1) := by decide +kernel
theorem dX10_digest_106 : decode cX10_digest 106 = .ok (.invokevirtual 235, 3) := by decide +kernel
theorem dX10_digest_109 : decode cX10_digest 109 = .ok (.iconst 0, 1) := by decide +kernel
theorem dX10_digest_110 : decode cX10_digest 110 = .ok (.istore_n 1, 1) := by decide +kernel
theorem dX10_digest_111 : decode cX10_digest 111 = .ok (.iload_n 1, 1) := by decide +kernel
theorem dX10_digest_112 : decode cX10_digest 112 = .ok (.aload_n 0, 1) := by decide +kernel
theorem dX10_digest_113 : decode cX10_digest 113 = .ok (.getfield 72, 3) := by decide +kernel
theorem dX10_digest_116 : decode cX10_digest 116 = .ok (.if_icmp .ge 20, 3) := by decide +kernel
theorem dX10_digest_119 : decode cX10_digest 119 = .ok (.aload_n 0, 1) := by decide +kernel
theorem dX10_digest_120 : decode cX10_digest 120 = .ok (.aload_n 0, 1) := by decide +kernel
theorem dX10_digest_121 : decode cX10_digest 121 = .ok (.getfield 37, 3) := by decide +kernel
theorem dX10_digest_124 : decode cX10_digest 124 = .ok (.iload_n 1, 1) := by decide +kernel
theorem dX10_digest_125 : decode cX10_digest 125 = .ok (.baload, 1) := by decide +kernel
theorem dX10_digest_126 : decode cX10_digest 126 = .ok (.i2l, 1) := by decide +kernel
theorem dX10_digest_127 : decode cX10_digest 127 = .ok (.invokevirtual 235, 3) := by decide +kernel
theorem dX10_digest_130 : decode cX10_digest 130 = .ok (.iinc 1 1, 3) := by decide +kernel
theorem dX10_digest_133 : decode cX10_digest 133 = .ok (.goto (-22), 3) := by decide +kernel
theorem dX10_digest_136 : decode cX10_digest 136 = .ok (.iconst 0, 1) := by decide +kernel
theorem dX10_digest_137 : decode cX10_digest 137 = .ok (.istore_n 1, 1) := by decide +kernel
theorem dX10_digest_138 : decode cX10_digest 138 = .ok (.iload_n 1, 1) := by decide +kernel
theorem dX10_digest_139 : decode cX10_digest 139 = .ok (.bipush 11, 2) := by decide +kernel
theorem dX10_digest_141 : decode cX10_digest 141 = .ok (.if_icmp .ge 19, 3) := by decide +kernel
