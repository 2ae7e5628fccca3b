set_option maxRecDepth 20000 in
theorem gX10_boil_X10_dueOf : GoodIn wsX10_boil (wsV RX10 128 RX10 yX10_dueOf wsX10_dueOf) := goodIn_app (goodIn_of _ (by decide +kernel)) ggX10_boil_X10_dueOf
theorem dX10_boil_0 : decode cX10_boil 0 = .ok (.aload_n 0, 1) := by decide +kernel
theorem dX10_boil_1 : decode cX10_boil 1 = .ok (.iload_n 1, 1) := by decide +kernel
theorem dX10_boil_2 : decode cX10_boil 2 = .ok (.invokevirtual 145, 3) := by decide +kernel
theorem dX10_boil_5 : decode cX10_boil 5 = .ok (.ifCond .ne 6, 3) := by decide +kernel
theorem dX10_boil_8 : decode cX10_boil 8 = .ok (.bipush (-101), 2) := by decide +kernel
theorem dX10_boil_10 : decode cX10_boil 10 = .ok (.ireturn, 1) := by decide +kernel
theorem dX10_boil_11 : decode cX10_boil 11 = .ok (.aload_n 0, 1) := by decide +kernel
theorem dX10_boil_12 : decode cX10_boil 12 = .ok (.iload_n 1, 1) := by decide +kernel
theorem dX10_boil_13 : decode cX10_boil 13 = .ok (.invokevirtual 138, 3) := by decide +kernel
theorem dX10_boil_16 : decode cX10_boil 16 = .ok (.ifCond .eq 6, 3) := by decide +kernel
theorem dX10_boil_19 : decode cX10_boil 19 = .ok (.bipush (-103), 2) := by decide +kernel
theorem dX10_boil_21 : decode cX10_boil 21 = .ok (.ireturn, 1) := by decide +kernel
theorem dX10_boil_22 : decode cX10_boil 22 = .ok (.aload_n 0, 1) := by decide +kernel
theorem dX10_boil_23 : decode cX10_boil 23 = .ok (.getfield 16, 3) := by decide +kernel
theorem dX10_boil_26 : decode cX10_boil 26 = .ok (.iload_n 1, 1) := by decide +kernel
theorem dX10_boil_27 : decode cX10_boil 27 = .ok (.aload_n 0, 1) := by decide +kernel
theorem dX10_boil_28 : decode cX10_boil 28 = .ok (.getfield 116, 3) := by decide +kernel
theorem dX10_boil_31 : decode cX10_boil 31 = .ok (.iastore, 1) := by decide +kernel
theorem dX10_boil_32 : decode cX10_boil 32 = .ok (.aload_n 0, 1) := by decide +kernel
theorem dX10_boil_33 : decode cX10_boil 33 = .ok (.iload_n 1, 1) := by decide +kernel
theorem dX10_boil_34 : decode cX10_boil 34 = .ok (.invokevirtual 128, 3) := by decide +kernel
theorem dX10_boil_37 : decode cX10_boil 37 = .ok (.ireturn, 1) := by decide +kernel
set_option maxRecDepth 20000 in
theorem ggX10_wind_X10_within : GoodIn wsX10_wind wsX10_within := goodIn_r _ [10] (by decide +kernel) (by decide +kernel)
set_option maxRecDepth 20000 in
theorem gX10_wind_X10_within : GoodIn wsX10_wind (va_wsS RX10 68 yX10_within wsX10_within) := goodIn_app (goodIn_of _ (by decide +kernel)) ggX10_wind_X10_within
theorem dX10_wind_0 : decode cX10_wind 0 = .ok (.iload_n 1, 1) := by decide +kernel
theorem dX10_wind_1 : decode cX10_wind 1 = .ok (.iconst 1, 1) := by decide +kernel
theorem dX10_wind_2 : decode cX10_wind 2 = .ok (.aload_n 0, 1) := by decide +kernel
theorem dX10_wind_3 : decode cX10_wind 3 = .ok (.getfield 101, 3) := by decide +kernel
theorem dX10_wind_6 : decode cX10_wind 6 = .ok (.ifCond .ne 8, 3) := by decide +kernel
theorem dX10_wind_9 : decode cX10_wind 9 = .ok (.bipush 60, 2) := by decide +kernel
theorem dX10_wind_11 : decode cX10_wind 11 = .ok (.goto 7, 3) := by decide +kernel
theorem dX10_wind_14 : decode cX10_wind 14 = .ok (.aload_n 0, 1) := by decide +kernel
theorem dX10_wind_15 : decode cX10_wind 15 = .ok (.getfield 107, 3) := by decide +kernel
theorem dX10_wind_18 : decode cX10_wind 18 = .ok (.invokestatic 68, 3) := by decide +kernel
theorem dX10_wind_21 : decode cX10_wind 21 = .ok (.ifCond .ne 6, 3) := by decide +kernel
theorem dX10_wind_24 : decode cX10_wind 24 = .ok (.bipush (-102), 2) := by decide +kernel
theorem dX10_wind_26 : decode cX10_wind 26 = .ok (.ireturn, 1) := by decide +kernel
theorem dX10_wind_27 : decode cX10_wind 27 = .ok (.aload_n 0, 1) := by decide +kernel
theorem dX10_wind_28 : decode cX10_wind 28 = .ok (.getfield 101, 3) := by decide +kernel
theorem dX10_wind_31 : decode cX10_wind 31 = .ok (.ifCond .eq 15, 3) := by decide +kernel
theorem dX10_wind_34 : decode cX10_wind 34 = .ok (.aload_n 0, 1) := by decide +kernel
theorem dX10_wind_35 : decode cX10_wind 35 = .ok (.getfield 116, 3) := by decide +kernel
theorem dX10_wind_38 : decode cX10_wind 38 = .ok (.iload_n 1, 1) := by decide +kernel
theorem dX10_wind_39 : decode cX10_wind 39 = .ok (.iadd, 1) := by decide +kernel
theorem dX10_wind_40 : decode cX10_wind 40 = .ok (.sipush 999, 3) := by decide +kernel
theorem dX10_wind_43 : decode cX10_wind 43 = .ok (.if_icmp .le 6, 3) := by decide +kernel
theorem dX10_wind_46 : decode cX10_wind 46 = .ok (.bipush (-103), 2) := by decide +kernel
theorem dX10_wind_48 : decode cX10_wind 48 = .ok (.ireturn, 1) := by decide +kernel
theorem dX10_wind_49 : decode cX10_wind 49 = .ok (.aload_n 0, 1) := by decide +kernel
theorem dX10_wind_50 : decode cX10_wind 50 = .ok (.dup, 1) := by decide +kernel
theorem dX10_wind_51 : decode cX10_wind 51 = .ok (.getfield 116, 3) := by decide +kernel
theorem dX10_wind_54 : decode cX10_wind 54 = .ok (.iload_n 1, 1) := by decide +kernel
theorem dX10_wind_55 : decode cX10_wind 55 = .ok (.iadd, 1) := by decide +kernel
theorem dX10_wind_56 : decode cX10_wind 56 = .ok (.putfield 116, 3) := by decide +kernel
theorem dX10_wind_59 : decode cX10_wind 59 = .ok (.aload_n 0, 1) := by decide +kernel
theorem dX10_wind_60 : decode cX10_wind 60 = .ok (.aload_n 0, 1) := by decide +kernel
theorem dX10_wind_61 : decode cX10_wind 61 = .ok (.getfield 110, 3) := by decide +kernel
theorem dX10_wind_64 : decode cX10_wind 64 = .ok (.putfield 119, 3) := by decide +kernel
theorem dX10_wind_67 : decode cX10_wind 67 = .ok (.aload_n 0, 1) := by decide +kernel
theorem dX10_wind_68 : decode cX10_wind 68 = .ok (.dup, 1) := by decide +kernel
theorem dX10_wind_69 : decode cX10_wind 69 = .ok (.getfield 122, 3) := by decide +kernel
theorem dX10_wind_72 : decode cX10_wind 72 = .ok (.iconst 1, 1) := by decide +kernel
theorem dX10_wind_73 : decode cX10_wind 73 = .ok (.iadd, 1) := by decide +kernel
theorem dX10_wind_74 : decode cX10_wind 74 = .ok (.putfield 122, 3) := by decide +kernel
theorem dX10_wind_77 : decode cX10_wind 77 = .ok (.aload_n 0, 1) := by decide +kernel
theorem dX10_wind_78 : decode cX10_wind 78 = .ok (.getfield 116, 3) := by decide +kernel
theorem dX10_wind_81 : decode cX10_wind 81 = .ok (.ireturn, 1) := by decide +kernel
set_option maxRecDepth 20000 in
theorem ggX10_take_X10_isPot : GoodIn wsX10_take wsX10_isPot := goodIn_r _ [10, 11, 12, 13, 9, 14, 36, 37, 38, 39, 40, 41, 42, 43, 44, 45, 46, 47, 48, 49, 50, 51, 52, 53, 54, 55, 56, 57, 58, 59, 60, 61, 62, 63, 64, 65, 66, 67, 68, 69, 70, 71, 72, 73, 74] (by decide +kernel) (by decide +kernel)
set_option maxRecDepth 20000 in
theorem gX10_take_X10_isPot : GoodIn wsX10_take (wsV RX10 145 RX10 yX10_isPot wsX10_isPot) := goodIn_app (goodIn_of _ (by decide +kernel)) ggX10_take_X10_isPot
set_option maxRecDepth 20000 in
theorem ggX10_take_X10_boils : GoodIn wsX10_take wsX10_boils := goodIn_r _ [18, 4, 36, 37, 38, 39, 40, 41, 42, 43, 44, 45, 46, 47, 48, 49, 50, 51, 52, 53, 54, 55, 56, 57, 58, 59, 60, 61, 62, 63, 64, 65, 66, 67, 68, 69, 70, 71, 72, 73, 74] (by decide +kernel) (by decide +kernel)
set_option maxRecDepth 20000 in
theorem gX10_take_X10_boils : GoodIn wsX10_take (wsV RX10 138 RX10 yX10_boils wsX10_boils) := goodIn_app (goodIn_of _ (by decide +kernel)) ggX10_take_X10_boils
set_option maxRecDepth 20000 in
theorem ggX10_take_X10_outAt : GoodIn wsX10_take wsX10_outAt := goodIn_r _ [22, 23, 24, 25, 9, 26, 4, 27, 28, 29, 30, 31, 32, 33, 34, 35, 36, 37, 38, 39, 40, 41, 42, 43, 44, 45, 46, 47, 48, 49, 50, 51, 52, 53, 54, 55, 56, 57, 58, 59, 60, 61, 62, 63, 64, 65, 66, 67, 68, 69, 70, 71, 72, 73, 74] (by decide +kernel) (by decide +kernel)
set_option maxRecDepth 20000 in
theorem gX10_take_X10_outAt : GoodIn wsX10_take (wsV RX10 142 RX10 yX10_outAt wsX10_outAt) := goodIn_app (goodIn_of _ (by decide +kernel)) ggX10_take_X10_outAt
theorem dX10_take_0 : decode cX10_take 0 = .ok (.aload_n 0, 1) := by decide +kernel
theorem dX10_take_1 : decode cX10_take 1 = .ok (.iload_n 1, 1) := by decide +kernel
theorem dX10_take_2 : decode cX10_take 2 = .ok (.invokevirtual 145, 3) := by decide +kernel
theorem dX10_take_5 : decode cX10_take 5 = .ok (.ifCond .ne 6, 3) := by decide +kernel
theorem dX10_take_8 : decode cX10_take 8 = .ok (.bipush (-101), 2) := by decide +kernel
theorem dX10_take_10 : decode cX10_take 10 = .ok (.ireturn, 1) := by decide +kernel
theorem dX10_take_11 : decode cX10_take 11 = .ok (.aload_n 0, 1) := by decide +kernel
theorem dX10_take_12 : decode cX10_take 12 = .ok (.iload_n 1, 1) := by decide +kernel
theorem dX10_take_13 : decode cX10_take 13 = .ok (.invokevirtual 138, 3) := by decide +kernel
theorem dX10_take_16 : decode cX10_take 16 = .ok (.ifCond .eq 10, 3) := by decide +kernel
theorem dX10_take_19 : decode cX10_take 19 = .ok (.aload_n 0, 1) := by decide +kernel
theorem dX10_take_20 : decode cX10_take 20 = .ok (.getfield 119, 3) := by decide +kernel
theorem dX10_take_23 : decode cX10_take 23 = .ok (.ifCond .ne 6, 3) := by decide +kernel
theorem dX10_take_26 : decode cX10_take 26 = .ok (.bipush (-103), 2) := by decide +kernel
theorem dX10_take_28 : decode cX10_take 28 = .ok (.ireturn, 1) := by decide +kernel
theorem dX10_take_29 : decode cX10_take 29 = .ok (.aload_n 0, 1) := by decide +kernel
theorem dX10_take_30 : decode cX10_take 30 = .ok (.getfield 22, 3) := by decide +kernel
theorem dX10_take_33 : decode cX10_take 33 = .ok (.iload_n 1, 1) := by decide +kernel
theorem dX10_take_34 : decode cX10_take 34 = .ok (.aload_n 0, 1) := by decide +kernel
theorem dX10_take_35 : decode cX10_take 35 = .ok (.iload_n 1, 1) := by decide +kernel
theorem dX10_take_36 : decode cX10_take 36 = .ok (.aload_n 0, 1) := by decide +kernel
theorem dX10_take_37 : decode cX10_take 37 = .ok (.getfield 116, 3) := by decide +kernel
theorem dX10_take_40 : decode cX10_take 40 = .ok (.invokevirtual 142, 3) := by decide +kernel
theorem dX10_take_43 : decode cX10_take 43 = .ok (.iastore, 1) := by decide +kernel
theorem dX10_take_44 : decode cX10_take 44 = .ok (.aload_n 0, 1) := by decide +kernel
theorem dX10_take_45 : decode cX10_take 45 = .ok (.getfield 16, 3) := by decide +kernel
theorem dX10_take_48 : decode cX10_take 48 = .ok (.iload_n 1, 1) := by decide +kernel
theorem dX10_take_49 : decode cX10_take 49 = .ok (.iconst (-1), 1) := by decide +kernel
theorem dX10_take_50 : decode cX10_take 50 = .ok (.iastore, 1) := by decide +kernel
theorem dX10_take_51 : decode cX10_take 51 = .ok (.aload_n 0, 1) := by decide +kernel
theorem dX10_take_52 : decode cX10_take 52 = .ok (.getfield 19, 3) := by decide +kernel
theorem dX10_take_55 : decode cX10_take 55 = .ok (.iload_n 1, 1) := by decide +kernel
theorem dX10_take_56 : decode cX10_take 56 = .ok (.dup2, 1) := by decide +kernel
theorem dX10_take_57 : decode cX10_take 57 = .ok (.iaload, 1) := by decide +kernel
theorem dX10_take_58 : decode cX10_take 58 = .ok (.iconst 1, 1) := by decide +kernel
theorem dX10_take_59 : decode cX10_take 59 = .ok (.iadd, 1) := by decide +kernel
theorem dX10_take_60 : decode cX10_take 60 = .ok (.iastore, 1) := by decide +kernel
theorem dX10_take_61 : decode cX10_take 61 = .ok (.aload_n 0, 1) := by decide +kernel
theorem dX10_take_62 : decode cX10_take 62 = .ok (.dup, 1) := by decide +kernel
theorem dX10_take_63 : decode cX10_take 63 = .ok (.getfield 119, 3) := by decide +kernel
theorem dX10_take_66 : decode cX10_take 66 = .ok (.iconst 1, 1) := by decide +kernel
theorem dX10_take_67 : decode cX10_take 67 = .ok (.isub, 1) := by decide +kernel
theorem dX10_take_68 : decode cX10_take 68 = .ok (.putfield 119, 3) := by decide +kernel
theorem dX10_take_71 : decode cX10_take 71 = .ok (.aload_n 0, 1) := by decide +kernel
theorem dX10_take_72 : decode cX10_take 72 = .ok (.getfield 22, 3) := by decide +kernel
theorem dX10_take_75 : decode cX10_take 75 = .ok (.iload_n 1, 1) := by decide +kernel
theorem dX10_take_76 : decode cX10_take 76 = .ok (.iaload, 1) := by decide +kernel
theorem dX10_take_77 : decode cX10_take 77 = .ok (.ireturn, 1) := by decide +kernel
theorem dX10_size_0 : decode cX10_size 0 = .ok (.iload_n 0, 1) := by decide +kernel
theorem dX10_size_1 : decode cX10_size 1 = .ok (.iconst 1, 1) := by decide +kernel
theorem dX10_size_2 : decode cX10_size 2 = .ok (.iand, 1) := by decide +kernel
theorem dX10_size_3 : decode cX10_size 3 = .ok (.iload_n 0, 1) := by decide +kernel
theorem dX10_size_4 : decode cX10_size 4 = .ok (.iconst 1, 1) := by decide +kernel
theorem dX10_size_5 : decode cX10_size 5 = .ok (.ishr, 1) := by decide +kernel
theorem dX10_size_6 : decode cX10_size 6 = .ok (.iconst 1, 1) := by decide +kernel
theorem dX10_size_7 : decode cX10_size 7 = .ok (.iand, 1) := by decide +kernel
theorem dX10_size_8 : decode cX10_size 8 = .ok (.iadd, 1) := by decide +kernel
theorem dX10_size_9 : decode cX10_size 9 = .ok (.iload_n 0, 1) := by decide +kernel
theorem dX10_size_10 : decode cX10_size 10 = .ok (.iconst 2, 1) := by decide +kernel
theorem dX10_size_11 : decode cX10_size 11 = .ok (.ishr, 1) := by decide +kernel
theorem dX10_size_12 : decode cX10_size 12 = .ok (.iconst 1, 1) := by decide +kernel
theorem dX10_size_13 : decode cX10_size 13 = .ok (.iand, 1) := by decide +kernel
theorem dX10_size_14 : decode cX10_size 14 = .ok (.iadd, 1) := by decide +kernel
theorem dX10_size_15 : decode cX10_size 15 = .ok (.iload_n 0, 1) := by decide +kernel
theorem dX10_size_16 : decode cX10_size 16 = .ok (.iconst 3, 1) := by decide +kernel
theorem dX10_size_17 : decode cX10_size 17 = .ok (.ishr, 1) := by decide +kernel
theorem dX10_size_18 : decode cX10_size 18 = .ok (.iconst 1, 1) := by decide +kernel
theorem dX10_size_19 : decode cX10_size 19 = .ok (.iand, 1) := by decide +kernel
theorem dX10_size_20 : decode cX10_size 20 = .ok (.iadd, 1) := by decide +kernel
theorem dX10_size_21 : decode cX10_size 21 = .ok (.ireturn, 1) := by decide +kernel
set_option maxRecDepth 20000 in
theorem ggX10_goodAt_X10_boils : GoodIn wsX10_goodAt wsX10_boils := goodIn_r _ [6, 7, 25, 26, 27, 28, 29, 30, 31, 32, 33, 34, 35, 36, 37, 38, 39, 40, 41, 42, 43, 44, 45, 46, 47, 48, 49, 50, 51, 52, 53, 54, 55, 56, 57, 58, 59, 60, 61, 62, 63] (by decide +kernel) (by decide +kernel)
set_option maxRecDepth 20000 in
theorem gX10_goodAt_X10_boils : GoodIn wsX10_goodAt (wsV RX10 138 RX10 yX10_boils wsX10_boils) := goodIn_app (goodIn_of _ (by decide +kernel)) ggX10_goodAt_X10_boils
set_option maxRecDepth 20000 in
theorem ggX10_goodAt_X10_outAt : GoodIn wsX10_goodAt wsX10_outAt := goodIn_r _ [11, 12, 13, 14, 5, 15, 7, 16, 17, 18, 19, 20, 21, 22, 23, 24, 25, 26, 27, 28, 29, 30, 31, 32, 33, 34, 35, 36, 37, 38, 39, 40, 41, 42, 43, 44, 45, 46, 47, 48, 49, 50, 51, 52, 53, 54, 55, 56, 57, 58, 59, 60, 61, 62, 63] (by decide +kernel) (by decide +kernel)
set_option maxRecDepth 20000 in
theorem gX10_goodAt_X10_outAt : GoodIn wsX10_goodAt (wsV RX10 142 RX10 yX10_outAt wsX10_outAt) := goodIn_app (goodIn_of _ (by decide +kernel)) ggX10_goodAt_X10_outAt
theorem dX10_goodAt_0 : decode cX10_goodAt 0 = .ok (.iconst 0, 1) := by decide +kernel
theorem dX10_goodAt_1 : decode cX10_goodAt 1 = .ok (.istore_n 2, 1) := by decide +kernel
theorem dX10_goodAt_2 : decode cX10_goodAt 2 = .ok (.iconst 0, 1) := by decide +kernel
theorem dX10_goodAt_3 : decode cX10_goodAt 3 = .ok (.istore_n 3, 1) := by decide +kernel
theorem dX10_goodAt_4 : decode cX10_goodAt 4 = .ok (.iload_n 3, 1) := by decide +kernel
theorem dX10_goodAt_5 : decode cX10_goodAt 5 = .ok (.aload_n 0, 1) := by decide +kernel
theorem dX10_goodAt_6 : decode cX10_goodAt 6 = .ok (.getfield 101, 3) := by decide +kernel
theorem dX10_goodAt_9 : decode cX10_goodAt 9 = .ok (.if_icmp .ge 38, 3) := by decide +kernel
theorem dX10_goodAt_12 : decode cX10_goodAt 12 = .ok (.iload_n 2, 1) := by decide +kernel
theorem dX10_goodAt_13 : decode cX10_goodAt 13 = .ok (.aload_n 0, 1) := by decide +kernel
theorem dX10_goodAt_14 : decode cX10_goodAt 14 = .ok (.iload_n 3, 1) := by decide +kernel
theorem dX10_goodAt_15 : decode cX10_goodAt 15 = .ok (.invokevirtual 138, 3) := by decide +kernel
theorem dX10_goodAt_18 : decode cX10_goodAt 18 = .ok (.ifCond .eq 20, 3) := by decide +kernel
theorem dX10_goodAt_21 : decode cX10_goodAt 21 = .ok (.aload_n 0, 1) := by decide +kernel
theorem dX10_goodAt_22 : decode cX10_goodAt 22 = .ok (.iload_n 3, 1) := by decide +kernel
theorem dX10_goodAt_23 : decode cX10_goodAt 23 = .ok (.iload_n 1, 1) := by decide +kernel
theorem dX10_goodAt_24 : decode cX10_goodAt 24 = .ok (.invokevirtual 142, 3) := by decide +kernel
theorem dX10_goodAt_27 : decode cX10_goodAt 27 = .ok (.bipush 100, 2) := by decide +kernel
theorem dX10_goodAt_29 : decode cX10_goodAt 29 = .ok (.if_icmp .ne 9, 3) := by decide +kernel
theorem dX10_goodAt_32 : decode cX10_goodAt 32 = .ok (.iconst 1, 1) := by decide +kernel
theorem dX10_goodAt_33 : decode cX10_goodAt 33 = .ok (.iload_n 3, 1) := by decide +kernel
theorem dX10_goodAt_34 : decode cX10_goodAt 34 = .ok (.ishl, 1) := by decide +kernel
theorem dX10_goodAt_35 : decode cX10_goodAt 35 = .ok (.goto 4, 3) := by decide +kernel
theorem dX10_goodAt_38 : decode cX10_goodAt 38 = .ok (.iconst 0, 1) := by decide +kernel
theorem dX10_goodAt_39 : decode cX10_goodAt 39 = .ok (.ior, 1) := by decide +kernel
theorem dX10_goodAt_40 : decode cX10_goodAt 40 = .ok (.istore_n 2, 1) := by decide +kernel
theorem dX10_goodAt_41 : decode cX10_goodAt 41 = .ok (.iinc 3 1, 3) := by decide +kernel
theorem dX10_goodAt_44 : decode cX10_goodAt 44 = .ok (.goto (-40), 3) := by decide +kernel
theorem dX10_goodAt_47 : decode cX10_goodAt 47 = .ok (.iload_n 2, 1) := by decide +kernel
theorem dX10_goodAt_48 : decode cX10_goodAt 48 = .ok (.ireturn, 1) := by decide +kernel
set_option maxRecDepth 20000 in
theorem ggX10_mark_X10_size : GoodIn wsX10_mark wsX10_size := goodIn_r _ [6] (by decide +kernel) (by decide +kernel)
set_option maxRecDepth 20000 in
theorem gX10_mark_X10_size : GoodIn wsX10_mark (va_wsS RX10 151 yX10_size wsX10_size) := goodIn_app (goodIn_of _ (by decide +kernel)) ggX10_mark_X10_size
theorem dX10_mark_0 : decode cX10_mark 0 = .ok (.iconst 0, 1) := by decide +kernel
theorem dX10_mark_1 : decode cX10_mark 1 = .ok (.istore 7, 2) := by decide +kernel
theorem dX10_mark_3 : decode cX10_mark 3 = .ok (.iload 7, 2) := by decide +kernel
theorem dX10_mark_5 : decode cX10_mark 5 = .ok (.bipush 16, 2) := by decide +kernel
theorem dX10_mark_7 : decode cX10_mark 7 = .ok (.if_icmp .ge 129, 3) := by decide +kernel
theorem dX10_mark_10 : decode cX10_mark 10 = .ok (.iload 7, 2) := by decide +kernel
theorem dX10_mark_12 : decode cX10_mark 12 = .ok (.iload_n 3, 1) := by decide +kernel
theorem dX10_mark_13 : decode cX10_mark 13 = .ok (.iconst (-1), 1) := by decide +kernel
theorem dX10_mark_14 : decode cX10_mark 14 = .ok (.ixor, 1) := by decide +kernel
theorem dX10_mark_15 : decode cX10_mark 15 = .ok (.iand, 1) := by decide +kernel
theorem dX10_mark_16 : decode cX10_mark 16 = .ok (.ifCond .ne 114, 3) := by decide +kernel
theorem dX10_mark_19 : decode cX10_mark 19 = .ok (.iload 7, 2) := by decide +kernel
theorem dX10_mark_21 : decode cX10_mark 21 = .ok (.invokestatic 151, 3) := by decide +kernel
theorem dX10_mark_24 : decode cX10_mark 24 = .ok (.iload 4, 2) := by decide +kernel
theorem dX10_mark_26 : decode cX10_mark 26 = .ok (.if_icmp .gt 104, 3) := by decide +kernel
theorem dX10_mark_29 : decode cX10_mark 29 = .ok (.bipush 16, 2) := by decide +kernel
theorem dX10_mark_31 : decode cX10_mark 31 = .ok (.iload_n 1, 1) := by decide +kernel
theorem dX10_mark_32 : decode cX10_mark 32 = .ok (.imul, 1) := by decide +kernel
theorem dX10_mark_33 : decode cX10_mark 33 = .ok (.iload_n 2, 1) := by decide +kernel
theorem dX10_mark_34 : decode cX10_mark 34 = .ok (.iload 7, 2) := by decide +kernel
theorem dX10_mark_36 : decode cX10_mark 36 = .ok (.ior, 1) := by decide +kernel
theorem dX10_mark_37 : decode cX10_mark 37 = .ok (.iadd, 1) := by decide +kernel
theorem dX10_mark_38 : decode cX10_mark 38 = .ok (.istore 8, 2) := by decide +kernel
theorem dX10_mark_40 : decode cX10_mark 40 = .ok (.aload_n 0, 1) := by decide +kernel
theorem dX10_mark_41 : decode cX10_mark 41 = .ok (.getfield 41, 3) := by decide +kernel
theorem dX10_mark_44 : decode cX10_mark 44 = .ok (.iload 8, 2) := by decide +kernel
theorem dX10_mark_46 : decode cX10_mark 46 = .ok (.iaload, 1) := by decide +kernel
theorem dX10_mark_47 : decode cX10_mark 47 = .ok (.iconst (-1), 1) := by decide +kernel
theorem dX10_mark_48 : decode cX10_mark 48 = .ok (.if_icmp .eq 27, 3) := by decide +kernel
theorem dX10_mark_51 : decode cX10_mark 51 = .ok (.aload_n 0, 1) := by decide +kernel
theorem dX10_mark_52 : decode cX10_mark 52 = .ok (.getfield 41, 3) := by decide +kernel
theorem dX10_mark_55 : decode cX10_mark 55 = .ok (.iload 8, 2) := by decide +kernel
theorem dX10_mark_57 : decode cX10_mark 57 = .ok (.iaload, 1) := by decide +kernel
theorem dX10_mark_58 : decode cX10_mark 58 = .ok (.iload 5, 2) := by decide +kernel
theorem dX10_mark_60 : decode cX10_mark 60 = .ok (.if_icmp .ne 19, 3) := by decide +kernel
theorem dX10_mark_63 : decode cX10_mark 63 = .ok (.iload 6, 2) := by decide +kernel
theorem dX10_mark_65 : decode cX10_mark 65 = .ok (.aload_n 0, 1) := by decide +kernel
theorem dX10_mark_66 : decode cX10_mark 66 = .ok (.getfield 44, 3) := by decide +kernel
theorem dX10_mark_69 : decode cX10_mark 69 = .ok (.iload 8, 2) := by decide +kernel
theorem dX10_mark_71 : decode cX10_mark 71 = .ok (.iaload, 1) := by decide +kernel
theorem dX10_mark_72 : decode cX10_mark 72 = .ok (.if_icmp .ge 7, 3) := by decide +kernel
theorem dX10_mark_75 : decode cX10_mark 75 = .ok (.iconst 1, 1) := by decide +kernel
theorem dX10_mark_76 : decode cX10_mark 76 = .ok (.goto 4, 3) := by decide +kernel
theorem dX10_mark_79 : decode cX10_mark 79 = .ok (.iconst 0, 1) := by decide +kernel
theorem dX10_mark_80 : decode cX10_mark 80 = .ok (.istore 9, 2) := by decide +kernel
theorem dX10_mark_82 : decode cX10_mark 82 = .ok (.aload_n 0, 1) := by decide +kernel
theorem dX10_mark_83 : decode cX10_mark 83 = .ok (.getfield 41, 3) := by decide +kernel
theorem dX10_mark_86 : decode cX10_mark 86 = .ok (.iload 8, 2) := by decide +kernel
theorem dX10_mark_88 : decode cX10_mark 88 = .ok (.iload 9, 2) := by decide +kernel
theorem dX10_mark_90 : decode cX10_mark 90 = .ok (.ifCond .eq 8, 3) := by decide +kernel
theorem dX10_mark_93 : decode cX10_mark 93 = .ok (.iload 5, 2) := by decide +kernel
theorem dX10_mark_95 : decode cX10_mark 95 = .ok (.goto 10, 3) := by decide +kernel
theorem dX10_mark_98 : decode cX10_mark 98 = .ok (.aload_n 0, 1) := by decide +kernel
theorem dX10_mark_99 : decode cX10_mark 99 = .ok (.getfield 41, 3) := by decide +kernel
theorem dX10_mark_102 : decode cX10_mark 102 = .ok (.iload 8, 2) := by decide +kernel
theorem dX10_mark_104 : decode cX10_mark 104 = .ok (.iaload, 1) := by decide +kernel
theorem dX10_mark_105 : decode cX10_mark 105 = .ok (.iastore, 1) := by decide +kernel
theorem dX10_mark_106 : decode cX10_mark 106 = .ok (.aload_n 0, 1) := by decide +kernel
theorem dX10_mark_107 : decode cX10_mark 107 = .ok (.getfield 44, 3) := by decide +kernel
theorem dX10_mark_110 : decode cX10_mark 110 = .ok (.iload 8, 2) := by decide +kernel
theorem dX10_mark_112 : decode cX10_mark 112 = .ok (.iload 9, 2) := by decide +kernel
theorem dX10_mark_114 : decode cX10_mark 114 = .ok (.ifCond .eq 8, 3) := by decide +kernel
theorem dX10_mark_117 : decode cX10_mark 117 = .ok (.iload 6, 2) := by decide +kernel
theorem dX10_mark_119 : decode cX10_mark 119 = .ok (.goto 10, 3) := by decide +kernel
theorem dX10_mark_122 : decode cX10_mark 122 = .ok (.aload_n 0, 1) := by decide +kernel
theorem dX10_mark_123 : decode cX10_mark 123 = .ok (.getfield 44, 3) := by decide +kernel
theorem dX10_mark_126 : decode cX10_mark 126 = .ok (.iload 8, 2) := by decide +kernel
theorem dX10_mark_128 : decode cX10_mark 128 = .ok (.iaload, 1) := by decide +kernel
theorem dX10_mark_129 : decode cX10_mark 129 = .ok (.iastore, 1) := by decide +kernel
theorem dX10_mark_130 : decode cX10_mark 130 = .ok (.iinc 7 1, 3) := by decide +kernel
theorem dX10_mark_133 : decode cX10_mark 133 = .ok (.goto (-130), 3) := by decide +kernel
theorem dX10_mark_136 : decode cX10_mark 136 = .ok (.return_, 1) := by decide +kernel
set_option maxRecDepth 20000 in
theorem ggX10_goWave_X10_goodAt : GoodIn wsX10_goWave wsX10_goodAt := goodIn_r _ [10, 11, 12, 13, 14, 9, 15, 16, 17, 18, 19, 20, 21, 22, 23, 24, 25, 26, 27, 28, 29, 30, 31, 32, 33, 41, 42, 43, 44, 45, 46, 47, 48, 49, 50, 51, 52, 53, 54, 55, 56, 57, 58, 59, 60, 61, 62, 63, 64, 65, 66, 67, 68, 69, 70, 71, 72, 73, 74, 75, 76, 77, 78, 79] (by decide +kernel) (by decide +kernel)
set_option maxRecDepth 20000 in
theorem gX10_goWave_X10_goodAt : GoodIn wsX10_goWave (wsV RX10 154 RX10 yX10_goodAt wsX10_goodAt) := goodIn_app (goodIn_of _ (by decide +kernel)) ggX10_goWave_X10_goodAt
set_option maxRecDepth 20000 in
theorem ggX10_goWave_X10_mark : GoodIn wsX10_goWave wsX10_mark := goodIn_r _ [37, 2, 5, 38, 39, 9, 40, 41, 42, 43, 44, 45, 46, 47, 48, 49, 50, 51, 52, 53, 54, 55, 56, 57, 58, 59, 60, 61, 62, 63, 64, 65, 66, 67, 68, 69, 70, 71, 72, 73, 74, 75, 76, 77, 78, 79] (by decide +kernel) (by decide +kernel)
set_option maxRecDepth 20000 in
theorem gX10_goWave_X10_mark : GoodIn wsX10_goWave (wsV RX10 157 RX10 yX10_mark wsX10_mark) := goodIn_app (goodIn_of _ (by decide +kernel)) ggX10_goWave_X10_mark
theorem dX10_goWave_0 : decode cX10_goWave 0 = .ok (.iconst 0, 1) := by decide +kernel
theorem dX10_goWave_1 : decode cX10_goWave 1 = .ok (.istore_n 2, 1) := by decide +kernel
theorem dX10_goWave_2 : decode cX10_goWave 2 = .ok (.iconst 0, 1) := by decide +kernel
theorem dX10_goWave_3 : decode cX10_goWave 3 = .ok (.istore_n 3, 1) := by decide +kernel
theorem dX10_goWave_4 : decode cX10_goWave 4 = .ok (.iload_n 3, 1) := by decide +kernel
theorem dX10_goWave_5 : decode cX10_goWave 5 = .ok (.sipush 1936, 3) := by decide +kernel
theorem dX10_goWave_8 : decode cX10_goWave 8 = .ok (.if_icmp .ge 98, 3) := by decide +kernel
theorem dX10_goWave_11 : decode cX10_goWave 11 = .ok (.iconst 1, 1) := by decide +kernel
theorem dX10_goWave_12 : decode cX10_goWave 12 = .ok (.istore 4, 2) := by decide +kernel
theorem dX10_goWave_14 : decode cX10_goWave 14 = .ok (.iload 4, 2) := by decide +kernel
theorem dX10_goWave_16 : decode cX10_goWave 16 = .ok (.aload_n 0, 1) := by decide +kernel
theorem dX10_goWave_17 : decode cX10_goWave 17 = .ok (.getfield 107, 3) := by decide +kernel
theorem dX10_goWave_20 : decode cX10_goWave 20 = .ok (.if_icmp .gt 80, 3) := by decide +kernel
theorem dX10_goWave_23 : decode cX10_goWave 23 = .ok (.aload_n 0, 1) := by decide +kernel
theorem dX10_goWave_24 : decode cX10_goWave 24 = .ok (.getfield 41, 3) := by decide +kernel
theorem dX10_goWave_27 : decode cX10_goWave 27 = .ok (.iload_n 3, 1) := by decide +kernel
theorem dX10_goWave_28 : decode cX10_goWave 28 = .ok (.iaload, 1) := by decide +kernel
theorem dX10_goWave_29 : decode cX10_goWave 29 = .ok (.iload_n 1, 1) := by decide +kernel
theorem dX10_goWave_30 : decode cX10_goWave 30 = .ok (.if_icmp .ne 70, 3) := by decide +kernel
theorem dX10_goWave_33 : decode cX10_goWave 33 = .ok (.iload_n 3, 1) := by decide +kernel
theorem dX10_goWave_34 : decode cX10_goWave 34 = .ok (.bipush 16, 2) := by decide +kernel
theorem dX10_goWave_36 : decode cX10_goWave 36 = .ok (.idiv, 1) := by decide +kernel
theorem dX10_goWave_37 : decode cX10_goWave 37 = .ok (.iload 4, 2) := by decide +kernel
theorem dX10_goWave_39 : decode cX10_goWave 39 = .ok (.iadd, 1) := by decide +kernel
theorem dX10_goWave_40 : decode cX10_goWave 40 = .ok (.istore 5, 2) := by decide +kernel
theorem dX10_goWave_42 : decode cX10_goWave 42 = .ok (.iload 5, 2) := by decide +kernel
theorem dX10_goWave_44 : decode cX10_goWave 44 = .ok (.bipush 120, 2) := by decide +kernel
theorem dX10_goWave_46 : decode cX10_goWave 46 = .ok (.if_icmp .gt 48, 3) := by decide +kernel
theorem dX10_goWave_49 : decode cX10_goWave 49 = .ok (.aload_n 0, 1) := by decide +kernel
theorem dX10_goWave_50 : decode cX10_goWave 50 = .ok (.iload 5, 2) := by decide +kernel
theorem dX10_goWave_52 : decode cX10_goWave 52 = .ok (.iload_n 3, 1) := by decide +kernel
theorem dX10_goWave_53 : decode cX10_goWave 53 = .ok (.bipush 16, 2) := by decide +kernel
theorem dX10_goWave_55 : decode cX10_goWave 55 = .ok (.irem, 1) := by decide +kernel
theorem dX10_goWave_56 : decode cX10_goWave 56 = .ok (.aload_n 0, 1) := by decide +kernel
theorem dX10_goWave_57 : decode cX10_goWave 57 = .ok (.aload_n 0, 1) := by decide +kernel
theorem dX10_goWave_58 : decode cX10_goWave 58 = .ok (.getfield 116, 3) := by decide +kernel
theorem dX10_goWave_61 : decode cX10_goWave 61 = .ok (.iload 5, 2) := by decide +kernel
theorem dX10_goWave_63 : decode cX10_goWave 63 = .ok (.iadd, 1) := by decide +kernel
theorem dX10_goWave_64 : decode cX10_goWave 64 = .ok (.invokevirtual 154, 3) := by decide +kernel
theorem dX10_goWave_67 : decode cX10_goWave 67 = .ok (.aload_n 0, 1) := by decide +kernel
theorem dX10_goWave_68 : decode cX10_goWave 68 = .ok (.getfield 110, 3) := by decide +kernel
theorem dX10_goWave_71 : decode cX10_goWave 71 = .ok (.iload_n 1, 1) := by decide +kernel
theorem dX10_goWave_72 : decode cX10_goWave 72 = .ok (.iconst 1, 1) := by decide +kernel
theorem dX10_goWave_73 : decode cX10_goWave 73 = .ok (.iadd, 1) := by decide +kernel
theorem dX10_goWave_74 : decode cX10_goWave 74 = .ok (.iload_n 1, 1) := by decide +kernel
theorem dX10_goWave_75 : decode cX10_goWave 75 = .ok (.ifCond .ne 8, 3) := by decide +kernel
theorem dX10_goWave_78 : decode cX10_goWave 78 = .ok (.iload 4, 2) := by decide +kernel
theorem dX10_goWave_80 : decode cX10_goWave 80 = .ok (.goto 9, 3) := by decide +kernel
theorem dX10_goWave_83 : decode cX10_goWave 83 = .ok (.aload_n 0, 1) := by decide +kernel
theorem dX10_goWave_84 : decode cX10_goWave 84 = .ok (.getfield 44, 3) := by decide +kernel
theorem dX10_goWave_87 : decode cX10_goWave 87 = .ok (.iload_n 3, 1) := by decide +kernel
theorem dX10_goWave_88 : decode cX10_goWave 88 = .ok (.iaload, 1) := by decide +kernel
theorem dX10_goWave_89 : decode cX10_goWave 89 = .ok (.invokevirtual 157, 3) := by decide +kernel
theorem dX10_goWave_92 : decode cX10_goWave 92 = .ok (.iconst 1, 1) := by decide +kernel
theorem dX10_goWave_93 : decode cX10_goWave 93 = .ok (.istore_n 2, 1) := by decide +kernel
theorem dX10_goWave_94 : decode cX10_goWave 94 = .ok (.iinc 4 1, 3) := by decide +kernel
theorem dX10_goWave_97 : decode cX10_goWave 97 = .ok (.goto (-83), 3) := by decide +kernel
theorem dX10_goWave_100 : decode cX10_goWave 100 = .ok (.iinc 3 1, 3) := by decide +kernel
theorem dX10_goWave_103 : decode cX10_goWave 103 = .ok (.goto (-99), 3) := by decide +kernel
theorem dX10_goWave_106 : decode cX10_goWave 106 = .ok (.iload_n 2, 1) := by decide +kernel
theorem dX10_goWave_107 : decode cX10_goWave 107 = .ok (.ireturn, 1) := by decide +kernel
set_option maxRecDepth 20000 in
theorem ggX10_planNow_X10_boils : GoodIn wsX10_planNow wsX10_boils := goodIn_r _ [11, 12, 47, 48, 49, 50, 51, 52, 53, 54, 55, 56, 57, 58, 59, 60, 61, 62, 63, 64, 65, 66, 67, 68, 69, 70, 71, 72, 73, 74, 75, 76, 77, 78, 79, 80, 81, 82, 83, 84, 85] (by decide +kernel) (by decide +kernel)
set_option maxRecDepth 20000 in
theorem gX10_planNow_X10_boils : GoodIn wsX10_planNow (wsV RX10 138 RX10 yX10_boils wsX10_boils) := goodIn_app (goodIn_of _ (by decide +kernel)) ggX10_planNow_X10_boils
set_option maxRecDepth 20000 in
theorem ggX10_planNow_X10_goodAt : GoodIn wsX10_planNow wsX10_goodAt := goodIn_r _ [16, 1, 7, 8, 9, 10, 11, 12, 17, 18, 19, 20, 21, 22, 23, 24, 25, 26, 27, 28, 29, 30, 31, 32, 33, 47, 48, 49, 50, 51, 52, 53, 54, 55, 56, 57, 58, 59, 60, 61, 62, 63, 64, 65, 66, 67, 68, 69, 70, 71, 72, 73, 74, 75, 76, 77, 78, 79, 80, 81, 82, 83, 84, 85] (by decide +kernel) (by decide +kernel)
set_option maxRecDepth 20000 in
theorem gX10_planNow_X10_goodAt : GoodIn wsX10_planNow (wsV RX10 154 RX10 yX10_goodAt wsX10_goodAt) := goodIn_app (goodIn_of _ (by decide +kernel)) ggX10_planNow_X10_goodAt
set_option maxRecDepth 20000 in
theorem ggX10_planNow_X10_mark : GoodIn wsX10_planNow wsX10_mark := goodIn_r _ [37, 2, 3, 38, 39, 10, 40, 47, 48, 49, 50, 51, 52, 53, 54, 55, 56, 57, 58, 59, 60, 61, 62, 63, 64, 65, 66, 67, 68, 69, 70, 71, 72, 73, 74, 75, 76, 77, 78, 79, 80, 81, 82, 83, 84, 85] (by decide +kernel) (by decide +kernel)
set_option maxRecDepth 20000 in
theorem gX10_planNow_X10_mark : GoodIn wsX10_planNow (wsV RX10 157 RX10 yX10_mark wsX10_mark) := goodIn_app (goodIn_of _ (by decide +kernel)) ggX10_planNow_X10_mark
set_option maxRecDepth 20000 in
theorem ggX10_planNow_X10_goWave : GoodIn wsX10_planNow wsX10_goWave := goodIn_r _ [44, 45, 2, 4, 46, 3, 13, 14, 15, 10, 16, 1, 7, 8, 9, 11, 12, 17, 18, 19, 20, 21, 22, 23, 24, 25, 26, 27, 28, 29, 30, 31, 32, 33, 34, 35, 36, 37, 38, 39, 40, 47, 48, 49, 50, 51, 52, 53, 54, 55, 56, 57, 58, 59, 60, 61, 62, 63, 64, 65, 66, 67, 68, 69, 70, 71, 72, 73, 74, 75, 76, 77, 78, 79, 80, 81, 82, 83, 84, 85] (by decide +kernel) (by decide +kernel)
set_option maxRecDepth 20000 in
theorem gX10_planNow_X10_goWave : GoodIn wsX10_planNow (wsV RX10 161 RX10 yX10_goWave wsX10_goWave) := goodIn_app (goodIn_of _ (by decide +kernel)) ggX10_planNow_X10_goWave
theorem dX10_planNow_0 : decode cX10_planNow 0 = .ok (.iconst 0, 1) := by decide +kernel
theorem dX10_planNow_1 : decode cX10_planNow 1 = .ok (.istore_n 2, 1) := by decide +kernel
theorem dX10_planNow_2 : decode cX10_planNow 2 = .ok (.iconst 0, 1) := by decide +kernel
theorem dX10_planNow_3 : decode cX10_planNow 3 = .ok (.istore_n 3, 1) := by decide +kernel
theorem dX10_planNow_4 : decode cX10_planNow 4 = .ok (.iload_n 3, 1) := by decide +kernel
theorem dX10_planNow_5 : decode cX10_planNow 5 = .ok (.aload_n 0, 1) := by decide +kernel
theorem dX10_planNow_6 : decode cX10_planNow 6 = .ok (.getfield 101, 3) := by decide +kernel
theorem dX10_planNow_9 : decode cX10_planNow 9 = .ok (.if_icmp .ge 27, 3) := by decide +kernel
theorem dX10_planNow_12 : decode cX10_planNow 12 = .ok (.iload_n 2, 1) := by decide +kernel
theorem dX10_planNow_13 : decode cX10_planNow 13 = .ok (.aload_n 0, 1) := by decide +kernel
theorem dX10_planNow_14 : decode cX10_planNow 14 = .ok (.iload_n 3, 1) := by decide +kernel
theorem dX10_planNow_15 : decode cX10_planNow 15 = .ok (.invokevirtual 138, 3) := by decide +kernel
theorem dX10_planNow_18 : decode cX10_planNow 18 = .ok (.ifCond .eq 9, 3) := by decide +kernel
theorem dX10_planNow_21 : decode cX10_planNow 21 = .ok (.iconst 1, 1) := by decide +kernel
theorem dX10_planNow_22 : decode cX10_planNow 22 = .ok (.iload_n 3, 1) := by decide +kernel
theorem dX10_planNow_23 : decode cX10_planNow 23 = .ok (.ishl, 1) := by decide +kernel
theorem dX10_planNow_24 : decode cX10_planNow 24 = .ok (.goto 4, 3) := by decide +kernel
theorem dX10_planNow_27 : decode cX10_planNow 27 = .ok (.iconst 0, 1) := by decide +kernel
theorem dX10_planNow_28 : decode cX10_planNow 28 = .ok (.ior, 1) := by decide +kernel
theorem dX10_planNow_29 : decode cX10_planNow 29 = .ok (.istore_n 2, 1) := by decide +kernel
theorem dX10_planNow_30 : decode cX10_planNow 30 = .ok (.iinc 3 1, 3) := by decide +kernel
theorem dX10_planNow_33 : decode cX10_planNow 33 = .ok (.goto (-29), 3) := by decide +kernel
theorem dX10_planNow_36 : decode cX10_planNow 36 = .ok (.iconst 0, 1) := by decide +kernel
theorem dX10_planNow_37 : decode cX10_planNow 37 = .ok (.istore_n 3, 1) := by decide +kernel
theorem dX10_planNow_38 : decode cX10_planNow 38 = .ok (.iload_n 3, 1) := by decide +kernel
theorem dX10_planNow_39 : decode cX10_planNow 39 = .ok (.sipush 1936, 3) := by decide +kernel
theorem dX10_planNow_42 : decode cX10_planNow 42 = .ok (.if_icmp .ge 23, 3) := by decide +kernel
theorem dX10_planNow_45 : decode cX10_planNow 45 = .ok (.aload_n 0, 1) := by decide +kernel
theorem dX10_planNow_46 : decode cX10_planNow 46 = .ok (.getfield 41, 3) := by decide +kernel
theorem dX10_planNow_49 : decode cX10_planNow 49 = .ok (.iload_n 3, 1) := by decide +kernel
theorem dX10_planNow_50 : decode cX10_planNow 50 = .ok (.iconst (-1), 1) := by decide +kernel
theorem dX10_planNow_51 : decode cX10_planNow 51 = .ok (.iastore, 1) := by decide +kernel
theorem dX10_planNow_52 : decode cX10_planNow 52 = .ok (.aload_n 0, 1) := by decide +kernel
theorem dX10_planNow_53 : decode cX10_planNow 53 = .ok (.getfield 44, 3) := by decide +kernel
theorem dX10_planNow_56 : decode cX10_planNow 56 = .ok (.iload_n 3, 1) := by decide +kernel
theorem dX10_planNow_57 : decode cX10_planNow 57 = .ok (.iconst (-1), 1) := by decide +kernel
theorem dX10_planNow_58 : decode cX10_planNow 58 = .ok (.iastore, 1) := by decide +kernel
theorem dX10_planNow_59 : decode cX10_planNow 59 = .ok (.iinc 3 1, 3) := by decide +kernel
theorem dX10_planNow_62 : decode cX10_planNow 62 = .ok (.goto (-24), 3) := by decide +kernel
theorem dX10_planNow_65 : decode cX10_planNow 65 = .ok (.aload_n 0, 1) := by decide +kernel
theorem dX10_planNow_66 : decode cX10_planNow 66 = .ok (.iconst 0, 1) := by decide +kernel
theorem dX10_planNow_67 : decode cX10_planNow 67 = .ok (.iconst 0, 1) := by decide +kernel
theorem dX10_planNow_68 : decode cX10_planNow 68 = .ok (.aload_n 0, 1) := by decide +kernel
theorem dX10_planNow_69 : decode cX10_planNow 69 = .ok (.aload_n 0, 1) := by decide +kernel
theorem dX10_planNow_70 : decode cX10_planNow 70 = .ok (.getfield 116, 3) := by decide +kernel
theorem dX10_planNow_73 : decode cX10_planNow 73 = .ok (.invokevirtual 154, 3) := by decide +kernel
theorem dX10_planNow_76 : decode cX10_planNow 76 = .ok (.aload_n 0, 1) := by decide +kernel
theorem dX10_planNow_77 : decode cX10_planNow 77 = .ok (.getfield 119, 3) := by decide +kernel
theorem dX10_planNow_80 : decode cX10_planNow 80 = .ok (.iconst 0, 1) := by decide +kernel
theorem dX10_planNow_81 : decode cX10_planNow 81 = .ok (.iconst (-1), 1) := by decide +kernel
theorem dX10_planNow_82 : decode cX10_planNow 82 = .ok (.invokevirtual 157, 3) := by decide +kernel
theorem dX10_planNow_85 : decode cX10_planNow 85 = .ok (.iconst 0, 1) := by decide +kernel
theorem dX10_planNow_86 : decode cX10_planNow 86 = .ok (.istore_n 3, 1) := by decide +kernel
theorem dX10_planNow_87 : decode cX10_planNow 87 = .ok (.aload_n 0, 1) := by decide +kernel
theorem dX10_planNow_88 : decode cX10_planNow 88 = .ok (.iload_n 3, 1) := by decide +kernel
theorem dX10_planNow_89 : decode cX10_planNow 89 = .ok (.invokevirtual 161, 3) := by decide +kernel
theorem dX10_planNow_92 : decode cX10_planNow 92 = .ok (.ifCond .eq 9, 3) := by decide +kernel
theorem dX10_planNow_95 : decode cX10_planNow 95 = .ok (.iinc 3 1, 3) := by decide +kernel
theorem dX10_planNow_98 : decode cX10_planNow 98 = .ok (.goto (-11), 3) := by decide +kernel
theorem dX10_planNow_101 : decode cX10_planNow 101 = .ok (.ldc 164, 2) := by decide +kernel
theorem dX10_planNow_103 : decode cX10_planNow 103 = .ok (.istore 4, 2) := by decide +kernel
theorem dX10_planNow_105 : decode cX10_planNow 105 = .ok (.ldc 164, 2) := by decide +kernel
theorem dX10_planNow_107 : decode cX10_planNow 107 = .ok (.istore 5, 2) := by decide +kernel
theorem dX10_planNow_109 : decode cX10_planNow 109 = .ok (.iconst 0, 1) := by decide +kernel
theorem dX10_planNow_110 : decode cX10_planNow 110 = .ok (.istore 6, 2) := by decide +kernel
theorem dX10_planNow_112 : decode cX10_planNow 112 = .ok (.iload 6, 2) := by decide +kernel
theorem dX10_planNow_114 : decode cX10_planNow 114 = .ok (.bipush 120, 2) := by decide +kernel
theorem dX10_planNow_116 : decode cX10_planNow 116 = .ok (.if_icmp .gt 110, 3) := by decide +kernel
theorem dX10_planNow_119 : decode cX10_planNow 119 = .ok (.bipush 16, 2) := by decide +kernel
theorem dX10_planNow_121 : decode cX10_planNow 121 = .ok (.iload 6, 2) := by decide +kernel
theorem dX10_planNow_123 : decode cX10_planNow 123 = .ok (.imul, 1) := by decide +kernel
theorem dX10_planNow_124 : decode cX10_planNow 124 = .ok (.iload_n 2, 1) := by decide +kernel
theorem dX10_planNow_125 : decode cX10_planNow 125 = .ok (.iadd, 1) := by decide +kernel
theorem dX10_planNow_126 : decode cX10_planNow 126 = .ok (.istore 7, 2) := by decide +kernel
theorem dX10_planNow_128 : decode cX10_planNow 128 = .ok (.aload_n 0, 1) := by decide +kernel
theorem dX10_planNow_129 : decode cX10_planNow 129 = .ok (.getfield 41, 3) := by decide +kernel
theorem dX10_planNow_132 : decode cX10_planNow 132 = .ok (.iload 7, 2) := by decide +kernel
theorem dX10_planNow_134 : decode cX10_planNow 134 = .ok (.iaload, 1) := by decide +kernel
theorem dX10_planNow_135 : decode cX10_planNow 135 = .ok (.iconst (-1), 1) := by decide +kernel
theorem dX10_planNow_136 : decode cX10_planNow 136 = .ok (.if_icmp .eq 43, 3) := by decide +kernel
theorem dX10_planNow_139 : decode cX10_planNow 139 = .ok (.aload_n 0, 1) := by decide +kernel
theorem dX10_planNow_140 : decode cX10_planNow 140 = .ok (.getfield 41, 3) := by decide +kernel
theorem dX10_planNow_143 : decode cX10_planNow 143 = .ok (.iload 7, 2) := by decide +kernel
theorem dX10_planNow_145 : decode cX10_planNow 145 = .ok (.iaload, 1) := by decide +kernel
theorem dX10_planNow_146 : decode cX10_planNow 146 = .ok (.iload 4, 2) := by decide +kernel
theorem dX10_planNow_148 : decode cX10_planNow 148 = .ok (.if_icmp .lt 27, 3) := by decide +kernel
theorem dX10_planNow_151 : decode cX10_planNow 151 = .ok (.aload_n 0, 1) := by decide +kernel
theorem dX10_planNow_152 : decode cX10_planNow 152 = .ok (.getfield 41, 3) := by decide +kernel
theorem dX10_planNow_155 : decode cX10_planNow 155 = .ok (.iload 7, 2) := by decide +kernel
theorem dX10_planNow_157 : decode cX10_planNow 157 = .ok (.iaload, 1) := by decide +kernel
theorem dX10_planNow_158 : decode cX10_planNow 158 = .ok (.iload 4, 2) := by decide +kernel
theorem dX10_planNow_160 : decode cX10_planNow 160 = .ok (.if_icmp .ne 19, 3) := by decide +kernel
theorem dX10_planNow_163 : decode cX10_planNow 163 = .ok (.aload_n 0, 1) := by decide +kernel
theorem dX10_planNow_164 : decode cX10_planNow 164 = .ok (.getfield 44, 3) := by decide +kernel
theorem dX10_planNow_167 : decode cX10_planNow 167 = .ok (.iload 7, 2) := by decide +kernel
theorem dX10_planNow_169 : decode cX10_planNow 169 = .ok (.iaload, 1) := by decide +kernel
theorem dX10_planNow_170 : decode cX10_planNow 170 = .ok (.iload 5, 2) := by decide +kernel
theorem dX10_planNow_172 : decode cX10_planNow 172 = .ok (.if_icmp .ge 7, 3) := by decide +kernel
theorem dX10_planNow_175 : decode cX10_planNow 175 = .ok (.iconst 1, 1) := by decide +kernel
theorem dX10_planNow_176 : decode cX10_planNow 176 = .ok (.goto 4, 3) := by decide +kernel
theorem dX10_planNow_179 : decode cX10_planNow 179 = .ok (.iconst 0, 1) := by decide +kernel
theorem dX10_planNow_180 : decode cX10_planNow 180 = .ok (.istore 8, 2) := by decide +kernel
theorem dX10_planNow_182 : decode cX10_planNow 182 = .ok (.iload 8, 2) := by decide +kernel
theorem dX10_planNow_184 : decode cX10_planNow 184 = .ok (.ifCond .eq 13, 3) := by decide +kernel
theorem dX10_planNow_187 : decode cX10_planNow 187 = .ok (.aload_n 0, 1) := by decide +kernel
theorem dX10_planNow_188 : decode cX10_planNow 188 = .ok (.getfield 41, 3) := by decide +kernel
theorem dX10_planNow_191 : decode cX10_planNow 191 = .ok (.iload 7, 2) := by decide +kernel
theorem dX10_planNow_193 : decode cX10_planNow 193 = .ok (.iaload, 1) := by decide +kernel
theorem dX10_planNow_194 : decode cX10_planNow 194 = .ok (.goto 5, 3) := by decide +kernel
theorem dX10_planNow_197 : decode cX10_planNow 197 = .ok (.iload 4, 2) := by decide +kernel
theorem dX10_planNow_199 : decode cX10_planNow 199 = .ok (.istore 4, 2) := by decide +kernel
theorem dX10_planNow_201 : decode cX10_planNow 201 = .ok (.iload 8, 2) := by decide +kernel
theorem dX10_planNow_203 : decode cX10_planNow 203 = .ok (.ifCond .eq 13, 3) := by decide +kernel
theorem dX10_planNow_206 : decode cX10_planNow 206 = .ok (.aload_n 0, 1) := by decide +kernel
theorem dX10_planNow_207 : decode cX10_planNow 207 = .ok (.getfield 44, 3) := by decide +kernel
theorem dX10_planNow_210 : decode cX10_planNow 210 = .ok (.iload 7, 2) := by decide +kernel
theorem dX10_planNow_212 : decode cX10_planNow 212 = .ok (.iaload, 1) := by decide +kernel
theorem dX10_planNow_213 : decode cX10_planNow 213 = .ok (.goto 5, 3) := by decide +kernel
theorem dX10_planNow_216 : decode cX10_planNow 216 = .ok (.iload 5, 2) := by decide +kernel
theorem dX10_planNow_218 : decode cX10_planNow 218 = .ok (.istore 5, 2) := by decide +kernel
theorem dX10_planNow_220 : decode cX10_planNow 220 = .ok (.iinc 6 1, 3) := by decide +kernel
theorem dX10_planNow_223 : decode cX10_planNow 223 = .ok (.goto (-111), 3) := by decide +kernel
theorem dX10_planNow_226 : decode cX10_planNow 226 = .ok (.iload 4, 2) := by decide +kernel
theorem dX10_planNow_228 : decode cX10_planNow 228 = .ok (.ldc 164, 2) := by decide +kernel
theorem dX10_planNow_230 : decode cX10_planNow 230 = .ok (.if_icmp .ne 7, 3) := by decide +kernel
theorem dX10_planNow_233 : decode cX10_planNow 233 = .ok (.iconst (-1), 1) := by decide +kernel
theorem dX10_planNow_234 : decode cX10_planNow 234 = .ok (.goto 14, 3) := by decide +kernel
theorem dX10_planNow_237 : decode cX10_planNow 237 = .ok (.iload_n 1, 1) := by decide +kernel
theorem dX10_planNow_238 : decode cX10_planNow 238 = .ok (.ifCond .ne 8, 3) := by decide +kernel
theorem dX10_planNow_241 : decode cX10_planNow 241 = .ok (.iload 4, 2) := by decide +kernel
theorem dX10_planNow_243 : decode cX10_planNow 243 = .ok (.goto 5, 3) := by decide +kernel
theorem dX10_planNow_246 : decode cX10_planNow 246 = .ok (.iload 5, 2) := by decide +kernel
theorem dX10_planNow_248 : decode cX10_planNow 248 = .ok (.ireturn, 1) := by decide +kernel
set_option maxRecDepth 20000 in
theorem ggX10_plan_X10_within : GoodIn wsX10_plan wsX10_within := goodIn_r _ [6] (by decide +kernel) (by decide +kernel)
set_option maxRecDepth 20000 in
theorem gX10_plan_X10_within : GoodIn wsX10_plan (va_wsS RX10 68 yX10_within wsX10_within) := goodIn_app (goodIn_of _ (by decide +kernel)) ggX10_plan_X10_within
set_option maxRecDepth 20000 in
theorem ggX10_plan_X10_planNow : GoodIn wsX10_plan wsX10_planNow := goodIn_r _ [10, 1, 11, 12, 13, 14, 15, 16, 17, 18, 5, 19, 20, 21, 22, 23, 24, 25, 26, 27, 28, 29, 30, 31, 32, 33, 34, 35, 36, 37, 38, 39, 40, 41, 42, 43, 44, 45, 46, 47, 48, 49, 50, 51, 52, 53, 54, 55, 56, 57, 58, 59, 60, 61, 62, 63, 64, 65, 66, 67, 68, 69, 70, 71, 72, 73, 74, 75, 76, 77, 78, 79, 80, 81, 82, 83, 84, 85, 86, 87, 88, 89, 90, 91, 92, 93] (by decide +kernel) (by decide +kernel)
set_option maxRecDepth 20000 in
theorem gX10_plan_X10_planNow : GoodIn wsX10_plan (wsV RX10 168 RX10 yX10_planNow wsX10_planNow) := goodIn_app (goodIn_of _ (by decide +kernel)) ggX10_plan_X10_planNow
theorem dX10_plan_0 : decode cX10_plan 0 = .ok (.iload_n 1, 1) := by decide +kernel
theorem dX10_plan_1 : decode cX10_plan 1 = .ok (.iconst 0, 1) := by decide +kernel
theorem dX10_plan_2 : decode cX10_plan 2 = .ok (.iconst 1, 1) := by decide +kernel
theorem dX10_plan_3 : decode cX10_plan 3 = .ok (.invokestatic 68, 3) := by decide +kernel
theorem dX10_plan_6 : decode cX10_plan 6 = .ok (.ifCond .ne 6, 3) := by decide +kernel
theorem dX10_plan_9 : decode cX10_plan 9 = .ok (.bipush (-102), 2) := by decide +kernel
theorem dX10_plan_11 : decode cX10_plan 11 = .ok (.ireturn, 1) := by decide +kernel
theorem dX10_plan_12 : decode cX10_plan 12 = .ok (.aload_n 0, 1) := by decide +kernel
theorem dX10_plan_13 : decode cX10_plan 13 = .ok (.getfield 101, 3) := by decide +kernel
theorem dX10_plan_16 : decode cX10_plan 16 = .ok (.ifCond .eq 12, 3) := by decide +kernel
theorem dX10_plan_19 : decode cX10_plan 19 = .ok (.aload_n 0, 1) := by decide +kernel
theorem dX10_plan_20 : decode cX10_plan 20 = .ok (.getfield 165, 3) := by decide +kernel
theorem dX10_plan_23 : decode cX10_plan 23 = .ok (.bipush 20, 2) := by decide +kernel
theorem dX10_plan_25 : decode cX10_plan 25 = .ok (.if_icmp .ne 6, 3) := by decide +kernel
theorem dX10_plan_28 : decode cX10_plan 28 = .ok (.bipush (-103), 2) := by decide +kernel
theorem dX10_plan_30 : decode cX10_plan 30 = .ok (.ireturn, 1) := by decide +kernel
theorem dX10_plan_31 : decode cX10_plan 31 = .ok (.aload_n 0, 1) := by decide +kernel
theorem dX10_plan_32 : decode cX10_plan 32 = .ok (.dup, 1) := by decide +kernel
theorem dX10_plan_33 : decode cX10_plan 33 = .ok (.getfield 165, 3) := by decide +kernel
theorem dX10_plan_36 : decode cX10_plan 36 = .ok (.iconst 1, 1) := by decide +kernel
theorem dX10_plan_37 : decode cX10_plan 37 = .ok (.iadd, 1) := by decide +kernel
theorem dX10_plan_38 : decode cX10_plan 38 = .ok (.putfield 165, 3) := by decide +kernel
theorem dX10_plan_41 : decode cX10_plan 41 = .ok (.aload_n 0, 1) := by decide +kernel
theorem dX10_plan_42 : decode cX10_plan 42 = .ok (.iload_n 1, 1) := by decide +kernel
theorem dX10_plan_43 : decode cX10_plan 43 = .ok (.invokevirtual 168, 3) := by decide +kernel
theorem dX10_plan_46 : decode cX10_plan 46 = .ok (.ireturn, 1) := by decide +kernel
set_option maxRecDepth 20000 in
theorem ggX10_sureNow_X10_outAt : GoodIn wsX10_sureNow wsX10_outAt := goodIn_r _ [6, 7, 8, 9, 5, 10, 11, 12, 13, 14, 15, 16, 17, 18, 19, 20, 21, 22, 23, 24, 25, 26, 27, 28, 29, 30, 31, 32, 33, 34, 35, 36, 37, 38, 39, 40, 41, 42, 43, 44, 45, 46, 47, 48, 49, 50, 51, 52, 53, 54, 55, 56, 57, 58, 59] (by decide +kernel) (by decide +kernel)
set_option maxRecDepth 20000 in
theorem gX10_sureNow_X10_outAt : GoodIn wsX10_sureNow (wsV RX10 142 RX10 yX10_outAt wsX10_outAt) := goodIn_app (goodIn_of _ (by decide +kernel)) ggX10_sureNow_X10_outAt
theorem dX10_sureNow_0 : decode cX10_sureNow 0 = .ok (.iconst 0, 1) := by decide +kernel
theorem dX10_sureNow_1 : decode cX10_sureNow 1 = .ok (.istore_n 3, 1) := by decide +kernel
theorem dX10_sureNow_2 : decode cX10_sureNow 2 = .ok (.iload_n 2, 1) := by decide +kernel
theorem dX10_sureNow_3 : decode cX10_sureNow 3 = .ok (.iconst 1, 1) := by decide +kernel
theorem dX10_sureNow_4 : decode cX10_sureNow 4 = .ok (.isub, 1) := by decide +kernel
theorem dX10_sureNow_5 : decode cX10_sureNow 5 = .ok (.istore 4, 2) := by decide +kernel
theorem dX10_sureNow_7 : decode cX10_sureNow 7 = .ok (.iload 4, 2) := by decide +kernel
theorem dX10_sureNow_9 : decode cX10_sureNow 9 = .ok (.iload_n 2, 1) := by decide +kernel
theorem dX10_sureNow_10 : decode cX10_sureNow 10 = .ok (.iconst 1, 1) := by decide +kernel
theorem dX10_sureNow_11 : decode cX10_sureNow 11 = .ok (.iadd, 1) := by decide +kernel
theorem dX10_sureNow_12 : decode cX10_sureNow 12 = .ok (.if_icmp .gt 57, 3) := by decide +kernel
theorem dX10_sureNow_15 : decode cX10_sureNow 15 = .ok (.aload_n 0, 1) := by decide +kernel
theorem dX10_sureNow_16 : decode cX10_sureNow 16 = .ok (.iload_n 1, 1) := by decide +kernel
theorem dX10_sureNow_17 : decode cX10_sureNow 17 = .ok (.aload_n 0, 1) := by decide +kernel
theorem dX10_sureNow_18 : decode cX10_sureNow 18 = .ok (.getfield 116, 3) := by decide +kernel
theorem dX10_sureNow_21 : decode cX10_sureNow 21 = .ok (.iload 4, 2) := by decide +kernel
theorem dX10_sureNow_23 : decode cX10_sureNow 23 = .ok (.iadd, 1) := by decide +kernel
theorem dX10_sureNow_24 : decode cX10_sureNow 24 = .ok (.invokevirtual 142, 3) := by decide +kernel
theorem dX10_sureNow_27 : decode cX10_sureNow 27 = .ok (.bipush 100, 2) := by decide +kernel
theorem dX10_sureNow_29 : decode cX10_sureNow 29 = .ok (.if_icmp .ne 7, 3) := by decide +kernel
theorem dX10_sureNow_32 : decode cX10_sureNow 32 = .ok (.iconst 1, 1) := by decide +kernel
theorem dX10_sureNow_33 : decode cX10_sureNow 33 = .ok (.goto 4, 3) := by decide +kernel
theorem dX10_sureNow_36 : decode cX10_sureNow 36 = .ok (.iconst 0, 1) := by decide +kernel
theorem dX10_sureNow_37 : decode cX10_sureNow 37 = .ok (.istore 5, 2) := by decide +kernel
theorem dX10_sureNow_39 : decode cX10_sureNow 39 = .ok (.iload_n 3, 1) := by decide +kernel
theorem dX10_sureNow_40 : decode cX10_sureNow 40 = .ok (.iload 5, 2) := by decide +kernel
theorem dX10_sureNow_42 : decode cX10_sureNow 42 = .ok (.ifCond .ne 7, 3) := by decide +kernel
theorem dX10_sureNow_45 : decode cX10_sureNow 45 = .ok (.iconst 0, 1) := by decide +kernel
theorem dX10_sureNow_46 : decode cX10_sureNow 46 = .ok (.goto 15, 3) := by decide +kernel
theorem dX10_sureNow_49 : decode cX10_sureNow 49 = .ok (.iload 4, 2) := by decide +kernel
theorem dX10_sureNow_51 : decode cX10_sureNow 51 = .ok (.iload_n 2, 1) := by decide +kernel
theorem dX10_sureNow_52 : decode cX10_sureNow 52 = .ok (.if_icmp .ne 8, 3) := by decide +kernel
theorem dX10_sureNow_55 : decode cX10_sureNow 55 = .ok (.bipush 18, 2) := by decide +kernel
theorem dX10_sureNow_57 : decode cX10_sureNow 57 = .ok (.goto 4, 3) := by decide +kernel
theorem dX10_sureNow_60 : decode cX10_sureNow 60 = .ok (.iconst 1, 1) := by decide +kernel
theorem dX10_sureNow_61 : decode cX10_sureNow 61 = .ok (.iadd, 1) := by decide +kernel
theorem dX10_sureNow_62 : decode cX10_sureNow 62 = .ok (.istore_n 3, 1) := by decide +kernel
theorem dX10_sureNow_63 : decode cX10_sureNow 63 = .ok (.iinc 4 1, 3) := by decide +kernel
theorem dX10_sureNow_66 : decode cX10_sureNow 66 = .ok (.goto (-59), 3) := by decide +kernel
theorem dX10_sureNow_69 : decode cX10_sureNow 69 = .ok (.iload_n 3, 1) := by decide +kernel
theorem dX10_sureNow_70 : decode cX10_sureNow 70 = .ok (.ireturn, 1) := by decide +kernel
set_option maxRecDepth 20000 in
theorem ggX10_sure_X10_isPot : GoodIn wsX10_sure wsX10_isPot := goodIn_r _ [6, 7, 8, 9, 5, 10, 38, 39, 40, 41, 42, 43, 44, 45, 46, 47, 48, 49, 50, 51, 52, 53, 54, 55, 56, 57, 58, 59, 60, 61, 62, 63, 64, 65, 66, 67, 68, 69, 70, 71, 72, 73, 74, 75, 76] (by decide +kernel) (by decide +kernel)
set_option maxRecDepth 20000 in
theorem gX10_sure_X10_isPot : GoodIn wsX10_sure (wsV RX10 145 RX10 yX10_isPot wsX10_isPot) := goodIn_app (goodIn_of _ (by decide +kernel)) ggX10_sure_X10_isPot
set_option maxRecDepth 20000 in
theorem ggX10_sure_X10_within : GoodIn wsX10_sure wsX10_within := goodIn_r _ [10] (by decide +kernel) (by decide +kernel)
set_option maxRecDepth 20000 in
theorem gX10_sure_X10_within : GoodIn wsX10_sure (va_wsS RX10 68 yX10_within wsX10_within) := goodIn_app (goodIn_of _ (by decide +kernel)) ggX10_sure_X10_within
set_option maxRecDepth 20000 in
theorem ggX10_sure_X10_boils : GoodIn wsX10_sure wsX10_boils := goodIn_r _ [14, 15, 38, 39, 40, 41, 42, 43, 44, 45, 46, 47, 48, 49, 50, 51, 52, 53, 54, 55, 56, 57, 58, 59, 60, 61, 62, 63, 64, 65, 66, 67, 68, 69, 70, 71, 72, 73, 74, 75, 76] (by decide +kernel) (by decide +kernel)
set_option maxRecDepth 20000 in
theorem gX10_sure_X10_boils : GoodIn wsX10_sure (wsV RX10 138 RX10 yX10_boils wsX10_boils) := goodIn_app (goodIn_of _ (by decide +kernel)) ggX10_sure_X10_boils
set_option maxRecDepth 20000 in
theorem ggX10_sure_X10_sureNow : GoodIn wsX10_sure wsX10_sureNow := goodIn_r _ [19, 20, 21, 22, 23, 5, 24, 25, 26, 27, 28, 15, 29, 30, 31, 32, 33, 34, 35, 36, 37, 38, 39, 40, 41, 42, 43, 44, 45, 46, 47, 48, 49, 50, 51, 52, 53, 54, 55, 56, 57, 58, 59, 60, 61, 62, 63, 64, 65, 66, 67, 68, 69, 70, 71, 72, 73, 74, 75, 76] (by decide +kernel) (by decide +kernel)
set_option maxRecDepth 20000 in
theorem gX10_sure_X10_sureNow : GoodIn wsX10_sure (wsV RX10 171 RX10 yX10_sureNow wsX10_sureNow) := goodIn_app (goodIn_of _ (by decide +kernel)) ggX10_sure_X10_sureNow
theorem dX10_sure_0 : decode cX10_sure 0 = .ok (.aload_n 0, 1) := by decide +kernel
theorem dX10_sure_1 : decode cX10_sure 1 = .ok (.iload_n 1, 1) := by decide +kernel
theorem dX10_sure_2 : decode cX10_sure 2 = .ok (.invokevirtual 145, 3) := by decide +kernel
theorem dX10_sure_5 : decode cX10_sure 5 = .ok (.ifCond .ne 6, 3) := by decide +kernel
theorem dX10_sure_8 : decode cX10_sure 8 = .ok (.bipush (-101), 2) := by decide +kernel
theorem dX10_sure_10 : decode cX10_sure 10 = .ok (.ireturn, 1) := by decide +kernel
theorem dX10_sure_11 : decode cX10_sure 11 = .ok (.iload_n 2, 1) := by decide +kernel
theorem dX10_sure_12 : decode cX10_sure 12 = .ok (.iconst 1, 1) := by decide +kernel
theorem dX10_sure_13 : decode cX10_sure 13 = .ok (.aload_n 0, 1) := by decide +kernel
theorem dX10_sure_14 : decode cX10_sure 14 = .ok (.getfield 107, 3) := by decide +kernel
theorem dX10_sure_17 : decode cX10_sure 17 = .ok (.invokestatic 68, 3) := by decide +kernel
theorem dX10_sure_20 : decode cX10_sure 20 = .ok (.ifCond .ne 6, 3) := by decide +kernel
theorem dX10_sure_23 : decode cX10_sure 23 = .ok (.bipush (-102), 2) := by decide +kernel
theorem dX10_sure_25 : decode cX10_sure 25 = .ok (.ireturn, 1) := by decide +kernel
theorem dX10_sure_26 : decode cX10_sure 26 = .ok (.aload_n 0, 1) := by decide +kernel
theorem dX10_sure_27 : decode cX10_sure 27 = .ok (.iload_n 1, 1) := by decide +kernel
theorem dX10_sure_28 : decode cX10_sure 28 = .ok (.invokevirtual 138, 3) := by decide +kernel
theorem dX10_sure_31 : decode cX10_sure 31 = .ok (.ifCond .eq 12, 3) := by decide +kernel
theorem dX10_sure_34 : decode cX10_sure 34 = .ok (.aload_n 0, 1) := by decide +kernel
theorem dX10_sure_35 : decode cX10_sure 35 = .ok (.iload_n 1, 1) := by decide +kernel
theorem dX10_sure_36 : decode cX10_sure 36 = .ok (.iload_n 2, 1) := by decide +kernel
theorem dX10_sure_37 : decode cX10_sure 37 = .ok (.invokevirtual 171, 3) := by decide +kernel
theorem dX10_sure_40 : decode cX10_sure 40 = .ok (.goto 5, 3) := by decide +kernel
theorem dX10_sure_43 : decode cX10_sure 43 = .ok (.bipush (-103), 2) := by decide +kernel
theorem dX10_sure_45 : decode cX10_sure 45 = .ok (.ireturn, 1) := by decide +kernel
set_option maxRecDepth 20000 in
theorem ggX10_bestNow_X10_sureNow : GoodIn wsX10_bestNow wsX10_sureNow := goodIn_r _ [6, 7, 8, 9, 10, 5, 11, 12, 13, 14, 15, 16, 17, 18, 19, 20, 21, 22, 23, 24, 25, 26, 27, 28, 29, 30, 31, 32, 33, 34, 35, 36, 37, 38, 39, 40, 41, 42, 43, 44, 45, 46, 47, 48, 49, 50, 51, 52, 53, 54, 55, 56, 57, 58, 59, 60, 61, 62, 63, 64] (by decide +kernel) (by decide +kernel)
set_option maxRecDepth 20000 in
theorem gX10_bestNow_X10_sureNow : GoodIn wsX10_bestNow (wsV RX10 171 RX10 yX10_sureNow wsX10_sureNow) := goodIn_app (goodIn_of _ (by decide +kernel)) ggX10_bestNow_X10_sureNow
theorem dX10_bestNow_0 : decode cX10_bestNow 0 = .ok (.iconst 1, 1) := by decide +kernel
theorem dX10_bestNow_1 : decode cX10_bestNow 1 = .ok (.istore_n 2, 1) := by decide +kernel
theorem dX10_bestNow_2 : decode cX10_bestNow 2 = .ok (.iconst 2, 1) := by decide +kernel
theorem dX10_bestNow_3 : decode cX10_bestNow 3 = .ok (.istore_n 3, 1) := by decide +kernel
theorem dX10_bestNow_4 : decode cX10_bestNow 4 = .ok (.iload_n 3, 1) := by decide +kernel
theorem dX10_bestNow_5 : decode cX10_bestNow 5 = .ok (.aload_n 0, 1) := by decide +kernel
theorem dX10_bestNow_6 : decode cX10_bestNow 6 = .ok (.getfield 107, 3) := by decide +kernel
theorem dX10_bestNow_9 : decode cX10_bestNow 9 = .ok (.if_icmp .gt 30, 3) := by decide +kernel
theorem dX10_bestNow_12 : decode cX10_bestNow 12 = .ok (.aload_n 0, 1) := by decide +kernel
theorem dX10_bestNow_13 : decode cX10_bestNow 13 = .ok (.iload_n 1, 1) := by decide +kernel
theorem dX10_bestNow_14 : decode cX10_bestNow 14 = .ok (.iload_n 3, 1) := by decide +kernel
theorem dX10_bestNow_15 : decode cX10_bestNow 15 = .ok (.invokevirtual 171, 3) := by decide +kernel
theorem dX10_bestNow_18 : decode cX10_bestNow 18 = .ok (.aload_n 0, 1) := by decide +kernel
theorem dX10_bestNow_19 : decode cX10_bestNow 19 = .ok (.iload_n 1, 1) := by decide +kernel
theorem dX10_bestNow_20 : decode cX10_bestNow 20 = .ok (.iload_n 2, 1) := by decide +kernel
theorem dX10_bestNow_21 : decode cX10_bestNow 21 = .ok (.invokevirtual 171, 3) := by decide +kernel
theorem dX10_bestNow_24 : decode cX10_bestNow 24 = .ok (.if_icmp .le 7, 3) := by decide +kernel
theorem dX10_bestNow_27 : decode cX10_bestNow 27 = .ok (.iload_n 3, 1) := by decide +kernel
theorem dX10_bestNow_28 : decode cX10_bestNow 28 = .ok (.goto 4, 3) := by decide +kernel
theorem dX10_bestNow_31 : decode cX10_bestNow 31 = .ok (.iload_n 2, 1) := by decide +kernel
theorem dX10_bestNow_32 : decode cX10_bestNow 32 = .ok (.istore_n 2, 1) := by decide +kernel
theorem dX10_bestNow_33 : decode cX10_bestNow 33 = .ok (.iinc 3 1, 3) := by decide +kernel
theorem dX10_bestNow_36 : decode cX10_bestNow 36 = .ok (.goto (-32), 3) := by decide +kernel
theorem dX10_bestNow_39 : decode cX10_bestNow 39 = .ok (.iload_n 2, 1) := by decide +kernel
theorem dX10_bestNow_40 : decode cX10_bestNow 40 = .ok (.ireturn, 1) := by decide +kernel
set_option maxRecDepth 20000 in
theorem ggX10_best_X10_isPot : GoodIn wsX10_best wsX10_isPot := goodIn_r _ [5, 6, 7, 8, 4, 9, 42, 43, 44, 45, 46, 47, 48, 49, 50, 51, 52, 53, 54, 55, 56, 57, 58, 59, 60, 61, 62, 63, 64, 65, 66, 67, 68, 69, 70, 71, 72, 73, 74, 75, 76, 77, 78, 79, 80] (by decide +kernel) (by decide +kernel)
set_option maxRecDepth 20000 in
theorem gX10_best_X10_isPot : GoodIn wsX10_best (wsV RX10 145 RX10 yX10_isPot wsX10_isPot) := goodIn_app (goodIn_of _ (by decide +kernel)) ggX10_best_X10_isPot
set_option maxRecDepth 20000 in
theorem ggX10_best_X10_boils : GoodIn wsX10_best wsX10_boils := goodIn_r _ [13, 14, 42, 43, 44, 45, 46, 47, 48, 49, 50, 51, 52, 53, 54, 55, 56, 57, 58, 59, 60, 61, 62, 63, 64, 65, 66, 67, 68, 69, 70, 71, 72, 73, 74, 75, 76, 77, 78, 79, 80] (by decide +kernel) (by decide +kernel)
set_option maxRecDepth 20000 in
theorem gX10_best_X10_boils : GoodIn wsX10_best (wsV RX10 138 RX10 yX10_boils wsX10_boils) := goodIn_app (goodIn_of _ (by decide +kernel)) ggX10_best_X10_boils
set_option maxRecDepth 20000 in
theorem ggX10_best_X10_bestNow : GoodIn wsX10_best wsX10_bestNow := goodIn_r _ [18, 19, 20, 21, 22, 4, 23, 24, 25, 26, 27, 28, 29, 30, 31, 32, 14, 33, 34, 35, 36, 37, 38, 39, 40, 41, 42, 43, 44, 45, 46, 47, 48, 49, 50, 51, 52, 53, 54, 55, 56, 57, 58, 59, 60, 61, 62, 63, 64, 65, 66, 67, 68, 69, 70, 71, 72, 73, 74, 75, 76, 77, 78, 79, 80] (by decide +kernel) (by decide +kernel)
set_option maxRecDepth 20000 in
theorem gX10_best_X10_bestNow : GoodIn wsX10_best (wsV RX10 174 RX10 yX10_bestNow wsX10_bestNow) := goodIn_app (goodIn_of _ (by decide +kernel)) ggX10_best_X10_bestNow
theorem dX10_best_0 : decode cX10_best 0 = .ok (.aload_n 0, 1) := by decide +kernel
theorem dX10_best_1 : decode cX10_best 1 = .ok (.iload_n 1, 1) := by decide +kernel
theorem dX10_best_2 : decode cX10_best 2 = .ok (.invokevirtual 145, 3) := by decide +kernel
theorem dX10_best_5 : decode cX10_best 5 = .ok (.ifCond .ne 6, 3) := by decide +kernel
theorem dX10_best_8 : decode cX10_best 8 = .ok (.bipush (-101), 2) := by decide +kernel
theorem dX10_best_10 : decode cX10_best 10 = .ok (.ireturn, 1) := by decide +kernel
theorem dX10_best_11 : decode cX10_best 11 = .ok (.aload_n 0, 1) := by decide +kernel
theorem dX10_best_12 : decode cX10_best 12 = .ok (.iload_n 1, 1) := by decide +kernel
theorem dX10_best_13 : decode cX10_best 13 = .ok (.invokevirtual 138, 3) := by decide +kernel
theorem dX10_best_16 : decode cX10_best 16 = .ok (.ifCond .eq 11, 3) := by decide +kernel
theorem dX10_best_19 : decode cX10_best 19 = .ok (.aload_n 0, 1) := by decide +kernel
theorem dX10_best_20 : decode cX10_best 20 = .ok (.iload_n 1, 1) := by decide +kernel
theorem dX10_best_21 : decode cX10_best 21 = .ok (.invokevirtual 174, 3) := by decide +kernel
theorem dX10_best_24 : decode cX10_best 24 = .ok (.goto 5, 3) := by decide +kernel
theorem dX10_best_27 : decode cX10_best 27 = .ok (.bipush (-103), 2) := by decide +kernel
theorem dX10_best_29 : decode cX10_best 29 = .ok (.ireturn, 1) := by decide +kernel
theorem dX10_togetherNow_0 : decode cX10_togetherNow 0 = .ok (.iload_n 2, 1) := by decide +kernel
theorem dX10_togetherNow_1 : decode cX10_togetherNow 1 = .ok (.aload_n 0, 1) := by decide +kernel
theorem dX10_togetherNow_2 : decode cX10_togetherNow 2 = .ok (.getfield 13, 3) := by decide +kernel
theorem dX10_togetherNow_5 : decode cX10_togetherNow 5 = .ok (.iload_n 1, 1) := by decide +kernel
theorem dX10_togetherNow_6 : decode cX10_togetherNow 6 = .ok (.iaload, 1) := by decide +kernel
theorem dX10_togetherNow_7 : decode cX10_togetherNow 7 = .ok (.isub, 1) := by decide +kernel
theorem dX10_togetherNow_8 : decode cX10_togetherNow 8 = .ok (.aload_n 0, 1) := by decide +kernel
theorem dX10_togetherNow_9 : decode cX10_togetherNow 9 = .ok (.getfield 116, 3) := by decide +kernel
theorem dX10_togetherNow_12 : decode cX10_togetherNow 12 = .ok (.if_icmp .ge 7, 3) := by decide +kernel
theorem dX10_togetherNow_15 : decode cX10_togetherNow 15 = .ok (.iconst (-1), 1) := by decide +kernel
theorem dX10_togetherNow_16 : decode cX10_togetherNow 16 = .ok (.goto 11, 3) := by decide +kernel
theorem dX10_togetherNow_19 : decode cX10_togetherNow 19 = .ok (.iload_n 2, 1) := by decide +kernel
theorem dX10_togetherNow_20 : decode cX10_togetherNow 20 = .ok (.aload_n 0, 1) := by decide +kernel
theorem dX10_togetherNow_21 : decode cX10_togetherNow 21 = .ok (.getfield 13, 3) := by decide +kernel
theorem dX10_togetherNow_24 : decode cX10_togetherNow 24 = .ok (.iload_n 1, 1) := by decide +kernel
theorem dX10_togetherNow_25 : decode cX10_togetherNow 25 = .ok (.iaload, 1) := by decide +kernel
theorem dX10_togetherNow_26 : decode cX10_togetherNow 26 = .ok (.isub, 1) := by decide +kernel
theorem dX10_togetherNow_27 : decode cX10_togetherNow 27 = .ok (.ireturn, 1) := by decide +kernel
set_option maxRecDepth 20000 in
theorem ggX10_together_X10_isPot : GoodIn wsX10_together wsX10_isPot := goodIn_r _ [5, 6, 7, 8, 4, 9, 16, 17, 18, 19, 20, 21, 22, 23, 24, 25, 26, 27, 28, 29, 30, 31, 32, 33, 34, 35, 36, 37, 38, 39, 40, 41, 42, 43, 44, 45, 46, 47, 48, 49, 50, 51, 52, 53, 54] (by decide +kernel) (by decide +kernel)
set_option maxRecDepth 20000 in
theorem gX10_together_X10_isPot : GoodIn wsX10_together (wsV RX10 145 RX10 yX10_isPot wsX10_isPot) := goodIn_app (goodIn_of _ (by decide +kernel)) ggX10_together_X10_isPot
set_option maxRecDepth 20000 in
theorem ggX10_together_X10_within : GoodIn wsX10_together wsX10_within := goodIn_r _ [9] (by decide +kernel) (by decide +kernel)
set_option maxRecDepth 20000 in
theorem gX10_together_X10_within : GoodIn wsX10_together (va_wsS RX10 68 yX10_within wsX10_within) := goodIn_app (goodIn_of _ (by decide +kernel)) ggX10_together_X10_within
set_option maxRecDepth 20000 in
theorem ggX10_together_X10_togetherNow : GoodIn wsX10_together wsX10_togetherNow := goodIn_r _ [13, 14, 15, 16, 17, 18, 19, 20, 21, 22, 23, 24, 25, 26, 27, 28, 29, 30, 31, 32, 33, 34, 35, 36, 37, 38, 39, 40, 41, 42, 43, 44, 45, 46, 47, 48, 49, 50, 51, 52, 53, 54] (by decide +kernel) (by decide +kernel)
set_option maxRecDepth 20000 in
theorem gX10_together_X10_togetherNow : GoodIn wsX10_together (wsV RX10 177 RX10 yX10_togetherNow wsX10_togetherNow) := goodIn_app (goodIn_of _ (by decide +kernel)) ggX10_together_X10_togetherNow
theorem dX10_together_0 : decode cX10_together 0 = .ok (.aload_n 0, 1) := by decide +kernel
theorem dX10_together_1 : decode cX10_together 1 = .ok (.iload_n 1, 1) := by decide +kernel
theorem dX10_together_2 : decode cX10_together 2 = .ok (.invokevirtual 145, 3) := by decide +kernel
theorem dX10_together_5 : decode cX10_together 5 = .ok (.ifCond .ne 6, 3) := by decide +kernel
theorem dX10_together_8 : decode cX10_together 8 = .ok (.bipush (-101), 2) := by decide +kernel
theorem dX10_together_10 : decode cX10_together 10 = .ok (.ireturn, 1) := by decide +kernel
theorem dX10_together_11 : decode cX10_together 11 = .ok (.iload_n 2, 1) := by decide +kernel
theorem dX10_together_12 : decode cX10_together 12 = .ok (.iconst 0, 1) := by decide +kernel
theorem dX10_together_13 : decode cX10_together 13 = .ok (.sipush 1200, 3) := by decide +kernel
theorem dX10_together_16 : decode cX10_together 16 = .ok (.invokestatic 68, 3) := by decide +kernel
theorem dX10_together_19 : decode cX10_together 19 = .ok (.ifCond .eq 12, 3) := by decide +kernel
theorem dX10_together_22 : decode cX10_together 22 = .ok (.aload_n 0, 1) := by decide +kernel
theorem dX10_together_23 : decode cX10_together 23 = .ok (.iload_n 1, 1) := by decide +kernel
theorem dX10_together_24 : decode cX10_together 24 = .ok (.iload_n 2, 1) := by decide +kernel
theorem dX10_together_25 : decode cX10_together 25 = .ok (.invokevirtual 177, 3) := by decide +kernel
theorem dX10_together_28 : decode cX10_together 28 = .ok (.goto 5, 3) := by decide +kernel
theorem dX10_together_31 : decode cX10_together 31 = .ok (.bipush (-102), 2) := by decide +kernel
theorem dX10_together_33 : decode cX10_together 33 = .ok (.ireturn, 1) := by decide +kernel
set_option maxRecDepth 20000 in
theorem ggX10_tell_X10_isPot : GoodIn wsX10_tell wsX10_isPot := goodIn_r _ [11, 12, 13, 14, 10, 15, 31, 32, 33, 34, 35, 36, 37, 38, 39, 40, 41, 42, 43, 44, 45, 46, 47, 48, 49, 50, 51, 52, 53, 54, 55, 56, 57, 58, 59, 60, 61, 62, 63, 64, 65, 66, 67, 68, 69] (by decide +kernel) (by decide +kernel)
set_option maxRecDepth 20000 in
theorem gX10_tell_X10_isPot : GoodIn wsX10_tell (wsV RX10 145 RX10 yX10_isPot wsX10_isPot) := goodIn_app (goodIn_of _ (by decide +kernel)) ggX10_tell_X10_isPot
set_option maxRecDepth 20000 in
theorem ggX10_tell_X10_within : GoodIn wsX10_tell wsX10_within := goodIn_r _ [15] (by decide +kernel) (by decide +kernel)
set_option maxRecDepth 20000 in
theorem gX10_tell_X10_within : GoodIn wsX10_tell (va_wsS RX10 68 yX10_within wsX10_within) := goodIn_app (goodIn_of _ (by decide +kernel)) ggX10_tell_X10_within
set_option maxRecDepth 20000 in
theorem ggX10_tell_X10_boils : GoodIn wsX10_tell wsX10_boils := goodIn_r _ [19, 20, 31, 32, 33, 34, 35, 36, 37, 38, 39, 40, 41, 42, 43, 44, 45, 46, 47, 48, 49, 50, 51, 52, 53, 54, 55, 56, 57, 58, 59, 60, 61, 62, 63, 64, 65, 66, 67, 68, 69] (by decide +kernel) (by decide +kernel)
set_option maxRecDepth 20000 in
theorem gX10_tell_X10_boils : GoodIn wsX10_tell (wsV RX10 138 RX10 yX10_boils wsX10_boils) := goodIn_app (goodIn_of _ (by decide +kernel)) ggX10_tell_X10_boils
set_option maxRecDepth 20000 in
theorem ggX10_tell_X10_dueOf : GoodIn wsX10_tell wsX10_dueOf := goodIn_r _ [24, 20, 25, 31, 32, 33, 34, 35, 36, 37, 38, 39, 40, 41, 42, 43, 44, 45, 46, 47, 48, 49, 50, 51, 52, 53, 54, 55, 56, 57, 58, 59, 60, 61, 62, 63, 64, 65, 66, 67, 68, 69] (by decide +kernel) (by decide +kernel)
set_option maxRecDepth 20000 in
theorem gX10_tell_X10_dueOf : GoodIn wsX10_tell (wsV RX10 128 RX10 yX10_dueOf wsX10_dueOf) := goodIn_app (goodIn_of _ (by decide +kernel)) ggX10_tell_X10_dueOf
set_option maxRecDepth 20000 in
theorem ggX10_tell_X10_keepsOf : GoodIn wsX10_tell wsX10_keepsOf := goodIn_r _ [29, 30, 31, 32, 33, 34, 35, 36, 37, 38, 39, 40, 41, 42, 43, 44, 45, 46, 47, 48, 49, 50, 51, 52, 53, 54, 55, 56, 57, 58, 59, 60, 61, 62, 63, 64, 65, 66, 67, 68, 69] (by decide +kernel) (by decide +kernel)
