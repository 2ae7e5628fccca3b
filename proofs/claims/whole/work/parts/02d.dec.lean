set_option maxRecDepth 20000 in
theorem gX4_byTaking_X4_canTake : GoodIn wsX4_byTaking (va_wsS RX4 79 yX4_canTake wsX4_canTake) := goodIn_app (goodIn_of _ (by decide +kernel)) ggX4_byTaking_X4_canTake
set_option maxRecDepth 20000 in
theorem ggX4_byTaking_X4_fewestAfterTaking : GoodIn wsX4_byTaking wsX4_fewestAfterTaking := goodIn_r _ [19, 20, 21, 22, 7, 23, 24, 25, 26, 27, 28, 29, 30, 31, 32] (by decide +kernel) (by decide +kernel)
set_option maxRecDepth 20000 in
theorem gX4_byTaking_X4_fewestAfterTaking : GoodIn wsX4_byTaking (wsV RX4 83 RX4 yX4_fewestAfterTaking wsX4_fewestAfterTaking) := goodIn_app (goodIn_of _ (by decide +kernel)) ggX4_byTaking_X4_fewestAfterTaking
theorem dX4_byTaking_0 : decode cX4_byTaking 0 = .ok (.sipush 1000, 3) := by decide +kernel
theorem dX4_byTaking_3 : decode cX4_byTaking 3 = .ok (.istore 4, 2) := by decide +kernel
theorem dX4_byTaking_5 : decode cX4_byTaking 5 = .ok (.iconst 0, 1) := by decide +kernel
theorem dX4_byTaking_6 : decode cX4_byTaking 6 = .ok (.istore 5, 2) := by decide +kernel
theorem dX4_byTaking_8 : decode cX4_byTaking 8 = .ok (.iload 5, 2) := by decide +kernel
theorem dX4_byTaking_10 : decode cX4_byTaking 10 = .ok (.iload_n 2, 1) := by decide +kernel
theorem dX4_byTaking_11 : decode cX4_byTaking 11 = .ok (.if_icmp .gt 36, 3) := by decide +kernel
theorem dX4_byTaking_14 : decode cX4_byTaking 14 = .ok (.iload 5, 2) := by decide +kernel
theorem dX4_byTaking_16 : decode cX4_byTaking 16 = .ok (.iload_n 2, 1) := by decide +kernel
theorem dX4_byTaking_17 : decode cX4_byTaking 17 = .ok (.iload_n 3, 1) := by decide +kernel
theorem dX4_byTaking_18 : decode cX4_byTaking 18 = .ok (.invokestatic 79, 3) := by decide +kernel
theorem dX4_byTaking_21 : decode cX4_byTaking 21 = .ok (.ifCond .eq 20, 3) := by decide +kernel
theorem dX4_byTaking_24 : decode cX4_byTaking 24 = .ok (.iload 4, 2) := by decide +kernel
theorem dX4_byTaking_26 : decode cX4_byTaking 26 = .ok (.aload_n 0, 1) := by decide +kernel
theorem dX4_byTaking_27 : decode cX4_byTaking 27 = .ok (.iload_n 1, 1) := by decide +kernel
theorem dX4_byTaking_28 : decode cX4_byTaking 28 = .ok (.iload 5, 2) := by decide +kernel
theorem dX4_byTaking_30 : decode cX4_byTaking 30 = .ok (.iconst (-1), 1) := by decide +kernel
theorem dX4_byTaking_31 : decode cX4_byTaking 31 = .ok (.ixor, 1) := by decide +kernel
theorem dX4_byTaking_32 : decode cX4_byTaking 32 = .ok (.iand, 1) := by decide +kernel
theorem dX4_byTaking_33 : decode cX4_byTaking 33 = .ok (.invokevirtual 83, 3) := by decide +kernel
theorem dX4_byTaking_36 : decode cX4_byTaking 36 = .ok (.invokestatic 46, 3) := by decide +kernel
theorem dX4_byTaking_39 : decode cX4_byTaking 39 = .ok (.istore 4, 2) := by decide +kernel
theorem dX4_byTaking_41 : decode cX4_byTaking 41 = .ok (.iinc 5 1, 3) := by decide +kernel
theorem dX4_byTaking_44 : decode cX4_byTaking 44 = .ok (.goto (-36), 3) := by decide +kernel
theorem dX4_byTaking_47 : decode cX4_byTaking 47 = .ok (.iload 4, 2) := by decide +kernel
theorem dX4_byTaking_49 : decode cX4_byTaking 49 = .ok (.ireturn, 1) := by decide +kernel
set_option maxRecDepth 20000 in
theorem ggX4_canTake_J6_bitCount_0f7a4 : GoodIn wsX4_canTake wsJ6_bitCount_0f7a4 := goodIn_r _ [4, 5, 6, 7] (by decide +kernel) (by decide +kernel)
set_option maxRecDepth 20000 in
theorem gX4_canTake_J6_bitCount_0f7a4 : GoodIn wsX4_canTake (va_wsS RX4 86 yJ6_bitCount_0f7a4 wsJ6_bitCount_0f7a4) := goodIn_app (goodIn_of _ (by decide +kernel)) ggX4_canTake_J6_bitCount_0f7a4
theorem dX4_canTake_0 : decode cX4_canTake 0 = .ok (.iload_n 0, 1) := by decide +kernel
theorem dX4_canTake_1 : decode cX4_canTake 1 = .ok (.iload_n 1, 1) := by decide +kernel
theorem dX4_canTake_2 : decode cX4_canTake 2 = .ok (.iconst (-1), 1) := by decide +kernel
theorem dX4_canTake_3 : decode cX4_canTake 3 = .ok (.ixor, 1) := by decide +kernel
theorem dX4_canTake_4 : decode cX4_canTake 4 = .ok (.iand, 1) := by decide +kernel
theorem dX4_canTake_5 : decode cX4_canTake 5 = .ok (.ifCond .ne 15, 3) := by decide +kernel
theorem dX4_canTake_8 : decode cX4_canTake 8 = .ok (.iload_n 0, 1) := by decide +kernel
theorem dX4_canTake_9 : decode cX4_canTake 9 = .ok (.invokestatic 86, 3) := by decide +kernel
theorem dX4_canTake_12 : decode cX4_canTake 12 = .ok (.iload_n 2, 1) := by decide +kernel
theorem dX4_canTake_13 : decode cX4_canTake 13 = .ok (.if_icmp .gt 7, 3) := by decide +kernel
theorem dX4_canTake_16 : decode cX4_canTake 16 = .ok (.iconst 1, 1) := by decide +kernel
theorem dX4_canTake_17 : decode cX4_canTake 17 = .ok (.goto 4, 3) := by decide +kernel
theorem dX4_canTake_20 : decode cX4_canTake 20 = .ok (.iconst 0, 1) := by decide +kernel
theorem dX4_canTake_21 : decode cX4_canTake 21 = .ok (.ireturn, 1) := by decide +kernel
set_option maxRecDepth 20000 in
theorem ggX4_howFew_X4_allPots : GoodIn wsX4_howFew wsX4_allPots := goodIn_r _ [5, 6, 18, 19, 20, 21, 22, 23, 24, 25, 26] (by decide +kernel) (by decide +kernel)
set_option maxRecDepth 20000 in
theorem gX4_howFew_X4_allPots : GoodIn wsX4_howFew (wsV RX4 61 RX4 yX4_allPots wsX4_allPots) := goodIn_app (goodIn_of _ (by decide +kernel)) ggX4_howFew_X4_allPots
set_option maxRecDepth 20000 in
theorem ggX4_howFew_X4_fewestAt : GoodIn wsX4_howFew wsX4_fewestAt := goodIn_r _ [10, 11, 12, 13, 4, 14, 15, 16, 17, 18, 19, 20, 21, 22, 23, 24, 25, 26] (by decide +kernel) (by decide +kernel)
set_option maxRecDepth 20000 in
theorem gX4_howFew_X4_fewestAt : GoodIn wsX4_howFew (wsV RX4 76 RX4 yX4_fewestAt wsX4_fewestAt) := goodIn_app (goodIn_of _ (by decide +kernel)) ggX4_howFew_X4_fewestAt
theorem dX4_howFew_0 : decode cX4_howFew 0 = .ok (.aload_n 0, 1) := by decide +kernel
theorem dX4_howFew_1 : decode cX4_howFew 1 = .ok (.iconst 0, 1) := by decide +kernel
theorem dX4_howFew_2 : decode cX4_howFew 2 = .ok (.aload_n 0, 1) := by decide +kernel
theorem dX4_howFew_3 : decode cX4_howFew 3 = .ok (.invokevirtual 61, 3) := by decide +kernel
theorem dX4_howFew_6 : decode cX4_howFew 6 = .ok (.invokevirtual 76, 3) := by decide +kernel
theorem dX4_howFew_9 : decode cX4_howFew 9 = .ok (.istore_n 1, 1) := by decide +kernel
theorem dX4_howFew_10 : decode cX4_howFew 10 = .ok (.iload_n 1, 1) := by decide +kernel
theorem dX4_howFew_11 : decode cX4_howFew 11 = .ok (.sipush 1000, 3) := by decide +kernel
theorem dX4_howFew_14 : decode cX4_howFew 14 = .ok (.if_icmp .ne 7, 3) := by decide +kernel
theorem dX4_howFew_17 : decode cX4_howFew 17 = .ok (.iconst (-1), 1) := by decide +kernel
theorem dX4_howFew_18 : decode cX4_howFew 18 = .ok (.goto 4, 3) := by decide +kernel
theorem dX4_howFew_21 : decode cX4_howFew 21 = .ok (.iload_n 1, 1) := by decide +kernel
theorem dX4_howFew_22 : decode cX4_howFew 22 = .ok (.ireturn, 1) := by decide +kernel
set_option maxRecDepth 20000 in
theorem ggX4_first_X4_howFew : GoodIn wsX4_first wsX4_howFew := goodIn_r _ [7, 8, 9, 10, 6, 11, 12, 13, 14, 15, 16, 17, 18, 19, 20, 21, 22, 23, 45, 46, 47, 48, 49, 50, 51, 52, 53] (by decide +kernel) (by decide +kernel)
set_option maxRecDepth 20000 in
theorem gX4_first_X4_howFew : GoodIn wsX4_first (wsV RX4 91 RX4 yX4_howFew wsX4_howFew) := goodIn_app (goodIn_of _ (by decide +kernel)) ggX4_first_X4_howFew
set_option maxRecDepth 20000 in
theorem ggX4_first_X4_leadsOn : GoodIn wsX4_first wsX4_leadsOn := goodIn_r _ [27, 28, 29, 30, 31, 6, 32, 12, 33, 34, 35, 36, 37, 38, 39, 40, 41, 42, 43, 44, 8, 9, 10, 11, 13, 14, 15, 16, 17, 18, 19, 20, 21, 22, 23, 45, 46, 47, 48, 49, 50, 51, 52, 53] (by decide +kernel) (by decide +kernel)
set_option maxRecDepth 20000 in
theorem gX4_first_X4_leadsOn : GoodIn wsX4_first (wsV RX4 94 RX4 yX4_leadsOn wsX4_leadsOn) := goodIn_app (goodIn_of _ (by decide +kernel)) ggX4_first_X4_leadsOn
theorem dX4_first_0 : decode cX4_first 0 = .ok (.aload_n 0, 1) := by decide +kernel
theorem dX4_first_1 : decode cX4_first 1 = .ok (.invokevirtual 91, 3) := by decide +kernel
theorem dX4_first_4 : decode cX4_first 4 = .ok (.istore_n 1, 1) := by decide +kernel
theorem dX4_first_5 : decode cX4_first 5 = .ok (.iload_n 1, 1) := by decide +kernel
theorem dX4_first_6 : decode cX4_first 6 = .ok (.ifCond .gt 5, 3) := by decide +kernel
theorem dX4_first_9 : decode cX4_first 9 = .ok (.iconst (-1), 1) := by decide +kernel
theorem dX4_first_10 : decode cX4_first 10 = .ok (.ireturn, 1) := by decide +kernel
theorem dX4_first_11 : decode cX4_first 11 = .ok (.iconst 1, 1) := by decide +kernel
theorem dX4_first_12 : decode cX4_first 12 = .ok (.istore_n 2, 1) := by decide +kernel
theorem dX4_first_13 : decode cX4_first 13 = .ok (.iload_n 2, 1) := by decide +kernel
theorem dX4_first_14 : decode cX4_first 14 = .ok (.aload_n 0, 1) := by decide +kernel
theorem dX4_first_15 : decode cX4_first 15 = .ok (.getfield 31, 3) := by decide +kernel
theorem dX4_first_18 : decode cX4_first 18 = .ok (.if_icmp .gt 30, 3) := by decide +kernel
theorem dX4_first_21 : decode cX4_first 21 = .ok (.iload_n 2, 1) := by decide +kernel
theorem dX4_first_22 : decode cX4_first 22 = .ok (.aload_n 0, 1) := by decide +kernel
theorem dX4_first_23 : decode cX4_first 23 = .ok (.getfield 28, 3) := by decide +kernel
theorem dX4_first_26 : decode cX4_first 26 = .ok (.if_icmp .gt 22, 3) := by decide +kernel
theorem dX4_first_29 : decode cX4_first 29 = .ok (.aload_n 0, 1) := by decide +kernel
theorem dX4_first_30 : decode cX4_first 30 = .ok (.iload_n 2, 1) := by decide +kernel
theorem dX4_first_31 : decode cX4_first 31 = .ok (.iload_n 1, 1) := by decide +kernel
theorem dX4_first_32 : decode cX4_first 32 = .ok (.iconst 1, 1) := by decide +kernel
theorem dX4_first_33 : decode cX4_first 33 = .ok (.isub, 1) := by decide +kernel
theorem dX4_first_34 : decode cX4_first 34 = .ok (.invokevirtual 94, 3) := by decide +kernel
theorem dX4_first_37 : decode cX4_first 37 = .ok (.ifCond .eq 5, 3) := by decide +kernel
theorem dX4_first_40 : decode cX4_first 40 = .ok (.iload_n 2, 1) := by decide +kernel
theorem dX4_first_41 : decode cX4_first 41 = .ok (.ireturn, 1) := by decide +kernel
theorem dX4_first_42 : decode cX4_first 42 = .ok (.iinc 2 1, 3) := by decide +kernel
theorem dX4_first_45 : decode cX4_first 45 = .ok (.goto (-32), 3) := by decide +kernel
theorem dX4_first_48 : decode cX4_first 48 = .ok (.iconst (-1), 1) := by decide +kernel
theorem dX4_first_49 : decode cX4_first 49 = .ok (.ireturn, 1) := by decide +kernel
set_option maxRecDepth 20000 in
theorem ggX4_leadsOn_X4_goodAt : GoodIn wsX4_leadsOn wsX4_goodAt := goodIn_r _ [6, 7, 8, 9, 35, 36, 37, 38, 39, 40, 41, 42, 43] (by decide +kernel) (by decide +kernel)
set_option maxRecDepth 20000 in
theorem gX4_leadsOn_X4_goodAt : GoodIn wsX4_leadsOn (wsV RX4 65 RX4 yX4_goodAt wsX4_goodAt) := goodIn_app (goodIn_of _ (by decide +kernel)) ggX4_leadsOn_X4_goodAt
set_option maxRecDepth 20000 in
theorem ggX4_leadsOn_X4_canTake : GoodIn wsX4_leadsOn wsX4_canTake := goodIn_r _ [12, 13, 14, 15, 16, 17, 18, 19] (by decide +kernel) (by decide +kernel)
set_option maxRecDepth 20000 in
theorem gX4_leadsOn_X4_canTake : GoodIn wsX4_leadsOn (va_wsS RX4 79 yX4_canTake wsX4_canTake) := goodIn_app (goodIn_of _ (by decide +kernel)) ggX4_leadsOn_X4_canTake
set_option maxRecDepth 20000 in
theorem ggX4_leadsOn_X4_allPots : GoodIn wsX4_leadsOn wsX4_allPots := goodIn_r _ [23, 7, 35, 36, 37, 38, 39, 40, 41, 42, 43] (by decide +kernel) (by decide +kernel)
set_option maxRecDepth 20000 in
theorem gX4_leadsOn_X4_allPots : GoodIn wsX4_leadsOn (wsV RX4 61 RX4 yX4_allPots wsX4_allPots) := goodIn_app (goodIn_of _ (by decide +kernel)) ggX4_leadsOn_X4_allPots
set_option maxRecDepth 20000 in
theorem ggX4_leadsOn_X4_fewestAt : GoodIn wsX4_leadsOn wsX4_fewestAt := goodIn_r _ [27, 28, 29, 30, 5, 31, 32, 33, 34, 35, 36, 37, 38, 39, 40, 41, 42, 43] (by decide +kernel) (by decide +kernel)
set_option maxRecDepth 20000 in
theorem gX4_leadsOn_X4_fewestAt : GoodIn wsX4_leadsOn (wsV RX4 76 RX4 yX4_fewestAt wsX4_fewestAt) := goodIn_app (goodIn_of _ (by decide +kernel)) ggX4_leadsOn_X4_fewestAt
theorem dX4_leadsOn_0 : decode cX4_leadsOn 0 = .ok (.aload_n 0, 1) := by decide +kernel
theorem dX4_leadsOn_1 : decode cX4_leadsOn 1 = .ok (.iconst 0, 1) := by decide +kernel
theorem dX4_leadsOn_2 : decode cX4_leadsOn 2 = .ok (.invokevirtual 65, 3) := by decide +kernel
theorem dX4_leadsOn_5 : decode cX4_leadsOn 5 = .ok (.istore_n 3, 1) := by decide +kernel
theorem dX4_leadsOn_6 : decode cX4_leadsOn 6 = .ok (.iconst 0, 1) := by decide +kernel
theorem dX4_leadsOn_7 : decode cX4_leadsOn 7 = .ok (.istore 4, 2) := by decide +kernel
theorem dX4_leadsOn_9 : decode cX4_leadsOn 9 = .ok (.iload 4, 2) := by decide +kernel
theorem dX4_leadsOn_11 : decode cX4_leadsOn 11 = .ok (.iload_n 3, 1) := by decide +kernel
theorem dX4_leadsOn_12 : decode cX4_leadsOn 12 = .ok (.if_icmp .gt 42, 3) := by decide +kernel
theorem dX4_leadsOn_15 : decode cX4_leadsOn 15 = .ok (.iload 4, 2) := by decide +kernel
theorem dX4_leadsOn_17 : decode cX4_leadsOn 17 = .ok (.iload_n 3, 1) := by decide +kernel
theorem dX4_leadsOn_18 : decode cX4_leadsOn 18 = .ok (.aload_n 0, 1) := by decide +kernel
theorem dX4_leadsOn_19 : decode cX4_leadsOn 19 = .ok (.getfield 37, 3) := by decide +kernel
theorem dX4_leadsOn_22 : decode cX4_leadsOn 22 = .ok (.invokestatic 79, 3) := by decide +kernel
theorem dX4_leadsOn_25 : decode cX4_leadsOn 25 = .ok (.ifCond .eq 23, 3) := by decide +kernel
theorem dX4_leadsOn_28 : decode cX4_leadsOn 28 = .ok (.aload_n 0, 1) := by decide +kernel
theorem dX4_leadsOn_29 : decode cX4_leadsOn 29 = .ok (.iload_n 1, 1) := by decide +kernel
theorem dX4_leadsOn_30 : decode cX4_leadsOn 30 = .ok (.aload_n 0, 1) := by decide +kernel
theorem dX4_leadsOn_31 : decode cX4_leadsOn 31 = .ok (.invokevirtual 61, 3) := by decide +kernel
theorem dX4_leadsOn_34 : decode cX4_leadsOn 34 = .ok (.iload 4, 2) := by decide +kernel
theorem dX4_leadsOn_36 : decode cX4_leadsOn 36 = .ok (.iconst (-1), 1) := by decide +kernel
theorem dX4_leadsOn_37 : decode cX4_leadsOn 37 = .ok (.ixor, 1) := by decide +kernel
theorem dX4_leadsOn_38 : decode cX4_leadsOn 38 = .ok (.iand, 1) := by decide +kernel
theorem dX4_leadsOn_39 : decode cX4_leadsOn 39 = .ok (.invokevirtual 76, 3) := by decide +kernel
theorem dX4_leadsOn_42 : decode cX4_leadsOn 42 = .ok (.iload_n 2, 1) := by decide +kernel
theorem dX4_leadsOn_43 : decode cX4_leadsOn 43 = .ok (.if_icmp .ne 5, 3) := by decide +kernel
theorem dX4_leadsOn_46 : decode cX4_leadsOn 46 = .ok (.iconst 1, 1) := by decide +kernel
theorem dX4_leadsOn_47 : decode cX4_leadsOn 47 = .ok (.ireturn, 1) := by decide +kernel
theorem dX4_leadsOn_48 : decode cX4_leadsOn 48 = .ok (.iinc 4 1, 3) := by decide +kernel
theorem dX4_leadsOn_51 : decode cX4_leadsOn 51 = .ok (.goto (-42), 3) := by decide +kernel
theorem dX4_leadsOn_54 : decode cX4_leadsOn 54 = .ok (.iconst 0, 1) := by decide +kernel
theorem dX4_leadsOn_55 : decode cX4_leadsOn 55 = .ok (.ireturn, 1) := by decide +kernel
theorem dX5_init_0 : decode cX5_init 0 = .ok (.aload_n 0, 1) := by decide +kernel
theorem dX5_init_1 : decode cX5_init 1 = .ok (.invokespecial 3, 3) := by decide +kernel
theorem dX5_init_4 : decode cX5_init 4 = .ok (.aload_n 0, 1) := by decide +kernel
theorem dX5_init_5 : decode cX5_init 5 = .ok (.iconst (-1), 1) := by decide +kernel
theorem dX5_init_6 : decode cX5_init 6 = .ok (.putfield 9, 3) := by decide +kernel
theorem dX5_init_9 : decode cX5_init 9 = .ok (.aload_n 0, 1) := by decide +kernel
theorem dX5_init_10 : decode cX5_init 10 = .ok (.iconst (-1), 1) := by decide +kernel
theorem dX5_init_11 : decode cX5_init 11 = .ok (.putfield 15, 3) := by decide +kernel
theorem dX5_init_14 : decode cX5_init 14 = .ok (.aload_n 0, 1) := by decide +kernel
theorem dX5_init_15 : decode cX5_init 15 = .ok (.iconst (-1), 1) := by decide +kernel
theorem dX5_init_16 : decode cX5_init 16 = .ok (.putfield 18, 3) := by decide +kernel
theorem dX5_init_19 : decode cX5_init 19 = .ok (.aload_n 0, 1) := by decide +kernel
theorem dX5_init_20 : decode cX5_init 20 = .ok (.iconst (-1), 1) := by decide +kernel
theorem dX5_init_21 : decode cX5_init 21 = .ok (.putfield 21, 3) := by decide +kernel
theorem dX5_init_24 : decode cX5_init 24 = .ok (.aload_n 0, 1) := by decide +kernel
theorem dX5_init_25 : decode cX5_init 25 = .ok (.iload_n 1, 1) := by decide +kernel
theorem dX5_init_26 : decode cX5_init 26 = .ok (.putfield 24, 3) := by decide +kernel
theorem dX5_init_29 : decode cX5_init 29 = .ok (.return_, 1) := by decide +kernel
theorem dX5_kind_0 : decode cX5_kind 0 = .ok (.iconst 0, 1) := by decide +kernel
theorem dX5_kind_1 : decode cX5_kind 1 = .ok (.ireturn, 1) := by decide +kernel
theorem dX5_keeps_0 : decode cX5_keeps 0 = .ok (.iconst 0, 1) := by decide +kernel
theorem dX5_keeps_1 : decode cX5_keeps 1 = .ok (.ireturn, 1) := by decide +kernel
theorem dX5_boils_0 : decode cX5_boils 0 = .ok (.aload_n 0, 1) := by decide +kernel
theorem dX5_boils_1 : decode cX5_boils 1 = .ok (.getfield 9, 3) := by decide +kernel
theorem dX5_boils_4 : decode cX5_boils 4 = .ok (.iconst (-1), 1) := by decide +kernel
theorem dX5_boils_5 : decode cX5_boils 5 = .ok (.if_icmp .eq 7, 3) := by decide +kernel
theorem dX5_boils_8 : decode cX5_boils 8 = .ok (.iconst 1, 1) := by decide +kernel
theorem dX5_boils_9 : decode cX5_boils 9 = .ok (.goto 4, 3) := by decide +kernel
theorem dX5_boils_12 : decode cX5_boils 12 = .ok (.iconst 0, 1) := by decide +kernel
theorem dX5_boils_13 : decode cX5_boils 13 = .ok (.ireturn, 1) := by decide +kernel
theorem dX5_due_0 : decode cX5_due 0 = .ok (.aload_n 0, 1) := by decide +kernel
theorem dX5_due_1 : decode cX5_due 1 = .ok (.getfield 9, 3) := by decide +kernel
theorem dX5_due_4 : decode cX5_due 4 = .ok (.aload_n 0, 1) := by decide +kernel
theorem dX5_due_5 : decode cX5_due 5 = .ok (.getfield 24, 3) := by decide +kernel
theorem dX5_due_8 : decode cX5_due 8 = .ok (.iadd, 1) := by decide +kernel
theorem dX5_due_9 : decode cX5_due 9 = .ok (.ireturn, 1) := by decide +kernel
set_option maxRecDepth 20000 in
theorem ggX5_outAt_X5_due : GoodIn wsX5_outAt wsX5_due := goodIn_r _ [6, 7, 8, 43, 44, 45, 46, 47, 48, 49, 50, 51, 52, 53, 54, 55, 56, 57, 58, 59, 60, 61, 62, 63, 64, 65, 66, 67, 68, 69, 70, 71, 72, 73, 74, 75, 76, 77] (by decide +kernel) (by decide +kernel)
set_option maxRecDepth 20000 in
theorem gX5_outAt_X5_due_u27X0 : GoodIn wsX5_outAt (va_wsU RX5 27 RX0 "OneTimer$Pot" ⟨"OneTimer$Pot", "due", "()I"⟩ yX5_due wsX5_due) := goodIn_app (goodIn_of _ (by decide +kernel)) ggX5_outAt_X5_due
set_option maxRecDepth 20000 in
theorem gX5_outAt_X5_due_u27X2 : GoodIn wsX5_outAt (va_wsU RX5 27 RX2 "OneTimer$Pot" ⟨"OneTimer$Pot", "due", "()I"⟩ yX5_due wsX5_due) := goodIn_app (goodIn_of _ (by decide +kernel)) ggX5_outAt_X5_due
set_option maxRecDepth 20000 in
theorem gX5_outAt_X5_due : GoodIn wsX5_outAt (wsV RX5 27 RX5 yX5_due wsX5_due) := goodIn_app (goodIn_of _ (by decide +kernel)) ggX5_outAt_X5_due
set_option maxRecDepth 20000 in
theorem gX5_outAt_X5_due_u27X6 : GoodIn wsX5_outAt (va_wsU RX5 27 RX6 "OneTimer$Pot" ⟨"OneTimer$Pot", "due", "()I"⟩ yX5_due wsX5_due) := goodIn_app (goodIn_of _ (by decide +kernel)) ggX5_outAt_X5_due
set_option maxRecDepth 20000 in
theorem gX5_outAt_X5_due_u27X7 : GoodIn wsX5_outAt (va_wsU RX5 27 RX7 "OneTimer$Pot" ⟨"OneTimer$Pot", "due", "()I"⟩ yX5_due wsX5_due) := goodIn_app (goodIn_of _ (by decide +kernel)) ggX5_outAt_X5_due
set_option maxRecDepth 20000 in
theorem ggX5_outAt_X0_keeps : GoodIn wsX5_outAt wsX0_keeps := goodIn_r _ [20, 21, 22, 23, 24, 25, 26] (by decide +kernel) (by decide +kernel)
set_option maxRecDepth 20000 in
theorem gX5_outAt_X0_keeps_u31X0 : GoodIn wsX5_outAt (va_wsO RX5 31 RX0 "OneTimer$Pot" ⟨"OneTimer$Pot", "keeps", "()I"⟩ yX0_keeps wsX0_keeps) := goodIn_app (goodIn_of _ (by decide +kernel)) ggX5_outAt_X0_keeps
set_option maxRecDepth 20000 in
theorem ggX5_outAt_X2_keeps : GoodIn wsX5_outAt wsX2_keeps := goodIn_r _ [31] (by decide +kernel) (by decide +kernel)
set_option maxRecDepth 20000 in
theorem gX5_outAt_X2_keeps_u31X2 : GoodIn wsX5_outAt (va_wsO RX5 31 RX2 "OneTimer$Pot" ⟨"OneTimer$Pot", "keeps", "()I"⟩ yX2_keeps wsX2_keeps) := goodIn_app (goodIn_of _ (by decide +kernel)) ggX5_outAt_X2_keeps
set_option maxRecDepth 20000 in
theorem ggX5_outAt_X5_keeps : GoodIn wsX5_outAt wsX5_keeps := goodIn_r _ [27] (by decide +kernel) (by decide +kernel)
set_option maxRecDepth 20000 in
theorem gX5_outAt_X5_keeps : GoodIn wsX5_outAt (wsV RX5 31 RX5 yX5_keeps wsX5_keeps) := goodIn_app (goodIn_of _ (by decide +kernel)) ggX5_outAt_X5_keeps
set_option maxRecDepth 20000 in
theorem ggX5_outAt_X6_keeps : GoodIn wsX5_outAt wsX6_keeps := goodIn_r _ [26] (by decide +kernel) (by decide +kernel)
set_option maxRecDepth 20000 in
theorem gX5_outAt_X6_keeps_u31X6 : GoodIn wsX5_outAt (va_wsO RX5 31 RX6 "OneTimer$Pot" ⟨"OneTimer$Pot", "keeps", "()I"⟩ yX6_keeps wsX6_keeps) := goodIn_app (goodIn_of _ (by decide +kernel)) ggX5_outAt_X6_keeps
set_option maxRecDepth 20000 in
theorem ggX5_outAt_X7_keeps : GoodIn wsX5_outAt wsX7_keeps := goodIn_r _ [39] (by decide +kernel) (by decide +kernel)
set_option maxRecDepth 20000 in
theorem gX5_outAt_X7_keeps_u31X7 : GoodIn wsX5_outAt (va_wsO RX5 31 RX7 "OneTimer$Pot" ⟨"OneTimer$Pot", "keeps", "()I"⟩ yX7_keeps wsX7_keeps) := goodIn_app (goodIn_of _ (by decide +kernel)) ggX5_outAt_X7_keeps
set_option maxRecDepth 20000 in
theorem ggX5_outAt_X9_outBy : GoodIn wsX5_outAt wsX9_outBy := goodIn_r _ [42] (by decide +kernel) (by decide +kernel)
set_option maxRecDepth 20000 in
theorem gX5_outAt_X9_outBy_n34 : GoodIn wsX5_outAt (wsX9_outBy) := ggX5_outAt_X9_outBy
theorem dX5_outAt_0 : decode cX5_outAt 0 = .ok (.iload_n 1, 1) := by decide +kernel
theorem dX5_outAt_1 : decode cX5_outAt 1 = .ok (.aload_n 0, 1) := by decide +kernel
theorem dX5_outAt_2 : decode cX5_outAt 2 = .ok (.invokevirtual 27, 3) := by decide +kernel
theorem dX5_outAt_5 : decode cX5_outAt 5 = .ok (.isub, 1) := by decide +kernel
theorem dX5_outAt_6 : decode cX5_outAt 6 = .ok (.aload_n 0, 1) := by decide +kernel
theorem dX5_outAt_7 : decode cX5_outAt 7 = .ok (.invokevirtual 31, 3) := by decide +kernel
theorem dX5_outAt_10 : decode cX5_outAt 10 = .ok (.invokestatic 34, 3) := by decide +kernel
theorem dX5_outAt_13 : decode cX5_outAt 13 = .ok (.ireturn, 1) := by decide +kernel
set_option maxRecDepth 20000 in
theorem ggX5_comeOut_X5_outAt : GoodIn wsX5_comeOut wsX5_outAt := goodIn_r _ [9, 10, 11, 12, 13, 8, 14, 3, 15, 16, 17, 18, 19, 20, 21, 22, 23, 24, 25, 26, 27, 28, 29, 30, 31, 32, 33, 34, 35, 36, 37, 38, 39, 40, 41, 42, 43, 44, 45, 46, 47, 48, 49, 55, 56, 57, 58, 59, 60, 61, 62, 63, 64, 65, 66, 67, 68, 69, 70, 71, 72, 73, 74, 75, 76, 77, 78, 79, 80, 81, 82, 83, 84, 85, 86, 87, 88, 89] (by decide +kernel) (by decide +kernel)
set_option maxRecDepth 20000 in
theorem gX5_comeOut_X5_outAt_u38X0 : GoodIn wsX5_comeOut (va_wsU RX5 38 RX0 "OneTimer$Pot" ⟨"OneTimer$Pot", "outAt", "(I)I"⟩ yX5_outAt wsX5_outAt) := goodIn_app (goodIn_of _ (by decide +kernel)) ggX5_comeOut_X5_outAt
set_option maxRecDepth 20000 in
theorem gX5_comeOut_X5_outAt_u38X2 : GoodIn wsX5_comeOut (va_wsU RX5 38 RX2 "OneTimer$Pot" ⟨"OneTimer$Pot", "outAt", "(I)I"⟩ yX5_outAt wsX5_outAt) := goodIn_app (goodIn_of _ (by decide +kernel)) ggX5_comeOut_X5_outAt
set_option maxRecDepth 20000 in
theorem gX5_comeOut_X5_outAt : GoodIn wsX5_comeOut (wsV RX5 38 RX5 yX5_outAt wsX5_outAt) := goodIn_app (goodIn_of _ (by decide +kernel)) ggX5_comeOut_X5_outAt
set_option maxRecDepth 20000 in
theorem gX5_comeOut_X5_outAt_u38X6 : GoodIn wsX5_comeOut (va_wsU RX5 38 RX6 "OneTimer$Pot" ⟨"OneTimer$Pot", "outAt", "(I)I"⟩ yX5_outAt wsX5_outAt) := goodIn_app (goodIn_of _ (by decide +kernel)) ggX5_comeOut_X5_outAt
set_option maxRecDepth 20000 in
theorem gX5_comeOut_X5_outAt_u38X7 : GoodIn wsX5_comeOut (va_wsU RX5 38 RX7 "OneTimer$Pot" ⟨"OneTimer$Pot", "outAt", "(I)I"⟩ yX5_outAt wsX5_outAt) := goodIn_app (goodIn_of _ (by decide +kernel)) ggX5_comeOut_X5_outAt
theorem dX5_comeOut_0 : decode cX5_comeOut 0 = .ok (.aload_n 0, 1) := by decide +kernel
theorem dX5_comeOut_1 : decode cX5_comeOut 1 = .ok (.aload_n 0, 1) := by decide +kernel
theorem dX5_comeOut_2 : decode cX5_comeOut 2 = .ok (.iload_n 1, 1) := by decide +kernel
theorem dX5_comeOut_3 : decode cX5_comeOut 3 = .ok (.invokevirtual 38, 3) := by decide +kernel
theorem dX5_comeOut_6 : decode cX5_comeOut 6 = .ok (.putfield 15, 3) := by decide +kernel
theorem dX5_comeOut_9 : decode cX5_comeOut 9 = .ok (.aload_n 0, 1) := by decide +kernel
theorem dX5_comeOut_10 : decode cX5_comeOut 10 = .ok (.dup, 1) := by decide +kernel
theorem dX5_comeOut_11 : decode cX5_comeOut 11 = .ok (.getfield 42, 3) := by decide +kernel
theorem dX5_comeOut_14 : decode cX5_comeOut 14 = .ok (.iconst 1, 1) := by decide +kernel
theorem dX5_comeOut_15 : decode cX5_comeOut 15 = .ok (.iadd, 1) := by decide +kernel
theorem dX5_comeOut_16 : decode cX5_comeOut 16 = .ok (.putfield 42, 3) := by decide +kernel
theorem dX5_comeOut_19 : decode cX5_comeOut 19 = .ok (.aload_n 0, 1) := by decide +kernel
theorem dX5_comeOut_20 : decode cX5_comeOut 20 = .ok (.iconst (-1), 1) := by decide +kernel
theorem dX5_comeOut_21 : decode cX5_comeOut 21 = .ok (.putfield 9, 3) := by decide +kernel
theorem dX5_comeOut_24 : decode cX5_comeOut 24 = .ok (.return_, 1) := by decide +kernel
set_option maxRecDepth 20000 in
theorem ggX5_sureAt_X5_outAt : GoodIn wsX5_sureAt wsX5_outAt := goodIn_r _ [6, 7, 8, 9, 10, 5, 11, 12, 13, 14, 15, 16, 17, 18, 19, 20, 21, 22, 23, 24, 25, 26, 27, 28, 29, 30, 31, 32, 33, 34, 35, 36, 37, 38, 39, 40, 41, 42, 43, 44, 45, 46, 47, 53, 54, 55, 56, 57, 58, 59, 60, 61, 62, 63, 64, 65, 66, 67, 68, 69, 70, 71, 72, 73, 74, 75, 76, 77, 78, 79, 80, 81, 82, 83, 84, 85, 86, 87] (by decide +kernel) (by decide +kernel)
set_option maxRecDepth 20000 in
theorem gX5_sureAt_X5_outAt_u38X0 : GoodIn wsX5_sureAt (va_wsU RX5 38 RX0 "OneTimer$Pot" ⟨"OneTimer$Pot", "outAt", "(I)I"⟩ yX5_outAt wsX5_outAt) := goodIn_app (goodIn_of _ (by decide +kernel)) ggX5_sureAt_X5_outAt
set_option maxRecDepth 20000 in
theorem gX5_sureAt_X5_outAt_u38X2 : GoodIn wsX5_sureAt (va_wsU RX5 38 RX2 "OneTimer$Pot" ⟨"OneTimer$Pot", "outAt", "(I)I"⟩ yX5_outAt wsX5_outAt) := goodIn_app (goodIn_of _ (by decide +kernel)) ggX5_sureAt_X5_outAt
set_option maxRecDepth 20000 in
theorem gX5_sureAt_X5_outAt : GoodIn wsX5_sureAt (wsV RX5 38 RX5 yX5_outAt wsX5_outAt) := goodIn_app (goodIn_of _ (by decide +kernel)) ggX5_sureAt_X5_outAt
set_option maxRecDepth 20000 in
theorem gX5_sureAt_X5_outAt_u38X6 : GoodIn wsX5_sureAt (va_wsU RX5 38 RX6 "OneTimer$Pot" ⟨"OneTimer$Pot", "outAt", "(I)I"⟩ yX5_outAt wsX5_outAt) := goodIn_app (goodIn_of _ (by decide +kernel)) ggX5_sureAt_X5_outAt
set_option maxRecDepth 20000 in
theorem gX5_sureAt_X5_outAt_u38X7 : GoodIn wsX5_sureAt (va_wsU RX5 38 RX7 "OneTimer$Pot" ⟨"OneTimer$Pot", "outAt", "(I)I"⟩ yX5_outAt wsX5_outAt) := goodIn_app (goodIn_of _ (by decide +kernel)) ggX5_sureAt_X5_outAt
theorem dX5_sureAt_0 : decode cX5_sureAt 0 = .ok (.aload_n 0, 1) := by decide +kernel
theorem dX5_sureAt_1 : decode cX5_sureAt 1 = .ok (.iload_n 1, 1) := by decide +kernel
theorem dX5_sureAt_2 : decode cX5_sureAt 2 = .ok (.invokevirtual 38, 3) := by decide +kernel
theorem dX5_sureAt_5 : decode cX5_sureAt 5 = .ok (.bipush 100, 2) := by decide +kernel
theorem dX5_sureAt_7 : decode cX5_sureAt 7 = .ok (.if_icmp .ne 8, 3) := by decide +kernel
theorem dX5_sureAt_10 : decode cX5_sureAt 10 = .ok (.bipush 18, 2) := by decide +kernel
theorem dX5_sureAt_12 : decode cX5_sureAt 12 = .ok (.goto 4, 3) := by decide +kernel
theorem dX5_sureAt_15 : decode cX5_sureAt 15 = .ok (.iconst 0, 1) := by decide +kernel
theorem dX5_sureAt_16 : decode cX5_sureAt 16 = .ok (.istore_n 2, 1) := by decide +kernel
theorem dX5_sureAt_17 : decode cX5_sureAt 17 = .ok (.iload_n 2, 1) := by decide +kernel
theorem dX5_sureAt_18 : decode cX5_sureAt 18 = .ok (.aload_n 0, 1) := by decide +kernel
theorem dX5_sureAt_19 : decode cX5_sureAt 19 = .ok (.iload_n 1, 1) := by decide +kernel
theorem dX5_sureAt_20 : decode cX5_sureAt 20 = .ok (.iconst 1, 1) := by decide +kernel
theorem dX5_sureAt_21 : decode cX5_sureAt 21 = .ok (.isub, 1) := by decide +kernel
theorem dX5_sureAt_22 : decode cX5_sureAt 22 = .ok (.invokevirtual 38, 3) := by decide +kernel
theorem dX5_sureAt_25 : decode cX5_sureAt 25 = .ok (.bipush 100, 2) := by decide +kernel
theorem dX5_sureAt_27 : decode cX5_sureAt 27 = .ok (.if_icmp .ne 7, 3) := by decide +kernel
theorem dX5_sureAt_30 : decode cX5_sureAt 30 = .ok (.iconst 1, 1) := by decide +kernel
theorem dX5_sureAt_31 : decode cX5_sureAt 31 = .ok (.goto 4, 3) := by decide +kernel
theorem dX5_sureAt_34 : decode cX5_sureAt 34 = .ok (.iconst 0, 1) := by decide +kernel
theorem dX5_sureAt_35 : decode cX5_sureAt 35 = .ok (.iadd, 1) := by decide +kernel
theorem dX5_sureAt_36 : decode cX5_sureAt 36 = .ok (.istore_n 2, 1) := by decide +kernel
theorem dX5_sureAt_37 : decode cX5_sureAt 37 = .ok (.iload_n 2, 1) := by decide +kernel
theorem dX5_sureAt_38 : decode cX5_sureAt 38 = .ok (.aload_n 0, 1) := by decide +kernel
theorem dX5_sureAt_39 : decode cX5_sureAt 39 = .ok (.iload_n 1, 1) := by decide +kernel
theorem dX5_sureAt_40 : decode cX5_sureAt 40 = .ok (.iconst 1, 1) := by decide +kernel
theorem dX5_sureAt_41 : decode cX5_sureAt 41 = .ok (.iadd, 1) := by decide +kernel
theorem dX5_sureAt_42 : decode cX5_sureAt 42 = .ok (.invokevirtual 38, 3) := by decide +kernel
theorem dX5_sureAt_45 : decode cX5_sureAt 45 = .ok (.bipush 100, 2) := by decide +kernel
theorem dX5_sureAt_47 : decode cX5_sureAt 47 = .ok (.if_icmp .ne 7, 3) := by decide +kernel
theorem dX5_sureAt_50 : decode cX5_sureAt 50 = .ok (.iconst 1, 1) := by decide +kernel
theorem dX5_sureAt_51 : decode cX5_sureAt 51 = .ok (.goto 4, 3) := by decide +kernel
theorem dX5_sureAt_54 : decode cX5_sureAt 54 = .ok (.iconst 0, 1) := by decide +kernel
theorem dX5_sureAt_55 : decode cX5_sureAt 55 = .ok (.iadd, 1) := by decide +kernel
theorem dX5_sureAt_56 : decode cX5_sureAt 56 = .ok (.istore_n 2, 1) := by decide +kernel
theorem dX5_sureAt_57 : decode cX5_sureAt 57 = .ok (.iload_n 2, 1) := by decide +kernel
theorem dX5_sureAt_58 : decode cX5_sureAt 58 = .ok (.ireturn, 1) := by decide +kernel
theorem dX5_keepImage_0 : decode cX5_keepImage 0 = .ok (.aload_n 0, 1) := by decide +kernel
theorem dX5_keepImage_1 : decode cX5_keepImage 1 = .ok (.aload_n 0, 1) := by decide +kernel
theorem dX5_keepImage_2 : decode cX5_keepImage 2 = .ok (.getfield 9, 3) := by decide +kernel
theorem dX5_keepImage_5 : decode cX5_keepImage 5 = .ok (.putfield 18, 3) := by decide +kernel
theorem dX5_keepImage_8 : decode cX5_keepImage 8 = .ok (.aload_n 0, 1) := by decide +kernel
theorem dX5_keepImage_9 : decode cX5_keepImage 9 = .ok (.aload_n 0, 1) := by decide +kernel
theorem dX5_keepImage_10 : decode cX5_keepImage 10 = .ok (.getfield 42, 3) := by decide +kernel
theorem dX5_keepImage_13 : decode cX5_keepImage 13 = .ok (.putfield 45, 3) := by decide +kernel
theorem dX5_keepImage_16 : decode cX5_keepImage 16 = .ok (.aload_n 0, 1) := by decide +kernel
theorem dX5_keepImage_17 : decode cX5_keepImage 17 = .ok (.aload_n 0, 1) := by decide +kernel
theorem dX5_keepImage_18 : decode cX5_keepImage 18 = .ok (.getfield 15, 3) := by decide +kernel
theorem dX5_keepImage_21 : decode cX5_keepImage 21 = .ok (.putfield 21, 3) := by decide +kernel
theorem dX5_keepImage_24 : decode cX5_keepImage 24 = .ok (.return_, 1) := by decide +kernel
theorem dX5_goBack_0 : decode cX5_goBack 0 = .ok (.aload_n 0, 1) := by decide +kernel
theorem dX5_goBack_1 : decode cX5_goBack 1 = .ok (.aload_n 0, 1) := by decide +kernel
theorem dX5_goBack_2 : decode cX5_goBack 2 = .ok (.getfield 18, 3) := by decide +kernel
theorem dX5_goBack_5 : decode cX5_goBack 5 = .ok (.putfield 9, 3) := by decide +kernel
theorem dX5_goBack_8 : decode cX5_goBack 8 = .ok (.aload_n 0, 1) := by decide +kernel
theorem dX5_goBack_9 : decode cX5_goBack 9 = .ok (.aload_n 0, 1) := by decide +kernel
theorem dX5_goBack_10 : decode cX5_goBack 10 = .ok (.getfield 45, 3) := by decide +kernel
theorem dX5_goBack_13 : decode cX5_goBack 13 = .ok (.putfield 42, 3) := by decide +kernel
theorem dX5_goBack_16 : decode cX5_goBack 16 = .ok (.aload_n 0, 1) := by decide +kernel
theorem dX5_goBack_17 : decode cX5_goBack 17 = .ok (.aload_n 0, 1) := by decide +kernel
theorem dX5_goBack_18 : decode cX5_goBack 18 = .ok (.getfield 21, 3) := by decide +kernel
theorem dX5_goBack_21 : decode cX5_goBack 21 = .ok (.putfield 15, 3) := by decide +kernel
theorem dX5_goBack_24 : decode cX5_goBack 24 = .ok (.return_, 1) := by decide +kernel
set_option maxRecDepth 20000 in
theorem ggX6_init_X5_init : GoodIn wsX6_init wsX5_init := goodIn_r _ [4, 5, 6, 7, 8, 9, 10, 11, 12, 13, 14, 15, 16, 17, 18, 19, 20, 21, 22, 23, 24, 25, 26, 27, 28, 29, 30, 31, 32, 33, 34, 35, 36, 37, 38, 39, 40, 41, 42, 43, 44, 45, 46, 47] (by decide +kernel) (by decide +kernel)
set_option maxRecDepth 20000 in
theorem gX6_init_X5_init : GoodIn wsX6_init (wsX5_init) := ggX6_init_X5_init
theorem dX6_init_0 : decode cX6_init 0 = .ok (.aload_n 0, 1) := by decide +kernel
theorem dX6_init_1 : decode cX6_init 1 = .ok (.iload_n 1, 1) := by decide +kernel
theorem dX6_init_2 : decode cX6_init 2 = .ok (.invokespecial 1, 3) := by decide +kernel
theorem dX6_init_5 : decode cX6_init 5 = .ok (.return_, 1) := by decide +kernel
theorem dX6_kind_0 : decode cX6_kind 0 = .ok (.iconst 2, 1) := by decide +kernel
theorem dX6_kind_1 : decode cX6_kind 1 = .ok (.ireturn, 1) := by decide +kernel
theorem dX6_keeps_0 : decode cX6_keeps 0 = .ok (.iconst 3, 1) := by decide +kernel
theorem dX6_keeps_1 : decode cX6_keeps 1 = .ok (.ireturn, 1) := by decide +kernel
set_option maxRecDepth 20000 in
theorem ggX7_init_X5_init : GoodIn wsX7_init wsX5_init := goodIn_r _ [4, 5, 6, 7, 8, 9, 10, 11, 12, 13, 14, 15, 16, 17, 18, 19, 20, 21, 22, 23, 24, 25, 26, 27, 28, 29, 30, 31, 32, 33, 34, 35, 36, 37, 38, 39, 40, 41, 42, 43, 44, 45, 46, 47] (by decide +kernel) (by decide +kernel)
set_option maxRecDepth 20000 in
theorem gX7_init_X5_init : GoodIn wsX7_init (wsX5_init) := ggX7_init_X5_init
theorem dX7_init_0 : decode cX7_init 0 = .ok (.aload_n 0, 1) := by decide +kernel
theorem dX7_init_1 : decode cX7_init 1 = .ok (.iload_n 1, 1) := by decide +kernel
theorem dX7_init_2 : decode cX7_init 2 = .ok (.invokespecial 1, 3) := by decide +kernel
theorem dX7_init_5 : decode cX7_init 5 = .ok (.return_, 1) := by decide +kernel
theorem dX7_kind_0 : decode cX7_kind 0 = .ok (.iconst 3, 1) := by decide +kernel
theorem dX7_kind_1 : decode cX7_kind 1 = .ok (.ireturn, 1) := by decide +kernel
theorem dX7_keeps_0 : decode cX7_keeps 0 = .ok (.bipush 9, 2) := by decide +kernel
theorem dX7_keeps_2 : decode cX7_keeps 2 = .ok (.ireturn, 1) := by decide +kernel
theorem dX8_init_0 : decode cX8_init 0 = .ok (.aload_n 0, 1) := by decide +kernel
theorem dX8_init_1 : decode cX8_init 1 = .ok (.invokespecial 1, 3) := by decide +kernel
theorem dX8_init_4 : decode cX8_init 4 = .ok (.aload_n 0, 1) := by decide +kernel
theorem dX8_init_5 : decode cX8_init 5 = .ok (.bipush 6, 2) := by decide +kernel
theorem dX8_init_7 : decode cX8_init 7 = .ok (.newarray .int, 2) := by decide +kernel
theorem dX8_init_9 : decode cX8_init 9 = .ok (.putfield 9, 3) := by decide +kernel
theorem dX8_init_12 : decode cX8_init 12 = .ok (.aload_n 0, 1) := by decide +kernel
theorem dX8_init_13 : decode cX8_init 13 = .ok (.bipush 6, 2) := by decide +kernel
theorem dX8_init_15 : decode cX8_init 15 = .ok (.newarray .int, 2) := by decide +kernel
theorem dX8_init_17 : decode cX8_init 17 = .ok (.putfield 13, 3) := by decide +kernel
theorem dX8_init_20 : decode cX8_init 20 = .ok (.aload_n 0, 1) := by decide +kernel
theorem dX8_init_21 : decode cX8_init 21 = .ok (.bipush 6, 2) := by decide +kernel
theorem dX8_init_23 : decode cX8_init 23 = .ok (.newarray .int, 2) := by decide +kernel
theorem dX8_init_25 : decode cX8_init 25 = .ok (.putfield 16, 3) := by decide +kernel
theorem dX8_init_28 : decode cX8_init 28 = .ok (.return_, 1) := by decide +kernel
theorem dX8_add_0 : decode cX8_add 0 = .ok (.aload_n 0, 1) := by decide +kernel
theorem dX8_add_1 : decode cX8_add 1 = .ok (.getfield 19, 3) := by decide +kernel
theorem dX8_add_4 : decode cX8_add 4 = .ok (.ifCond .lt 12, 3) := by decide +kernel
theorem dX8_add_7 : decode cX8_add 7 = .ok (.aload_n 0, 1) := by decide +kernel
theorem dX8_add_8 : decode cX8_add 8 = .ok (.getfield 19, 3) := by decide +kernel
theorem dX8_add_11 : decode cX8_add 11 = .ok (.bipush 6, 2) := by decide +kernel
theorem dX8_add_13 : decode cX8_add 13 = .ok (.if_icmp .lt 5, 3) := by decide +kernel
theorem dX8_add_16 : decode cX8_add 16 = .ok (.iconst 0, 1) := by decide +kernel
theorem dX8_add_17 : decode cX8_add 17 = .ok (.ireturn, 1) := by decide +kernel
theorem dX8_add_18 : decode cX8_add 18 = .ok (.aload_n 0, 1) := by decide +kernel
theorem dX8_add_19 : decode cX8_add 19 = .ok (.getfield 9, 3) := by decide +kernel
theorem dX8_add_22 : decode cX8_add 22 = .ok (.aload_n 0, 1) := by decide +kernel
theorem dX8_add_23 : decode cX8_add 23 = .ok (.getfield 19, 3) := by decide +kernel
theorem dX8_add_26 : decode cX8_add 26 = .ok (.iload_n 1, 1) := by decide +kernel
theorem dX8_add_27 : decode cX8_add 27 = .ok (.iastore, 1) := by decide +kernel
theorem dX8_add_28 : decode cX8_add 28 = .ok (.aload_n 0, 1) := by decide +kernel
theorem dX8_add_29 : decode cX8_add 29 = .ok (.getfield 13, 3) := by decide +kernel
theorem dX8_add_32 : decode cX8_add 32 = .ok (.aload_n 0, 1) := by decide +kernel
theorem dX8_add_33 : decode cX8_add 33 = .ok (.getfield 19, 3) := by decide +kernel
theorem dX8_add_36 : decode cX8_add 36 = .ok (.iload_n 2, 1) := by decide +kernel
theorem dX8_add_37 : decode cX8_add 37 = .ok (.iastore, 1) := by decide +kernel
theorem dX8_add_38 : decode cX8_add 38 = .ok (.aload_n 0, 1) := by decide +kernel
theorem dX8_add_39 : decode cX8_add 39 = .ok (.getfield 16, 3) := by decide +kernel
theorem dX8_add_42 : decode cX8_add 42 = .ok (.aload_n 0, 1) := by decide +kernel
theorem dX8_add_43 : decode cX8_add 43 = .ok (.getfield 19, 3) := by decide +kernel
theorem dX8_add_46 : decode cX8_add 46 = .ok (.iload_n 3, 1) := by decide +kernel
theorem dX8_add_47 : decode cX8_add 47 = .ok (.iastore, 1) := by decide +kernel
theorem dX8_add_48 : decode cX8_add 48 = .ok (.aload_n 0, 1) := by decide +kernel
theorem dX8_add_49 : decode cX8_add 49 = .ok (.dup, 1) := by decide +kernel
theorem dX8_add_50 : decode cX8_add 50 = .ok (.getfield 19, 3) := by decide +kernel
theorem dX8_add_53 : decode cX8_add 53 = .ok (.iconst 1, 1) := by decide +kernel
theorem dX8_add_54 : decode cX8_add 54 = .ok (.iadd, 1) := by decide +kernel
theorem dX8_add_55 : decode cX8_add 55 = .ok (.putfield 19, 3) := by decide +kernel
theorem dX8_add_58 : decode cX8_add 58 = .ok (.iconst 1, 1) := by decide +kernel
theorem dX8_add_59 : decode cX8_add 59 = .ok (.ireturn, 1) := by decide +kernel
set_option maxRecDepth 20000 in
theorem ggX8_fits_X9_outBy : GoodIn wsX8_fits wsX9_outBy := goodIn_r _ [7] (by decide +kernel) (by decide +kernel)
set_option maxRecDepth 20000 in
theorem gX8_fits_X9_outBy_n23 : GoodIn wsX8_fits (wsX9_outBy) := ggX8_fits_X9_outBy
theorem dX8_fits_0 : decode cX8_fits 0 = .ok (.iconst 0, 1) := by decide +kernel
theorem dX8_fits_1 : decode cX8_fits 1 = .ok (.istore_n 2, 1) := by decide +kernel
theorem dX8_fits_2 : decode cX8_fits 2 = .ok (.iload_n 2, 1) := by decide +kernel
theorem dX8_fits_3 : decode cX8_fits 3 = .ok (.aload_n 0, 1) := by decide +kernel
theorem dX8_fits_4 : decode cX8_fits 4 = .ok (.getfield 19, 3) := by decide +kernel
theorem dX8_fits_7 : decode cX8_fits 7 = .ok (.if_icmp .ge 43, 3) := by decide +kernel
theorem dX8_fits_10 : decode cX8_fits 10 = .ok (.iload_n 2, 1) := by decide +kernel
theorem dX8_fits_11 : decode cX8_fits 11 = .ok (.bipush 6, 2) := by decide +kernel
theorem dX8_fits_13 : decode cX8_fits 13 = .ok (.if_icmp .ge 37, 3) := by decide +kernel
theorem dX8_fits_16 : decode cX8_fits 16 = .ok (.iload_n 1, 1) := by decide +kernel
theorem dX8_fits_17 : decode cX8_fits 17 = .ok (.aload_n 0, 1) := by decide +kernel
theorem dX8_fits_18 : decode cX8_fits 18 = .ok (.getfield 9, 3) := by decide +kernel
theorem dX8_fits_21 : decode cX8_fits 21 = .ok (.iload_n 2, 1) := by decide +kernel
theorem dX8_fits_22 : decode cX8_fits 22 = .ok (.iaload, 1) := by decide +kernel
theorem dX8_fits_23 : decode cX8_fits 23 = .ok (.isub, 1) := by decide +kernel
theorem dX8_fits_24 : decode cX8_fits 24 = .ok (.aload_n 0, 1) := by decide +kernel
theorem dX8_fits_25 : decode cX8_fits 25 = .ok (.getfield 13, 3) := by decide +kernel
theorem dX8_fits_28 : decode cX8_fits 28 = .ok (.iload_n 2, 1) := by decide +kernel
theorem dX8_fits_29 : decode cX8_fits 29 = .ok (.iaload, 1) := by decide +kernel
theorem dX8_fits_30 : decode cX8_fits 30 = .ok (.invokestatic 23, 3) := by decide +kernel
theorem dX8_fits_33 : decode cX8_fits 33 = .ok (.aload_n 0, 1) := by decide +kernel
theorem dX8_fits_34 : decode cX8_fits 34 = .ok (.getfield 16, 3) := by decide +kernel
theorem dX8_fits_37 : decode cX8_fits 37 = .ok (.iload_n 2, 1) := by decide +kernel
theorem dX8_fits_38 : decode cX8_fits 38 = .ok (.iaload, 1) := by decide +kernel
theorem dX8_fits_39 : decode cX8_fits 39 = .ok (.if_icmp .eq 5, 3) := by decide +kernel
theorem dX8_fits_42 : decode cX8_fits 42 = .ok (.iconst 0, 1) := by decide +kernel
theorem dX8_fits_43 : decode cX8_fits 43 = .ok (.ireturn, 1) := by decide +kernel
theorem dX8_fits_44 : decode cX8_fits 44 = .ok (.iinc 2 1, 3) := by decide +kernel
theorem dX8_fits_47 : decode cX8_fits 47 = .ok (.goto (-45), 3) := by decide +kernel
theorem dX8_fits_50 : decode cX8_fits 50 = .ok (.iconst 1, 1) := by decide +kernel
theorem dX8_fits_51 : decode cX8_fits 51 = .ok (.ireturn, 1) := by decide +kernel
theorem dX8_copyFrom_0 : decode cX8_copyFrom 0 = .ok (.iconst 0, 1) := by decide +kernel
theorem dX8_copyFrom_1 : decode cX8_copyFrom 1 = .ok (.istore_n 2, 1) := by decide +kernel
theorem dX8_copyFrom_2 : decode cX8_copyFrom 2 = .ok (.iload_n 2, 1) := by decide +kernel
theorem dX8_copyFrom_3 : decode cX8_copyFrom 3 = .ok (.bipush 6, 2) := by decide +kernel
theorem dX8_copyFrom_5 : decode cX8_copyFrom 5 = .ok (.if_icmp .ge 45, 3) := by decide +kernel
theorem dX8_copyFrom_8 : decode cX8_copyFrom 8 = .ok (.aload_n 0, 1) := by decide +kernel
theorem dX8_copyFrom_9 : decode cX8_copyFrom 9 = .ok (.getfield 9, 3) := by decide +kernel
theorem dX8_copyFrom_12 : decode cX8_copyFrom 12 = .ok (.iload_n 2, 1) := by decide +kernel
theorem dX8_copyFrom_13 : decode cX8_copyFrom 13 = .ok (.aload_n 1, 1) := by decide +kernel
theorem dX8_copyFrom_14 : decode cX8_copyFrom 14 = .ok (.getfield 9, 3) := by decide +kernel
theorem dX8_copyFrom_17 : decode cX8_copyFrom 17 = .ok (.iload_n 2, 1) := by decide +kernel
theorem dX8_copyFrom_18 : decode cX8_copyFrom 18 = .ok (.iaload, 1) := by decide +kernel
theorem dX8_copyFrom_19 : decode cX8_copyFrom 19 = .ok (.iastore, 1) := by decide +kernel
theorem dX8_copyFrom_20 : decode cX8_copyFrom 20 = .ok (.aload_n 0, 1) := by decide +kernel
theorem dX8_copyFrom_21 : decode cX8_copyFrom 21 = .ok (.getfield 13, 3) := by decide +kernel
theorem dX8_copyFrom_24 : decode cX8_copyFrom 24 = .ok (.iload_n 2, 1) := by decide +kernel
theorem dX8_copyFrom_25 : decode cX8_copyFrom 25 = .ok (.aload_n 1, 1) := by decide +kernel
theorem dX8_copyFrom_26 : decode cX8_copyFrom 26 = .ok (.getfield 13, 3) := by decide +kernel
theorem dX8_copyFrom_29 : decode cX8_copyFrom 29 = .ok (.iload_n 2, 1) := by decide +kernel
theorem dX8_copyFrom_30 : decode cX8_copyFrom 30 = .ok (.iaload, 1) := by decide +kernel
theorem dX8_copyFrom_31 : decode cX8_copyFrom 31 = .ok (.iastore, 1) := by decide +kernel
theorem dX8_copyFrom_32 : decode cX8_copyFrom 32 = .ok (.aload_n 0, 1) := by decide +kernel
theorem dX8_copyFrom_33 : decode cX8_copyFrom 33 = .ok (.getfield 16, 3) := by decide +kernel
theorem dX8_copyFrom_36 : decode cX8_copyFrom 36 = .ok (.iload_n 2, 1) := by decide +kernel
theorem dX8_copyFrom_37 : decode cX8_copyFrom 37 = .ok (.aload_n 1, 1) := by decide +kernel
theorem dX8_copyFrom_38 : decode cX8_copyFrom 38 = .ok (.getfield 16, 3) := by decide +kernel
theorem dX8_copyFrom_41 : decode cX8_copyFrom 41 = .ok (.iload_n 2, 1) := by decide +kernel
theorem dX8_copyFrom_42 : decode cX8_copyFrom 42 = .ok (.iaload, 1) := by decide +kernel
theorem dX8_copyFrom_43 : decode cX8_copyFrom 43 = .ok (.iastore, 1) := by decide +kernel
theorem dX8_copyFrom_44 : decode cX8_copyFrom 44 = .ok (.iinc 2 1, 3) := by decide +kernel
theorem dX8_copyFrom_47 : decode cX8_copyFrom 47 = .ok (.goto (-45), 3) := by decide +kernel
theorem dX8_copyFrom_50 : decode cX8_copyFrom 50 = .ok (.aload_n 0, 1) := by decide +kernel
theorem dX8_copyFrom_51 : decode cX8_copyFrom 51 = .ok (.aload_n 1, 1) := by decide +kernel
theorem dX8_copyFrom_52 : decode cX8_copyFrom 52 = .ok (.getfield 19, 3) := by decide +kernel
theorem dX8_copyFrom_55 : decode cX8_copyFrom 55 = .ok (.putfield 19, 3) := by decide +kernel
theorem dX8_copyFrom_58 : decode cX8_copyFrom 58 = .ok (.return_, 1) := by decide +kernel
set_option maxRecDepth 20000 in
theorem ggX9_init_X3_init : GoodIn wsX9_init wsX3_init := goodIn_r _ [24, 25, 2, 3, 26, 27, 44, 45] (by decide +kernel) (by decide +kernel)
set_option maxRecDepth 20000 in
theorem gX9_init_X3_init_n9 : GoodIn wsX9_init (wsX3_init) := ggX9_init_X3_init
set_option maxRecDepth 20000 in
theorem ggX9_init_X8_init : GoodIn wsX9_init wsX8_init := goodIn_r _ [29, 30, 2, 3, 26, 31, 32, 33, 64, 65, 66, 67] (by decide +kernel) (by decide +kernel)
set_option maxRecDepth 20000 in
theorem gX9_init_X8_init_n24 : GoodIn wsX9_init (wsX8_init) := ggX9_init_X8_init
set_option maxRecDepth 20000 in
theorem ggX9_init_X4_init : GoodIn wsX9_init wsX4_init := goodIn_r _ [35, 36, 2, 3, 26, 37, 38, 39, 40, 68, 69, 70, 71, 72, 73, 74, 75, 76] (by decide +kernel) (by decide +kernel)
set_option maxRecDepth 20000 in
theorem gX9_init_X4_init_n34 : GoodIn wsX9_init (wsX4_init) := ggX9_init_X4_init
set_option maxRecDepth 20000 in
theorem ggX9_init_X1_init : GoodIn wsX9_init wsX1_init := goodIn_r _ [42, 43, 2, 3] (by decide +kernel) (by decide +kernel)
set_option maxRecDepth 20000 in
theorem gX9_init_X1_init_n41 : GoodIn wsX9_init (wsX1_init) := ggX9_init_X1_init
theorem dX9_init_0 : decode cX9_init 0 = .ok (.aload_n 0, 1) := by decide +kernel
theorem dX9_init_1 : decode cX9_init 1 = .ok (.invokespecial 1, 3) := by decide +kernel
theorem dX9_init_4 : decode cX9_init 4 = .ok (.aload_n 0, 1) := by decide +kernel
theorem dX9_init_5 : decode cX9_init 5 = .ok (.new 7, 3) := by decide +kernel
theorem dX9_init_8 : decode cX9_init 8 = .ok (.dup, 1) := by decide +kernel
theorem dX9_init_9 : decode cX9_init 9 = .ok (.invokespecial 9, 3) := by decide +kernel
theorem dX9_init_12 : decode cX9_init 12 = .ok (.putfield 10, 3) := by decide +kernel
theorem dX9_init_15 : decode cX9_init 15 = .ok (.aload_n 0, 1) := by decide +kernel
theorem dX9_init_16 : decode cX9_init 16 = .ok (.iconst 4, 1) := by decide +kernel
theorem dX9_init_17 : decode cX9_init 17 = .ok (.anewarray 16, 3) := by decide +kernel
theorem dX9_init_20 : decode cX9_init 20 = .ok (.putfield 18, 3) := by decide +kernel
theorem dX9_init_23 : decode cX9_init 23 = .ok (.aload_n 0, 1) := by decide +kernel
theorem dX9_init_24 : decode cX9_init 24 = .ok (.new 22, 3) := by decide +kernel
theorem dX9_init_27 : decode cX9_init 27 = .ok (.dup, 1) := by decide +kernel
theorem dX9_init_28 : decode cX9_init 28 = .ok (.invokespecial 24, 3) := by decide +kernel
theorem dX9_init_31 : decode cX9_init 31 = .ok (.putfield 25, 3) := by decide +kernel
theorem dX9_init_34 : decode cX9_init 34 = .ok (.aload_n 0, 1) := by decide +kernel
theorem dX9_init_35 : decode cX9_init 35 = .ok (.new 22, 3) := by decide +kernel
theorem dX9_init_38 : decode cX9_init 38 = .ok (.dup, 1) := by decide +kernel
theorem dX9_init_39 : decode cX9_init 39 = .ok (.invokespecial 24, 3) := by decide +kernel
theorem dX9_init_42 : decode cX9_init 42 = .ok (.putfield 29, 3) := by decide +kernel
theorem dX9_init_45 : decode cX9_init 45 = .ok (.aload_n 0, 1) := by decide +kernel
theorem dX9_init_46 : decode cX9_init 46 = .ok (.new 32, 3) := by decide +kernel
theorem dX9_init_49 : decode cX9_init 49 = .ok (.dup, 1) := by decide +kernel
theorem dX9_init_50 : decode cX9_init 50 = .ok (.invokespecial 34, 3) := by decide +kernel
theorem dX9_init_53 : decode cX9_init 53 = .ok (.putfield 35, 3) := by decide +kernel
theorem dX9_init_56 : decode cX9_init 56 = .ok (.aload_n 0, 1) := by decide +kernel
theorem dX9_init_57 : decode cX9_init 57 = .ok (.new 39, 3) := by decide +kernel
theorem dX9_init_60 : decode cX9_init 60 = .ok (.dup, 1) := by decide +kernel
theorem dX9_init_61 : decode cX9_init 61 = .ok (.invokespecial 41, 3) := by decide +kernel
theorem dX9_init_64 : decode cX9_init 64 = .ok (.putfield 42, 3) := by decide +kernel
theorem dX9_init_67 : decode cX9_init 67 = .ok (.return_, 1) := by decide +kernel
set_option maxRecDepth 20000 in
theorem ggX9_letter_X3_write : GoodIn wsX9_letter wsX3_write := goodIn_r _ [7, 8, 9, 28, 29] (by decide +kernel) (by decide +kernel)
set_option maxRecDepth 20000 in
theorem gX9_letter_X3_write : GoodIn wsX9_letter (wsV RX9 46 RX3 yX3_write wsX3_write) := goodIn_app (goodIn_of _ (by decide +kernel)) ggX9_letter_X3_write
theorem dX9_letter_0 : decode cX9_letter 0 = .ok (.iload_n 1, 1) := by decide +kernel
theorem dX9_letter_1 : decode cX9_letter 1 = .ok (.bipush 32, 2) := by decide +kernel
theorem dX9_letter_3 : decode cX9_letter 3 = .ok (.if_icmp .lt 9, 3) := by decide +kernel
theorem dX9_letter_6 : decode cX9_letter 6 = .ok (.iload_n 1, 1) := by decide +kernel
theorem dX9_letter_7 : decode cX9_letter 7 = .ok (.bipush 126, 2) := by decide +kernel
theorem dX9_letter_9 : decode cX9_letter 9 = .ok (.if_icmp .le 6, 3) := by decide +kernel
theorem dX9_letter_12 : decode cX9_letter 12 = .ok (.bipush (-102), 2) := by decide +kernel
theorem dX9_letter_14 : decode cX9_letter 14 = .ok (.ireturn, 1) := by decide +kernel
theorem dX9_letter_15 : decode cX9_letter 15 = .ok (.aload_n 0, 1) := by decide +kernel
theorem dX9_letter_16 : decode cX9_letter 16 = .ok (.getfield 10, 3) := by decide +kernel
theorem dX9_letter_19 : decode cX9_letter 19 = .ok (.iload_n 1, 1) := by decide +kernel
theorem dX9_letter_20 : decode cX9_letter 20 = .ok (.invokevirtual 46, 3) := by decide +kernel
theorem dX9_letter_23 : decode cX9_letter 23 = .ok (.ifCond .eq 13, 3) := by decide +kernel
theorem dX9_letter_26 : decode cX9_letter 26 = .ok (.aload_n 0, 1) := by decide +kernel
theorem dX9_letter_27 : decode cX9_letter 27 = .ok (.getfield 10, 3) := by decide +kernel
theorem dX9_letter_30 : decode cX9_letter 30 = .ok (.getfield 50, 3) := by decide +kernel
theorem dX9_letter_33 : decode cX9_letter 33 = .ok (.goto 5, 3) := by decide +kernel
theorem dX9_letter_36 : decode cX9_letter 36 = .ok (.bipush (-104), 2) := by decide +kernel
theorem dX9_letter_38 : decode cX9_letter 38 = .ok (.ireturn, 1) := by decide +kernel
theorem dX9_blank_0 : decode cX9_blank 0 = .ok (.aload_n 0, 1) := by decide +kernel
theorem dX9_blank_1 : decode cX9_blank 1 = .ok (.getfield 10, 3) := by decide +kernel
theorem dX9_blank_4 : decode cX9_blank 4 = .ok (.getfield 50, 3) := by decide +kernel
theorem dX9_blank_7 : decode cX9_blank 7 = .ok (.istore_n 1, 1) := by decide +kernel
theorem dX9_blank_8 : decode cX9_blank 8 = .ok (.aload_n 0, 1) := by decide +kernel
theorem dX9_blank_9 : decode cX9_blank 9 = .ok (.getfield 10, 3) := by decide +kernel
theorem dX9_blank_12 : decode cX9_blank 12 = .ok (.iconst 0, 1) := by decide +kernel
theorem dX9_blank_13 : decode cX9_blank 13 = .ok (.putfield 50, 3) := by decide +kernel
theorem dX9_blank_16 : decode cX9_blank 16 = .ok (.iload_n 1, 1) := by decide +kernel
theorem dX9_blank_17 : decode cX9_blank 17 = .ok (.ireturn, 1) := by decide +kernel
set_option maxRecDepth 20000 in
theorem ggX9_fault_X3_faultPlace : GoodIn wsX9_fault wsX3_faultPlace := goodIn_r _ [6, 7, 8, 9, 10, 5, 11, 12, 13, 14, 15, 16, 17, 18, 19, 20, 21, 22, 23, 24, 25, 26, 45, 46] (by decide +kernel) (by decide +kernel)
set_option maxRecDepth 20000 in
theorem gX9_fault_X3_faultPlace : GoodIn wsX9_fault (wsV RX9 54 RX3 yX3_faultPlace wsX3_faultPlace) := goodIn_app (goodIn_of _ (by decide +kernel)) ggX9_fault_X3_faultPlace
theorem dX9_fault_0 : decode cX9_fault 0 = .ok (.aload_n 0, 1) := by decide +kernel
theorem dX9_fault_1 : decode cX9_fault 1 = .ok (.getfield 10, 3) := by decide +kernel
theorem dX9_fault_4 : decode cX9_fault 4 = .ok (.invokevirtual 54, 3) := by decide +kernel
theorem dX9_fault_7 : decode cX9_fault 7 = .ok (.ireturn, 1) := by decide +kernel
set_option maxRecDepth 20000 in
theorem ggX9_kitchen_X3_isKitchen : GoodIn wsX9_kitchen wsX3_isKitchen := goodIn_r _ [11, 12, 13, 14, 15, 10, 16, 17, 18, 19, 20, 21, 22, 23, 24, 25, 26, 27, 28, 29, 30, 31, 32, 33, 34, 35, 143, 144] (by decide +kernel) (by decide +kernel)
set_option maxRecDepth 20000 in
theorem gX9_kitchen_X3_isKitchen : GoodIn wsX9_kitchen (wsV RX9 58 RX3 yX3_isKitchen wsX3_isKitchen) := goodIn_app (goodIn_of _ (by decide +kernel)) ggX9_kitchen_X3_isKitchen
set_option maxRecDepth 20000 in
theorem ggX9_kitchen_X9_readPots : GoodIn wsX9_kitchen wsX9_readPots := goodIn_r _ [40, 1, 41, 42, 43, 44, 6, 45, 46, 47, 48, 10, 49, 12, 50, 51, 52, 53, 13, 14, 15, 16, 17, 26, 27, 28, 54, 55, 56, 57, 58, 59, 60, 61, 62, 63, 39, 64, 65, 66, 67, 68, 69, 70, 71, 72, 73, 74, 75, 76, 77, 78, 79, 80, 81, 82, 83, 84, 85, 86, 87, 88, 89, 90, 91, 92, 93, 94, 95, 96, 97, 98, 99, 100, 101, 102, 103, 104, 105, 106, 125, 126, 127, 128, 129, 130, 131, 132, 133, 134, 135, 136, 137, 138, 139, 140, 141, 142, 143, 144, 145, 146, 147, 148, 149, 150, 151, 152, 153, 154, 155, 156, 157, 158, 159, 160, 161, 162, 163, 164, 165, 166, 167, 168, 169, 170, 171, 172, 173, 174, 175, 176, 177, 178, 179] (by decide +kernel) (by decide +kernel)
set_option maxRecDepth 20000 in
theorem gX9_kitchen_X9_readPots : GoodIn wsX9_kitchen (wsV RX9 62 RX9 yX9_readPots wsX9_readPots) := goodIn_app (goodIn_of _ (by decide +kernel)) ggX9_kitchen_X9_readPots
set_option maxRecDepth 20000 in
theorem ggX9_kitchen_X3_springTold : GoodIn wsX9_kitchen wsX3_springTold := goodIn_r _ [110, 12, 58, 59, 60, 10, 61, 13, 14, 15, 16, 17, 143, 144] (by decide +kernel) (by decide +kernel)
set_option maxRecDepth 20000 in
theorem gX9_kitchen_X3_springTold : GoodIn wsX9_kitchen (wsV RX9 65 RX3 yX3_springTold wsX3_springTold) := goodIn_app (goodIn_of _ (by decide +kernel)) ggX9_kitchen_X3_springTold
set_option maxRecDepth 20000 in
theorem ggX9_kitchen_X3_handsTold : GoodIn wsX9_kitchen wsX3_handsTold := goodIn_r _ [114, 12, 13, 14, 15, 10, 16, 17, 143, 144] (by decide +kernel) (by decide +kernel)
set_option maxRecDepth 20000 in
theorem gX9_kitchen_X3_handsTold : GoodIn wsX9_kitchen (wsV RX9 71 RX3 yX3_handsTold wsX3_handsTold) := goodIn_app (goodIn_of _ (by decide +kernel)) ggX9_kitchen_X3_handsTold
set_option maxRecDepth 20000 in
theorem ggX9_kitchen_X9_startEvening : GoodIn wsX9_kitchen wsX9_startEvening := goodIn_r _ [118, 119, 3, 120, 121, 122, 123, 124, 125, 126, 127, 128, 129, 130, 131, 132, 133, 134, 135, 136, 137, 138, 139, 140, 141, 142, 180, 181, 182, 183] (by decide +kernel) (by decide +kernel)
set_option maxRecDepth 20000 in
theorem gX9_kitchen_X9_startEvening : GoodIn wsX9_kitchen (wsV RX9 77 RX9 yX9_startEvening wsX9_startEvening) := goodIn_app (goodIn_of _ (by decide +kernel)) ggX9_kitchen_X9_startEvening
theorem dX9_kitchen_0 : decode cX9_kitchen 0 = .ok (.aload_n 0, 1) := by decide +kernel
theorem dX9_kitchen_1 : decode cX9_kitchen 1 = .ok (.getfield 10, 3) := by decide +kernel
theorem dX9_kitchen_4 : decode cX9_kitchen 4 = .ok (.invokevirtual 58, 3) := by decide +kernel
theorem dX9_kitchen_7 : decode cX9_kitchen 7 = .ok (.ifCond .ne 6, 3) := by decide +kernel
theorem dX9_kitchen_10 : decode cX9_kitchen 10 = .ok (.bipush (-103), 2) := by decide +kernel
theorem dX9_kitchen_12 : decode cX9_kitchen 12 = .ok (.ireturn, 1) := by decide +kernel
theorem dX9_kitchen_13 : decode cX9_kitchen 13 = .ok (.aload_n 0, 1) := by decide +kernel
theorem dX9_kitchen_14 : decode cX9_kitchen 14 = .ok (.invokevirtual 62, 3) := by decide +kernel
theorem dX9_kitchen_17 : decode cX9_kitchen 17 = .ok (.aload_n 0, 1) := by decide +kernel
theorem dX9_kitchen_18 : decode cX9_kitchen 18 = .ok (.aload_n 0, 1) := by decide +kernel
theorem dX9_kitchen_19 : decode cX9_kitchen 19 = .ok (.getfield 10, 3) := by decide +kernel
theorem dX9_kitchen_22 : decode cX9_kitchen 22 = .ok (.invokevirtual 65, 3) := by decide +kernel
theorem dX9_kitchen_25 : decode cX9_kitchen 25 = .ok (.putfield 68, 3) := by decide +kernel
theorem dX9_kitchen_28 : decode cX9_kitchen 28 = .ok (.aload_n 0, 1) := by decide +kernel
theorem dX9_kitchen_29 : decode cX9_kitchen 29 = .ok (.aload_n 0, 1) := by decide +kernel
theorem dX9_kitchen_30 : decode cX9_kitchen 30 = .ok (.getfield 10, 3) := by decide +kernel
theorem dX9_kitchen_33 : decode cX9_kitchen 33 = .ok (.invokevirtual 71, 3) := by decide +kernel
theorem dX9_kitchen_36 : decode cX9_kitchen 36 = .ok (.putfield 74, 3) := by decide +kernel
theorem dX9_kitchen_39 : decode cX9_kitchen 39 = .ok (.aload_n 0, 1) := by decide +kernel
theorem dX9_kitchen_40 : decode cX9_kitchen 40 = .ok (.getfield 10, 3) := by decide +kernel
theorem dX9_kitchen_43 : decode cX9_kitchen 43 = .ok (.iconst 0, 1) := by decide +kernel
theorem dX9_kitchen_44 : decode cX9_kitchen 44 = .ok (.putfield 50, 3) := by decide +kernel
theorem dX9_kitchen_47 : decode cX9_kitchen 47 = .ok (.aload_n 0, 1) := by decide +kernel
theorem dX9_kitchen_48 : decode cX9_kitchen 48 = .ok (.invokevirtual 77, 3) := by decide +kernel
theorem dX9_kitchen_51 : decode cX9_kitchen 51 = .ok (.aload_n 0, 1) := by decide +kernel
theorem dX9_kitchen_52 : decode cX9_kitchen 52 = .ok (.dup, 1) := by decide +kernel
theorem dX9_kitchen_53 : decode cX9_kitchen 53 = .ok (.getfield 80, 3) := by decide +kernel
theorem dX9_kitchen_56 : decode cX9_kitchen 56 = .ok (.iconst 1, 1) := by decide +kernel
theorem dX9_kitchen_57 : decode cX9_kitchen 57 = .ok (.iadd, 1) := by decide +kernel
theorem dX9_kitchen_58 : decode cX9_kitchen 58 = .ok (.putfield 80, 3) := by decide +kernel
theorem dX9_kitchen_61 : decode cX9_kitchen 61 = .ok (.aload_n 0, 1) := by decide +kernel
theorem dX9_kitchen_62 : decode cX9_kitchen 62 = .ok (.getfield 83, 3) := by decide +kernel
theorem dX9_kitchen_65 : decode cX9_kitchen 65 = .ok (.ireturn, 1) := by decide +kernel
set_option maxRecDepth 20000 in
theorem ggX9_readPots_X3_potsTold : GoodIn wsX9_readPots wsX3_potsTold := goodIn_r _ [12, 13, 98, 99] (by decide +kernel) (by decide +kernel)
set_option maxRecDepth 20000 in
theorem gX9_readPots_X3_potsTold : GoodIn wsX9_readPots (wsV RX9 86 RX3 yX3_potsTold wsX3_potsTold) := goodIn_app (goodIn_of _ (by decide +kernel)) ggX9_readPots_X3_potsTold
set_option maxRecDepth 20000 in
theorem ggX9_readPots_X3_kindTold : GoodIn wsX9_readPots wsX3_kindTold := goodIn_r _ [17, 18, 19, 20, 11, 21, 13, 22, 23, 24, 25, 98, 99] (by decide +kernel) (by decide +kernel)
set_option maxRecDepth 20000 in
theorem gX9_readPots_X3_kindTold : GoodIn wsX9_readPots (wsV RX9 95 RX3 yX3_kindTold wsX3_kindTold) := goodIn_app (goodIn_of _ (by decide +kernel)) ggX9_readPots_X3_kindTold
set_option maxRecDepth 20000 in
theorem ggX9_readPots_X3_wantsTold : GoodIn wsX9_readPots wsX3_wantsTold := goodIn_r _ [29, 30, 31, 32, 11, 33, 18, 19, 20, 21, 13, 22, 98, 99] (by decide +kernel) (by decide +kernel)
set_option maxRecDepth 20000 in
theorem gX9_readPots_X3_wantsTold : GoodIn wsX9_readPots (wsV RX9 99 RX3 yX3_wantsTold wsX3_wantsTold) := goodIn_app (goodIn_of _ (by decide +kernel)) ggX9_readPots_X3_wantsTold
set_option maxRecDepth 20000 in
theorem ggX9_readPots_X9_newPot : GoodIn wsX9_readPots wsX9_newPot := goodIn_r _ [37, 38, 39, 40, 41, 42, 43, 44, 45, 46, 47, 48, 49, 50, 51, 52, 53, 54, 55, 56, 57, 58, 59, 60, 61, 62, 63, 64, 65, 66, 67, 68, 69, 70, 71, 72, 73, 74, 75, 76, 77, 78, 79, 100, 101, 102, 103, 104, 105, 106, 107, 108, 109, 110, 111, 112, 113, 114, 115, 116, 117, 118, 119, 120, 121, 122, 123, 124, 125, 126, 127, 128, 129, 130, 131, 132, 133, 134] (by decide +kernel) (by decide +kernel)
set_option maxRecDepth 20000 in
theorem gX9_readPots_X9_newPot : GoodIn wsX9_readPots (va_wsS RX9 102 yX9_newPot wsX9_newPot) := goodIn_app (goodIn_of _ (by decide +kernel)) ggX9_readPots_X9_newPot
theorem dX9_readPots_0 : decode cX9_readPots 0 = .ok (.aload_n 0, 1) := by decide +kernel
theorem dX9_readPots_1 : decode cX9_readPots 1 = .ok (.aload_n 0, 1) := by decide +kernel
theorem dX9_readPots_2 : decode cX9_readPots 2 = .ok (.getfield 10, 3) := by decide +kernel
theorem dX9_readPots_5 : decode cX9_readPots 5 = .ok (.invokevirtual 86, 3) := by decide +kernel
theorem dX9_readPots_8 : decode cX9_readPots 8 = .ok (.iconst 4, 1) := by decide +kernel
theorem dX9_readPots_9 : decode cX9_readPots 9 = .ok (.invokestatic 89, 3) := by decide +kernel
theorem dX9_readPots_12 : decode cX9_readPots 12 = .ok (.putfield 83, 3) := by decide +kernel
theorem dX9_readPots_15 : decode cX9_readPots 15 = .ok (.iconst 0, 1) := by decide +kernel
theorem dX9_readPots_16 : decode cX9_readPots 16 = .ok (.istore_n 1, 1) := by decide +kernel
theorem dX9_readPots_17 : decode cX9_readPots 17 = .ok (.iload_n 1, 1) := by decide +kernel
theorem dX9_readPots_18 : decode cX9_readPots 18 = .ok (.aload_n 0, 1) := by decide +kernel
theorem dX9_readPots_19 : decode cX9_readPots 19 = .ok (.getfield 18, 3) := by decide +kernel
theorem dX9_readPots_22 : decode cX9_readPots 22 = .ok (.arraylength, 1) := by decide +kernel
theorem dX9_readPots_23 : decode cX9_readPots 23 = .ok (.if_icmp .ge 46, 3) := by decide +kernel
theorem dX9_readPots_26 : decode cX9_readPots 26 = .ok (.aload_n 0, 1) := by decide +kernel
theorem dX9_readPots_27 : decode cX9_readPots 27 = .ok (.getfield 18, 3) := by decide +kernel
theorem dX9_readPots_30 : decode cX9_readPots 30 = .ok (.iload_n 1, 1) := by decide +kernel
theorem dX9_readPots_31 : decode cX9_readPots 31 = .ok (.iload_n 1, 1) := by decide +kernel
theorem dX9_readPots_32 : decode cX9_readPots 32 = .ok (.aload_n 0, 1) := by decide +kernel
theorem dX9_readPots_33 : decode cX9_readPots 33 = .ok (.getfield 83, 3) := by decide +kernel
theorem dX9_readPots_36 : decode cX9_readPots 36 = .ok (.if_icmp .ge 25, 3) := by decide +kernel
theorem dX9_readPots_39 : decode cX9_readPots 39 = .ok (.aload_n 0, 1) := by decide +kernel
theorem dX9_readPots_40 : decode cX9_readPots 40 = .ok (.getfield 10, 3) := by decide +kernel
theorem dX9_readPots_43 : decode cX9_readPots 43 = .ok (.iload_n 1, 1) := by decide +kernel
theorem dX9_readPots_44 : decode cX9_readPots 44 = .ok (.invokevirtual 95, 3) := by decide +kernel
theorem dX9_readPots_47 : decode cX9_readPots 47 = .ok (.aload_n 0, 1) := by decide +kernel
theorem dX9_readPots_48 : decode cX9_readPots 48 = .ok (.getfield 10, 3) := by decide +kernel
theorem dX9_readPots_51 : decode cX9_readPots 51 = .ok (.iload_n 1, 1) := by decide +kernel
theorem dX9_readPots_52 : decode cX9_readPots 52 = .ok (.invokevirtual 99, 3) := by decide +kernel
theorem dX9_readPots_55 : decode cX9_readPots 55 = .ok (.invokestatic 102, 3) := by decide +kernel
theorem dX9_readPots_58 : decode cX9_readPots 58 = .ok (.goto 4, 3) := by decide +kernel
theorem dX9_readPots_61 : decode cX9_readPots 61 = .ok (.aconst_null, 1) := by decide +kernel
theorem dX9_readPots_62 : decode cX9_readPots 62 = .ok (.aastore, 1) := by decide +kernel
theorem dX9_readPots_63 : decode cX9_readPots 63 = .ok (.iinc 1 1, 3) := by decide +kernel
theorem dX9_readPots_66 : decode cX9_readPots 66 = .ok (.goto (-49), 3) := by decide +kernel
theorem dX9_readPots_69 : decode cX9_readPots 69 = .ok (.return_, 1) := by decide +kernel
theorem dX9_startEvening_0 : decode cX9_startEvening 0 = .ok (.aload_n 0, 1) := by decide +kernel
theorem dX9_startEvening_1 : decode cX9_startEvening 1 = .ok (.iconst 0, 1) := by decide +kernel
theorem dX9_startEvening_2 : decode cX9_startEvening 2 = .ok (.putfield 106, 3) := by decide +kernel
theorem dX9_startEvening_5 : decode cX9_startEvening 5 = .ok (.aload_n 0, 1) := by decide +kernel
theorem dX9_startEvening_6 : decode cX9_startEvening 6 = .ok (.aload_n 0, 1) := by decide +kernel
theorem dX9_startEvening_7 : decode cX9_startEvening 7 = .ok (.getfield 74, 3) := by decide +kernel
theorem dX9_startEvening_10 : decode cX9_startEvening 10 = .ok (.putfield 109, 3) := by decide +kernel
theorem dX9_startEvening_13 : decode cX9_startEvening 13 = .ok (.aload_n 0, 1) := by decide +kernel
theorem dX9_startEvening_14 : decode cX9_startEvening 14 = .ok (.iconst 0, 1) := by decide +kernel
theorem dX9_startEvening_15 : decode cX9_startEvening 15 = .ok (.putfield 112, 3) := by decide +kernel
theorem dX9_startEvening_18 : decode cX9_startEvening 18 = .ok (.aload_n 0, 1) := by decide +kernel
theorem dX9_startEvening_19 : decode cX9_startEvening 19 = .ok (.getfield 25, 3) := by decide +kernel
theorem dX9_startEvening_22 : decode cX9_startEvening 22 = .ok (.iconst 0, 1) := by decide +kernel
theorem dX9_startEvening_23 : decode cX9_startEvening 23 = .ok (.putfield 115, 3) := by decide +kernel
theorem dX9_startEvening_26 : decode cX9_startEvening 26 = .ok (.aload_n 0, 1) := by decide +kernel
theorem dX9_startEvening_27 : decode cX9_startEvening 27 = .ok (.iconst 0, 1) := by decide +kernel
theorem dX9_startEvening_28 : decode cX9_startEvening 28 = .ok (.putfield 116, 3) := by decide +kernel
theorem dX9_startEvening_31 : decode cX9_startEvening 31 = .ok (.return_, 1) := by decide +kernel
set_option maxRecDepth 20000 in
theorem ggX9_newPot_X2_init : GoodIn wsX9_newPot wsX2_init := goodIn_r _ [18, 19, 20, 15, 21, 22, 23, 24, 25, 26, 27, 28, 29, 64, 65, 66, 67, 68, 69, 70, 43, 44, 45, 46, 47, 48, 49, 71, 72, 73, 74, 75, 76, 77, 50, 51, 52, 53, 54, 55, 56, 57, 58, 59, 60, 61, 62, 63] (by decide +kernel) (by decide +kernel)
set_option maxRecDepth 20000 in
theorem gX9_newPot_X2_init : GoodIn wsX9_newPot (wsX2_init) := ggX9_newPot_X2_init
set_option maxRecDepth 20000 in
theorem ggX9_newPot_X6_init : GoodIn wsX9_newPot wsX6_init := goodIn_r _ [32, 33, 20, 15, 21, 22, 23, 24, 25, 26, 27, 28, 29, 64, 65, 66, 67, 68, 69, 70, 43, 44, 45, 46, 47, 48, 49, 71, 72, 73, 74, 75, 76, 77, 50, 51, 52, 53, 54, 55, 56, 57, 58, 59, 60, 61, 62, 63] (by decide +kernel) (by decide +kernel)
set_option maxRecDepth 20000 in
theorem gX9_newPot_X6_init : GoodIn wsX9_newPot (wsX6_init) := ggX9_newPot_X6_init
set_option maxRecDepth 20000 in
theorem ggX9_newPot_X7_init : GoodIn wsX9_newPot wsX7_init := goodIn_r _ [36, 37, 20, 15, 21, 22, 23, 24, 25, 26, 27, 28, 29, 64, 65, 66, 67, 68, 69, 70, 43, 44, 45, 46, 47, 48, 49, 71, 72, 73, 74, 75, 76, 77, 50, 51, 52, 53, 54, 55, 56, 57, 58, 59, 60, 61, 62, 63] (by decide +kernel) (by decide +kernel)
set_option maxRecDepth 20000 in
theorem gX9_newPot_X7_init : GoodIn wsX9_newPot (wsX7_init) := ggX9_newPot_X7_init
set_option maxRecDepth 20000 in
theorem ggX9_newPot_X0_init : GoodIn wsX9_newPot wsX0_init := goodIn_r _ [40, 41, 31, 6, 32, 33, 20, 15, 21, 22, 23, 24, 25, 26, 27, 28, 29, 64, 65, 66, 67, 68, 69, 70, 43, 44, 45, 46, 47, 48, 49, 71, 72, 73, 74, 75, 76, 77, 50, 51, 52, 53, 54, 55, 56, 57, 58, 59, 60, 61, 62, 63] (by decide +kernel) (by decide +kernel)
set_option maxRecDepth 20000 in
theorem gX9_newPot_X0_init : GoodIn wsX9_newPot (wsX0_init) := ggX9_newPot_X0_init
set_option maxRecDepth 20000 in
theorem ggX9_newPot_X5_init : GoodIn wsX9_newPot wsX5_init := goodIn_r _ [21, 22, 23, 24, 25, 26, 27, 28, 29, 64, 65, 66, 67, 68, 69, 70, 43, 44, 45, 46, 47, 48, 49, 71, 72, 73, 74, 75, 76, 77, 50, 51, 52, 53, 54, 55, 56, 57, 58, 59, 60, 61, 62, 63] (by decide +kernel) (by decide +kernel)
set_option maxRecDepth 20000 in
theorem gX9_newPot_X5_init : GoodIn wsX9_newPot (wsX5_init) := ggX9_newPot_X5_init
theorem dX9_newPot_0 : decode cX9_newPot 0 = .ok (.iload_n 0, 1) := by decide +kernel
theorem dX9_newPot_1 : decode cX9_newPot 1 = .ok (.tableswitch 67 1 4 #[31, 40, 49, 58], 31) := by decide +kernel
theorem dX9_newPot_32 : decode cX9_newPot 32 = .ok (.new 120, 3) := by decide +kernel
theorem dX9_newPot_35 : decode cX9_newPot 35 = .ok (.dup, 1) := by decide +kernel
theorem dX9_newPot_36 : decode cX9_newPot 36 = .ok (.iload_n 1, 1) := by decide +kernel
theorem dX9_newPot_37 : decode cX9_newPot 37 = .ok (.invokespecial 122, 3) := by decide +kernel
theorem dX9_newPot_40 : decode cX9_newPot 40 = .ok (.areturn, 1) := by decide +kernel
theorem dX9_newPot_41 : decode cX9_newPot 41 = .ok (.new 125, 3) := by decide +kernel
theorem dX9_newPot_44 : decode cX9_newPot 44 = .ok (.dup, 1) := by decide +kernel
theorem dX9_newPot_45 : decode cX9_newPot 45 = .ok (.iload_n 1, 1) := by decide +kernel
theorem dX9_newPot_46 : decode cX9_newPot 46 = .ok (.invokespecial 127, 3) := by decide +kernel
theorem dX9_newPot_49 : decode cX9_newPot 49 = .ok (.areturn, 1) := by decide +kernel
theorem dX9_newPot_50 : decode cX9_newPot 50 = .ok (.new 128, 3) := by decide +kernel
theorem dX9_newPot_53 : decode cX9_newPot 53 = .ok (.dup, 1) := by decide +kernel
theorem dX9_newPot_54 : decode cX9_newPot 54 = .ok (.iload_n 1, 1) := by decide +kernel
theorem dX9_newPot_55 : decode cX9_newPot 55 = .ok (.invokespecial 130, 3) := by decide +kernel
theorem dX9_newPot_58 : decode cX9_newPot 58 = .ok (.areturn, 1) := by decide +kernel
theorem dX9_newPot_59 : decode cX9_newPot 59 = .ok (.new 131, 3) := by decide +kernel
theorem dX9_newPot_62 : decode cX9_newPot 62 = .ok (.dup, 1) := by decide +kernel
theorem dX9_newPot_63 : decode cX9_newPot 63 = .ok (.iload_n 1, 1) := by decide +kernel
theorem dX9_newPot_64 : decode cX9_newPot 64 = .ok (.invokespecial 133, 3) := by decide +kernel
theorem dX9_newPot_67 : decode cX9_newPot 67 = .ok (.areturn, 1) := by decide +kernel
theorem dX9_newPot_68 : decode cX9_newPot 68 = .ok (.new 16, 3) := by decide +kernel
theorem dX9_newPot_71 : decode cX9_newPot 71 = .ok (.dup, 1) := by decide +kernel
theorem dX9_newPot_72 : decode cX9_newPot 72 = .ok (.iload_n 1, 1) := by decide +kernel
theorem dX9_newPot_73 : decode cX9_newPot 73 = .ok (.invokespecial 134, 3) := by decide +kernel
theorem dX9_newPot_76 : decode cX9_newPot 76 = .ok (.areturn, 1) := by decide +kernel
theorem dX9_hasKitchen_0 : decode cX9_hasKitchen 0 = .ok (.aload_n 0, 1) := by decide +kernel
theorem dX9_hasKitchen_1 : decode cX9_hasKitchen 1 = .ok (.getfield 83, 3) := by decide +kernel
theorem dX9_hasKitchen_4 : decode cX9_hasKitchen 4 = .ok (.ifCond .le 7, 3) := by decide +kernel
theorem dX9_hasKitchen_7 : decode cX9_hasKitchen 7 = .ok (.iconst 1, 1) := by decide +kernel
theorem dX9_hasKitchen_8 : decode cX9_hasKitchen 8 = .ok (.goto 4, 3) := by decide +kernel
