set_option maxRecDepth 20000 in
theorem ggX9_tell_X0_keeps : GoodIn wsX9_tell wsX0_keeps := goodIn_r _ [40, 41, 42, 43, 44, 45, 46] (by decide +kernel) (by decide +kernel)
set_option maxRecDepth 20000 in
theorem gX9_tell_X0_keeps_u145X0 : GoodIn wsX9_tell (va_wsO RX9 145 RX0 "OneTimer$Pot" ⟨"OneTimer$Pot", "keeps", "()I"⟩ yX0_keeps wsX0_keeps) := goodIn_app (goodIn_of _ (by decide +kernel)) ggX9_tell_X0_keeps
set_option maxRecDepth 20000 in
theorem ggX9_tell_X2_keeps : GoodIn wsX9_tell wsX2_keeps := goodIn_r _ [51] (by decide +kernel) (by decide +kernel)
set_option maxRecDepth 20000 in
theorem gX9_tell_X2_keeps_u145X2 : GoodIn wsX9_tell (va_wsO RX9 145 RX2 "OneTimer$Pot" ⟨"OneTimer$Pot", "keeps", "()I"⟩ yX2_keeps wsX2_keeps) := goodIn_app (goodIn_of _ (by decide +kernel)) ggX9_tell_X2_keeps
set_option maxRecDepth 20000 in
theorem ggX9_tell_X5_keeps : GoodIn wsX9_tell wsX5_keeps := goodIn_r _ [47] (by decide +kernel) (by decide +kernel)
set_option maxRecDepth 20000 in
theorem gX9_tell_X5_keeps : GoodIn wsX9_tell (wsV RX9 145 RX5 yX5_keeps wsX5_keeps) := goodIn_app (goodIn_of _ (by decide +kernel)) ggX9_tell_X5_keeps
set_option maxRecDepth 20000 in
theorem ggX9_tell_X6_keeps : GoodIn wsX9_tell wsX6_keeps := goodIn_r _ [46] (by decide +kernel) (by decide +kernel)
set_option maxRecDepth 20000 in
theorem gX9_tell_X6_keeps_u145X6 : GoodIn wsX9_tell (va_wsO RX9 145 RX6 "OneTimer$Pot" ⟨"OneTimer$Pot", "keeps", "()I"⟩ yX6_keeps wsX6_keeps) := goodIn_app (goodIn_of _ (by decide +kernel)) ggX9_tell_X6_keeps
set_option maxRecDepth 20000 in
theorem ggX9_tell_X7_keeps : GoodIn wsX9_tell wsX7_keeps := goodIn_r _ [59] (by decide +kernel) (by decide +kernel)
set_option maxRecDepth 20000 in
theorem gX9_tell_X7_keeps_u145X7 : GoodIn wsX9_tell (va_wsO RX9 145 RX7 "OneTimer$Pot" ⟨"OneTimer$Pot", "keeps", "()I"⟩ yX7_keeps wsX7_keeps) := goodIn_app (goodIn_of _ (by decide +kernel)) ggX9_tell_X7_keeps
set_option maxRecDepth 20000 in
theorem ggX9_tell_X8_add : GoodIn wsX9_tell wsX8_add := goodIn_r _ [64, 65, 66, 67, 68, 87, 88, 89, 90] (by decide +kernel) (by decide +kernel)
set_option maxRecDepth 20000 in
theorem gX9_tell_X8_add : GoodIn wsX9_tell (wsV RX9 203 RX8 yX8_add wsX8_add) := goodIn_app (goodIn_of _ (by decide +kernel)) ggX9_tell_X8_add
theorem dX9_tell_0 : decode cX9_tell 0 = .ok (.aload_n 0, 1) := by decide +kernel
theorem dX9_tell_1 : decode cX9_tell 1 = .ok (.iload_n 1, 1) := by decide +kernel
theorem dX9_tell_2 : decode cX9_tell 2 = .ok (.invokevirtual 135, 3) := by decide +kernel
theorem dX9_tell_5 : decode cX9_tell 5 = .ok (.astore_n 3, 1) := by decide +kernel
theorem dX9_tell_6 : decode cX9_tell 6 = .ok (.aload_n 3, 1) := by decide +kernel
theorem dX9_tell_7 : decode cX9_tell 7 = .ok (.ifnonnull 6, 3) := by decide +kernel
theorem dX9_tell_10 : decode cX9_tell 10 = .ok (.bipush (-101), 2) := by decide +kernel
theorem dX9_tell_12 : decode cX9_tell 12 = .ok (.ireturn, 1) := by decide +kernel
theorem dX9_tell_13 : decode cX9_tell 13 = .ok (.iload_n 2, 1) := by decide +kernel
theorem dX9_tell_14 : decode cX9_tell 14 = .ok (.bipush 50, 2) := by decide +kernel
theorem dX9_tell_16 : decode cX9_tell 16 = .ok (.if_icmp .lt 10, 3) := by decide +kernel
theorem dX9_tell_19 : decode cX9_tell 19 = .ok (.iload_n 2, 1) := by decide +kernel
theorem dX9_tell_20 : decode cX9_tell 20 = .ok (.sipush 199, 3) := by decide +kernel
theorem dX9_tell_23 : decode cX9_tell 23 = .ok (.if_icmp .le 6, 3) := by decide +kernel
theorem dX9_tell_26 : decode cX9_tell 26 = .ok (.bipush (-102), 2) := by decide +kernel
theorem dX9_tell_28 : decode cX9_tell 28 = .ok (.ireturn, 1) := by decide +kernel
theorem dX9_tell_29 : decode cX9_tell 29 = .ok (.aload_n 3, 1) := by decide +kernel
theorem dX9_tell_30 : decode cX9_tell 30 = .ok (.invokevirtual 151, 3) := by decide +kernel
theorem dX9_tell_33 : decode cX9_tell 33 = .ok (.ifCond .ne 6, 3) := by decide +kernel
theorem dX9_tell_36 : decode cX9_tell 36 = .ok (.bipush (-103), 2) := by decide +kernel
theorem dX9_tell_38 : decode cX9_tell 38 = .ok (.ireturn, 1) := by decide +kernel
theorem dX9_tell_39 : decode cX9_tell 39 = .ok (.aload_n 0, 1) := by decide +kernel
theorem dX9_tell_40 : decode cX9_tell 40 = .ok (.getfield 25, 3) := by decide +kernel
theorem dX9_tell_43 : decode cX9_tell 43 = .ok (.aload_n 3, 1) := by decide +kernel
theorem dX9_tell_44 : decode cX9_tell 44 = .ok (.invokevirtual 154, 3) := by decide +kernel
theorem dX9_tell_47 : decode cX9_tell 47 = .ok (.aload_n 0, 1) := by decide +kernel
theorem dX9_tell_48 : decode cX9_tell 48 = .ok (.getfield 106, 3) := by decide +kernel
theorem dX9_tell_51 : decode cX9_tell 51 = .ok (.isub, 1) := by decide +kernel
theorem dX9_tell_52 : decode cX9_tell 52 = .ok (.aload_n 3, 1) := by decide +kernel
theorem dX9_tell_53 : decode cX9_tell 53 = .ok (.invokevirtual 145, 3) := by decide +kernel
theorem dX9_tell_56 : decode cX9_tell 56 = .ok (.iload_n 2, 1) := by decide +kernel
theorem dX9_tell_57 : decode cX9_tell 57 = .ok (.invokevirtual 203, 3) := by decide +kernel
theorem dX9_tell_60 : decode cX9_tell 60 = .ok (.ifCond .eq 13, 3) := by decide +kernel
theorem dX9_tell_63 : decode cX9_tell 63 = .ok (.aload_n 0, 1) := by decide +kernel
theorem dX9_tell_64 : decode cX9_tell 64 = .ok (.getfield 25, 3) := by decide +kernel
theorem dX9_tell_67 : decode cX9_tell 67 = .ok (.getfield 115, 3) := by decide +kernel
theorem dX9_tell_70 : decode cX9_tell 70 = .ok (.goto 5, 3) := by decide +kernel
theorem dX9_tell_73 : decode cX9_tell 73 = .ok (.bipush (-104), 2) := by decide +kernel
theorem dX9_tell_75 : decode cX9_tell 75 = .ok (.ireturn, 1) := by decide +kernel
theorem dX9_forget_0 : decode cX9_forget 0 = .ok (.aload_n 0, 1) := by decide +kernel
theorem dX9_forget_1 : decode cX9_forget 1 = .ok (.getfield 25, 3) := by decide +kernel
theorem dX9_forget_4 : decode cX9_forget 4 = .ok (.getfield 115, 3) := by decide +kernel
theorem dX9_forget_7 : decode cX9_forget 7 = .ok (.istore_n 1, 1) := by decide +kernel
theorem dX9_forget_8 : decode cX9_forget 8 = .ok (.aload_n 0, 1) := by decide +kernel
theorem dX9_forget_9 : decode cX9_forget 9 = .ok (.getfield 25, 3) := by decide +kernel
theorem dX9_forget_12 : decode cX9_forget 12 = .ok (.iconst 0, 1) := by decide +kernel
theorem dX9_forget_13 : decode cX9_forget 13 = .ok (.putfield 115, 3) := by decide +kernel
theorem dX9_forget_16 : decode cX9_forget 16 = .ok (.iload_n 1, 1) := by decide +kernel
theorem dX9_forget_17 : decode cX9_forget 17 = .ok (.ireturn, 1) := by decide +kernel
set_option maxRecDepth 20000 in
theorem ggX9_wound_X9_hasKitchen : GoodIn wsX9_wound wsX9_hasKitchen := goodIn_r _ [5, 6, 28, 29, 30, 31, 32, 33, 34, 35, 36, 37, 38, 39, 40, 41, 42, 43, 44, 45] (by decide +kernel) (by decide +kernel)
set_option maxRecDepth 20000 in
theorem gX9_wound_X9_hasKitchen : GoodIn wsX9_wound (wsV RX9 170 RX9 yX9_hasKitchen wsX9_hasKitchen) := goodIn_app (goodIn_of _ (by decide +kernel)) ggX9_wound_X9_hasKitchen
set_option maxRecDepth 20000 in
theorem ggX9_wound_X9_windingsThatFit : GoodIn wsX9_wound wsX9_windingsThatFit := goodIn_r _ [10, 11, 12, 13, 14, 15, 16, 17, 18, 19, 20, 21, 22, 4, 23, 28, 29, 30, 31, 32, 33, 34, 35, 36, 37, 38, 39, 40, 41, 42, 43, 44, 45, 46, 47, 48, 49] (by decide +kernel) (by decide +kernel)
set_option maxRecDepth 20000 in
theorem gX9_wound_X9_windingsThatFit : GoodIn wsX9_wound (wsV RX9 206 RX9 yX9_windingsThatFit wsX9_windingsThatFit) := goodIn_app (goodIn_of _ (by decide +kernel)) ggX9_wound_X9_windingsThatFit
set_option maxRecDepth 20000 in
theorem ggX9_wound_X9_leastThatFits : GoodIn wsX9_wound wsX9_leastThatFits := goodIn_r _ [27, 11, 12, 13, 14, 15, 16, 17, 18, 19, 20, 21, 22, 4, 23, 28, 29, 30, 31, 32, 33, 34, 35, 36, 37, 38, 39, 40, 41, 42, 43, 44, 45, 46, 47, 48, 49] (by decide +kernel) (by decide +kernel)
set_option maxRecDepth 20000 in
theorem gX9_wound_X9_leastThatFits : GoodIn wsX9_wound (wsV RX9 209 RX9 yX9_leastThatFits wsX9_leastThatFits) := goodIn_app (goodIn_of _ (by decide +kernel)) ggX9_wound_X9_leastThatFits
theorem dX9_wound_0 : decode cX9_wound 0 = .ok (.iload_n 1, 1) := by decide +kernel
theorem dX9_wound_1 : decode cX9_wound 1 = .ok (.ifCond .lt 8, 3) := by decide +kernel
theorem dX9_wound_4 : decode cX9_wound 4 = .ok (.iload_n 1, 1) := by decide +kernel
theorem dX9_wound_5 : decode cX9_wound 5 = .ok (.iconst 1, 1) := by decide +kernel
theorem dX9_wound_6 : decode cX9_wound 6 = .ok (.if_icmp .le 6, 3) := by decide +kernel
theorem dX9_wound_9 : decode cX9_wound 9 = .ok (.bipush (-102), 2) := by decide +kernel
theorem dX9_wound_11 : decode cX9_wound 11 = .ok (.ireturn, 1) := by decide +kernel
theorem dX9_wound_12 : decode cX9_wound 12 = .ok (.aload_n 0, 1) := by decide +kernel
theorem dX9_wound_13 : decode cX9_wound 13 = .ok (.invokevirtual 170, 3) := by decide +kernel
theorem dX9_wound_16 : decode cX9_wound 16 = .ok (.ifCond .ne 6, 3) := by decide +kernel
theorem dX9_wound_19 : decode cX9_wound 19 = .ok (.bipush (-103), 2) := by decide +kernel
theorem dX9_wound_21 : decode cX9_wound 21 = .ok (.ireturn, 1) := by decide +kernel
theorem dX9_wound_22 : decode cX9_wound 22 = .ok (.iload_n 1, 1) := by decide +kernel
theorem dX9_wound_23 : decode cX9_wound 23 = .ok (.ifCond .ne 10, 3) := by decide +kernel
theorem dX9_wound_26 : decode cX9_wound 26 = .ok (.aload_n 0, 1) := by decide +kernel
theorem dX9_wound_27 : decode cX9_wound 27 = .ok (.invokevirtual 206, 3) := by decide +kernel
theorem dX9_wound_30 : decode cX9_wound 30 = .ok (.goto 7, 3) := by decide +kernel
theorem dX9_wound_33 : decode cX9_wound 33 = .ok (.aload_n 0, 1) := by decide +kernel
theorem dX9_wound_34 : decode cX9_wound 34 = .ok (.invokevirtual 209, 3) := by decide +kernel
theorem dX9_wound_37 : decode cX9_wound 37 = .ok (.ireturn, 1) := by decide +kernel
set_option maxRecDepth 20000 in
theorem ggX9_windingsThatFit_X8_fits : GoodIn wsX9_windingsThatFit wsX8_fits := goodIn_r _ [7, 8, 9, 10, 11, 12, 13, 14, 33, 34, 35, 36] (by decide +kernel) (by decide +kernel)
set_option maxRecDepth 20000 in
theorem gX9_windingsThatFit_X8_fits : GoodIn wsX9_windingsThatFit (wsV RX9 212 RX8 yX8_fits wsX8_fits) := goodIn_app (goodIn_of _ (by decide +kernel)) ggX9_windingsThatFit_X8_fits
theorem dX9_windingsThatFit_0 : decode cX9_windingsThatFit 0 = .ok (.iconst 0, 1) := by decide +kernel
theorem dX9_windingsThatFit_1 : decode cX9_windingsThatFit 1 = .ok (.istore_n 1, 1) := by decide +kernel
theorem dX9_windingsThatFit_2 : decode cX9_windingsThatFit 2 = .ok (.iconst 1, 1) := by decide +kernel
theorem dX9_windingsThatFit_3 : decode cX9_windingsThatFit 3 = .ok (.istore_n 2, 1) := by decide +kernel
theorem dX9_windingsThatFit_4 : decode cX9_windingsThatFit 4 = .ok (.iload_n 2, 1) := by decide +kernel
theorem dX9_windingsThatFit_5 : decode cX9_windingsThatFit 5 = .ok (.aload_n 0, 1) := by decide +kernel
theorem dX9_windingsThatFit_6 : decode cX9_windingsThatFit 6 = .ok (.getfield 68, 3) := by decide +kernel
theorem dX9_windingsThatFit_9 : decode cX9_windingsThatFit 9 = .ok (.if_icmp .gt 23, 3) := by decide +kernel
theorem dX9_windingsThatFit_12 : decode cX9_windingsThatFit 12 = .ok (.aload_n 0, 1) := by decide +kernel
theorem dX9_windingsThatFit_13 : decode cX9_windingsThatFit 13 = .ok (.getfield 25, 3) := by decide +kernel
theorem dX9_windingsThatFit_16 : decode cX9_windingsThatFit 16 = .ok (.iload_n 2, 1) := by decide +kernel
theorem dX9_windingsThatFit_17 : decode cX9_windingsThatFit 17 = .ok (.invokevirtual 212, 3) := by decide +kernel
theorem dX9_windingsThatFit_20 : decode cX9_windingsThatFit 20 = .ok (.ifCond .eq 6, 3) := by decide +kernel
theorem dX9_windingsThatFit_23 : decode cX9_windingsThatFit 23 = .ok (.iinc 1 1, 3) := by decide +kernel
theorem dX9_windingsThatFit_26 : decode cX9_windingsThatFit 26 = .ok (.iinc 2 1, 3) := by decide +kernel
theorem dX9_windingsThatFit_29 : decode cX9_windingsThatFit 29 = .ok (.goto (-25), 3) := by decide +kernel
theorem dX9_windingsThatFit_32 : decode cX9_windingsThatFit 32 = .ok (.iload_n 1, 1) := by decide +kernel
theorem dX9_windingsThatFit_33 : decode cX9_windingsThatFit 33 = .ok (.ireturn, 1) := by decide +kernel
set_option maxRecDepth 20000 in
theorem ggX9_leastThatFits_X8_fits : GoodIn wsX9_leastThatFits wsX8_fits := goodIn_r _ [7, 8, 9, 10, 11, 12, 13, 14, 33, 34, 35, 36] (by decide +kernel) (by decide +kernel)
set_option maxRecDepth 20000 in
theorem gX9_leastThatFits_X8_fits : GoodIn wsX9_leastThatFits (wsV RX9 212 RX8 yX8_fits wsX8_fits) := goodIn_app (goodIn_of _ (by decide +kernel)) ggX9_leastThatFits_X8_fits
theorem dX9_leastThatFits_0 : decode cX9_leastThatFits 0 = .ok (.iconst 1, 1) := by decide +kernel
theorem dX9_leastThatFits_1 : decode cX9_leastThatFits 1 = .ok (.istore_n 1, 1) := by decide +kernel
theorem dX9_leastThatFits_2 : decode cX9_leastThatFits 2 = .ok (.iload_n 1, 1) := by decide +kernel
theorem dX9_leastThatFits_3 : decode cX9_leastThatFits 3 = .ok (.aload_n 0, 1) := by decide +kernel
theorem dX9_leastThatFits_4 : decode cX9_leastThatFits 4 = .ok (.getfield 68, 3) := by decide +kernel
theorem dX9_leastThatFits_7 : decode cX9_leastThatFits 7 = .ok (.if_icmp .gt 22, 3) := by decide +kernel
theorem dX9_leastThatFits_10 : decode cX9_leastThatFits 10 = .ok (.aload_n 0, 1) := by decide +kernel
theorem dX9_leastThatFits_11 : decode cX9_leastThatFits 11 = .ok (.getfield 25, 3) := by decide +kernel
theorem dX9_leastThatFits_14 : decode cX9_leastThatFits 14 = .ok (.iload_n 1, 1) := by decide +kernel
theorem dX9_leastThatFits_15 : decode cX9_leastThatFits 15 = .ok (.invokevirtual 212, 3) := by decide +kernel
theorem dX9_leastThatFits_18 : decode cX9_leastThatFits 18 = .ok (.ifCond .eq 5, 3) := by decide +kernel
theorem dX9_leastThatFits_21 : decode cX9_leastThatFits 21 = .ok (.iload_n 1, 1) := by decide +kernel
theorem dX9_leastThatFits_22 : decode cX9_leastThatFits 22 = .ok (.ireturn, 1) := by decide +kernel
theorem dX9_leastThatFits_23 : decode cX9_leastThatFits 23 = .ok (.iinc 1 1, 3) := by decide +kernel
theorem dX9_leastThatFits_26 : decode cX9_leastThatFits 26 = .ok (.goto (-24), 3) := by decide +kernel
theorem dX9_leastThatFits_29 : decode cX9_leastThatFits 29 = .ok (.iconst (-1), 1) := by decide +kernel
theorem dX9_leastThatFits_30 : decode cX9_leastThatFits 30 = .ok (.ireturn, 1) := by decide +kernel
set_option maxRecDepth 20000 in
theorem ggX9_evenings_X9_hasKitchen : GoodIn wsX9_evenings wsX9_hasKitchen := goodIn_r _ [10, 4, 56, 57, 58, 59, 60, 61, 62, 63, 64, 65, 66, 67, 68, 69, 70, 71, 72, 73] (by decide +kernel) (by decide +kernel)
set_option maxRecDepth 20000 in
theorem gX9_evenings_X9_hasKitchen : GoodIn wsX9_evenings (wsV RX9 170 RX9 yX9_hasKitchen wsX9_hasKitchen) := goodIn_app (goodIn_of _ (by decide +kernel)) ggX9_evenings_X9_hasKitchen
set_option maxRecDepth 20000 in
theorem ggX9_evenings_X1_next : GoodIn wsX9_evenings wsX1_next := goodIn_r _ [15, 16, 17, 18, 19, 20, 74] (by decide +kernel) (by decide +kernel)
set_option maxRecDepth 20000 in
theorem gX9_evenings_X1_next : GoodIn wsX9_evenings (wsV RX9 218 RX1 yX1_next wsX1_next) := goodIn_app (goodIn_of _ (by decide +kernel)) ggX9_evenings_X1_next
set_option maxRecDepth 20000 in
theorem ggX9_evenings_X9_potAt : GoodIn wsX9_evenings wsX9_potAt := goodIn_r _ [24, 4, 25, 56, 57, 58, 59, 60, 61, 62, 63, 64, 65, 66, 67, 68, 69, 70, 71, 72, 73] (by decide +kernel) (by decide +kernel)
set_option maxRecDepth 20000 in
theorem gX9_evenings_X9_potAt : GoodIn wsX9_evenings (wsV RX9 135 RX9 yX9_potAt wsX9_potAt) := goodIn_app (goodIn_of _ (by decide +kernel)) ggX9_evenings_X9_potAt
set_option maxRecDepth 20000 in
theorem ggX9_evenings_X0_keeps : GoodIn wsX9_evenings wsX0_keeps := goodIn_r _ [32, 33, 34, 35, 36, 37, 38] (by decide +kernel) (by decide +kernel)
set_option maxRecDepth 20000 in
theorem gX9_evenings_X0_keeps_u145X0 : GoodIn wsX9_evenings (va_wsO RX9 145 RX0 "OneTimer$Pot" ⟨"OneTimer$Pot", "keeps", "()I"⟩ yX0_keeps wsX0_keeps) := goodIn_app (goodIn_of _ (by decide +kernel)) ggX9_evenings_X0_keeps
set_option maxRecDepth 20000 in
theorem ggX9_evenings_X2_keeps : GoodIn wsX9_evenings wsX2_keeps := goodIn_r _ [43] (by decide +kernel) (by decide +kernel)
set_option maxRecDepth 20000 in
theorem gX9_evenings_X2_keeps_u145X2 : GoodIn wsX9_evenings (va_wsO RX9 145 RX2 "OneTimer$Pot" ⟨"OneTimer$Pot", "keeps", "()I"⟩ yX2_keeps wsX2_keeps) := goodIn_app (goodIn_of _ (by decide +kernel)) ggX9_evenings_X2_keeps
set_option maxRecDepth 20000 in
theorem ggX9_evenings_X5_keeps : GoodIn wsX9_evenings wsX5_keeps := goodIn_r _ [39] (by decide +kernel) (by decide +kernel)
set_option maxRecDepth 20000 in
theorem gX9_evenings_X5_keeps : GoodIn wsX9_evenings (wsV RX9 145 RX5 yX5_keeps wsX5_keeps) := goodIn_app (goodIn_of _ (by decide +kernel)) ggX9_evenings_X5_keeps
set_option maxRecDepth 20000 in
theorem ggX9_evenings_X6_keeps : GoodIn wsX9_evenings wsX6_keeps := goodIn_r _ [38] (by decide +kernel) (by decide +kernel)
set_option maxRecDepth 20000 in
theorem gX9_evenings_X6_keeps_u145X6 : GoodIn wsX9_evenings (va_wsO RX9 145 RX6 "OneTimer$Pot" ⟨"OneTimer$Pot", "keeps", "()I"⟩ yX6_keeps wsX6_keeps) := goodIn_app (goodIn_of _ (by decide +kernel)) ggX9_evenings_X6_keeps
set_option maxRecDepth 20000 in
theorem ggX9_evenings_X7_keeps : GoodIn wsX9_evenings wsX7_keeps := goodIn_r _ [52] (by decide +kernel) (by decide +kernel)
set_option maxRecDepth 20000 in
theorem gX9_evenings_X7_keeps_u145X7 : GoodIn wsX9_evenings (va_wsO RX9 145 RX7 "OneTimer$Pot" ⟨"OneTimer$Pot", "keeps", "()I"⟩ yX7_keeps wsX7_keeps) := goodIn_app (goodIn_of _ (by decide +kernel)) ggX9_evenings_X7_keeps
set_option maxRecDepth 20000 in
theorem ggX9_evenings_X9_outBy : GoodIn wsX9_evenings wsX9_outBy := goodIn_r _ [55] (by decide +kernel) (by decide +kernel)
set_option maxRecDepth 20000 in
theorem gX9_evenings_X9_outBy : GoodIn wsX9_evenings (va_wsS RX9 221 yX9_outBy wsX9_outBy) := goodIn_app (goodIn_of _ (by decide +kernel)) ggX9_evenings_X9_outBy
theorem dX9_evenings_0 : decode cX9_evenings 0 = .ok (.iload_n 1, 1) := by decide +kernel
theorem dX9_evenings_1 : decode cX9_evenings 1 = .ok (.iconst 1, 1) := by decide +kernel
theorem dX9_evenings_2 : decode cX9_evenings 2 = .ok (.if_icmp .lt 22, 3) := by decide +kernel
theorem dX9_evenings_5 : decode cX9_evenings 5 = .ok (.iload_n 1, 1) := by decide +kernel
theorem dX9_evenings_6 : decode cX9_evenings 6 = .ok (.bipush 30, 2) := by decide +kernel
theorem dX9_evenings_8 : decode cX9_evenings 8 = .ok (.if_icmp .gt 16, 3) := by decide +kernel
theorem dX9_evenings_11 : decode cX9_evenings 11 = .ok (.iload_n 2, 1) := by decide +kernel
theorem dX9_evenings_12 : decode cX9_evenings 12 = .ok (.ifCond .lt 12, 3) := by decide +kernel
theorem dX9_evenings_15 : decode cX9_evenings 15 = .ok (.iload_n 3, 1) := by decide +kernel
theorem dX9_evenings_16 : decode cX9_evenings 16 = .ok (.ifCond .lt 8, 3) := by decide +kernel
theorem dX9_evenings_19 : decode cX9_evenings 19 = .ok (.iload_n 3, 1) := by decide +kernel
theorem dX9_evenings_20 : decode cX9_evenings 20 = .ok (.iconst 2, 1) := by decide +kernel
theorem dX9_evenings_21 : decode cX9_evenings 21 = .ok (.if_icmp .le 6, 3) := by decide +kernel
theorem dX9_evenings_24 : decode cX9_evenings 24 = .ok (.bipush (-102), 2) := by decide +kernel
theorem dX9_evenings_26 : decode cX9_evenings 26 = .ok (.ireturn, 1) := by decide +kernel
theorem dX9_evenings_27 : decode cX9_evenings 27 = .ok (.aload_n 0, 1) := by decide +kernel
theorem dX9_evenings_28 : decode cX9_evenings 28 = .ok (.invokevirtual 170, 3) := by decide +kernel
theorem dX9_evenings_31 : decode cX9_evenings 31 = .ok (.ifCond .ne 6, 3) := by decide +kernel
theorem dX9_evenings_34 : decode cX9_evenings 34 = .ok (.bipush (-103), 2) := by decide +kernel
theorem dX9_evenings_36 : decode cX9_evenings 36 = .ok (.ireturn, 1) := by decide +kernel
theorem dX9_evenings_37 : decode cX9_evenings 37 = .ok (.aload_n 0, 1) := by decide +kernel
theorem dX9_evenings_38 : decode cX9_evenings 38 = .ok (.getfield 42, 3) := by decide +kernel
theorem dX9_evenings_41 : decode cX9_evenings 41 = .ok (.iload_n 2, 1) := by decide +kernel
theorem dX9_evenings_42 : decode cX9_evenings 42 = .ok (.putfield 215, 3) := by decide +kernel
theorem dX9_evenings_45 : decode cX9_evenings 45 = .ok (.iconst 0, 1) := by decide +kernel
theorem dX9_evenings_46 : decode cX9_evenings 46 = .ok (.istore 4, 2) := by decide +kernel
theorem dX9_evenings_48 : decode cX9_evenings 48 = .ok (.iconst 0, 1) := by decide +kernel
theorem dX9_evenings_49 : decode cX9_evenings 49 = .ok (.istore 5, 2) := by decide +kernel
theorem dX9_evenings_51 : decode cX9_evenings 51 = .ok (.iconst 0, 1) := by decide +kernel
theorem dX9_evenings_52 : decode cX9_evenings 52 = .ok (.istore 6, 2) := by decide +kernel
theorem dX9_evenings_54 : decode cX9_evenings 54 = .ok (.iconst 0, 1) := by decide +kernel
theorem dX9_evenings_55 : decode cX9_evenings 55 = .ok (.istore 7, 2) := by decide +kernel
theorem dX9_evenings_57 : decode cX9_evenings 57 = .ok (.iconst 0, 1) := by decide +kernel
theorem dX9_evenings_58 : decode cX9_evenings 58 = .ok (.istore 8, 2) := by decide +kernel
theorem dX9_evenings_60 : decode cX9_evenings 60 = .ok (.iload 8, 2) := by decide +kernel
theorem dX9_evenings_62 : decode cX9_evenings 62 = .ok (.iload_n 1, 1) := by decide +kernel
theorem dX9_evenings_63 : decode cX9_evenings 63 = .ok (.if_icmp .ge 124, 3) := by decide +kernel
theorem dX9_evenings_66 : decode cX9_evenings 66 = .ok (.iload 6, 2) := by decide +kernel
theorem dX9_evenings_68 : decode cX9_evenings 68 = .ok (.iconst 1, 1) := by decide +kernel
theorem dX9_evenings_69 : decode cX9_evenings 69 = .ok (.aload_n 0, 1) := by decide +kernel
theorem dX9_evenings_70 : decode cX9_evenings 70 = .ok (.getfield 42, 3) := by decide +kernel
theorem dX9_evenings_73 : decode cX9_evenings 73 = .ok (.aload_n 0, 1) := by decide +kernel
theorem dX9_evenings_74 : decode cX9_evenings 74 = .ok (.getfield 68, 3) := by decide +kernel
theorem dX9_evenings_77 : decode cX9_evenings 77 = .ok (.invokevirtual 218, 3) := by decide +kernel
theorem dX9_evenings_80 : decode cX9_evenings 80 = .ok (.iadd, 1) := by decide +kernel
theorem dX9_evenings_81 : decode cX9_evenings 81 = .ok (.iadd, 1) := by decide +kernel
theorem dX9_evenings_82 : decode cX9_evenings 82 = .ok (.istore 6, 2) := by decide +kernel
theorem dX9_evenings_84 : decode cX9_evenings 84 = .ok (.aload_n 0, 1) := by decide +kernel
theorem dX9_evenings_85 : decode cX9_evenings 85 = .ok (.getfield 42, 3) := by decide +kernel
theorem dX9_evenings_88 : decode cX9_evenings 88 = .ok (.aload_n 0, 1) := by decide +kernel
theorem dX9_evenings_89 : decode cX9_evenings 89 = .ok (.getfield 83, 3) := by decide +kernel
theorem dX9_evenings_92 : decode cX9_evenings 92 = .ok (.invokevirtual 218, 3) := by decide +kernel
theorem dX9_evenings_95 : decode cX9_evenings 95 = .ok (.istore 9, 2) := by decide +kernel
theorem dX9_evenings_97 : decode cX9_evenings 97 = .ok (.aload_n 0, 1) := by decide +kernel
theorem dX9_evenings_98 : decode cX9_evenings 98 = .ok (.iload 9, 2) := by decide +kernel
theorem dX9_evenings_100 : decode cX9_evenings 100 = .ok (.invokevirtual 135, 3) := by decide +kernel
theorem dX9_evenings_103 : decode cX9_evenings 103 = .ok (.astore 10, 2) := by decide +kernel
theorem dX9_evenings_105 : decode cX9_evenings 105 = .ok (.aload 10, 2) := by decide +kernel
theorem dX9_evenings_107 : decode cX9_evenings 107 = .ok (.ifnull 74, 3) := by decide +kernel
theorem dX9_evenings_110 : decode cX9_evenings 110 = .ok (.iload 7, 2) := by decide +kernel
theorem dX9_evenings_112 : decode cX9_evenings 112 = .ok (.iconst 1, 1) := by decide +kernel
theorem dX9_evenings_113 : decode cX9_evenings 113 = .ok (.iload 9, 2) := by decide +kernel
theorem dX9_evenings_115 : decode cX9_evenings 115 = .ok (.ishl, 1) := by decide +kernel
theorem dX9_evenings_116 : decode cX9_evenings 116 = .ok (.iand, 1) := by decide +kernel
theorem dX9_evenings_117 : decode cX9_evenings 117 = .ok (.ifCond .ne 64, 3) := by decide +kernel
theorem dX9_evenings_120 : decode cX9_evenings 120 = .ok (.iload 7, 2) := by decide +kernel
theorem dX9_evenings_122 : decode cX9_evenings 122 = .ok (.iconst 1, 1) := by decide +kernel
theorem dX9_evenings_123 : decode cX9_evenings 123 = .ok (.iload 9, 2) := by decide +kernel
theorem dX9_evenings_125 : decode cX9_evenings 125 = .ok (.ishl, 1) := by decide +kernel
theorem dX9_evenings_126 : decode cX9_evenings 126 = .ok (.ior, 1) := by decide +kernel
theorem dX9_evenings_127 : decode cX9_evenings 127 = .ok (.istore 7, 2) := by decide +kernel
theorem dX9_evenings_129 : decode cX9_evenings 129 = .ok (.iload 6, 2) := by decide +kernel
theorem dX9_evenings_131 : decode cX9_evenings 131 = .ok (.aload 10, 2) := by decide +kernel
theorem dX9_evenings_133 : decode cX9_evenings 133 = .ok (.getfield 142, 3) := by decide +kernel
theorem dX9_evenings_136 : decode cX9_evenings 136 = .ok (.isub, 1) := by decide +kernel
theorem dX9_evenings_137 : decode cX9_evenings 137 = .ok (.aload 10, 2) := by decide +kernel
theorem dX9_evenings_139 : decode cX9_evenings 139 = .ok (.invokevirtual 145, 3) := by decide +kernel
theorem dX9_evenings_142 : decode cX9_evenings 142 = .ok (.invokestatic 221, 3) := by decide +kernel
theorem dX9_evenings_145 : decode cX9_evenings 145 = .ok (.istore 11, 2) := by decide +kernel
theorem dX9_evenings_147 : decode cX9_evenings 147 = .ok (.iload 4, 2) := by decide +kernel
theorem dX9_evenings_149 : decode cX9_evenings 149 = .ok (.iload 11, 2) := by decide +kernel
theorem dX9_evenings_151 : decode cX9_evenings 151 = .ok (.bipush 100, 2) := by decide +kernel
theorem dX9_evenings_153 : decode cX9_evenings 153 = .ok (.if_icmp .ne 7, 3) := by decide +kernel
theorem dX9_evenings_156 : decode cX9_evenings 156 = .ok (.iconst 1, 1) := by decide +kernel
theorem dX9_evenings_157 : decode cX9_evenings 157 = .ok (.goto 4, 3) := by decide +kernel
theorem dX9_evenings_160 : decode cX9_evenings 160 = .ok (.iconst 0, 1) := by decide +kernel
theorem dX9_evenings_161 : decode cX9_evenings 161 = .ok (.iadd, 1) := by decide +kernel
theorem dX9_evenings_162 : decode cX9_evenings 162 = .ok (.istore 4, 2) := by decide +kernel
theorem dX9_evenings_164 : decode cX9_evenings 164 = .ok (.iload 5, 2) := by decide +kernel
theorem dX9_evenings_166 : decode cX9_evenings 166 = .ok (.iload 11, 2) := by decide +kernel
theorem dX9_evenings_168 : decode cX9_evenings 168 = .ok (.bipush 100, 2) := by decide +kernel
theorem dX9_evenings_170 : decode cX9_evenings 170 = .ok (.if_icmp .le 7, 3) := by decide +kernel
theorem dX9_evenings_173 : decode cX9_evenings 173 = .ok (.iconst 1, 1) := by decide +kernel
theorem dX9_evenings_174 : decode cX9_evenings 174 = .ok (.goto 4, 3) := by decide +kernel
theorem dX9_evenings_177 : decode cX9_evenings 177 = .ok (.iconst 0, 1) := by decide +kernel
theorem dX9_evenings_178 : decode cX9_evenings 178 = .ok (.iadd, 1) := by decide +kernel
theorem dX9_evenings_179 : decode cX9_evenings 179 = .ok (.istore 5, 2) := by decide +kernel
theorem dX9_evenings_181 : decode cX9_evenings 181 = .ok (.iinc 8 1, 3) := by decide +kernel
theorem dX9_evenings_184 : decode cX9_evenings 184 = .ok (.goto (-124), 3) := by decide +kernel
theorem dX9_evenings_187 : decode cX9_evenings 187 = .ok (.iload_n 3, 1) := by decide +kernel
theorem dX9_evenings_188 : decode cX9_evenings 188 = .ok (.ifCond .ne 8, 3) := by decide +kernel
theorem dX9_evenings_191 : decode cX9_evenings 191 = .ok (.iload 4, 2) := by decide +kernel
theorem dX9_evenings_193 : decode cX9_evenings 193 = .ok (.goto 20, 3) := by decide +kernel
theorem dX9_evenings_196 : decode cX9_evenings 196 = .ok (.iload_n 3, 1) := by decide +kernel
theorem dX9_evenings_197 : decode cX9_evenings 197 = .ok (.iconst 1, 1) := by decide +kernel
theorem dX9_evenings_198 : decode cX9_evenings 198 = .ok (.if_icmp .ne 8, 3) := by decide +kernel
theorem dX9_evenings_201 : decode cX9_evenings 201 = .ok (.iload 5, 2) := by decide +kernel
theorem dX9_evenings_203 : decode cX9_evenings 203 = .ok (.goto 10, 3) := by decide +kernel
theorem dX9_evenings_206 : decode cX9_evenings 206 = .ok (.aload_n 0, 1) := by decide +kernel
theorem dX9_evenings_207 : decode cX9_evenings 207 = .ok (.getfield 42, 3) := by decide +kernel
theorem dX9_evenings_210 : decode cX9_evenings 210 = .ok (.getfield 215, 3) := by decide +kernel
theorem dX9_evenings_213 : decode cX9_evenings 213 = .ok (.ireturn, 1) := by decide +kernel
set_option maxRecDepth 20000 in
theorem ggX9_image_X9_hasKitchen : GoodIn wsX9_image wsX9_hasKitchen := goodIn_r _ [15, 10, 47, 48, 49, 50, 51, 52, 53, 54, 55, 56, 57, 58, 59, 60, 61, 62, 63, 64] (by decide +kernel) (by decide +kernel)
set_option maxRecDepth 20000 in
theorem gX9_image_X9_hasKitchen : GoodIn wsX9_image (wsV RX9 170 RX9 yX9_hasKitchen wsX9_hasKitchen) := goodIn_app (goodIn_of _ (by decide +kernel)) ggX9_image_X9_hasKitchen
set_option maxRecDepth 20000 in
theorem ggX9_image_X8_copyFrom : GoodIn wsX9_image wsX8_copyFrom := goodIn_r _ [20, 21, 22, 23, 24, 65, 66, 67, 68] (by decide +kernel) (by decide +kernel)
set_option maxRecDepth 20000 in
theorem gX9_image_X8_copyFrom : GoodIn wsX9_image (wsV RX9 233 RX8 yX8_copyFrom wsX8_copyFrom) := goodIn_app (goodIn_of _ (by decide +kernel)) ggX9_image_X8_copyFrom
set_option maxRecDepth 20000 in
theorem ggX9_image_X9_potAt : GoodIn wsX9_image wsX9_potAt := goodIn_r _ [28, 10, 29, 47, 48, 49, 50, 51, 52, 53, 54, 55, 56, 57, 58, 59, 60, 61, 62, 63, 64] (by decide +kernel) (by decide +kernel)
set_option maxRecDepth 20000 in
theorem gX9_image_X9_potAt : GoodIn wsX9_image (wsV RX9 135 RX9 yX9_potAt wsX9_potAt) := goodIn_app (goodIn_of _ (by decide +kernel)) ggX9_image_X9_potAt
set_option maxRecDepth 20000 in
theorem ggX9_image_X5_keepImage : GoodIn wsX9_image wsX5_keepImage := goodIn_r _ [35, 36, 37, 38, 39, 40, 41, 69, 70, 71, 72, 73, 74, 75, 76, 77, 78, 79, 80, 81, 82, 83, 84, 85, 86, 87, 88, 89, 90, 91, 92, 93, 94, 95, 96, 97, 98, 99, 100, 101, 102, 103] (by decide +kernel) (by decide +kernel)
set_option maxRecDepth 20000 in
theorem gX9_image_X5_keepImage_u237X0 : GoodIn wsX9_image (va_wsU RX9 237 RX0 "OneTimer$Pot" ⟨"OneTimer$Pot", "keepImage", "()V"⟩ yX5_keepImage wsX5_keepImage) := goodIn_app (goodIn_of _ (by decide +kernel)) ggX9_image_X5_keepImage
set_option maxRecDepth 20000 in
theorem gX9_image_X5_keepImage_u237X2 : GoodIn wsX9_image (va_wsU RX9 237 RX2 "OneTimer$Pot" ⟨"OneTimer$Pot", "keepImage", "()V"⟩ yX5_keepImage wsX5_keepImage) := goodIn_app (goodIn_of _ (by decide +kernel)) ggX9_image_X5_keepImage
set_option maxRecDepth 20000 in
theorem gX9_image_X5_keepImage : GoodIn wsX9_image (wsV RX9 237 RX5 yX5_keepImage wsX5_keepImage) := goodIn_app (goodIn_of _ (by decide +kernel)) ggX9_image_X5_keepImage
set_option maxRecDepth 20000 in
theorem gX9_image_X5_keepImage_u237X6 : GoodIn wsX9_image (va_wsU RX9 237 RX6 "OneTimer$Pot" ⟨"OneTimer$Pot", "keepImage", "()V"⟩ yX5_keepImage wsX5_keepImage) := goodIn_app (goodIn_of _ (by decide +kernel)) ggX9_image_X5_keepImage
set_option maxRecDepth 20000 in
theorem gX9_image_X5_keepImage_u237X7 : GoodIn wsX9_image (va_wsU RX9 237 RX7 "OneTimer$Pot" ⟨"OneTimer$Pot", "keepImage", "()V"⟩ yX5_keepImage wsX5_keepImage) := goodIn_app (goodIn_of _ (by decide +kernel)) ggX9_image_X5_keepImage
theorem dX9_image_0 : decode cX9_image 0 = .ok (.aload_n 0, 1) := by decide +kernel
theorem dX9_image_1 : decode cX9_image 1 = .ok (.invokevirtual 170, 3) := by decide +kernel
theorem dX9_image_4 : decode cX9_image 4 = .ok (.ifCond .ne 6, 3) := by decide +kernel
theorem dX9_image_7 : decode cX9_image 7 = .ok (.bipush (-103), 2) := by decide +kernel
theorem dX9_image_9 : decode cX9_image 9 = .ok (.ireturn, 1) := by decide +kernel
theorem dX9_image_10 : decode cX9_image 10 = .ok (.aload_n 0, 1) := by decide +kernel
theorem dX9_image_11 : decode cX9_image 11 = .ok (.iconst 1, 1) := by decide +kernel
theorem dX9_image_12 : decode cX9_image 12 = .ok (.putfield 116, 3) := by decide +kernel
theorem dX9_image_15 : decode cX9_image 15 = .ok (.aload_n 0, 1) := by decide +kernel
theorem dX9_image_16 : decode cX9_image 16 = .ok (.aload_n 0, 1) := by decide +kernel
theorem dX9_image_17 : decode cX9_image 17 = .ok (.getfield 106, 3) := by decide +kernel
theorem dX9_image_20 : decode cX9_image 20 = .ok (.putfield 224, 3) := by decide +kernel
theorem dX9_image_23 : decode cX9_image 23 = .ok (.aload_n 0, 1) := by decide +kernel
theorem dX9_image_24 : decode cX9_image 24 = .ok (.aload_n 0, 1) := by decide +kernel
theorem dX9_image_25 : decode cX9_image 25 = .ok (.getfield 109, 3) := by decide +kernel
theorem dX9_image_28 : decode cX9_image 28 = .ok (.putfield 227, 3) := by decide +kernel
theorem dX9_image_31 : decode cX9_image 31 = .ok (.aload_n 0, 1) := by decide +kernel
theorem dX9_image_32 : decode cX9_image 32 = .ok (.aload_n 0, 1) := by decide +kernel
theorem dX9_image_33 : decode cX9_image 33 = .ok (.getfield 112, 3) := by decide +kernel
theorem dX9_image_36 : decode cX9_image 36 = .ok (.putfield 230, 3) := by decide +kernel
theorem dX9_image_39 : decode cX9_image 39 = .ok (.aload_n 0, 1) := by decide +kernel
theorem dX9_image_40 : decode cX9_image 40 = .ok (.getfield 29, 3) := by decide +kernel
theorem dX9_image_43 : decode cX9_image 43 = .ok (.aload_n 0, 1) := by decide +kernel
theorem dX9_image_44 : decode cX9_image 44 = .ok (.getfield 25, 3) := by decide +kernel
theorem dX9_image_47 : decode cX9_image 47 = .ok (.invokevirtual 233, 3) := by decide +kernel
theorem dX9_image_50 : decode cX9_image 50 = .ok (.iconst 0, 1) := by decide +kernel
theorem dX9_image_51 : decode cX9_image 51 = .ok (.istore_n 1, 1) := by decide +kernel
theorem dX9_image_52 : decode cX9_image 52 = .ok (.iload_n 1, 1) := by decide +kernel
theorem dX9_image_53 : decode cX9_image 53 = .ok (.aload_n 0, 1) := by decide +kernel
theorem dX9_image_54 : decode cX9_image 54 = .ok (.getfield 83, 3) := by decide +kernel
theorem dX9_image_57 : decode cX9_image 57 = .ok (.if_icmp .ge 23, 3) := by decide +kernel
theorem dX9_image_60 : decode cX9_image 60 = .ok (.aload_n 0, 1) := by decide +kernel
theorem dX9_image_61 : decode cX9_image 61 = .ok (.iload_n 1, 1) := by decide +kernel
theorem dX9_image_62 : decode cX9_image 62 = .ok (.invokevirtual 135, 3) := by decide +kernel
theorem dX9_image_65 : decode cX9_image 65 = .ok (.astore_n 2, 1) := by decide +kernel
theorem dX9_image_66 : decode cX9_image 66 = .ok (.aload_n 2, 1) := by decide +kernel
theorem dX9_image_67 : decode cX9_image 67 = .ok (.ifnull 7, 3) := by decide +kernel
theorem dX9_image_70 : decode cX9_image 70 = .ok (.aload_n 2, 1) := by decide +kernel
theorem dX9_image_71 : decode cX9_image 71 = .ok (.invokevirtual 237, 3) := by decide +kernel
theorem dX9_image_74 : decode cX9_image 74 = .ok (.iinc 1 1, 3) := by decide +kernel
theorem dX9_image_77 : decode cX9_image 77 = .ok (.goto (-25), 3) := by decide +kernel
theorem dX9_image_80 : decode cX9_image 80 = .ok (.aload_n 0, 1) := by decide +kernel
theorem dX9_image_81 : decode cX9_image 81 = .ok (.getfield 106, 3) := by decide +kernel
theorem dX9_image_84 : decode cX9_image 84 = .ok (.ireturn, 1) := by decide +kernel
set_option maxRecDepth 20000 in
theorem ggX9_restore_X8_copyFrom : GoodIn wsX9_restore wsX8_copyFrom := goodIn_r _ [15, 16, 17, 18, 19, 61, 62, 63, 64] (by decide +kernel) (by decide +kernel)
set_option maxRecDepth 20000 in
theorem gX9_restore_X8_copyFrom : GoodIn wsX9_restore (wsV RX9 233 RX8 yX8_copyFrom wsX8_copyFrom) := goodIn_app (goodIn_of _ (by decide +kernel)) ggX9_restore_X8_copyFrom
set_option maxRecDepth 20000 in
theorem ggX9_restore_X9_potAt : GoodIn wsX9_restore wsX9_potAt := goodIn_r _ [24, 10, 25, 43, 44, 45, 46, 47, 48, 49, 50, 51, 52, 53, 54, 55, 56, 57, 58, 59, 60] (by decide +kernel) (by decide +kernel)
set_option maxRecDepth 20000 in
theorem gX9_restore_X9_potAt : GoodIn wsX9_restore (wsV RX9 135 RX9 yX9_potAt wsX9_potAt) := goodIn_app (goodIn_of _ (by decide +kernel)) ggX9_restore_X9_potAt
set_option maxRecDepth 20000 in
theorem ggX9_restore_X5_goBack : GoodIn wsX9_restore wsX5_goBack := goodIn_r _ [31, 32, 33, 34, 35, 36, 37, 65, 66, 67, 68, 69, 70, 71, 72, 73, 74, 75, 76, 77, 78, 79, 80, 81, 82, 83, 84, 85, 86, 87, 88, 89, 90, 91, 92, 93, 94, 95, 96, 97, 98, 99] (by decide +kernel) (by decide +kernel)
set_option maxRecDepth 20000 in
theorem gX9_restore_X5_goBack_u240X0 : GoodIn wsX9_restore (va_wsU RX9 240 RX0 "OneTimer$Pot" ⟨"OneTimer$Pot", "goBack", "()V"⟩ yX5_goBack wsX5_goBack) := goodIn_app (goodIn_of _ (by decide +kernel)) ggX9_restore_X5_goBack
set_option maxRecDepth 20000 in
theorem gX9_restore_X5_goBack_u240X2 : GoodIn wsX9_restore (va_wsU RX9 240 RX2 "OneTimer$Pot" ⟨"OneTimer$Pot", "goBack", "()V"⟩ yX5_goBack wsX5_goBack) := goodIn_app (goodIn_of _ (by decide +kernel)) ggX9_restore_X5_goBack
set_option maxRecDepth 20000 in
theorem gX9_restore_X5_goBack : GoodIn wsX9_restore (wsV RX9 240 RX5 yX5_goBack wsX5_goBack) := goodIn_app (goodIn_of _ (by decide +kernel)) ggX9_restore_X5_goBack
set_option maxRecDepth 20000 in
theorem gX9_restore_X5_goBack_u240X6 : GoodIn wsX9_restore (va_wsU RX9 240 RX6 "OneTimer$Pot" ⟨"OneTimer$Pot", "goBack", "()V"⟩ yX5_goBack wsX5_goBack) := goodIn_app (goodIn_of _ (by decide +kernel)) ggX9_restore_X5_goBack
set_option maxRecDepth 20000 in
theorem gX9_restore_X5_goBack_u240X7 : GoodIn wsX9_restore (va_wsU RX9 240 RX7 "OneTimer$Pot" ⟨"OneTimer$Pot", "goBack", "()V"⟩ yX5_goBack wsX5_goBack) := goodIn_app (goodIn_of _ (by decide +kernel)) ggX9_restore_X5_goBack
theorem dX9_restore_0 : decode cX9_restore 0 = .ok (.aload_n 0, 1) := by decide +kernel
theorem dX9_restore_1 : decode cX9_restore 1 = .ok (.getfield 116, 3) := by decide +kernel
theorem dX9_restore_4 : decode cX9_restore 4 = .ok (.ifCond .ne 6, 3) := by decide +kernel
theorem dX9_restore_7 : decode cX9_restore 7 = .ok (.bipush (-103), 2) := by decide +kernel
theorem dX9_restore_9 : decode cX9_restore 9 = .ok (.ireturn, 1) := by decide +kernel
theorem dX9_restore_10 : decode cX9_restore 10 = .ok (.aload_n 0, 1) := by decide +kernel
theorem dX9_restore_11 : decode cX9_restore 11 = .ok (.aload_n 0, 1) := by decide +kernel
theorem dX9_restore_12 : decode cX9_restore 12 = .ok (.getfield 224, 3) := by decide +kernel
theorem dX9_restore_15 : decode cX9_restore 15 = .ok (.putfield 106, 3) := by decide +kernel
theorem dX9_restore_18 : decode cX9_restore 18 = .ok (.aload_n 0, 1) := by decide +kernel
theorem dX9_restore_19 : decode cX9_restore 19 = .ok (.aload_n 0, 1) := by decide +kernel
theorem dX9_restore_20 : decode cX9_restore 20 = .ok (.getfield 227, 3) := by decide +kernel
theorem dX9_restore_23 : decode cX9_restore 23 = .ok (.putfield 109, 3) := by decide +kernel
theorem dX9_restore_26 : decode cX9_restore 26 = .ok (.aload_n 0, 1) := by decide +kernel
theorem dX9_restore_27 : decode cX9_restore 27 = .ok (.aload_n 0, 1) := by decide +kernel
theorem dX9_restore_28 : decode cX9_restore 28 = .ok (.getfield 230, 3) := by decide +kernel
theorem dX9_restore_31 : decode cX9_restore 31 = .ok (.putfield 112, 3) := by decide +kernel
theorem dX9_restore_34 : decode cX9_restore 34 = .ok (.aload_n 0, 1) := by decide +kernel
theorem dX9_restore_35 : decode cX9_restore 35 = .ok (.getfield 25, 3) := by decide +kernel
theorem dX9_restore_38 : decode cX9_restore 38 = .ok (.aload_n 0, 1) := by decide +kernel
theorem dX9_restore_39 : decode cX9_restore 39 = .ok (.getfield 29, 3) := by decide +kernel
theorem dX9_restore_42 : decode cX9_restore 42 = .ok (.invokevirtual 233, 3) := by decide +kernel
theorem dX9_restore_45 : decode cX9_restore 45 = .ok (.iconst 0, 1) := by decide +kernel
theorem dX9_restore_46 : decode cX9_restore 46 = .ok (.istore_n 1, 1) := by decide +kernel
theorem dX9_restore_47 : decode cX9_restore 47 = .ok (.iload_n 1, 1) := by decide +kernel
theorem dX9_restore_48 : decode cX9_restore 48 = .ok (.aload_n 0, 1) := by decide +kernel
theorem dX9_restore_49 : decode cX9_restore 49 = .ok (.getfield 83, 3) := by decide +kernel
theorem dX9_restore_52 : decode cX9_restore 52 = .ok (.if_icmp .ge 23, 3) := by decide +kernel
theorem dX9_restore_55 : decode cX9_restore 55 = .ok (.aload_n 0, 1) := by decide +kernel
theorem dX9_restore_56 : decode cX9_restore 56 = .ok (.iload_n 1, 1) := by decide +kernel
theorem dX9_restore_57 : decode cX9_restore 57 = .ok (.invokevirtual 135, 3) := by decide +kernel
theorem dX9_restore_60 : decode cX9_restore 60 = .ok (.astore_n 2, 1) := by decide +kernel
theorem dX9_restore_61 : decode cX9_restore 61 = .ok (.aload_n 2, 1) := by decide +kernel
theorem dX9_restore_62 : decode cX9_restore 62 = .ok (.ifnull 7, 3) := by decide +kernel
theorem dX9_restore_65 : decode cX9_restore 65 = .ok (.aload_n 2, 1) := by decide +kernel
theorem dX9_restore_66 : decode cX9_restore 66 = .ok (.invokevirtual 240, 3) := by decide +kernel
theorem dX9_restore_69 : decode cX9_restore 69 = .ok (.iinc 1 1, 3) := by decide +kernel
theorem dX9_restore_72 : decode cX9_restore 72 = .ok (.goto (-25), 3) := by decide +kernel
theorem dX9_restore_75 : decode cX9_restore 75 = .ok (.aload_n 0, 1) := by decide +kernel
theorem dX9_restore_76 : decode cX9_restore 76 = .ok (.getfield 106, 3) := by decide +kernel
theorem dX9_restore_79 : decode cX9_restore 79 = .ok (.ireturn, 1) := by decide +kernel
set_option maxRecDepth 20000 in
theorem ggX9_count_X9_potsThatBoil : GoodIn wsX9_count wsX9_potsThatBoil := goodIn_r _ [17, 1, 18, 19, 20, 16, 21, 22, 23, 24, 25, 26, 27, 28, 29, 30, 31, 32, 33, 34, 35, 36, 37, 38, 39, 40, 41, 42, 43, 44, 45, 46, 47, 48, 49, 50, 51, 52, 59, 60, 61, 62, 63, 64, 65, 66, 67, 68, 69, 70, 71, 72, 73, 74, 75, 76, 77, 78, 79, 80, 81, 82, 83, 84, 85, 86, 87, 88, 89, 90, 91, 92, 93] (by decide +kernel) (by decide +kernel)
set_option maxRecDepth 20000 in
theorem gX9_count_X9_potsThatBoil : GoodIn wsX9_count (wsV RX9 243 RX9 yX9_potsThatBoil wsX9_potsThatBoil) := goodIn_app (goodIn_of _ (by decide +kernel)) ggX9_count_X9_potsThatBoil
theorem dX9_count_0 : decode cX9_count 0 = .ok (.iload_n 1, 1) := by decide +kernel
theorem dX9_count_1 : decode cX9_count 1 = .ok (.tableswitch 120 0 10 #[59, 64, 69, 74, 79, 84, 89, 94, 102, 110, 115], 59) := by decide +kernel
theorem dX9_count_60 : decode cX9_count 60 = .ok (.aload_n 0, 1) := by decide +kernel
theorem dX9_count_61 : decode cX9_count 61 = .ok (.getfield 83, 3) := by decide +kernel
theorem dX9_count_64 : decode cX9_count 64 = .ok (.ireturn, 1) := by decide +kernel
theorem dX9_count_65 : decode cX9_count 65 = .ok (.aload_n 0, 1) := by decide +kernel
theorem dX9_count_66 : decode cX9_count 66 = .ok (.getfield 68, 3) := by decide +kernel
theorem dX9_count_69 : decode cX9_count 69 = .ok (.ireturn, 1) := by decide +kernel
theorem dX9_count_70 : decode cX9_count 70 = .ok (.aload_n 0, 1) := by decide +kernel
theorem dX9_count_71 : decode cX9_count 71 = .ok (.getfield 74, 3) := by decide +kernel
theorem dX9_count_74 : decode cX9_count 74 = .ok (.ireturn, 1) := by decide +kernel
theorem dX9_count_75 : decode cX9_count 75 = .ok (.aload_n 0, 1) := by decide +kernel
theorem dX9_count_76 : decode cX9_count 76 = .ok (.getfield 106, 3) := by decide +kernel
theorem dX9_count_79 : decode cX9_count 79 = .ok (.ireturn, 1) := by decide +kernel
theorem dX9_count_80 : decode cX9_count 80 = .ok (.aload_n 0, 1) := by decide +kernel
theorem dX9_count_81 : decode cX9_count 81 = .ok (.invokevirtual 243, 3) := by decide +kernel
theorem dX9_count_84 : decode cX9_count 84 = .ok (.ireturn, 1) := by decide +kernel
theorem dX9_count_85 : decode cX9_count 85 = .ok (.aload_n 0, 1) := by decide +kernel
theorem dX9_count_86 : decode cX9_count 86 = .ok (.getfield 109, 3) := by decide +kernel
theorem dX9_count_89 : decode cX9_count 89 = .ok (.ireturn, 1) := by decide +kernel
theorem dX9_count_90 : decode cX9_count 90 = .ok (.aload_n 0, 1) := by decide +kernel
theorem dX9_count_91 : decode cX9_count 91 = .ok (.getfield 112, 3) := by decide +kernel
theorem dX9_count_94 : decode cX9_count 94 = .ok (.ireturn, 1) := by decide +kernel
theorem dX9_count_95 : decode cX9_count 95 = .ok (.aload_n 0, 1) := by decide +kernel
theorem dX9_count_96 : decode cX9_count 96 = .ok (.getfield 25, 3) := by decide +kernel
theorem dX9_count_99 : decode cX9_count 99 = .ok (.getfield 115, 3) := by decide +kernel
theorem dX9_count_102 : decode cX9_count 102 = .ok (.ireturn, 1) := by decide +kernel
theorem dX9_count_103 : decode cX9_count 103 = .ok (.aload_n 0, 1) := by decide +kernel
theorem dX9_count_104 : decode cX9_count 104 = .ok (.getfield 10, 3) := by decide +kernel
theorem dX9_count_107 : decode cX9_count 107 = .ok (.getfield 50, 3) := by decide +kernel
theorem dX9_count_110 : decode cX9_count 110 = .ok (.ireturn, 1) := by decide +kernel
theorem dX9_count_111 : decode cX9_count 111 = .ok (.aload_n 0, 1) := by decide +kernel
theorem dX9_count_112 : decode cX9_count 112 = .ok (.getfield 80, 3) := by decide +kernel
theorem dX9_count_115 : decode cX9_count 115 = .ok (.ireturn, 1) := by decide +kernel
theorem dX9_count_116 : decode cX9_count 116 = .ok (.aload_n 0, 1) := by decide +kernel
theorem dX9_count_117 : decode cX9_count 117 = .ok (.getfield 176, 3) := by decide +kernel
theorem dX9_count_120 : decode cX9_count 120 = .ok (.ireturn, 1) := by decide +kernel
theorem dX9_count_121 : decode cX9_count 121 = .ok (.bipush (-102), 2) := by decide +kernel
theorem dX9_count_123 : decode cX9_count 123 = .ok (.ireturn, 1) := by decide +kernel
set_option maxRecDepth 20000 in
theorem ggX9_potsThatBoil_X9_potAt : GoodIn wsX9_potsThatBoil wsX9_potAt := goodIn_r _ [6, 1, 7, 20, 21, 22, 23, 24, 25, 26, 27, 28, 29, 30, 31, 32, 33, 34, 35, 36, 37] (by decide +kernel) (by decide +kernel)
set_option maxRecDepth 20000 in
theorem gX9_potsThatBoil_X9_potAt : GoodIn wsX9_potsThatBoil (wsV RX9 135 RX9 yX9_potAt wsX9_potAt) := goodIn_app (goodIn_of _ (by decide +kernel)) ggX9_potsThatBoil_X9_potAt
set_option maxRecDepth 20000 in
theorem ggX9_potsThatBoil_X5_boils : GoodIn wsX9_potsThatBoil wsX5_boils := goodIn_r _ [13, 14, 38, 39, 40, 41, 42, 43, 44, 45, 46, 47, 48, 49, 50, 51, 52, 53, 54, 55, 56, 57, 58, 59, 60, 61, 62, 63, 64, 65, 66, 67, 68, 69, 70, 71, 72] (by decide +kernel) (by decide +kernel)
set_option maxRecDepth 20000 in
theorem gX9_potsThatBoil_X5_boils_u151X0 : GoodIn wsX9_potsThatBoil (va_wsU RX9 151 RX0 "OneTimer$Pot" ⟨"OneTimer$Pot", "boils", "()Z"⟩ yX5_boils wsX5_boils) := goodIn_app (goodIn_of _ (by decide +kernel)) ggX9_potsThatBoil_X5_boils
set_option maxRecDepth 20000 in
theorem gX9_potsThatBoil_X5_boils_u151X2 : GoodIn wsX9_potsThatBoil (va_wsU RX9 151 RX2 "OneTimer$Pot" ⟨"OneTimer$Pot", "boils", "()Z"⟩ yX5_boils wsX5_boils) := goodIn_app (goodIn_of _ (by decide +kernel)) ggX9_potsThatBoil_X5_boils
set_option maxRecDepth 20000 in
theorem gX9_potsThatBoil_X5_boils : GoodIn wsX9_potsThatBoil (wsV RX9 151 RX5 yX5_boils wsX5_boils) := goodIn_app (goodIn_of _ (by decide +kernel)) ggX9_potsThatBoil_X5_boils
set_option maxRecDepth 20000 in
theorem gX9_potsThatBoil_X5_boils_u151X6 : GoodIn wsX9_potsThatBoil (va_wsU RX9 151 RX6 "OneTimer$Pot" ⟨"OneTimer$Pot", "boils", "()Z"⟩ yX5_boils wsX5_boils) := goodIn_app (goodIn_of _ (by decide +kernel)) ggX9_potsThatBoil_X5_boils
set_option maxRecDepth 20000 in
theorem gX9_potsThatBoil_X5_boils_u151X7 : GoodIn wsX9_potsThatBoil (va_wsU RX9 151 RX7 "OneTimer$Pot" ⟨"OneTimer$Pot", "boils", "()Z"⟩ yX5_boils wsX5_boils) := goodIn_app (goodIn_of _ (by decide +kernel)) ggX9_potsThatBoil_X5_boils
theorem dX9_potsThatBoil_0 : decode cX9_potsThatBoil 0 = .ok (.iconst 0, 1) := by decide +kernel
theorem dX9_potsThatBoil_1 : decode cX9_potsThatBoil 1 = .ok (.istore_n 1, 1) := by decide +kernel
theorem dX9_potsThatBoil_2 : decode cX9_potsThatBoil 2 = .ok (.iconst 0, 1) := by decide +kernel
theorem dX9_potsThatBoil_3 : decode cX9_potsThatBoil 3 = .ok (.istore_n 2, 1) := by decide +kernel
theorem dX9_potsThatBoil_4 : decode cX9_potsThatBoil 4 = .ok (.iload_n 2, 1) := by decide +kernel
theorem dX9_potsThatBoil_5 : decode cX9_potsThatBoil 5 = .ok (.aload_n 0, 1) := by decide +kernel
theorem dX9_potsThatBoil_6 : decode cX9_potsThatBoil 6 = .ok (.getfield 83, 3) := by decide +kernel
theorem dX9_potsThatBoil_9 : decode cX9_potsThatBoil 9 = .ok (.if_icmp .ge 29, 3) := by decide +kernel
theorem dX9_potsThatBoil_12 : decode cX9_potsThatBoil 12 = .ok (.aload_n 0, 1) := by decide +kernel
theorem dX9_potsThatBoil_13 : decode cX9_potsThatBoil 13 = .ok (.iload_n 2, 1) := by decide +kernel
theorem dX9_potsThatBoil_14 : decode cX9_potsThatBoil 14 = .ok (.invokevirtual 135, 3) := by decide +kernel
theorem dX9_potsThatBoil_17 : decode cX9_potsThatBoil 17 = .ok (.astore_n 3, 1) := by decide +kernel
theorem dX9_potsThatBoil_18 : decode cX9_potsThatBoil 18 = .ok (.aload_n 3, 1) := by decide +kernel
theorem dX9_potsThatBoil_19 : decode cX9_potsThatBoil 19 = .ok (.ifnull 13, 3) := by decide +kernel
theorem dX9_potsThatBoil_22 : decode cX9_potsThatBoil 22 = .ok (.aload_n 3, 1) := by decide +kernel
theorem dX9_potsThatBoil_23 : decode cX9_potsThatBoil 23 = .ok (.invokevirtual 151, 3) := by decide +kernel
theorem dX9_potsThatBoil_26 : decode cX9_potsThatBoil 26 = .ok (.ifCond .eq 6, 3) := by decide +kernel
theorem dX9_potsThatBoil_29 : decode cX9_potsThatBoil 29 = .ok (.iinc 1 1, 3) := by decide +kernel
theorem dX9_potsThatBoil_32 : decode cX9_potsThatBoil 32 = .ok (.iinc 2 1, 3) := by decide +kernel
theorem dX9_potsThatBoil_35 : decode cX9_potsThatBoil 35 = .ok (.goto (-31), 3) := by decide +kernel
theorem dX9_potsThatBoil_38 : decode cX9_potsThatBoil 38 = .ok (.iload_n 1, 1) := by decide +kernel
theorem dX9_potsThatBoil_39 : decode cX9_potsThatBoil 39 = .ok (.ireturn, 1) := by decide +kernel
set_option maxRecDepth 20000 in
theorem ggX9_digest_X9_digestOfPot : GoodIn wsX9_digest wsX9_digestOfPot := goodIn_r _ [10, 3, 11, 12, 13, 9, 14, 15, 16, 17, 18, 19, 20, 21, 22, 23, 2, 24, 25, 26, 27, 28, 29, 30, 31, 32, 33, 34, 35, 36, 37, 38, 39, 40, 41, 42, 43, 44, 45, 46, 47, 48, 49, 50, 51, 52, 53, 54, 55, 56, 57, 58, 59, 60, 61, 62, 63, 64, 65, 66, 67, 68, 69, 70, 71, 72, 73, 74, 75, 76, 77, 78, 79, 80, 81, 82, 83, 84, 85, 86, 87, 88, 89, 90, 91, 92, 93, 94, 95, 96, 97, 98, 99, 100, 101, 102, 103, 104, 105, 106, 107, 108, 109, 110, 111, 112, 113, 114, 115, 116, 117, 118, 119, 120, 121, 122, 123, 124, 125, 126, 127, 128, 129, 197, 198, 199, 200, 201, 202, 203, 204, 205, 206, 207, 208, 209, 210, 211, 212, 213, 214, 215, 216, 217, 218, 219, 220, 221, 222, 223, 224, 225, 226, 227, 228, 229, 230, 231, 177, 178, 179, 180, 181, 182, 183, 184, 185, 186, 187, 188, 189, 190, 191, 192, 193, 194] (by decide +kernel) (by decide +kernel)
set_option maxRecDepth 20000 in
theorem gX9_digest_X9_digestOfPot : GoodIn wsX9_digest (wsV RX9 248 RX9 yX9_digestOfPot wsX9_digestOfPot) := goodIn_app (goodIn_of _ (by decide +kernel)) ggX9_digest_X9_digestOfPot
set_option maxRecDepth 20000 in
theorem ggX9_digest_X9_hasKitchen : GoodIn wsX9_digest wsX9_hasKitchen := goodIn_r _ [133, 2, 177, 178, 179, 180, 181, 182, 183, 184, 185, 186, 187, 188, 189, 190, 191, 192, 193, 194] (by decide +kernel) (by decide +kernel)
set_option maxRecDepth 20000 in
theorem gX9_digest_X9_hasKitchen : GoodIn wsX9_digest (wsV RX9 170 RX9 yX9_hasKitchen wsX9_hasKitchen) := goodIn_app (goodIn_of _ (by decide +kernel)) ggX9_digest_X9_hasKitchen
set_option maxRecDepth 20000 in
theorem ggX9_digest_X9_wound : GoodIn wsX9_digest wsX9_wound := goodIn_r _ [137, 130, 131, 132, 9, 133, 2, 138, 139, 140, 141, 113, 142, 143, 144, 145, 146, 147, 148, 149, 150, 151, 102, 103, 152, 153, 154, 155, 177, 178, 179, 180, 181, 182, 183, 184, 185, 186, 187, 188, 189, 190, 191, 192, 193, 194, 232, 233, 234, 235] (by decide +kernel) (by decide +kernel)
set_option maxRecDepth 20000 in
theorem gX9_digest_X9_wound : GoodIn wsX9_digest (wsV RX9 254 RX9 yX9_wound wsX9_wound) := goodIn_app (goodIn_of _ (by decide +kernel)) ggX9_digest_X9_wound
set_option maxRecDepth 20000 in
theorem ggX9_digest_X3_codeAt : GoodIn wsX9_digest wsX3_codeAt := goodIn_r _ [160, 161, 162, 195, 196] (by decide +kernel) (by decide +kernel)
set_option maxRecDepth 20000 in
theorem gX9_digest_X3_codeAt : GoodIn wsX9_digest (wsV RX9 257 RX3 yX3_codeAt wsX3_codeAt) := goodIn_app (goodIn_of _ (by decide +kernel)) ggX9_digest_X3_codeAt
set_option maxRecDepth 20000 in
theorem ggX9_digest_X9_count : GoodIn wsX9_digest wsX9_count := goodIn_r _ [166, 2, 113, 167, 17, 168, 169, 142, 170, 4, 5, 171, 172, 173, 174, 175, 9, 176, 20, 21, 22, 23, 24, 71, 72, 73, 74, 40, 75, 76, 77, 78, 79, 80, 81, 177, 178, 179, 180, 181, 182, 183, 184, 185, 186, 187, 188, 189, 190, 191, 192, 193, 194, 232, 233, 234, 235, 195, 196, 197, 198, 199, 200, 201, 202, 203, 204, 205, 206, 207, 208, 209, 210, 211, 212, 213, 214, 215, 216, 217, 218, 219, 220, 221, 222, 223, 224, 225, 226, 227, 228, 229, 230, 231] (by decide +kernel) (by decide +kernel)
set_option maxRecDepth 20000 in
theorem gX9_digest_X9_count : GoodIn wsX9_digest (wsV RX9 260 RX9 yX9_count wsX9_count) := goodIn_app (goodIn_of _ (by decide +kernel)) ggX9_digest_X9_count
theorem dX9_digest_0 : decode cX9_digest 0 = .ok (.ldc2_w 246, 3) := by decide +kernel
theorem dX9_digest_3 : decode cX9_digest 3 = .ok (.lstore_n 1, 1) := by decide +kernel
theorem dX9_digest_4 : decode cX9_digest 4 = .ok (.iconst 0, 1) := by decide +kernel
theorem dX9_digest_5 : decode cX9_digest 5 = .ok (.istore_n 3, 1) := by decide +kernel
theorem dX9_digest_6 : decode cX9_digest 6 = .ok (.iload_n 3, 1) := by decide +kernel
theorem dX9_digest_7 : decode cX9_digest 7 = .ok (.aload_n 0, 1) := by decide +kernel
theorem dX9_digest_8 : decode cX9_digest 8 = .ok (.getfield 83, 3) := by decide +kernel
theorem dX9_digest_11 : decode cX9_digest 11 = .ok (.if_icmp .ge 16, 3) := by decide +kernel
theorem dX9_digest_14 : decode cX9_digest 14 = .ok (.aload_n 0, 1) := by decide +kernel
theorem dX9_digest_15 : decode cX9_digest 15 = .ok (.lload_n 1, 1) := by decide +kernel
theorem dX9_digest_16 : decode cX9_digest 16 = .ok (.iload_n 3, 1) := by decide +kernel
theorem dX9_digest_17 : decode cX9_digest 17 = .ok (.invokevirtual 248, 3) := by decide +kernel
theorem dX9_digest_20 : decode cX9_digest 20 = .ok (.lstore_n 1, 1) := by decide +kernel
theorem dX9_digest_21 : decode cX9_digest 21 = .ok (.iinc 3 1, 3) := by decide +kernel
theorem dX9_digest_24 : decode cX9_digest 24 = .ok (.goto (-18), 3) := by decide +kernel
theorem dX9_digest_27 : decode cX9_digest 27 = .ok (.aload_n 0, 1) := by decide +kernel
theorem dX9_digest_28 : decode cX9_digest 28 = .ok (.invokevirtual 170, 3) := by decide +kernel
theorem dX9_digest_31 : decode cX9_digest 31 = .ok (.ifCond .eq 29, 3) := by decide +kernel
theorem dX9_digest_34 : decode cX9_digest 34 = .ok (.ldc2_w 252, 3) := by decide +kernel
theorem dX9_digest_37 : decode cX9_digest 37 = .ok (.lload_n 1, 1) := by decide +kernel
theorem dX9_digest_38 : decode cX9_digest 38 = .ok (.lmul, 1) := by decide +kernel
theorem dX9_digest_39 : decode cX9_digest 39 = .ok (.aload_n 0, 1) := by decide +kernel
theorem dX9_digest_40 : decode cX9_digest 40 = .ok (.iconst 0, 1) := by decide +kernel
theorem dX9_digest_41 : decode cX9_digest 41 = .ok (.invokevirtual 254, 3) := by decide +kernel
theorem dX9_digest_44 : decode cX9_digest 44 = .ok (.i2l, 1) := by decide +kernel
theorem dX9_digest_45 : decode cX9_digest 45 = .ok (.ladd, 1) := by decide +kernel
theorem dX9_digest_46 : decode cX9_digest 46 = .ok (.lstore_n 1, 1) := by decide +kernel
theorem dX9_digest_47 : decode cX9_digest 47 = .ok (.ldc2_w 252, 3) := by decide +kernel
theorem dX9_digest_50 : decode cX9_digest 50 = .ok (.lload_n 1, 1) := by decide +kernel
theorem dX9_digest_51 : decode cX9_digest 51 = .ok (.lmul, 1) := by decide +kernel
theorem dX9_digest_52 : decode cX9_digest 52 = .ok (.aload_n 0, 1) := by decide +kernel
theorem dX9_digest_53 : decode cX9_digest 53 = .ok (.iconst 1, 1) := by decide +kernel
theorem dX9_digest_54 : decode cX9_digest 54 = .ok (.invokevirtual 254, 3) := by decide +kernel
theorem dX9_digest_57 : decode cX9_digest 57 = .ok (.i2l, 1) := by decide +kernel
theorem dX9_digest_58 : decode cX9_digest 58 = .ok (.ladd, 1) := by decide +kernel
theorem dX9_digest_59 : decode cX9_digest 59 = .ok (.lstore_n 1, 1) := by decide +kernel
theorem dX9_digest_60 : decode cX9_digest 60 = .ok (.iconst 0, 1) := by decide +kernel
theorem dX9_digest_61 : decode cX9_digest 61 = .ok (.istore_n 3, 1) := by decide +kernel
theorem dX9_digest_62 : decode cX9_digest 62 = .ok (.iload_n 3, 1) := by decide +kernel
theorem dX9_digest_63 : decode cX9_digest 63 = .ok (.aload_n 0, 1) := by decide +kernel
theorem dX9_digest_64 : decode cX9_digest 64 = .ok (.getfield 10, 3) := by decide +kernel
theorem dX9_digest_67 : decode cX9_digest 67 = .ok (.getfield 50, 3) := by decide +kernel
theorem dX9_digest_70 : decode cX9_digest 70 = .ok (.if_icmp .ge 25, 3) := by decide +kernel
theorem dX9_digest_73 : decode cX9_digest 73 = .ok (.ldc2_w 252, 3) := by decide +kernel
theorem dX9_digest_76 : decode cX9_digest 76 = .ok (.lload_n 1, 1) := by decide +kernel
theorem dX9_digest_77 : decode cX9_digest 77 = .ok (.lmul, 1) := by decide +kernel
theorem dX9_digest_78 : decode cX9_digest 78 = .ok (.aload_n 0, 1) := by decide +kernel
theorem dX9_digest_79 : decode cX9_digest 79 = .ok (.getfield 10, 3) := by decide +kernel
theorem dX9_digest_82 : decode cX9_digest 82 = .ok (.iload_n 3, 1) := by decide +kernel
theorem dX9_digest_83 : decode cX9_digest 83 = .ok (.invokevirtual 257, 3) := by decide +kernel
theorem dX9_digest_86 : decode cX9_digest 86 = .ok (.i2l, 1) := by decide +kernel
theorem dX9_digest_87 : decode cX9_digest 87 = .ok (.ladd, 1) := by decide +kernel
theorem dX9_digest_88 : decode cX9_digest 88 = .ok (.lstore_n 1, 1) := by decide +kernel
theorem dX9_digest_89 : decode cX9_digest 89 = .ok (.iinc 3 1, 3) := by decide +kernel
theorem dX9_digest_92 : decode cX9_digest 92 = .ok (.goto (-30), 3) := by decide +kernel
theorem dX9_digest_95 : decode cX9_digest 95 = .ok (.iconst 0, 1) := by decide +kernel
theorem dX9_digest_96 : decode cX9_digest 96 = .ok (.istore_n 3, 1) := by decide +kernel
theorem dX9_digest_97 : decode cX9_digest 97 = .ok (.iload_n 3, 1) := by decide +kernel
theorem dX9_digest_98 : decode cX9_digest 98 = .ok (.bipush 10, 2) := by decide +kernel
theorem dX9_digest_100 : decode cX9_digest 100 = .ok (.if_icmp .gt 22, 3) := by decide +kernel
theorem dX9_digest_103 : decode cX9_digest 103 = .ok (.ldc2_w 252, 3) := by decide +kernel
theorem dX9_digest_106 : decode cX9_digest 106 = .ok (.lload_n 1, 1) := by decide +kernel
theorem dX9_digest_107 : decode cX9_digest 107 = .ok (.lmul, 1) := by decide +kernel
theorem dX9_digest_108 : decode cX9_digest 108 = .ok (.aload_n 0, 1) := by decide +kernel
theorem dX9_digest_109 : decode cX9_digest 109 = .ok (.iload_n 3, 1) := by decide +kernel
theorem dX9_digest_110 : decode cX9_digest 110 = .ok (.invokevirtual 260, 3) := by decide +kernel
theorem dX9_digest_113 : decode cX9_digest 113 = .ok (.i2l, 1) := by decide +kernel
theorem dX9_digest_114 : decode cX9_digest 114 = .ok (.ladd, 1) := by decide +kernel
theorem dX9_digest_115 : decode cX9_digest 115 = .ok (.lstore_n 1, 1) := by decide +kernel
theorem dX9_digest_116 : decode cX9_digest 116 = .ok (.iinc 3 1, 3) := by decide +kernel
theorem dX9_digest_119 : decode cX9_digest 119 = .ok (.goto (-22), 3) := by decide +kernel
theorem dX9_digest_122 : decode cX9_digest 122 = .ok (.lload_n 1, 1) := by decide +kernel
theorem dX9_digest_123 : decode cX9_digest 123 = .ok (.lreturn, 1) := by decide +kernel
set_option maxRecDepth 20000 in
theorem ggX9_digestOfPot_X9_about : GoodIn wsX9_digestOfPot wsX9_about := goodIn_r _ [6, 7, 8, 9, 10, 11, 12, 13, 14, 5, 15, 16, 17, 18, 19, 20, 21, 22, 23, 24, 25, 26, 27, 28, 29, 30, 31, 32, 33, 34, 35, 36, 37, 38, 39, 40, 41, 42, 43, 44, 45, 46, 47, 48, 49, 50, 51, 52, 53, 54, 55, 56, 57, 58, 59, 60, 61, 62, 63, 64, 65, 66, 67, 68, 69, 70, 71, 72, 73, 74, 75, 76, 77, 78, 79, 80, 81, 82, 83, 84, 85, 86, 87, 88, 89, 90, 91, 92, 93, 94, 95, 96, 97, 98, 99, 100, 101, 123, 124, 125, 126, 127, 128, 129, 130, 131, 132, 133, 134, 135, 136, 137, 138, 139, 140, 141, 142, 143, 144, 145, 146, 147, 148, 149, 150, 151, 152, 153, 154, 155, 156, 157, 158, 159, 160, 161, 162, 163, 164, 165, 166, 167, 168, 169, 170, 171, 172, 173, 174, 175] (by decide +kernel) (by decide +kernel)
set_option maxRecDepth 20000 in
theorem gX9_digestOfPot_X9_about : GoodIn wsX9_digestOfPot (wsV RX9 263 RX9 yX9_about wsX9_about) := goodIn_app (goodIn_of _ (by decide +kernel)) ggX9_digestOfPot_X9_about
set_option maxRecDepth 20000 in
theorem ggX9_digestOfPot_X9_potAt : GoodIn wsX9_digestOfPot wsX9_potAt := goodIn_r _ [15, 16, 17, 158, 159, 160, 161, 162, 163, 164, 165, 166, 167, 168, 169, 170, 171, 172, 173, 174, 175] (by decide +kernel) (by decide +kernel)
set_option maxRecDepth 20000 in
theorem gX9_digestOfPot_X9_potAt : GoodIn wsX9_digestOfPot (wsV RX9 135 RX9 yX9_potAt wsX9_potAt) := goodIn_app (goodIn_of _ (by decide +kernel)) ggX9_digestOfPot_X9_potAt
set_option maxRecDepth 20000 in
theorem ggX9_digestOfPot_X5_boils : GoodIn wsX9_digestOfPot wsX5_boils := goodIn_r _ [68, 69, 123, 124, 125, 126, 127, 128, 129, 130, 131, 132, 133, 134, 135, 136, 137, 138, 139, 140, 141, 142, 143, 144, 145, 146, 147, 148, 149, 150, 151, 152, 153, 154, 155, 156, 157] (by decide +kernel) (by decide +kernel)
set_option maxRecDepth 20000 in
theorem gX9_digestOfPot_X5_boils_u151X0 : GoodIn wsX9_digestOfPot (va_wsU RX9 151 RX0 "OneTimer$Pot" ⟨"OneTimer$Pot", "boils", "()Z"⟩ yX5_boils wsX5_boils) := goodIn_app (goodIn_of _ (by decide +kernel)) ggX9_digestOfPot_X5_boils
set_option maxRecDepth 20000 in
theorem gX9_digestOfPot_X5_boils_u151X2 : GoodIn wsX9_digestOfPot (va_wsU RX9 151 RX2 "OneTimer$Pot" ⟨"OneTimer$Pot", "boils", "()Z"⟩ yX5_boils wsX5_boils) := goodIn_app (goodIn_of _ (by decide +kernel)) ggX9_digestOfPot_X5_boils
set_option maxRecDepth 20000 in
theorem gX9_digestOfPot_X5_boils : GoodIn wsX9_digestOfPot (wsV RX9 151 RX5 yX5_boils wsX5_boils) := goodIn_app (goodIn_of _ (by decide +kernel)) ggX9_digestOfPot_X5_boils
set_option maxRecDepth 20000 in
theorem gX9_digestOfPot_X5_boils_u151X6 : GoodIn wsX9_digestOfPot (va_wsU RX9 151 RX6 "OneTimer$Pot" ⟨"OneTimer$Pot", "boils", "()Z"⟩ yX5_boils wsX5_boils) := goodIn_app (goodIn_of _ (by decide +kernel)) ggX9_digestOfPot_X5_boils
set_option maxRecDepth 20000 in
theorem gX9_digestOfPot_X5_boils_u151X7 : GoodIn wsX9_digestOfPot (va_wsU RX9 151 RX7 "OneTimer$Pot" ⟨"OneTimer$Pot", "boils", "()Z"⟩ yX5_boils wsX5_boils) := goodIn_app (goodIn_of _ (by decide +kernel)) ggX9_digestOfPot_X5_boils
set_option maxRecDepth 20000 in
theorem ggX9_digestOfPot_X9_bestWinding : GoodIn wsX9_digestOfPot wsX9_bestWinding := goodIn_r _ [105, 9, 106, 107, 108, 109, 110, 33, 111, 112, 87, 88, 89, 90, 91, 76, 77, 78, 79, 69, 80, 81, 92, 83, 84, 85, 93, 43, 44, 45, 46, 23, 47, 48, 49, 50, 51, 36, 52, 53, 54, 55, 28, 56, 94, 58, 59, 60, 61, 62, 40, 63, 95, 5, 96, 97, 113, 99, 100, 101, 114, 115, 116, 117, 118, 158, 159, 160, 161, 162, 163, 164, 165, 166, 167, 168, 169, 170, 171, 172, 173, 174, 175, 123, 124, 125, 126, 127, 128, 129, 130, 131, 132, 133, 134, 135, 136, 137, 138, 139, 140, 141, 142, 143, 144, 145, 146, 147, 148, 149, 150, 151, 152, 153, 154, 155, 156, 157] (by decide +kernel) (by decide +kernel)
set_option maxRecDepth 20000 in
theorem gX9_digestOfPot_X9_bestWinding : GoodIn wsX9_digestOfPot (wsV RX9 199 RX9 yX9_bestWinding wsX9_bestWinding) := goodIn_app (goodIn_of _ (by decide +kernel)) ggX9_digestOfPot_X9_bestWinding
set_option maxRecDepth 20000 in
theorem ggX9_digestOfPot_X9_together : GoodIn wsX9_digestOfPot wsX9_together := goodIn_r _ [122, 7, 9, 12, 13, 14, 5, 15, 16, 17, 123, 124, 125, 126, 127, 128, 129, 130, 131, 132, 133, 134, 135, 136, 137, 138, 139, 140, 141, 142, 143, 144, 145, 146, 147, 148, 149, 150, 151, 152, 153, 154, 155, 156, 157, 158, 159, 160, 161, 162, 163, 164, 165, 166, 167, 168, 169, 170, 171, 172, 173, 174, 175] (by decide +kernel) (by decide +kernel)
set_option maxRecDepth 20000 in
theorem gX9_digestOfPot_X9_together : GoodIn wsX9_digestOfPot (wsV RX9 266 RX9 yX9_together wsX9_together) := goodIn_app (goodIn_of _ (by decide +kernel)) ggX9_digestOfPot_X9_together
theorem dX9_digestOfPot_0 : decode cX9_digestOfPot 0 = .ok (.lload_n 1, 1) := by decide +kernel
theorem dX9_digestOfPot_1 : decode cX9_digestOfPot 1 = .ok (.lstore 4, 2) := by decide +kernel
theorem dX9_digestOfPot_3 : decode cX9_digestOfPot 3 = .ok (.iconst 0, 1) := by decide +kernel
theorem dX9_digestOfPot_4 : decode cX9_digestOfPot 4 = .ok (.istore 6, 2) := by decide +kernel
theorem dX9_digestOfPot_6 : decode cX9_digestOfPot 6 = .ok (.iload 6, 2) := by decide +kernel
theorem dX9_digestOfPot_8 : decode cX9_digestOfPot 8 = .ok (.bipush 7, 2) := by decide +kernel
theorem dX9_digestOfPot_10 : decode cX9_digestOfPot 10 = .ok (.if_icmp .gt 26, 3) := by decide +kernel
theorem dX9_digestOfPot_13 : decode cX9_digestOfPot 13 = .ok (.ldc2_w 252, 3) := by decide +kernel
theorem dX9_digestOfPot_16 : decode cX9_digestOfPot 16 = .ok (.lload 4, 2) := by decide +kernel
theorem dX9_digestOfPot_18 : decode cX9_digestOfPot 18 = .ok (.lmul, 1) := by decide +kernel
theorem dX9_digestOfPot_19 : decode cX9_digestOfPot 19 = .ok (.aload_n 0, 1) := by decide +kernel
theorem dX9_digestOfPot_20 : decode cX9_digestOfPot 20 = .ok (.iload_n 3, 1) := by decide +kernel
theorem dX9_digestOfPot_21 : decode cX9_digestOfPot 21 = .ok (.iload 6, 2) := by decide +kernel
theorem dX9_digestOfPot_23 : decode cX9_digestOfPot 23 = .ok (.invokevirtual 263, 3) := by decide +kernel
theorem dX9_digestOfPot_26 : decode cX9_digestOfPot 26 = .ok (.i2l, 1) := by decide +kernel
theorem dX9_digestOfPot_27 : decode cX9_digestOfPot 27 = .ok (.ladd, 1) := by decide +kernel
theorem dX9_digestOfPot_28 : decode cX9_digestOfPot 28 = .ok (.lstore 4, 2) := by decide +kernel
theorem dX9_digestOfPot_30 : decode cX9_digestOfPot 30 = .ok (.iinc 6 1, 3) := by decide +kernel
theorem dX9_digestOfPot_33 : decode cX9_digestOfPot 33 = .ok (.goto (-27), 3) := by decide +kernel
theorem dX9_digestOfPot_36 : decode cX9_digestOfPot 36 = .ok (.aload_n 0, 1) := by decide +kernel
theorem dX9_digestOfPot_37 : decode cX9_digestOfPot 37 = .ok (.iload_n 3, 1) := by decide +kernel
theorem dX9_digestOfPot_38 : decode cX9_digestOfPot 38 = .ok (.invokevirtual 135, 3) := by decide +kernel
theorem dX9_digestOfPot_41 : decode cX9_digestOfPot 41 = .ok (.astore 6, 2) := by decide +kernel
theorem dX9_digestOfPot_43 : decode cX9_digestOfPot 43 = .ok (.ldc2_w 252, 3) := by decide +kernel
theorem dX9_digestOfPot_46 : decode cX9_digestOfPot 46 = .ok (.lload 4, 2) := by decide +kernel
theorem dX9_digestOfPot_48 : decode cX9_digestOfPot 48 = .ok (.lmul, 1) := by decide +kernel
theorem dX9_digestOfPot_49 : decode cX9_digestOfPot 49 = .ok (.aload 6, 2) := by decide +kernel
theorem dX9_digestOfPot_51 : decode cX9_digestOfPot 51 = .ok (.ifnull 20, 3) := by decide +kernel
theorem dX9_digestOfPot_54 : decode cX9_digestOfPot 54 = .ok (.aload 6, 2) := by decide +kernel
theorem dX9_digestOfPot_56 : decode cX9_digestOfPot 56 = .ok (.invokevirtual 151, 3) := by decide +kernel
theorem dX9_digestOfPot_59 : decode cX9_digestOfPot 59 = .ok (.ifCond .eq 12, 3) := by decide +kernel
theorem dX9_digestOfPot_62 : decode cX9_digestOfPot 62 = .ok (.aload_n 0, 1) := by decide +kernel
theorem dX9_digestOfPot_63 : decode cX9_digestOfPot 63 = .ok (.aload 6, 2) := by decide +kernel
theorem dX9_digestOfPot_65 : decode cX9_digestOfPot 65 = .ok (.invokevirtual 199, 3) := by decide +kernel
theorem dX9_digestOfPot_68 : decode cX9_digestOfPot 68 = .ok (.goto 4, 3) := by decide +kernel
theorem dX9_digestOfPot_71 : decode cX9_digestOfPot 71 = .ok (.iconst 0, 1) := by decide +kernel
theorem dX9_digestOfPot_72 : decode cX9_digestOfPot 72 = .ok (.i2l, 1) := by decide +kernel
theorem dX9_digestOfPot_73 : decode cX9_digestOfPot 73 = .ok (.ladd, 1) := by decide +kernel
theorem dX9_digestOfPot_74 : decode cX9_digestOfPot 74 = .ok (.lstore 4, 2) := by decide +kernel
theorem dX9_digestOfPot_76 : decode cX9_digestOfPot 76 = .ok (.ldc2_w 252, 3) := by decide +kernel
theorem dX9_digestOfPot_79 : decode cX9_digestOfPot 79 = .ok (.lload 4, 2) := by decide +kernel
theorem dX9_digestOfPot_81 : decode cX9_digestOfPot 81 = .ok (.lmul, 1) := by decide +kernel
theorem dX9_digestOfPot_82 : decode cX9_digestOfPot 82 = .ok (.aload_n 0, 1) := by decide +kernel
theorem dX9_digestOfPot_83 : decode cX9_digestOfPot 83 = .ok (.iload_n 3, 1) := by decide +kernel
theorem dX9_digestOfPot_84 : decode cX9_digestOfPot 84 = .ok (.bipush 60, 2) := by decide +kernel
theorem dX9_digestOfPot_86 : decode cX9_digestOfPot 86 = .ok (.invokevirtual 266, 3) := by decide +kernel
theorem dX9_digestOfPot_89 : decode cX9_digestOfPot 89 = .ok (.i2l, 1) := by decide +kernel
theorem dX9_digestOfPot_90 : decode cX9_digestOfPot 90 = .ok (.ladd, 1) := by decide +kernel
theorem dX9_digestOfPot_91 : decode cX9_digestOfPot 91 = .ok (.lreturn, 1) := by decide +kernel
theorem dX9_outBy_0 : decode cX9_outBy 0 = .ok (.iload_n 0, 1) := by decide +kernel
theorem dX9_outBy_1 : decode cX9_outBy 1 = .ok (.ifCond .ge 8, 3) := by decide +kernel
theorem dX9_outBy_4 : decode cX9_outBy 4 = .ok (.bipush 100, 2) := by decide +kernel
theorem dX9_outBy_6 : decode cX9_outBy 6 = .ok (.iload_n 0, 1) := by decide +kernel
theorem dX9_outBy_7 : decode cX9_outBy 7 = .ok (.iadd, 1) := by decide +kernel
theorem dX9_outBy_8 : decode cX9_outBy 8 = .ok (.ireturn, 1) := by decide +kernel
theorem dX9_outBy_9 : decode cX9_outBy 9 = .ok (.iload_n 0, 1) := by decide +kernel
theorem dX9_outBy_10 : decode cX9_outBy 10 = .ok (.iload_n 1, 1) := by decide +kernel
theorem dX9_outBy_11 : decode cX9_outBy 11 = .ok (.if_icmp .gt 8, 3) := by decide +kernel
theorem dX9_outBy_14 : decode cX9_outBy 14 = .ok (.bipush 100, 2) := by decide +kernel
theorem dX9_outBy_16 : decode cX9_outBy 16 = .ok (.goto 9, 3) := by decide +kernel
theorem dX9_outBy_19 : decode cX9_outBy 19 = .ok (.bipush 100, 2) := by decide +kernel
theorem dX9_outBy_21 : decode cX9_outBy 21 = .ok (.iload_n 0, 1) := by decide +kernel
theorem dX9_outBy_22 : decode cX9_outBy 22 = .ok (.iadd, 1) := by decide +kernel
theorem dX9_outBy_23 : decode cX9_outBy 23 = .ok (.iload_n 1, 1) := by decide +kernel
theorem dX9_outBy_24 : decode cX9_outBy 24 = .ok (.isub, 1) := by decide +kernel
theorem dX9_outBy_25 : decode cX9_outBy 25 = .ok (.ireturn, 1) := by decide +kernel
theorem dX10_init_0 : decode cX10_init 0 = .ok (.aload_n 0, 1) := by decide +kernel
theorem dX10_init_1 : decode cX10_init 1 = .ok (.invokespecial 1, 3) := by decide +kernel
