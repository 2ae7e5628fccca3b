theorem dX9_hasKitchen_11 : decode cX9_hasKitchen 11 = .ok (.iconst 0, 1) := by decide +kernel
theorem dX9_hasKitchen_12 : decode cX9_hasKitchen 12 = .ok (.ireturn, 1) := by decide +kernel
theorem dX9_potAt_0 : decode cX9_potAt 0 = .ok (.iload_n 1, 1) := by decide +kernel
theorem dX9_potAt_1 : decode cX9_potAt 1 = .ok (.ifCond .lt 20, 3) := by decide +kernel
theorem dX9_potAt_4 : decode cX9_potAt 4 = .ok (.iload_n 1, 1) := by decide +kernel
theorem dX9_potAt_5 : decode cX9_potAt 5 = .ok (.aload_n 0, 1) := by decide +kernel
theorem dX9_potAt_6 : decode cX9_potAt 6 = .ok (.getfield 83, 3) := by decide +kernel
theorem dX9_potAt_9 : decode cX9_potAt 9 = .ok (.if_icmp .ge 12, 3) := by decide +kernel
theorem dX9_potAt_12 : decode cX9_potAt 12 = .ok (.iload_n 1, 1) := by decide +kernel
theorem dX9_potAt_13 : decode cX9_potAt 13 = .ok (.aload_n 0, 1) := by decide +kernel
theorem dX9_potAt_14 : decode cX9_potAt 14 = .ok (.getfield 18, 3) := by decide +kernel
theorem dX9_potAt_17 : decode cX9_potAt 17 = .ok (.arraylength, 1) := by decide +kernel
theorem dX9_potAt_18 : decode cX9_potAt 18 = .ok (.if_icmp .lt 5, 3) := by decide +kernel
theorem dX9_potAt_21 : decode cX9_potAt 21 = .ok (.aconst_null, 1) := by decide +kernel
theorem dX9_potAt_22 : decode cX9_potAt 22 = .ok (.areturn, 1) := by decide +kernel
theorem dX9_potAt_23 : decode cX9_potAt 23 = .ok (.aload_n 0, 1) := by decide +kernel
theorem dX9_potAt_24 : decode cX9_potAt 24 = .ok (.getfield 18, 3) := by decide +kernel
theorem dX9_potAt_27 : decode cX9_potAt 27 = .ok (.iload_n 1, 1) := by decide +kernel
theorem dX9_potAt_28 : decode cX9_potAt 28 = .ok (.aaload, 1) := by decide +kernel
theorem dX9_potAt_29 : decode cX9_potAt 29 = .ok (.areturn, 1) := by decide +kernel
set_option maxRecDepth 20000 in
theorem ggX9_about_X9_potAt : GoodIn wsX9_about wsX9_potAt := goodIn_r _ [10, 11, 12, 132, 133, 134, 135, 136, 137, 138, 139, 140, 141, 142, 143, 144, 145, 146, 147, 148, 149] (by decide +kernel) (by decide +kernel)
set_option maxRecDepth 20000 in
theorem gX9_about_X9_potAt : GoodIn wsX9_about (wsV RX9 135 RX9 yX9_potAt wsX9_potAt) := goodIn_app (goodIn_of _ (by decide +kernel)) ggX9_about_X9_potAt
set_option maxRecDepth 20000 in
theorem ggX9_about_X0_kind : GoodIn wsX9_about wsX0_kind := goodIn_r _ [19] (by decide +kernel) (by decide +kernel)
set_option maxRecDepth 20000 in
theorem gX9_about_X0_kind_u139X0 : GoodIn wsX9_about (va_wsO RX9 139 RX0 "OneTimer$Pot" ⟨"OneTimer$Pot", "kind", "()I"⟩ yX0_kind wsX0_kind) := goodIn_app (goodIn_of _ (by decide +kernel)) ggX9_about_X0_kind
set_option maxRecDepth 20000 in
theorem ggX9_about_X2_kind : GoodIn wsX9_about wsX2_kind := goodIn_r _ [24] (by decide +kernel) (by decide +kernel)
set_option maxRecDepth 20000 in
theorem gX9_about_X2_kind_u139X2 : GoodIn wsX9_about (va_wsO RX9 139 RX2 "OneTimer$Pot" ⟨"OneTimer$Pot", "kind", "()I"⟩ yX2_kind wsX2_kind) := goodIn_app (goodIn_of _ (by decide +kernel)) ggX9_about_X2_kind
set_option maxRecDepth 20000 in
theorem ggX9_about_X5_kind : GoodIn wsX9_about wsX5_kind := goodIn_r _ [20] (by decide +kernel) (by decide +kernel)
set_option maxRecDepth 20000 in
theorem gX9_about_X5_kind : GoodIn wsX9_about (wsV RX9 139 RX5 yX5_kind wsX5_kind) := goodIn_app (goodIn_of _ (by decide +kernel)) ggX9_about_X5_kind
set_option maxRecDepth 20000 in
theorem ggX9_about_X6_kind : GoodIn wsX9_about wsX6_kind := goodIn_r _ [32] (by decide +kernel) (by decide +kernel)
set_option maxRecDepth 20000 in
theorem gX9_about_X6_kind_u139X6 : GoodIn wsX9_about (va_wsO RX9 139 RX6 "OneTimer$Pot" ⟨"OneTimer$Pot", "kind", "()I"⟩ yX6_kind wsX6_kind) := goodIn_app (goodIn_of _ (by decide +kernel)) ggX9_about_X6_kind
set_option maxRecDepth 20000 in
theorem ggX9_about_X7_kind : GoodIn wsX9_about wsX7_kind := goodIn_r _ [36] (by decide +kernel) (by decide +kernel)
set_option maxRecDepth 20000 in
theorem gX9_about_X7_kind_u139X7 : GoodIn wsX9_about (va_wsO RX9 139 RX7 "OneTimer$Pot" ⟨"OneTimer$Pot", "kind", "()I"⟩ yX7_kind wsX7_kind) := goodIn_app (goodIn_of _ (by decide +kernel)) ggX9_about_X7_kind
set_option maxRecDepth 20000 in
theorem ggX9_about_X0_keeps : GoodIn wsX9_about wsX0_keeps := goodIn_r _ [42, 43, 44, 45, 46, 31, 47] (by decide +kernel) (by decide +kernel)
set_option maxRecDepth 20000 in
theorem gX9_about_X0_keeps_u145X0 : GoodIn wsX9_about (va_wsO RX9 145 RX0 "OneTimer$Pot" ⟨"OneTimer$Pot", "keeps", "()I"⟩ yX0_keeps wsX0_keeps) := goodIn_app (goodIn_of _ (by decide +kernel)) ggX9_about_X0_keeps
set_option maxRecDepth 20000 in
theorem ggX9_about_X2_keeps : GoodIn wsX9_about wsX2_keeps := goodIn_r _ [51] (by decide +kernel) (by decide +kernel)
set_option maxRecDepth 20000 in
theorem gX9_about_X2_keeps_u145X2 : GoodIn wsX9_about (va_wsO RX9 145 RX2 "OneTimer$Pot" ⟨"OneTimer$Pot", "keeps", "()I"⟩ yX2_keeps wsX2_keeps) := goodIn_app (goodIn_of _ (by decide +kernel)) ggX9_about_X2_keeps
set_option maxRecDepth 20000 in
theorem ggX9_about_X5_keeps : GoodIn wsX9_about wsX5_keeps := goodIn_r _ [48] (by decide +kernel) (by decide +kernel)
set_option maxRecDepth 20000 in
theorem gX9_about_X5_keeps : GoodIn wsX9_about (wsV RX9 145 RX5 yX5_keeps wsX5_keeps) := goodIn_app (goodIn_of _ (by decide +kernel)) ggX9_about_X5_keeps
set_option maxRecDepth 20000 in
theorem ggX9_about_X6_keeps : GoodIn wsX9_about wsX6_keeps := goodIn_r _ [47] (by decide +kernel) (by decide +kernel)
set_option maxRecDepth 20000 in
theorem gX9_about_X6_keeps_u145X6 : GoodIn wsX9_about (va_wsO RX9 145 RX6 "OneTimer$Pot" ⟨"OneTimer$Pot", "keeps", "()I"⟩ yX6_keeps wsX6_keeps) := goodIn_app (goodIn_of _ (by decide +kernel)) ggX9_about_X6_keeps
set_option maxRecDepth 20000 in
theorem ggX9_about_X7_keeps : GoodIn wsX9_about wsX7_keeps := goodIn_r _ [58] (by decide +kernel) (by decide +kernel)
set_option maxRecDepth 20000 in
theorem gX9_about_X7_keeps_u145X7 : GoodIn wsX9_about (va_wsO RX9 145 RX7 "OneTimer$Pot" ⟨"OneTimer$Pot", "keeps", "()I"⟩ yX7_keeps wsX7_keeps) := goodIn_app (goodIn_of _ (by decide +kernel)) ggX9_about_X7_keeps
set_option maxRecDepth 20000 in
theorem ggX9_about_X5_boils : GoodIn wsX9_about wsX5_boils := goodIn_r _ [63, 64, 97, 98, 99, 100, 101, 102, 103, 104, 105, 106, 107, 108, 109, 110, 111, 112, 113, 114, 115, 116, 117, 118, 119, 120, 121, 122, 123, 124, 125, 126, 127, 128, 129, 130, 131] (by decide +kernel) (by decide +kernel)
set_option maxRecDepth 20000 in
theorem gX9_about_X5_boils_u151X0 : GoodIn wsX9_about (va_wsU RX9 151 RX0 "OneTimer$Pot" ⟨"OneTimer$Pot", "boils", "()Z"⟩ yX5_boils wsX5_boils) := goodIn_app (goodIn_of _ (by decide +kernel)) ggX9_about_X5_boils
set_option maxRecDepth 20000 in
theorem gX9_about_X5_boils_u151X2 : GoodIn wsX9_about (va_wsU RX9 151 RX2 "OneTimer$Pot" ⟨"OneTimer$Pot", "boils", "()Z"⟩ yX5_boils wsX5_boils) := goodIn_app (goodIn_of _ (by decide +kernel)) ggX9_about_X5_boils
set_option maxRecDepth 20000 in
theorem gX9_about_X5_boils : GoodIn wsX9_about (wsV RX9 151 RX5 yX5_boils wsX5_boils) := goodIn_app (goodIn_of _ (by decide +kernel)) ggX9_about_X5_boils
set_option maxRecDepth 20000 in
theorem gX9_about_X5_boils_u151X6 : GoodIn wsX9_about (va_wsU RX9 151 RX6 "OneTimer$Pot" ⟨"OneTimer$Pot", "boils", "()Z"⟩ yX5_boils wsX5_boils) := goodIn_app (goodIn_of _ (by decide +kernel)) ggX9_about_X5_boils
set_option maxRecDepth 20000 in
theorem gX9_about_X5_boils_u151X7 : GoodIn wsX9_about (va_wsU RX9 151 RX7 "OneTimer$Pot" ⟨"OneTimer$Pot", "boils", "()Z"⟩ yX5_boils wsX5_boils) := goodIn_app (goodIn_of _ (by decide +kernel)) ggX9_about_X5_boils
set_option maxRecDepth 20000 in
theorem ggX9_about_X5_due : GoodIn wsX9_about wsX5_due := goodIn_r _ [74, 64, 75, 97, 98, 99, 100, 101, 102, 103, 104, 105, 106, 107, 108, 109, 110, 111, 112, 113, 114, 115, 116, 117, 118, 119, 120, 121, 122, 123, 124, 125, 126, 127, 128, 129, 130, 131] (by decide +kernel) (by decide +kernel)
set_option maxRecDepth 20000 in
theorem gX9_about_X5_due_u154X0 : GoodIn wsX9_about (va_wsU RX9 154 RX0 "OneTimer$Pot" ⟨"OneTimer$Pot", "due", "()I"⟩ yX5_due wsX5_due) := goodIn_app (goodIn_of _ (by decide +kernel)) ggX9_about_X5_due
set_option maxRecDepth 20000 in
theorem gX9_about_X5_due_u154X2 : GoodIn wsX9_about (va_wsU RX9 154 RX2 "OneTimer$Pot" ⟨"OneTimer$Pot", "due", "()I"⟩ yX5_due wsX5_due) := goodIn_app (goodIn_of _ (by decide +kernel)) ggX9_about_X5_due
set_option maxRecDepth 20000 in
theorem gX9_about_X5_due : GoodIn wsX9_about (wsV RX9 154 RX5 yX5_due wsX5_due) := goodIn_app (goodIn_of _ (by decide +kernel)) ggX9_about_X5_due
set_option maxRecDepth 20000 in
theorem gX9_about_X5_due_u154X6 : GoodIn wsX9_about (va_wsU RX9 154 RX6 "OneTimer$Pot" ⟨"OneTimer$Pot", "due", "()I"⟩ yX5_due wsX5_due) := goodIn_app (goodIn_of _ (by decide +kernel)) ggX9_about_X5_due
set_option maxRecDepth 20000 in
theorem gX9_about_X5_due_u154X7 : GoodIn wsX9_about (va_wsU RX9 154 RX7 "OneTimer$Pot" ⟨"OneTimer$Pot", "due", "()I"⟩ yX5_due wsX5_due) := goodIn_app (goodIn_of _ (by decide +kernel)) ggX9_about_X5_due
set_option maxRecDepth 20000 in
theorem ggX9_about_X5_outAt : GoodIn wsX9_about wsX5_outAt := goodIn_r _ [85, 86, 71, 72, 73, 28, 74, 64, 75, 76, 87, 78, 79, 80, 88, 38, 39, 40, 41, 18, 42, 43, 44, 45, 46, 31, 47, 48, 49, 50, 23, 51, 89, 53, 54, 55, 56, 57, 35, 58, 90, 9, 91, 97, 98, 99, 100, 101, 102, 103, 104, 105, 106, 107, 108, 109, 110, 111, 112, 113, 114, 115, 116, 117, 118, 119, 120, 121, 122, 123, 124, 125, 126, 127, 128, 129, 130, 131] (by decide +kernel) (by decide +kernel)
set_option maxRecDepth 20000 in
theorem gX9_about_X5_outAt_u157X0 : GoodIn wsX9_about (va_wsU RX9 157 RX0 "OneTimer$Pot" ⟨"OneTimer$Pot", "outAt", "(I)I"⟩ yX5_outAt wsX5_outAt) := goodIn_app (goodIn_of _ (by decide +kernel)) ggX9_about_X5_outAt
set_option maxRecDepth 20000 in
theorem gX9_about_X5_outAt_u157X2 : GoodIn wsX9_about (va_wsU RX9 157 RX2 "OneTimer$Pot" ⟨"OneTimer$Pot", "outAt", "(I)I"⟩ yX5_outAt wsX5_outAt) := goodIn_app (goodIn_of _ (by decide +kernel)) ggX9_about_X5_outAt
set_option maxRecDepth 20000 in
theorem gX9_about_X5_outAt : GoodIn wsX9_about (wsV RX9 157 RX5 yX5_outAt wsX5_outAt) := goodIn_app (goodIn_of _ (by decide +kernel)) ggX9_about_X5_outAt
set_option maxRecDepth 20000 in
theorem gX9_about_X5_outAt_u157X6 : GoodIn wsX9_about (va_wsU RX9 157 RX6 "OneTimer$Pot" ⟨"OneTimer$Pot", "outAt", "(I)I"⟩ yX5_outAt wsX5_outAt) := goodIn_app (goodIn_of _ (by decide +kernel)) ggX9_about_X5_outAt
set_option maxRecDepth 20000 in
theorem gX9_about_X5_outAt_u157X7 : GoodIn wsX9_about (va_wsU RX9 157 RX7 "OneTimer$Pot" ⟨"OneTimer$Pot", "outAt", "(I)I"⟩ yX5_outAt wsX5_outAt) := goodIn_app (goodIn_of _ (by decide +kernel)) ggX9_about_X5_outAt
theorem dX9_about_0 : decode cX9_about 0 = .ok (.aload_n 0, 1) := by decide +kernel
theorem dX9_about_1 : decode cX9_about 1 = .ok (.iload_n 1, 1) := by decide +kernel
theorem dX9_about_2 : decode cX9_about 2 = .ok (.invokevirtual 135, 3) := by decide +kernel
theorem dX9_about_5 : decode cX9_about 5 = .ok (.astore_n 3, 1) := by decide +kernel
theorem dX9_about_6 : decode cX9_about 6 = .ok (.aload_n 3, 1) := by decide +kernel
theorem dX9_about_7 : decode cX9_about 7 = .ok (.ifnonnull 6, 3) := by decide +kernel
theorem dX9_about_10 : decode cX9_about 10 = .ok (.bipush (-101), 2) := by decide +kernel
theorem dX9_about_12 : decode cX9_about 12 = .ok (.ireturn, 1) := by decide +kernel
theorem dX9_about_13 : decode cX9_about 13 = .ok (.iload_n 2, 1) := by decide +kernel
theorem dX9_about_14 : decode cX9_about 14 = .ok (.tableswitch 112 0 7 #[46, 51, 56, 61, 66, 82, 102, 107], 46) := by decide +kernel
theorem dX9_about_60 : decode cX9_about 60 = .ok (.aload_n 3, 1) := by decide +kernel
theorem dX9_about_61 : decode cX9_about 61 = .ok (.invokevirtual 139, 3) := by decide +kernel
theorem dX9_about_64 : decode cX9_about 64 = .ok (.ireturn, 1) := by decide +kernel
theorem dX9_about_65 : decode cX9_about 65 = .ok (.aload_n 3, 1) := by decide +kernel
theorem dX9_about_66 : decode cX9_about 66 = .ok (.getfield 142, 3) := by decide +kernel
theorem dX9_about_69 : decode cX9_about 69 = .ok (.ireturn, 1) := by decide +kernel
theorem dX9_about_70 : decode cX9_about 70 = .ok (.aload_n 3, 1) := by decide +kernel
theorem dX9_about_71 : decode cX9_about 71 = .ok (.invokevirtual 145, 3) := by decide +kernel
theorem dX9_about_74 : decode cX9_about 74 = .ok (.ireturn, 1) := by decide +kernel
theorem dX9_about_75 : decode cX9_about 75 = .ok (.aload_n 3, 1) := by decide +kernel
theorem dX9_about_76 : decode cX9_about 76 = .ok (.getfield 148, 3) := by decide +kernel
theorem dX9_about_79 : decode cX9_about 79 = .ok (.ireturn, 1) := by decide +kernel
theorem dX9_about_80 : decode cX9_about 80 = .ok (.aload_n 3, 1) := by decide +kernel
theorem dX9_about_81 : decode cX9_about 81 = .ok (.invokevirtual 151, 3) := by decide +kernel
theorem dX9_about_84 : decode cX9_about 84 = .ok (.ifCond .eq 10, 3) := by decide +kernel
theorem dX9_about_87 : decode cX9_about 87 = .ok (.aload_n 3, 1) := by decide +kernel
theorem dX9_about_88 : decode cX9_about 88 = .ok (.invokevirtual 154, 3) := by decide +kernel
theorem dX9_about_91 : decode cX9_about 91 = .ok (.goto 4, 3) := by decide +kernel
theorem dX9_about_94 : decode cX9_about 94 = .ok (.iconst (-1), 1) := by decide +kernel
theorem dX9_about_95 : decode cX9_about 95 = .ok (.ireturn, 1) := by decide +kernel
theorem dX9_about_96 : decode cX9_about 96 = .ok (.aload_n 3, 1) := by decide +kernel
theorem dX9_about_97 : decode cX9_about 97 = .ok (.invokevirtual 151, 3) := by decide +kernel
theorem dX9_about_100 : decode cX9_about 100 = .ok (.ifCond .eq 14, 3) := by decide +kernel
theorem dX9_about_103 : decode cX9_about 103 = .ok (.aload_n 3, 1) := by decide +kernel
theorem dX9_about_104 : decode cX9_about 104 = .ok (.aload_n 0, 1) := by decide +kernel
theorem dX9_about_105 : decode cX9_about 105 = .ok (.getfield 106, 3) := by decide +kernel
theorem dX9_about_108 : decode cX9_about 108 = .ok (.invokevirtual 157, 3) := by decide +kernel
theorem dX9_about_111 : decode cX9_about 111 = .ok (.goto 4, 3) := by decide +kernel
theorem dX9_about_114 : decode cX9_about 114 = .ok (.iconst (-1), 1) := by decide +kernel
theorem dX9_about_115 : decode cX9_about 115 = .ok (.ireturn, 1) := by decide +kernel
theorem dX9_about_116 : decode cX9_about 116 = .ok (.aload_n 3, 1) := by decide +kernel
theorem dX9_about_117 : decode cX9_about 117 = .ok (.getfield 160, 3) := by decide +kernel
theorem dX9_about_120 : decode cX9_about 120 = .ok (.ireturn, 1) := by decide +kernel
theorem dX9_about_121 : decode cX9_about 121 = .ok (.aload_n 3, 1) := by decide +kernel
theorem dX9_about_122 : decode cX9_about 122 = .ok (.getfield 163, 3) := by decide +kernel
theorem dX9_about_125 : decode cX9_about 125 = .ok (.ireturn, 1) := by decide +kernel
theorem dX9_about_126 : decode cX9_about 126 = .ok (.bipush (-102), 2) := by decide +kernel
theorem dX9_about_128 : decode cX9_about 128 = .ok (.ireturn, 1) := by decide +kernel
set_option maxRecDepth 20000 in
theorem ggX9_as_X9_potAt : GoodIn wsX9_as wsX9_potAt := goodIn_r _ [5, 6, 7, 15, 16, 17, 18, 19, 20, 21, 22, 23, 24, 25, 26, 27, 28, 29, 30, 31, 32] (by decide +kernel) (by decide +kernel)
set_option maxRecDepth 20000 in
theorem gX9_as_X9_potAt : GoodIn wsX9_as (wsV RX9 135 RX9 yX9_potAt wsX9_potAt) := goodIn_app (goodIn_of _ (by decide +kernel)) ggX9_as_X9_potAt
set_option maxRecDepth 20000 in
theorem ggX9_as_X9_isOfKind : GoodIn wsX9_as wsX9_isOfKind := goodIn_r _ [10, 11, 12, 13, 14] (by decide +kernel) (by decide +kernel)
set_option maxRecDepth 20000 in
theorem gX9_as_X9_isOfKind : GoodIn wsX9_as (va_wsS RX9 166 yX9_isOfKind wsX9_isOfKind) := goodIn_app (goodIn_of _ (by decide +kernel)) ggX9_as_X9_isOfKind
theorem dX9_as_0 : decode cX9_as 0 = .ok (.aload_n 0, 1) := by decide +kernel
theorem dX9_as_1 : decode cX9_as 1 = .ok (.iload_n 1, 1) := by decide +kernel
theorem dX9_as_2 : decode cX9_as 2 = .ok (.invokevirtual 135, 3) := by decide +kernel
theorem dX9_as_5 : decode cX9_as 5 = .ok (.astore_n 3, 1) := by decide +kernel
theorem dX9_as_6 : decode cX9_as 6 = .ok (.aload_n 3, 1) := by decide +kernel
theorem dX9_as_7 : decode cX9_as 7 = .ok (.ifnonnull 6, 3) := by decide +kernel
theorem dX9_as_10 : decode cX9_as 10 = .ok (.bipush (-101), 2) := by decide +kernel
theorem dX9_as_12 : decode cX9_as 12 = .ok (.ireturn, 1) := by decide +kernel
theorem dX9_as_13 : decode cX9_as 13 = .ok (.iload_n 2, 1) := by decide +kernel
theorem dX9_as_14 : decode cX9_as 14 = .ok (.ifCond .lt 8, 3) := by decide +kernel
theorem dX9_as_17 : decode cX9_as 17 = .ok (.iload_n 2, 1) := by decide +kernel
theorem dX9_as_18 : decode cX9_as 18 = .ok (.iconst 4, 1) := by decide +kernel
theorem dX9_as_19 : decode cX9_as 19 = .ok (.if_icmp .le 6, 3) := by decide +kernel
theorem dX9_as_22 : decode cX9_as 22 = .ok (.bipush (-102), 2) := by decide +kernel
theorem dX9_as_24 : decode cX9_as 24 = .ok (.ireturn, 1) := by decide +kernel
theorem dX9_as_25 : decode cX9_as 25 = .ok (.aload_n 3, 1) := by decide +kernel
theorem dX9_as_26 : decode cX9_as 26 = .ok (.iload_n 2, 1) := by decide +kernel
theorem dX9_as_27 : decode cX9_as 27 = .ok (.invokestatic 166, 3) := by decide +kernel
theorem dX9_as_30 : decode cX9_as 30 = .ok (.ifCond .eq 7, 3) := by decide +kernel
theorem dX9_as_33 : decode cX9_as 33 = .ok (.iload_n 1, 1) := by decide +kernel
theorem dX9_as_34 : decode cX9_as 34 = .ok (.goto 4, 3) := by decide +kernel
theorem dX9_as_37 : decode cX9_as 37 = .ok (.iconst (-1), 1) := by decide +kernel
theorem dX9_as_38 : decode cX9_as 38 = .ok (.ireturn, 1) := by decide +kernel
theorem dX9_isOfKind_0 : decode cX9_isOfKind 0 = .ok (.iload_n 1, 1) := by decide +kernel
theorem dX9_isOfKind_1 : decode cX9_isOfKind 1 = .ok (.tableswitch 51 1 4 #[31, 36, 41, 46], 31) := by decide +kernel
theorem dX9_isOfKind_32 : decode cX9_isOfKind 32 = .ok (.aload_n 0, 1) := by decide +kernel
theorem dX9_isOfKind_33 : decode cX9_isOfKind 33 = .ok (.instanceof 120, 3) := by decide +kernel
theorem dX9_isOfKind_36 : decode cX9_isOfKind 36 = .ok (.ireturn, 1) := by decide +kernel
theorem dX9_isOfKind_37 : decode cX9_isOfKind 37 = .ok (.aload_n 0, 1) := by decide +kernel
theorem dX9_isOfKind_38 : decode cX9_isOfKind 38 = .ok (.instanceof 125, 3) := by decide +kernel
theorem dX9_isOfKind_41 : decode cX9_isOfKind 41 = .ok (.ireturn, 1) := by decide +kernel
theorem dX9_isOfKind_42 : decode cX9_isOfKind 42 = .ok (.aload_n 0, 1) := by decide +kernel
theorem dX9_isOfKind_43 : decode cX9_isOfKind 43 = .ok (.instanceof 128, 3) := by decide +kernel
theorem dX9_isOfKind_46 : decode cX9_isOfKind 46 = .ok (.ireturn, 1) := by decide +kernel
theorem dX9_isOfKind_47 : decode cX9_isOfKind 47 = .ok (.aload_n 0, 1) := by decide +kernel
theorem dX9_isOfKind_48 : decode cX9_isOfKind 48 = .ok (.instanceof 131, 3) := by decide +kernel
theorem dX9_isOfKind_51 : decode cX9_isOfKind 51 = .ok (.ireturn, 1) := by decide +kernel
theorem dX9_isOfKind_52 : decode cX9_isOfKind 52 = .ok (.iconst 1, 1) := by decide +kernel
theorem dX9_isOfKind_53 : decode cX9_isOfKind 53 = .ok (.ireturn, 1) := by decide +kernel
set_option maxRecDepth 20000 in
theorem ggX9_boil_X9_potAt : GoodIn wsX9_boil wsX9_potAt := goodIn_r _ [7, 8, 9, 33, 34, 35, 36, 37, 38, 39, 40, 41, 42, 43, 44, 45, 46, 47, 48, 49, 50] (by decide +kernel) (by decide +kernel)
set_option maxRecDepth 20000 in
theorem gX9_boil_X9_potAt : GoodIn wsX9_boil (wsV RX9 135 RX9 yX9_potAt wsX9_potAt) := goodIn_app (goodIn_of _ (by decide +kernel)) ggX9_boil_X9_potAt
set_option maxRecDepth 20000 in
theorem ggX9_boil_X5_boils : GoodIn wsX9_boil wsX5_boils := goodIn_r _ [15, 16, 51, 52, 53, 54, 55, 56, 57, 58, 59, 60, 61, 62, 63, 64, 65, 66, 67, 68, 69, 70, 71, 72, 73, 74, 75, 76, 77, 78, 79, 80, 81, 82, 83, 84, 85] (by decide +kernel) (by decide +kernel)
set_option maxRecDepth 20000 in
theorem gX9_boil_X5_boils_u151X0 : GoodIn wsX9_boil (va_wsU RX9 151 RX0 "OneTimer$Pot" ⟨"OneTimer$Pot", "boils", "()Z"⟩ yX5_boils wsX5_boils) := goodIn_app (goodIn_of _ (by decide +kernel)) ggX9_boil_X5_boils
set_option maxRecDepth 20000 in
theorem gX9_boil_X5_boils_u151X2 : GoodIn wsX9_boil (va_wsU RX9 151 RX2 "OneTimer$Pot" ⟨"OneTimer$Pot", "boils", "()Z"⟩ yX5_boils wsX5_boils) := goodIn_app (goodIn_of _ (by decide +kernel)) ggX9_boil_X5_boils
set_option maxRecDepth 20000 in
theorem gX9_boil_X5_boils : GoodIn wsX9_boil (wsV RX9 151 RX5 yX5_boils wsX5_boils) := goodIn_app (goodIn_of _ (by decide +kernel)) ggX9_boil_X5_boils
set_option maxRecDepth 20000 in
theorem gX9_boil_X5_boils_u151X6 : GoodIn wsX9_boil (va_wsU RX9 151 RX6 "OneTimer$Pot" ⟨"OneTimer$Pot", "boils", "()Z"⟩ yX5_boils wsX5_boils) := goodIn_app (goodIn_of _ (by decide +kernel)) ggX9_boil_X5_boils
set_option maxRecDepth 20000 in
theorem gX9_boil_X5_boils_u151X7 : GoodIn wsX9_boil (va_wsU RX9 151 RX7 "OneTimer$Pot" ⟨"OneTimer$Pot", "boils", "()Z"⟩ yX5_boils wsX5_boils) := goodIn_app (goodIn_of _ (by decide +kernel)) ggX9_boil_X5_boils
set_option maxRecDepth 20000 in
theorem ggX9_boil_X5_due : GoodIn wsX9_boil wsX5_due := goodIn_r _ [26, 16, 27, 51, 52, 53, 54, 55, 56, 57, 58, 59, 60, 61, 62, 63, 64, 65, 66, 67, 68, 69, 70, 71, 72, 73, 74, 75, 76, 77, 78, 79, 80, 81, 82, 83, 84, 85] (by decide +kernel) (by decide +kernel)
set_option maxRecDepth 20000 in
theorem gX9_boil_X5_due_u154X0 : GoodIn wsX9_boil (va_wsU RX9 154 RX0 "OneTimer$Pot" ⟨"OneTimer$Pot", "due", "()I"⟩ yX5_due wsX5_due) := goodIn_app (goodIn_of _ (by decide +kernel)) ggX9_boil_X5_due
set_option maxRecDepth 20000 in
theorem gX9_boil_X5_due_u154X2 : GoodIn wsX9_boil (va_wsU RX9 154 RX2 "OneTimer$Pot" ⟨"OneTimer$Pot", "due", "()I"⟩ yX5_due wsX5_due) := goodIn_app (goodIn_of _ (by decide +kernel)) ggX9_boil_X5_due
set_option maxRecDepth 20000 in
theorem gX9_boil_X5_due : GoodIn wsX9_boil (wsV RX9 154 RX5 yX5_due wsX5_due) := goodIn_app (goodIn_of _ (by decide +kernel)) ggX9_boil_X5_due
set_option maxRecDepth 20000 in
theorem gX9_boil_X5_due_u154X6 : GoodIn wsX9_boil (va_wsU RX9 154 RX6 "OneTimer$Pot" ⟨"OneTimer$Pot", "due", "()I"⟩ yX5_due wsX5_due) := goodIn_app (goodIn_of _ (by decide +kernel)) ggX9_boil_X5_due
set_option maxRecDepth 20000 in
theorem gX9_boil_X5_due_u154X7 : GoodIn wsX9_boil (va_wsU RX9 154 RX7 "OneTimer$Pot" ⟨"OneTimer$Pot", "due", "()I"⟩ yX5_due wsX5_due) := goodIn_app (goodIn_of _ (by decide +kernel)) ggX9_boil_X5_due
theorem dX9_boil_0 : decode cX9_boil 0 = .ok (.aload_n 0, 1) := by decide +kernel
theorem dX9_boil_1 : decode cX9_boil 1 = .ok (.iload_n 1, 1) := by decide +kernel
theorem dX9_boil_2 : decode cX9_boil 2 = .ok (.invokevirtual 135, 3) := by decide +kernel
theorem dX9_boil_5 : decode cX9_boil 5 = .ok (.astore_n 2, 1) := by decide +kernel
theorem dX9_boil_6 : decode cX9_boil 6 = .ok (.aload_n 2, 1) := by decide +kernel
theorem dX9_boil_7 : decode cX9_boil 7 = .ok (.ifnonnull 6, 3) := by decide +kernel
theorem dX9_boil_10 : decode cX9_boil 10 = .ok (.bipush (-101), 2) := by decide +kernel
theorem dX9_boil_12 : decode cX9_boil 12 = .ok (.ireturn, 1) := by decide +kernel
theorem dX9_boil_13 : decode cX9_boil 13 = .ok (.aload_n 2, 1) := by decide +kernel
theorem dX9_boil_14 : decode cX9_boil 14 = .ok (.invokevirtual 151, 3) := by decide +kernel
theorem dX9_boil_17 : decode cX9_boil 17 = .ok (.ifCond .eq 6, 3) := by decide +kernel
theorem dX9_boil_20 : decode cX9_boil 20 = .ok (.bipush (-103), 2) := by decide +kernel
theorem dX9_boil_22 : decode cX9_boil 22 = .ok (.ireturn, 1) := by decide +kernel
theorem dX9_boil_23 : decode cX9_boil 23 = .ok (.aload_n 2, 1) := by decide +kernel
theorem dX9_boil_24 : decode cX9_boil 24 = .ok (.aload_n 0, 1) := by decide +kernel
theorem dX9_boil_25 : decode cX9_boil 25 = .ok (.getfield 106, 3) := by decide +kernel
theorem dX9_boil_28 : decode cX9_boil 28 = .ok (.putfield 148, 3) := by decide +kernel
theorem dX9_boil_31 : decode cX9_boil 31 = .ok (.aload_n 2, 1) := by decide +kernel
theorem dX9_boil_32 : decode cX9_boil 32 = .ok (.invokevirtual 154, 3) := by decide +kernel
theorem dX9_boil_35 : decode cX9_boil 35 = .ok (.ireturn, 1) := by decide +kernel
set_option maxRecDepth 20000 in
theorem ggX9_wind_X9_hasKitchen : GoodIn wsX9_wind wsX9_hasKitchen := goodIn_r _ [10, 11, 12, 13, 14, 15, 16, 17, 18, 19, 20, 21, 22, 23, 24, 25, 26, 27, 28, 29] (by decide +kernel) (by decide +kernel)
set_option maxRecDepth 20000 in
theorem gX9_wind_X9_hasKitchen : GoodIn wsX9_wind (wsV RX9 170 RX9 yX9_hasKitchen wsX9_hasKitchen) := goodIn_app (goodIn_of _ (by decide +kernel)) ggX9_wind_X9_hasKitchen
theorem dX9_wind_0 : decode cX9_wind 0 = .ok (.iload_n 1, 1) := by decide +kernel
theorem dX9_wind_1 : decode cX9_wind 1 = .ok (.iconst 1, 1) := by decide +kernel
theorem dX9_wind_2 : decode cX9_wind 2 = .ok (.if_icmp .lt 23, 3) := by decide +kernel
theorem dX9_wind_5 : decode cX9_wind 5 = .ok (.iload_n 1, 1) := by decide +kernel
theorem dX9_wind_6 : decode cX9_wind 6 = .ok (.aload_n 0, 1) := by decide +kernel
theorem dX9_wind_7 : decode cX9_wind 7 = .ok (.invokevirtual 170, 3) := by decide +kernel
theorem dX9_wind_10 : decode cX9_wind 10 = .ok (.ifCond .eq 10, 3) := by decide +kernel
theorem dX9_wind_13 : decode cX9_wind 13 = .ok (.aload_n 0, 1) := by decide +kernel
theorem dX9_wind_14 : decode cX9_wind 14 = .ok (.getfield 68, 3) := by decide +kernel
theorem dX9_wind_17 : decode cX9_wind 17 = .ok (.goto 5, 3) := by decide +kernel
theorem dX9_wind_20 : decode cX9_wind 20 = .ok (.bipush 60, 2) := by decide +kernel
theorem dX9_wind_22 : decode cX9_wind 22 = .ok (.if_icmp .le 6, 3) := by decide +kernel
theorem dX9_wind_25 : decode cX9_wind 25 = .ok (.bipush (-102), 2) := by decide +kernel
theorem dX9_wind_27 : decode cX9_wind 27 = .ok (.ireturn, 1) := by decide +kernel
theorem dX9_wind_28 : decode cX9_wind 28 = .ok (.aload_n 0, 1) := by decide +kernel
theorem dX9_wind_29 : decode cX9_wind 29 = .ok (.invokevirtual 170, 3) := by decide +kernel
theorem dX9_wind_32 : decode cX9_wind 32 = .ok (.ifCond .eq 15, 3) := by decide +kernel
theorem dX9_wind_35 : decode cX9_wind 35 = .ok (.aload_n 0, 1) := by decide +kernel
theorem dX9_wind_36 : decode cX9_wind 36 = .ok (.getfield 106, 3) := by decide +kernel
theorem dX9_wind_39 : decode cX9_wind 39 = .ok (.iload_n 1, 1) := by decide +kernel
theorem dX9_wind_40 : decode cX9_wind 40 = .ok (.iadd, 1) := by decide +kernel
theorem dX9_wind_41 : decode cX9_wind 41 = .ok (.sipush 999, 3) := by decide +kernel
theorem dX9_wind_44 : decode cX9_wind 44 = .ok (.if_icmp .le 6, 3) := by decide +kernel
theorem dX9_wind_47 : decode cX9_wind 47 = .ok (.bipush (-103), 2) := by decide +kernel
theorem dX9_wind_49 : decode cX9_wind 49 = .ok (.ireturn, 1) := by decide +kernel
theorem dX9_wind_50 : decode cX9_wind 50 = .ok (.aload_n 0, 1) := by decide +kernel
theorem dX9_wind_51 : decode cX9_wind 51 = .ok (.dup, 1) := by decide +kernel
theorem dX9_wind_52 : decode cX9_wind 52 = .ok (.getfield 106, 3) := by decide +kernel
theorem dX9_wind_55 : decode cX9_wind 55 = .ok (.iload_n 1, 1) := by decide +kernel
theorem dX9_wind_56 : decode cX9_wind 56 = .ok (.iadd, 1) := by decide +kernel
theorem dX9_wind_57 : decode cX9_wind 57 = .ok (.putfield 106, 3) := by decide +kernel
theorem dX9_wind_60 : decode cX9_wind 60 = .ok (.aload_n 0, 1) := by decide +kernel
theorem dX9_wind_61 : decode cX9_wind 61 = .ok (.aload_n 0, 1) := by decide +kernel
theorem dX9_wind_62 : decode cX9_wind 62 = .ok (.getfield 74, 3) := by decide +kernel
theorem dX9_wind_65 : decode cX9_wind 65 = .ok (.putfield 109, 3) := by decide +kernel
theorem dX9_wind_68 : decode cX9_wind 68 = .ok (.aload_n 0, 1) := by decide +kernel
theorem dX9_wind_69 : decode cX9_wind 69 = .ok (.dup, 1) := by decide +kernel
theorem dX9_wind_70 : decode cX9_wind 70 = .ok (.getfield 112, 3) := by decide +kernel
theorem dX9_wind_73 : decode cX9_wind 73 = .ok (.iconst 1, 1) := by decide +kernel
theorem dX9_wind_74 : decode cX9_wind 74 = .ok (.iadd, 1) := by decide +kernel
theorem dX9_wind_75 : decode cX9_wind 75 = .ok (.putfield 112, 3) := by decide +kernel
theorem dX9_wind_78 : decode cX9_wind 78 = .ok (.aload_n 0, 1) := by decide +kernel
theorem dX9_wind_79 : decode cX9_wind 79 = .ok (.getfield 106, 3) := by decide +kernel
theorem dX9_wind_82 : decode cX9_wind 82 = .ok (.ireturn, 1) := by decide +kernel
set_option maxRecDepth 20000 in
theorem ggX9_take_X9_potAt : GoodIn wsX9_take wsX9_potAt := goodIn_r _ [8, 9, 10, 84, 85, 86, 87, 88, 89, 90, 91, 92, 93, 94, 95, 96, 97, 98, 99, 100, 101] (by decide +kernel) (by decide +kernel)
set_option maxRecDepth 20000 in
theorem gX9_take_X9_potAt : GoodIn wsX9_take (wsV RX9 135 RX9 yX9_potAt wsX9_potAt) := goodIn_app (goodIn_of _ (by decide +kernel)) ggX9_take_X9_potAt
set_option maxRecDepth 20000 in
theorem ggX9_take_X5_boils : GoodIn wsX9_take wsX5_boils := goodIn_r _ [16, 17, 102, 103, 104, 105, 106, 107, 108, 109, 110, 111, 112, 113, 114, 115, 116, 117, 118, 119, 120, 121, 122, 123, 124, 125, 126, 127, 128, 129, 130, 131, 132, 133, 134, 135, 136] (by decide +kernel) (by decide +kernel)
set_option maxRecDepth 20000 in
theorem gX9_take_X5_boils_u151X0 : GoodIn wsX9_take (va_wsU RX9 151 RX0 "OneTimer$Pot" ⟨"OneTimer$Pot", "boils", "()Z"⟩ yX5_boils wsX5_boils) := goodIn_app (goodIn_of _ (by decide +kernel)) ggX9_take_X5_boils
set_option maxRecDepth 20000 in
theorem gX9_take_X5_boils_u151X2 : GoodIn wsX9_take (va_wsU RX9 151 RX2 "OneTimer$Pot" ⟨"OneTimer$Pot", "boils", "()Z"⟩ yX5_boils wsX5_boils) := goodIn_app (goodIn_of _ (by decide +kernel)) ggX9_take_X5_boils
set_option maxRecDepth 20000 in
theorem gX9_take_X5_boils : GoodIn wsX9_take (wsV RX9 151 RX5 yX5_boils wsX5_boils) := goodIn_app (goodIn_of _ (by decide +kernel)) ggX9_take_X5_boils
set_option maxRecDepth 20000 in
theorem gX9_take_X5_boils_u151X6 : GoodIn wsX9_take (va_wsU RX9 151 RX6 "OneTimer$Pot" ⟨"OneTimer$Pot", "boils", "()Z"⟩ yX5_boils wsX5_boils) := goodIn_app (goodIn_of _ (by decide +kernel)) ggX9_take_X5_boils
set_option maxRecDepth 20000 in
theorem gX9_take_X5_boils_u151X7 : GoodIn wsX9_take (va_wsU RX9 151 RX7 "OneTimer$Pot" ⟨"OneTimer$Pot", "boils", "()Z"⟩ yX5_boils wsX5_boils) := goodIn_app (goodIn_of _ (by decide +kernel)) ggX9_take_X5_boils
set_option maxRecDepth 20000 in
theorem ggX9_take_X5_comeOut : GoodIn wsX9_take wsX5_comeOut := goodIn_r _ [27, 28, 29, 17, 30, 31, 32, 33, 15, 34, 35, 36, 37, 38, 39, 40, 41, 42, 43, 44, 45, 46, 47, 48, 49, 50, 51, 52, 53, 54, 55, 56, 57, 58, 59, 60, 61, 62, 63, 64, 65, 66, 67, 68, 69, 70, 71, 72, 7, 73, 74, 75, 76, 77, 78, 102, 103, 104, 105, 106, 107, 108, 109, 110, 111, 112, 113, 114, 115, 116, 117, 118, 119, 120, 121, 122, 123, 124, 125, 126, 127, 128, 129, 130, 131, 132, 133, 134, 135, 136] (by decide +kernel) (by decide +kernel)
set_option maxRecDepth 20000 in
theorem gX9_take_X5_comeOut_u173X0 : GoodIn wsX9_take (va_wsU RX9 173 RX0 "OneTimer$Pot" ⟨"OneTimer$Pot", "comeOut", "(I)V"⟩ yX5_comeOut wsX5_comeOut) := goodIn_app (goodIn_of _ (by decide +kernel)) ggX9_take_X5_comeOut
set_option maxRecDepth 20000 in
theorem gX9_take_X5_comeOut_u173X2 : GoodIn wsX9_take (va_wsU RX9 173 RX2 "OneTimer$Pot" ⟨"OneTimer$Pot", "comeOut", "(I)V"⟩ yX5_comeOut wsX5_comeOut) := goodIn_app (goodIn_of _ (by decide +kernel)) ggX9_take_X5_comeOut
set_option maxRecDepth 20000 in
theorem gX9_take_X5_comeOut : GoodIn wsX9_take (wsV RX9 173 RX5 yX5_comeOut wsX5_comeOut) := goodIn_app (goodIn_of _ (by decide +kernel)) ggX9_take_X5_comeOut
set_option maxRecDepth 20000 in
theorem gX9_take_X5_comeOut_u173X6 : GoodIn wsX9_take (va_wsU RX9 173 RX6 "OneTimer$Pot" ⟨"OneTimer$Pot", "comeOut", "(I)V"⟩ yX5_comeOut wsX5_comeOut) := goodIn_app (goodIn_of _ (by decide +kernel)) ggX9_take_X5_comeOut
set_option maxRecDepth 20000 in
theorem gX9_take_X5_comeOut_u173X7 : GoodIn wsX9_take (va_wsU RX9 173 RX7 "OneTimer$Pot" ⟨"OneTimer$Pot", "comeOut", "(I)V"⟩ yX5_comeOut wsX5_comeOut) := goodIn_app (goodIn_of _ (by decide +kernel)) ggX9_take_X5_comeOut
theorem dX9_take_0 : decode cX9_take 0 = .ok (.aload_n 0, 1) := by decide +kernel
theorem dX9_take_1 : decode cX9_take 1 = .ok (.iload_n 1, 1) := by decide +kernel
theorem dX9_take_2 : decode cX9_take 2 = .ok (.invokevirtual 135, 3) := by decide +kernel
theorem dX9_take_5 : decode cX9_take 5 = .ok (.astore_n 2, 1) := by decide +kernel
theorem dX9_take_6 : decode cX9_take 6 = .ok (.aload_n 2, 1) := by decide +kernel
theorem dX9_take_7 : decode cX9_take 7 = .ok (.ifnonnull 6, 3) := by decide +kernel
theorem dX9_take_10 : decode cX9_take 10 = .ok (.bipush (-101), 2) := by decide +kernel
theorem dX9_take_12 : decode cX9_take 12 = .ok (.ireturn, 1) := by decide +kernel
theorem dX9_take_13 : decode cX9_take 13 = .ok (.aload_n 2, 1) := by decide +kernel
theorem dX9_take_14 : decode cX9_take 14 = .ok (.invokevirtual 151, 3) := by decide +kernel
theorem dX9_take_17 : decode cX9_take 17 = .ok (.ifCond .eq 11, 3) := by decide +kernel
theorem dX9_take_20 : decode cX9_take 20 = .ok (.aload_n 0, 1) := by decide +kernel
theorem dX9_take_21 : decode cX9_take 21 = .ok (.getfield 109, 3) := by decide +kernel
theorem dX9_take_24 : decode cX9_take 24 = .ok (.iconst 1, 1) := by decide +kernel
theorem dX9_take_25 : decode cX9_take 25 = .ok (.if_icmp .ge 6, 3) := by decide +kernel
theorem dX9_take_28 : decode cX9_take 28 = .ok (.bipush (-103), 2) := by decide +kernel
theorem dX9_take_30 : decode cX9_take 30 = .ok (.ireturn, 1) := by decide +kernel
theorem dX9_take_31 : decode cX9_take 31 = .ok (.aload_n 0, 1) := by decide +kernel
theorem dX9_take_32 : decode cX9_take 32 = .ok (.dup, 1) := by decide +kernel
theorem dX9_take_33 : decode cX9_take 33 = .ok (.getfield 109, 3) := by decide +kernel
theorem dX9_take_36 : decode cX9_take 36 = .ok (.iconst 1, 1) := by decide +kernel
theorem dX9_take_37 : decode cX9_take 37 = .ok (.isub, 1) := by decide +kernel
theorem dX9_take_38 : decode cX9_take 38 = .ok (.putfield 109, 3) := by decide +kernel
theorem dX9_take_41 : decode cX9_take 41 = .ok (.aload_n 2, 1) := by decide +kernel
theorem dX9_take_42 : decode cX9_take 42 = .ok (.aload_n 0, 1) := by decide +kernel
theorem dX9_take_43 : decode cX9_take 43 = .ok (.getfield 106, 3) := by decide +kernel
theorem dX9_take_46 : decode cX9_take 46 = .ok (.invokevirtual 173, 3) := by decide +kernel
theorem dX9_take_49 : decode cX9_take 49 = .ok (.aload_n 2, 1) := by decide +kernel
theorem dX9_take_50 : decode cX9_take 50 = .ok (.getfield 163, 3) := by decide +kernel
theorem dX9_take_53 : decode cX9_take 53 = .ok (.ireturn, 1) := by decide +kernel
set_option maxRecDepth 20000 in
theorem ggX9_plan_X9_hasKitchen : GoodIn wsX9_plan wsX9_hasKitchen := goodIn_r _ [12, 6, 153, 154, 155, 156, 157, 158, 159, 160, 161, 162, 163, 164, 165, 166, 167, 168, 169, 170] (by decide +kernel) (by decide +kernel)
set_option maxRecDepth 20000 in
theorem gX9_plan_X9_hasKitchen : GoodIn wsX9_plan (wsV RX9 170 RX9 yX9_hasKitchen wsX9_hasKitchen) := goodIn_app (goodIn_of _ (by decide +kernel)) ggX9_plan_X9_hasKitchen
set_option maxRecDepth 20000 in
theorem ggX9_plan_X4_begin : GoodIn wsX9_plan wsX4_begin := goodIn_r _ [17, 18, 19, 20, 21, 22, 171, 172, 173, 174, 175, 176, 177, 178, 179] (by decide +kernel) (by decide +kernel)
set_option maxRecDepth 20000 in
theorem gX9_plan_X4_begin : GoodIn wsX9_plan (wsV RX9 179 RX4 yX4_begin wsX4_begin) := goodIn_app (goodIn_of _ (by decide +kernel)) ggX9_plan_X4_begin
set_option maxRecDepth 20000 in
theorem ggX9_plan_X9_potAt : GoodIn wsX9_plan wsX9_potAt := goodIn_r _ [26, 6, 27, 153, 154, 155, 156, 157, 158, 159, 160, 161, 162, 163, 164, 165, 166, 167, 168, 169, 170] (by decide +kernel) (by decide +kernel)
set_option maxRecDepth 20000 in
theorem gX9_plan_X9_potAt : GoodIn wsX9_plan (wsV RX9 135 RX9 yX9_potAt wsX9_potAt) := goodIn_app (goodIn_of _ (by decide +kernel)) ggX9_plan_X9_potAt
set_option maxRecDepth 20000 in
theorem ggX9_plan_X5_boils : GoodIn wsX9_plan wsX5_boils := goodIn_r _ [33, 34, 180, 181, 182, 183, 184, 185, 186, 187, 188, 189, 190, 191, 192, 193, 194, 195, 196, 197, 198, 199, 200, 201, 202, 203, 204, 205, 206, 207, 208, 209, 210, 211, 212, 213, 214] (by decide +kernel) (by decide +kernel)
set_option maxRecDepth 20000 in
theorem gX9_plan_X5_boils_u151X0 : GoodIn wsX9_plan (va_wsU RX9 151 RX0 "OneTimer$Pot" ⟨"OneTimer$Pot", "boils", "()Z"⟩ yX5_boils wsX5_boils) := goodIn_app (goodIn_of _ (by decide +kernel)) ggX9_plan_X5_boils
set_option maxRecDepth 20000 in
theorem gX9_plan_X5_boils_u151X2 : GoodIn wsX9_plan (va_wsU RX9 151 RX2 "OneTimer$Pot" ⟨"OneTimer$Pot", "boils", "()Z"⟩ yX5_boils wsX5_boils) := goodIn_app (goodIn_of _ (by decide +kernel)) ggX9_plan_X5_boils
set_option maxRecDepth 20000 in
theorem gX9_plan_X5_boils : GoodIn wsX9_plan (wsV RX9 151 RX5 yX5_boils wsX5_boils) := goodIn_app (goodIn_of _ (by decide +kernel)) ggX9_plan_X5_boils
set_option maxRecDepth 20000 in
theorem gX9_plan_X5_boils_u151X6 : GoodIn wsX9_plan (va_wsU RX9 151 RX6 "OneTimer$Pot" ⟨"OneTimer$Pot", "boils", "()Z"⟩ yX5_boils wsX5_boils) := goodIn_app (goodIn_of _ (by decide +kernel)) ggX9_plan_X5_boils
set_option maxRecDepth 20000 in
theorem gX9_plan_X5_boils_u151X7 : GoodIn wsX9_plan (va_wsU RX9 151 RX7 "OneTimer$Pot" ⟨"OneTimer$Pot", "boils", "()Z"⟩ yX5_boils wsX5_boils) := goodIn_app (goodIn_of _ (by decide +kernel)) ggX9_plan_X5_boils
set_option maxRecDepth 20000 in
theorem ggX9_plan_X5_due : GoodIn wsX9_plan wsX5_due := goodIn_r _ [44, 34, 45, 180, 181, 182, 183, 184, 185, 186, 187, 188, 189, 190, 191, 192, 193, 194, 195, 196, 197, 198, 199, 200, 201, 202, 203, 204, 205, 206, 207, 208, 209, 210, 211, 212, 213, 214] (by decide +kernel) (by decide +kernel)
set_option maxRecDepth 20000 in
theorem gX9_plan_X5_due_u154X0 : GoodIn wsX9_plan (va_wsU RX9 154 RX0 "OneTimer$Pot" ⟨"OneTimer$Pot", "due", "()I"⟩ yX5_due wsX5_due) := goodIn_app (goodIn_of _ (by decide +kernel)) ggX9_plan_X5_due
set_option maxRecDepth 20000 in
theorem gX9_plan_X5_due_u154X2 : GoodIn wsX9_plan (va_wsU RX9 154 RX2 "OneTimer$Pot" ⟨"OneTimer$Pot", "due", "()I"⟩ yX5_due wsX5_due) := goodIn_app (goodIn_of _ (by decide +kernel)) ggX9_plan_X5_due
set_option maxRecDepth 20000 in
theorem gX9_plan_X5_due : GoodIn wsX9_plan (wsV RX9 154 RX5 yX5_due wsX5_due) := goodIn_app (goodIn_of _ (by decide +kernel)) ggX9_plan_X5_due
set_option maxRecDepth 20000 in
theorem gX9_plan_X5_due_u154X6 : GoodIn wsX9_plan (va_wsU RX9 154 RX6 "OneTimer$Pot" ⟨"OneTimer$Pot", "due", "()I"⟩ yX5_due wsX5_due) := goodIn_app (goodIn_of _ (by decide +kernel)) ggX9_plan_X5_due
set_option maxRecDepth 20000 in
theorem gX9_plan_X5_due_u154X7 : GoodIn wsX9_plan (va_wsU RX9 154 RX7 "OneTimer$Pot" ⟨"OneTimer$Pot", "due", "()I"⟩ yX5_due wsX5_due) := goodIn_app (goodIn_of _ (by decide +kernel)) ggX9_plan_X5_due
set_option maxRecDepth 20000 in
theorem ggX9_plan_X0_keeps : GoodIn wsX9_plan wsX0_keeps := goodIn_r _ [57, 58, 59, 60, 61, 62, 63] (by decide +kernel) (by decide +kernel)
set_option maxRecDepth 20000 in
theorem gX9_plan_X0_keeps_u145X0 : GoodIn wsX9_plan (va_wsO RX9 145 RX0 "OneTimer$Pot" ⟨"OneTimer$Pot", "keeps", "()I"⟩ yX0_keeps wsX0_keeps) := goodIn_app (goodIn_of _ (by decide +kernel)) ggX9_plan_X0_keeps
set_option maxRecDepth 20000 in
theorem ggX9_plan_X2_keeps : GoodIn wsX9_plan wsX2_keeps := goodIn_r _ [68] (by decide +kernel) (by decide +kernel)
set_option maxRecDepth 20000 in
theorem gX9_plan_X2_keeps_u145X2 : GoodIn wsX9_plan (va_wsO RX9 145 RX2 "OneTimer$Pot" ⟨"OneTimer$Pot", "keeps", "()I"⟩ yX2_keeps wsX2_keeps) := goodIn_app (goodIn_of _ (by decide +kernel)) ggX9_plan_X2_keeps
set_option maxRecDepth 20000 in
theorem ggX9_plan_X5_keeps : GoodIn wsX9_plan wsX5_keeps := goodIn_r _ [64] (by decide +kernel) (by decide +kernel)
set_option maxRecDepth 20000 in
theorem gX9_plan_X5_keeps : GoodIn wsX9_plan (wsV RX9 145 RX5 yX5_keeps wsX5_keeps) := goodIn_app (goodIn_of _ (by decide +kernel)) ggX9_plan_X5_keeps
set_option maxRecDepth 20000 in
theorem ggX9_plan_X6_keeps : GoodIn wsX9_plan wsX6_keeps := goodIn_r _ [63] (by decide +kernel) (by decide +kernel)
set_option maxRecDepth 20000 in
theorem gX9_plan_X6_keeps_u145X6 : GoodIn wsX9_plan (va_wsO RX9 145 RX6 "OneTimer$Pot" ⟨"OneTimer$Pot", "keeps", "()I"⟩ yX6_keeps wsX6_keeps) := goodIn_app (goodIn_of _ (by decide +kernel)) ggX9_plan_X6_keeps
set_option maxRecDepth 20000 in
theorem ggX9_plan_X7_keeps : GoodIn wsX9_plan wsX7_keeps := goodIn_r _ [76] (by decide +kernel) (by decide +kernel)
set_option maxRecDepth 20000 in
theorem gX9_plan_X7_keeps_u145X7 : GoodIn wsX9_plan (va_wsO RX9 145 RX7 "OneTimer$Pot" ⟨"OneTimer$Pot", "keeps", "()I"⟩ yX7_keeps wsX7_keeps) := goodIn_app (goodIn_of _ (by decide +kernel)) ggX9_plan_X7_keeps
set_option maxRecDepth 20000 in
theorem ggX9_plan_X4_add : GoodIn wsX9_plan wsX4_add := goodIn_r _ [80, 18, 81, 82, 19, 83, 84, 85, 86, 87, 88, 89, 171, 172, 173, 174, 175, 176, 177, 178, 179] (by decide +kernel) (by decide +kernel)
set_option maxRecDepth 20000 in
theorem gX9_plan_X4_add : GoodIn wsX9_plan (wsV RX9 183 RX4 yX4_add wsX4_add) := goodIn_app (goodIn_of _ (by decide +kernel)) ggX9_plan_X4_add
set_option maxRecDepth 20000 in
theorem ggX9_plan_X4_fill : GoodIn wsX9_plan wsX4_fill := goodIn_r _ [93, 19, 94, 95, 96, 16, 97, 98, 99, 22, 21, 100, 101, 102, 103, 18, 104, 105, 106, 107, 81, 82, 108, 109, 110, 111, 112, 113, 114, 20, 87, 88, 85, 89, 115, 116, 117, 118, 119, 120, 121, 122, 123, 124, 125, 126, 127, 128, 129, 130, 131, 132, 133, 134, 135, 136, 137, 138, 139, 171, 172, 173, 174, 175, 176, 177, 178, 179] (by decide +kernel) (by decide +kernel)
set_option maxRecDepth 20000 in
theorem gX9_plan_X4_fill : GoodIn wsX9_plan (wsV RX9 187 RX4 yX4_fill wsX4_fill) := goodIn_app (goodIn_of _ (by decide +kernel)) ggX9_plan_X4_fill
set_option maxRecDepth 20000 in
theorem ggX9_plan_X4_howFew : GoodIn wsX9_plan wsX4_howFew := goodIn_r _ [143, 100, 101, 102, 16, 103, 18, 115, 116, 117, 118, 99, 119, 120, 121, 108, 109, 110, 171, 172, 173, 174, 175, 176, 177, 178, 179] (by decide +kernel) (by decide +kernel)
set_option maxRecDepth 20000 in
theorem gX9_plan_X4_howFew : GoodIn wsX9_plan (wsV RX9 190 RX4 yX4_howFew wsX4_howFew) := goodIn_app (goodIn_of _ (by decide +kernel)) ggX9_plan_X4_howFew
set_option maxRecDepth 20000 in
theorem ggX9_plan_X4_first : GoodIn wsX9_plan wsX4_first := goodIn_r _ [147, 20, 19, 148, 141, 142, 16, 143, 100, 101, 102, 103, 18, 115, 116, 117, 118, 99, 119, 120, 121, 108, 109, 110, 149, 150, 151, 152, 22, 104, 105, 106, 107, 81, 82, 126, 127, 128, 129, 130, 131, 132, 133, 134, 135, 171, 172, 173, 174, 175, 176, 177, 178, 179] (by decide +kernel) (by decide +kernel)
set_option maxRecDepth 20000 in
theorem gX9_plan_X4_first : GoodIn wsX9_plan (wsV RX9 193 RX4 yX4_first wsX4_first) := goodIn_app (goodIn_of _ (by decide +kernel)) ggX9_plan_X4_first
theorem dX9_plan_0 : decode cX9_plan 0 = .ok (.iload_n 1, 1) := by decide +kernel
theorem dX9_plan_1 : decode cX9_plan 1 = .ok (.ifCond .lt 8, 3) := by decide +kernel
theorem dX9_plan_4 : decode cX9_plan 4 = .ok (.iload_n 1, 1) := by decide +kernel
theorem dX9_plan_5 : decode cX9_plan 5 = .ok (.iconst 1, 1) := by decide +kernel
theorem dX9_plan_6 : decode cX9_plan 6 = .ok (.if_icmp .le 6, 3) := by decide +kernel
theorem dX9_plan_9 : decode cX9_plan 9 = .ok (.bipush (-102), 2) := by decide +kernel
theorem dX9_plan_11 : decode cX9_plan 11 = .ok (.ireturn, 1) := by decide +kernel
theorem dX9_plan_12 : decode cX9_plan 12 = .ok (.aload_n 0, 1) := by decide +kernel
theorem dX9_plan_13 : decode cX9_plan 13 = .ok (.invokevirtual 170, 3) := by decide +kernel
theorem dX9_plan_16 : decode cX9_plan 16 = .ok (.ifCond .eq 12, 3) := by decide +kernel
theorem dX9_plan_19 : decode cX9_plan 19 = .ok (.aload_n 0, 1) := by decide +kernel
theorem dX9_plan_20 : decode cX9_plan 20 = .ok (.getfield 176, 3) := by decide +kernel
theorem dX9_plan_23 : decode cX9_plan 23 = .ok (.bipush 20, 2) := by decide +kernel
theorem dX9_plan_25 : decode cX9_plan 25 = .ok (.if_icmp .lt 6, 3) := by decide +kernel
theorem dX9_plan_28 : decode cX9_plan 28 = .ok (.bipush (-103), 2) := by decide +kernel
theorem dX9_plan_30 : decode cX9_plan 30 = .ok (.ireturn, 1) := by decide +kernel
theorem dX9_plan_31 : decode cX9_plan 31 = .ok (.aload_n 0, 1) := by decide +kernel
theorem dX9_plan_32 : decode cX9_plan 32 = .ok (.dup, 1) := by decide +kernel
theorem dX9_plan_33 : decode cX9_plan 33 = .ok (.getfield 176, 3) := by decide +kernel
theorem dX9_plan_36 : decode cX9_plan 36 = .ok (.iconst 1, 1) := by decide +kernel
theorem dX9_plan_37 : decode cX9_plan 37 = .ok (.iadd, 1) := by decide +kernel
theorem dX9_plan_38 : decode cX9_plan 38 = .ok (.putfield 176, 3) := by decide +kernel
theorem dX9_plan_41 : decode cX9_plan 41 = .ok (.aload_n 0, 1) := by decide +kernel
theorem dX9_plan_42 : decode cX9_plan 42 = .ok (.getfield 35, 3) := by decide +kernel
theorem dX9_plan_45 : decode cX9_plan 45 = .ok (.aload_n 0, 1) := by decide +kernel
theorem dX9_plan_46 : decode cX9_plan 46 = .ok (.getfield 68, 3) := by decide +kernel
theorem dX9_plan_49 : decode cX9_plan 49 = .ok (.aload_n 0, 1) := by decide +kernel
theorem dX9_plan_50 : decode cX9_plan 50 = .ok (.getfield 74, 3) := by decide +kernel
theorem dX9_plan_53 : decode cX9_plan 53 = .ok (.aload_n 0, 1) := by decide +kernel
theorem dX9_plan_54 : decode cX9_plan 54 = .ok (.getfield 109, 3) := by decide +kernel
theorem dX9_plan_57 : decode cX9_plan 57 = .ok (.invokevirtual 179, 3) := by decide +kernel
theorem dX9_plan_60 : decode cX9_plan 60 = .ok (.iconst 0, 1) := by decide +kernel
theorem dX9_plan_61 : decode cX9_plan 61 = .ok (.istore_n 2, 1) := by decide +kernel
theorem dX9_plan_62 : decode cX9_plan 62 = .ok (.iload_n 2, 1) := by decide +kernel
theorem dX9_plan_63 : decode cX9_plan 63 = .ok (.aload_n 0, 1) := by decide +kernel
theorem dX9_plan_64 : decode cX9_plan 64 = .ok (.getfield 83, 3) := by decide +kernel
theorem dX9_plan_67 : decode cX9_plan 67 = .ok (.if_icmp .ge 46, 3) := by decide +kernel
theorem dX9_plan_70 : decode cX9_plan 70 = .ok (.aload_n 0, 1) := by decide +kernel
theorem dX9_plan_71 : decode cX9_plan 71 = .ok (.iload_n 2, 1) := by decide +kernel
theorem dX9_plan_72 : decode cX9_plan 72 = .ok (.invokevirtual 135, 3) := by decide +kernel
theorem dX9_plan_75 : decode cX9_plan 75 = .ok (.astore_n 3, 1) := by decide +kernel
theorem dX9_plan_76 : decode cX9_plan 76 = .ok (.aload_n 3, 1) := by decide +kernel
theorem dX9_plan_77 : decode cX9_plan 77 = .ok (.ifnull 30, 3) := by decide +kernel
theorem dX9_plan_80 : decode cX9_plan 80 = .ok (.aload_n 3, 1) := by decide +kernel
theorem dX9_plan_81 : decode cX9_plan 81 = .ok (.invokevirtual 151, 3) := by decide +kernel
theorem dX9_plan_84 : decode cX9_plan 84 = .ok (.ifCond .eq 23, 3) := by decide +kernel
theorem dX9_plan_87 : decode cX9_plan 87 = .ok (.aload_n 0, 1) := by decide +kernel
theorem dX9_plan_88 : decode cX9_plan 88 = .ok (.getfield 35, 3) := by decide +kernel
theorem dX9_plan_91 : decode cX9_plan 91 = .ok (.aload_n 3, 1) := by decide +kernel
theorem dX9_plan_92 : decode cX9_plan 92 = .ok (.invokevirtual 154, 3) := by decide +kernel
theorem dX9_plan_95 : decode cX9_plan 95 = .ok (.aload_n 0, 1) := by decide +kernel
theorem dX9_plan_96 : decode cX9_plan 96 = .ok (.getfield 106, 3) := by decide +kernel
theorem dX9_plan_99 : decode cX9_plan 99 = .ok (.isub, 1) := by decide +kernel
theorem dX9_plan_100 : decode cX9_plan 100 = .ok (.aload_n 3, 1) := by decide +kernel
theorem dX9_plan_101 : decode cX9_plan 101 = .ok (.invokevirtual 145, 3) := by decide +kernel
theorem dX9_plan_104 : decode cX9_plan 104 = .ok (.invokevirtual 183, 3) := by decide +kernel
theorem dX9_plan_107 : decode cX9_plan 107 = .ok (.iinc 2 1, 3) := by decide +kernel
theorem dX9_plan_110 : decode cX9_plan 110 = .ok (.goto (-48), 3) := by decide +kernel
theorem dX9_plan_113 : decode cX9_plan 113 = .ok (.aload_n 0, 1) := by decide +kernel
theorem dX9_plan_114 : decode cX9_plan 114 = .ok (.getfield 35, 3) := by decide +kernel
theorem dX9_plan_117 : decode cX9_plan 117 = .ok (.invokevirtual 187, 3) := by decide +kernel
theorem dX9_plan_120 : decode cX9_plan 120 = .ok (.iload_n 1, 1) := by decide +kernel
theorem dX9_plan_121 : decode cX9_plan 121 = .ok (.ifCond .ne 13, 3) := by decide +kernel
theorem dX9_plan_124 : decode cX9_plan 124 = .ok (.aload_n 0, 1) := by decide +kernel
theorem dX9_plan_125 : decode cX9_plan 125 = .ok (.getfield 35, 3) := by decide +kernel
theorem dX9_plan_128 : decode cX9_plan 128 = .ok (.invokevirtual 190, 3) := by decide +kernel
theorem dX9_plan_131 : decode cX9_plan 131 = .ok (.goto 10, 3) := by decide +kernel
theorem dX9_plan_134 : decode cX9_plan 134 = .ok (.aload_n 0, 1) := by decide +kernel
theorem dX9_plan_135 : decode cX9_plan 135 = .ok (.getfield 35, 3) := by decide +kernel
theorem dX9_plan_138 : decode cX9_plan 138 = .ok (.invokevirtual 193, 3) := by decide +kernel
theorem dX9_plan_141 : decode cX9_plan 141 = .ok (.ireturn, 1) := by decide +kernel
set_option maxRecDepth 20000 in
theorem ggX9_sure_X9_potAt : GoodIn wsX9_sure wsX9_potAt := goodIn_r _ [7, 8, 9, 81, 82, 83, 84, 85, 86, 87, 88, 89, 90, 91, 92, 93, 94, 95, 96, 97, 98] (by decide +kernel) (by decide +kernel)
set_option maxRecDepth 20000 in
theorem gX9_sure_X9_potAt : GoodIn wsX9_sure (wsV RX9 135 RX9 yX9_potAt wsX9_potAt) := goodIn_app (goodIn_of _ (by decide +kernel)) ggX9_sure_X9_potAt
set_option maxRecDepth 20000 in
theorem ggX9_sure_X5_boils : GoodIn wsX9_sure wsX5_boils := goodIn_r _ [15, 16, 99, 100, 101, 102, 103, 104, 105, 106, 107, 108, 109, 110, 111, 112, 113, 114, 115, 116, 117, 118, 119, 120, 121, 122, 123, 124, 125, 126, 127, 128, 129, 130, 131, 132, 133] (by decide +kernel) (by decide +kernel)
set_option maxRecDepth 20000 in
theorem gX9_sure_X5_boils_u151X0 : GoodIn wsX9_sure (va_wsU RX9 151 RX0 "OneTimer$Pot" ⟨"OneTimer$Pot", "boils", "()Z"⟩ yX5_boils wsX5_boils) := goodIn_app (goodIn_of _ (by decide +kernel)) ggX9_sure_X5_boils
set_option maxRecDepth 20000 in
theorem gX9_sure_X5_boils_u151X2 : GoodIn wsX9_sure (va_wsU RX9 151 RX2 "OneTimer$Pot" ⟨"OneTimer$Pot", "boils", "()Z"⟩ yX5_boils wsX5_boils) := goodIn_app (goodIn_of _ (by decide +kernel)) ggX9_sure_X5_boils
set_option maxRecDepth 20000 in
theorem gX9_sure_X5_boils : GoodIn wsX9_sure (wsV RX9 151 RX5 yX5_boils wsX5_boils) := goodIn_app (goodIn_of _ (by decide +kernel)) ggX9_sure_X5_boils
set_option maxRecDepth 20000 in
theorem gX9_sure_X5_boils_u151X6 : GoodIn wsX9_sure (va_wsU RX9 151 RX6 "OneTimer$Pot" ⟨"OneTimer$Pot", "boils", "()Z"⟩ yX5_boils wsX5_boils) := goodIn_app (goodIn_of _ (by decide +kernel)) ggX9_sure_X5_boils
set_option maxRecDepth 20000 in
theorem gX9_sure_X5_boils_u151X7 : GoodIn wsX9_sure (va_wsU RX9 151 RX7 "OneTimer$Pot" ⟨"OneTimer$Pot", "boils", "()Z"⟩ yX5_boils wsX5_boils) := goodIn_app (goodIn_of _ (by decide +kernel)) ggX9_sure_X5_boils
set_option maxRecDepth 20000 in
theorem ggX9_sure_X5_sureAt : GoodIn wsX9_sure wsX5_sureAt := goodIn_r _ [26, 27, 28, 29, 30, 14, 31, 32, 33, 34, 35, 36, 16, 37, 38, 39, 40, 41, 42, 43, 44, 45, 46, 47, 48, 49, 50, 51, 52, 53, 54, 55, 56, 57, 58, 59, 60, 61, 62, 63, 64, 65, 66, 67, 68, 69, 6, 70, 71, 72, 73, 74, 75, 99, 100, 101, 102, 103, 104, 105, 106, 107, 108, 109, 110, 111, 112, 113, 114, 115, 116, 117, 118, 119, 120, 121, 122, 123, 124, 125, 126, 127, 128, 129, 130, 131, 132, 133] (by decide +kernel) (by decide +kernel)
set_option maxRecDepth 20000 in
theorem gX9_sure_X5_sureAt_u196X0 : GoodIn wsX9_sure (va_wsU RX9 196 RX0 "OneTimer$Pot" ⟨"OneTimer$Pot", "sureAt", "(I)I"⟩ yX5_sureAt wsX5_sureAt) := goodIn_app (goodIn_of _ (by decide +kernel)) ggX9_sure_X5_sureAt
set_option maxRecDepth 20000 in
theorem gX9_sure_X5_sureAt_u196X2 : GoodIn wsX9_sure (va_wsU RX9 196 RX2 "OneTimer$Pot" ⟨"OneTimer$Pot", "sureAt", "(I)I"⟩ yX5_sureAt wsX5_sureAt) := goodIn_app (goodIn_of _ (by decide +kernel)) ggX9_sure_X5_sureAt
set_option maxRecDepth 20000 in
theorem gX9_sure_X5_sureAt : GoodIn wsX9_sure (wsV RX9 196 RX5 yX5_sureAt wsX5_sureAt) := goodIn_app (goodIn_of _ (by decide +kernel)) ggX9_sure_X5_sureAt
set_option maxRecDepth 20000 in
theorem gX9_sure_X5_sureAt_u196X6 : GoodIn wsX9_sure (va_wsU RX9 196 RX6 "OneTimer$Pot" ⟨"OneTimer$Pot", "sureAt", "(I)I"⟩ yX5_sureAt wsX5_sureAt) := goodIn_app (goodIn_of _ (by decide +kernel)) ggX9_sure_X5_sureAt
set_option maxRecDepth 20000 in
theorem gX9_sure_X5_sureAt_u196X7 : GoodIn wsX9_sure (va_wsU RX9 196 RX7 "OneTimer$Pot" ⟨"OneTimer$Pot", "sureAt", "(I)I"⟩ yX5_sureAt wsX5_sureAt) := goodIn_app (goodIn_of _ (by decide +kernel)) ggX9_sure_X5_sureAt
theorem dX9_sure_0 : decode cX9_sure 0 = .ok (.aload_n 0, 1) := by decide +kernel
theorem dX9_sure_1 : decode cX9_sure 1 = .ok (.iload_n 1, 1) := by decide +kernel
theorem dX9_sure_2 : decode cX9_sure 2 = .ok (.invokevirtual 135, 3) := by decide +kernel
theorem dX9_sure_5 : decode cX9_sure 5 = .ok (.astore_n 3, 1) := by decide +kernel
theorem dX9_sure_6 : decode cX9_sure 6 = .ok (.aload_n 3, 1) := by decide +kernel
theorem dX9_sure_7 : decode cX9_sure 7 = .ok (.ifnonnull 6, 3) := by decide +kernel
theorem dX9_sure_10 : decode cX9_sure 10 = .ok (.bipush (-101), 2) := by decide +kernel
theorem dX9_sure_12 : decode cX9_sure 12 = .ok (.ireturn, 1) := by decide +kernel
theorem dX9_sure_13 : decode cX9_sure 13 = .ok (.iload_n 2, 1) := by decide +kernel
theorem dX9_sure_14 : decode cX9_sure 14 = .ok (.iconst 1, 1) := by decide +kernel
theorem dX9_sure_15 : decode cX9_sure 15 = .ok (.if_icmp .lt 11, 3) := by decide +kernel
theorem dX9_sure_18 : decode cX9_sure 18 = .ok (.iload_n 2, 1) := by decide +kernel
theorem dX9_sure_19 : decode cX9_sure 19 = .ok (.aload_n 0, 1) := by decide +kernel
theorem dX9_sure_20 : decode cX9_sure 20 = .ok (.getfield 68, 3) := by decide +kernel
theorem dX9_sure_23 : decode cX9_sure 23 = .ok (.if_icmp .le 6, 3) := by decide +kernel
theorem dX9_sure_26 : decode cX9_sure 26 = .ok (.bipush (-102), 2) := by decide +kernel
theorem dX9_sure_28 : decode cX9_sure 28 = .ok (.ireturn, 1) := by decide +kernel
theorem dX9_sure_29 : decode cX9_sure 29 = .ok (.aload_n 3, 1) := by decide +kernel
theorem dX9_sure_30 : decode cX9_sure 30 = .ok (.invokevirtual 151, 3) := by decide +kernel
theorem dX9_sure_33 : decode cX9_sure 33 = .ok (.ifCond .eq 16, 3) := by decide +kernel
theorem dX9_sure_36 : decode cX9_sure 36 = .ok (.aload_n 3, 1) := by decide +kernel
theorem dX9_sure_37 : decode cX9_sure 37 = .ok (.aload_n 0, 1) := by decide +kernel
theorem dX9_sure_38 : decode cX9_sure 38 = .ok (.getfield 106, 3) := by decide +kernel
theorem dX9_sure_41 : decode cX9_sure 41 = .ok (.iload_n 2, 1) := by decide +kernel
theorem dX9_sure_42 : decode cX9_sure 42 = .ok (.iadd, 1) := by decide +kernel
theorem dX9_sure_43 : decode cX9_sure 43 = .ok (.invokevirtual 196, 3) := by decide +kernel
theorem dX9_sure_46 : decode cX9_sure 46 = .ok (.goto 5, 3) := by decide +kernel
theorem dX9_sure_49 : decode cX9_sure 49 = .ok (.bipush (-103), 2) := by decide +kernel
theorem dX9_sure_51 : decode cX9_sure 51 = .ok (.ireturn, 1) := by decide +kernel
set_option maxRecDepth 20000 in
theorem ggX9_best_X9_potAt : GoodIn wsX9_best wsX9_potAt := goodIn_r _ [5, 6, 7, 85, 86, 87, 88, 89, 90, 91, 92, 93, 94, 95, 96, 97, 98, 99, 100, 101, 102] (by decide +kernel) (by decide +kernel)
set_option maxRecDepth 20000 in
theorem gX9_best_X9_potAt : GoodIn wsX9_best (wsV RX9 135 RX9 yX9_potAt wsX9_potAt) := goodIn_app (goodIn_of _ (by decide +kernel)) ggX9_best_X9_potAt
set_option maxRecDepth 20000 in
theorem ggX9_best_X5_boils : GoodIn wsX9_best wsX5_boils := goodIn_r _ [13, 14, 103, 104, 105, 106, 107, 108, 109, 110, 111, 112, 113, 114, 115, 116, 117, 118, 119, 120, 121, 122, 123, 124, 125, 126, 127, 128, 129, 130, 131, 132, 133, 134, 135, 136, 137] (by decide +kernel) (by decide +kernel)
set_option maxRecDepth 20000 in
theorem gX9_best_X5_boils_u151X0 : GoodIn wsX9_best (va_wsU RX9 151 RX0 "OneTimer$Pot" ⟨"OneTimer$Pot", "boils", "()Z"⟩ yX5_boils wsX5_boils) := goodIn_app (goodIn_of _ (by decide +kernel)) ggX9_best_X5_boils
set_option maxRecDepth 20000 in
theorem gX9_best_X5_boils_u151X2 : GoodIn wsX9_best (va_wsU RX9 151 RX2 "OneTimer$Pot" ⟨"OneTimer$Pot", "boils", "()Z"⟩ yX5_boils wsX5_boils) := goodIn_app (goodIn_of _ (by decide +kernel)) ggX9_best_X5_boils
set_option maxRecDepth 20000 in
theorem gX9_best_X5_boils : GoodIn wsX9_best (wsV RX9 151 RX5 yX5_boils wsX5_boils) := goodIn_app (goodIn_of _ (by decide +kernel)) ggX9_best_X5_boils
set_option maxRecDepth 20000 in
theorem gX9_best_X5_boils_u151X6 : GoodIn wsX9_best (va_wsU RX9 151 RX6 "OneTimer$Pot" ⟨"OneTimer$Pot", "boils", "()Z"⟩ yX5_boils wsX5_boils) := goodIn_app (goodIn_of _ (by decide +kernel)) ggX9_best_X5_boils
set_option maxRecDepth 20000 in
theorem gX9_best_X5_boils_u151X7 : GoodIn wsX9_best (va_wsU RX9 151 RX7 "OneTimer$Pot" ⟨"OneTimer$Pot", "boils", "()Z"⟩ yX5_boils wsX5_boils) := goodIn_app (goodIn_of _ (by decide +kernel)) ggX9_best_X5_boils
set_option maxRecDepth 20000 in
theorem ggX9_best_X9_bestWinding : GoodIn wsX9_best wsX9_bestWinding := goodIn_r _ [23, 24, 25, 26, 27, 28, 29, 12, 30, 31, 32, 33, 34, 35, 36, 37, 38, 39, 40, 14, 41, 42, 43, 44, 45, 46, 47, 48, 49, 50, 51, 52, 53, 54, 55, 56, 57, 58, 59, 60, 61, 62, 63, 64, 65, 66, 67, 68, 69, 70, 71, 72, 73, 4, 74, 75, 76, 77, 78, 79, 80, 81, 82, 83, 84, 85, 86, 87, 88, 89, 90, 91, 92, 93, 94, 95, 96, 97, 98, 99, 100, 101, 102, 103, 104, 105, 106, 107, 108, 109, 110, 111, 112, 113, 114, 115, 116, 117, 118, 119, 120, 121, 122, 123, 124, 125, 126, 127, 128, 129, 130, 131, 132, 133, 134, 135, 136, 137] (by decide +kernel) (by decide +kernel)
set_option maxRecDepth 20000 in
theorem gX9_best_X9_bestWinding : GoodIn wsX9_best (wsV RX9 199 RX9 yX9_bestWinding wsX9_bestWinding) := goodIn_app (goodIn_of _ (by decide +kernel)) ggX9_best_X9_bestWinding
theorem dX9_best_0 : decode cX9_best 0 = .ok (.aload_n 0, 1) := by decide +kernel
theorem dX9_best_1 : decode cX9_best 1 = .ok (.iload_n 1, 1) := by decide +kernel
theorem dX9_best_2 : decode cX9_best 2 = .ok (.invokevirtual 135, 3) := by decide +kernel
theorem dX9_best_5 : decode cX9_best 5 = .ok (.astore_n 2, 1) := by decide +kernel
theorem dX9_best_6 : decode cX9_best 6 = .ok (.aload_n 2, 1) := by decide +kernel
theorem dX9_best_7 : decode cX9_best 7 = .ok (.ifnonnull 6, 3) := by decide +kernel
theorem dX9_best_10 : decode cX9_best 10 = .ok (.bipush (-101), 2) := by decide +kernel
theorem dX9_best_12 : decode cX9_best 12 = .ok (.ireturn, 1) := by decide +kernel
theorem dX9_best_13 : decode cX9_best 13 = .ok (.aload_n 2, 1) := by decide +kernel
theorem dX9_best_14 : decode cX9_best 14 = .ok (.invokevirtual 151, 3) := by decide +kernel
theorem dX9_best_17 : decode cX9_best 17 = .ok (.ifCond .eq 11, 3) := by decide +kernel
theorem dX9_best_20 : decode cX9_best 20 = .ok (.aload_n 0, 1) := by decide +kernel
theorem dX9_best_21 : decode cX9_best 21 = .ok (.aload_n 2, 1) := by decide +kernel
theorem dX9_best_22 : decode cX9_best 22 = .ok (.invokevirtual 199, 3) := by decide +kernel
theorem dX9_best_25 : decode cX9_best 25 = .ok (.goto 5, 3) := by decide +kernel
theorem dX9_best_28 : decode cX9_best 28 = .ok (.bipush (-103), 2) := by decide +kernel
theorem dX9_best_30 : decode cX9_best 30 = .ok (.ireturn, 1) := by decide +kernel
set_option maxRecDepth 20000 in
theorem ggX9_bestWinding_X5_sureAt : GoodIn wsX9_bestWinding wsX5_sureAt := goodIn_r _ [8, 9, 10, 11, 12, 7, 13, 14, 15, 16, 17, 18, 19, 20, 21, 22, 23, 24, 25, 26, 27, 28, 29, 30, 31, 32, 33, 34, 35, 36, 37, 38, 39, 40, 41, 42, 43, 44, 45, 46, 47, 48, 49, 50, 51, 52, 53, 54, 55, 56, 57, 58, 59, 83, 84, 85, 86, 87, 88, 89, 90, 91, 92, 93, 94, 95, 96, 97, 98, 99, 100, 101, 102, 103, 104, 105, 106, 107, 108, 109, 110, 111, 112, 113, 114, 115, 116, 117] (by decide +kernel) (by decide +kernel)
set_option maxRecDepth 20000 in
theorem gX9_bestWinding_X5_sureAt_u196X0 : GoodIn wsX9_bestWinding (va_wsU RX9 196 RX0 "OneTimer$Pot" ⟨"OneTimer$Pot", "sureAt", "(I)I"⟩ yX5_sureAt wsX5_sureAt) := goodIn_app (goodIn_of _ (by decide +kernel)) ggX9_bestWinding_X5_sureAt
set_option maxRecDepth 20000 in
theorem gX9_bestWinding_X5_sureAt_u196X2 : GoodIn wsX9_bestWinding (va_wsU RX9 196 RX2 "OneTimer$Pot" ⟨"OneTimer$Pot", "sureAt", "(I)I"⟩ yX5_sureAt wsX5_sureAt) := goodIn_app (goodIn_of _ (by decide +kernel)) ggX9_bestWinding_X5_sureAt
set_option maxRecDepth 20000 in
theorem gX9_bestWinding_X5_sureAt : GoodIn wsX9_bestWinding (wsV RX9 196 RX5 yX5_sureAt wsX5_sureAt) := goodIn_app (goodIn_of _ (by decide +kernel)) ggX9_bestWinding_X5_sureAt
set_option maxRecDepth 20000 in
theorem gX9_bestWinding_X5_sureAt_u196X6 : GoodIn wsX9_bestWinding (va_wsU RX9 196 RX6 "OneTimer$Pot" ⟨"OneTimer$Pot", "sureAt", "(I)I"⟩ yX5_sureAt wsX5_sureAt) := goodIn_app (goodIn_of _ (by decide +kernel)) ggX9_bestWinding_X5_sureAt
set_option maxRecDepth 20000 in
theorem gX9_bestWinding_X5_sureAt_u196X7 : GoodIn wsX9_bestWinding (va_wsU RX9 196 RX7 "OneTimer$Pot" ⟨"OneTimer$Pot", "sureAt", "(I)I"⟩ yX5_sureAt wsX5_sureAt) := goodIn_app (goodIn_of _ (by decide +kernel)) ggX9_bestWinding_X5_sureAt
theorem dX9_bestWinding_0 : decode cX9_bestWinding 0 = .ok (.iconst 1, 1) := by decide +kernel
theorem dX9_bestWinding_1 : decode cX9_bestWinding 1 = .ok (.istore_n 2, 1) := by decide +kernel
theorem dX9_bestWinding_2 : decode cX9_bestWinding 2 = .ok (.aload_n 1, 1) := by decide +kernel
theorem dX9_bestWinding_3 : decode cX9_bestWinding 3 = .ok (.aload_n 0, 1) := by decide +kernel
theorem dX9_bestWinding_4 : decode cX9_bestWinding 4 = .ok (.getfield 106, 3) := by decide +kernel
theorem dX9_bestWinding_7 : decode cX9_bestWinding 7 = .ok (.iconst 1, 1) := by decide +kernel
theorem dX9_bestWinding_8 : decode cX9_bestWinding 8 = .ok (.iadd, 1) := by decide +kernel
theorem dX9_bestWinding_9 : decode cX9_bestWinding 9 = .ok (.invokevirtual 196, 3) := by decide +kernel
theorem dX9_bestWinding_12 : decode cX9_bestWinding 12 = .ok (.istore_n 3, 1) := by decide +kernel
theorem dX9_bestWinding_13 : decode cX9_bestWinding 13 = .ok (.iconst 2, 1) := by decide +kernel
theorem dX9_bestWinding_14 : decode cX9_bestWinding 14 = .ok (.istore 4, 2) := by decide +kernel
theorem dX9_bestWinding_16 : decode cX9_bestWinding 16 = .ok (.iload 4, 2) := by decide +kernel
theorem dX9_bestWinding_18 : decode cX9_bestWinding 18 = .ok (.aload_n 0, 1) := by decide +kernel
theorem dX9_bestWinding_19 : decode cX9_bestWinding 19 = .ok (.getfield 68, 3) := by decide +kernel
theorem dX9_bestWinding_22 : decode cX9_bestWinding 22 = .ok (.if_icmp .gt 34, 3) := by decide +kernel
theorem dX9_bestWinding_25 : decode cX9_bestWinding 25 = .ok (.aload_n 1, 1) := by decide +kernel
theorem dX9_bestWinding_26 : decode cX9_bestWinding 26 = .ok (.aload_n 0, 1) := by decide +kernel
theorem dX9_bestWinding_27 : decode cX9_bestWinding 27 = .ok (.getfield 106, 3) := by decide +kernel
theorem dX9_bestWinding_30 : decode cX9_bestWinding 30 = .ok (.iload 4, 2) := by decide +kernel
theorem dX9_bestWinding_32 : decode cX9_bestWinding 32 = .ok (.iadd, 1) := by decide +kernel
theorem dX9_bestWinding_33 : decode cX9_bestWinding 33 = .ok (.invokevirtual 196, 3) := by decide +kernel
theorem dX9_bestWinding_36 : decode cX9_bestWinding 36 = .ok (.istore 5, 2) := by decide +kernel
theorem dX9_bestWinding_38 : decode cX9_bestWinding 38 = .ok (.iload 5, 2) := by decide +kernel
theorem dX9_bestWinding_40 : decode cX9_bestWinding 40 = .ok (.iload_n 3, 1) := by decide +kernel
theorem dX9_bestWinding_41 : decode cX9_bestWinding 41 = .ok (.if_icmp .le 9, 3) := by decide +kernel
theorem dX9_bestWinding_44 : decode cX9_bestWinding 44 = .ok (.iload 5, 2) := by decide +kernel
theorem dX9_bestWinding_46 : decode cX9_bestWinding 46 = .ok (.istore_n 3, 1) := by decide +kernel
theorem dX9_bestWinding_47 : decode cX9_bestWinding 47 = .ok (.iload 4, 2) := by decide +kernel
theorem dX9_bestWinding_49 : decode cX9_bestWinding 49 = .ok (.istore_n 2, 1) := by decide +kernel
theorem dX9_bestWinding_50 : decode cX9_bestWinding 50 = .ok (.iinc 4 1, 3) := by decide +kernel
theorem dX9_bestWinding_53 : decode cX9_bestWinding 53 = .ok (.goto (-37), 3) := by decide +kernel
theorem dX9_bestWinding_56 : decode cX9_bestWinding 56 = .ok (.iload_n 2, 1) := by decide +kernel
theorem dX9_bestWinding_57 : decode cX9_bestWinding 57 = .ok (.ireturn, 1) := by decide +kernel
set_option maxRecDepth 20000 in
theorem ggX9_together_X9_potAt : GoodIn wsX9_together wsX9_potAt := goodIn_r _ [7, 8, 9, 45, 46, 47, 48, 49, 50, 51, 52, 53, 54, 55, 56, 57, 58, 59, 60, 61, 62] (by decide +kernel) (by decide +kernel)
set_option maxRecDepth 20000 in
theorem gX9_together_X9_potAt : GoodIn wsX9_together (wsV RX9 135 RX9 yX9_potAt wsX9_potAt) := goodIn_app (goodIn_of _ (by decide +kernel)) ggX9_together_X9_potAt
theorem dX9_together_0 : decode cX9_together 0 = .ok (.aload_n 0, 1) := by decide +kernel
theorem dX9_together_1 : decode cX9_together 1 = .ok (.iload_n 1, 1) := by decide +kernel
theorem dX9_together_2 : decode cX9_together 2 = .ok (.invokevirtual 135, 3) := by decide +kernel
theorem dX9_together_5 : decode cX9_together 5 = .ok (.astore_n 3, 1) := by decide +kernel
theorem dX9_together_6 : decode cX9_together 6 = .ok (.aload_n 3, 1) := by decide +kernel
theorem dX9_together_7 : decode cX9_together 7 = .ok (.ifnonnull 6, 3) := by decide +kernel
theorem dX9_together_10 : decode cX9_together 10 = .ok (.bipush (-101), 2) := by decide +kernel
theorem dX9_together_12 : decode cX9_together 12 = .ok (.ireturn, 1) := by decide +kernel
theorem dX9_together_13 : decode cX9_together 13 = .ok (.iload_n 2, 1) := by decide +kernel
theorem dX9_together_14 : decode cX9_together 14 = .ok (.ifCond .lt 10, 3) := by decide +kernel
theorem dX9_together_17 : decode cX9_together 17 = .ok (.iload_n 2, 1) := by decide +kernel
theorem dX9_together_18 : decode cX9_together 18 = .ok (.sipush 1200, 3) := by decide +kernel
theorem dX9_together_21 : decode cX9_together 21 = .ok (.if_icmp .le 6, 3) := by decide +kernel
theorem dX9_together_24 : decode cX9_together 24 = .ok (.bipush (-102), 2) := by decide +kernel
theorem dX9_together_26 : decode cX9_together 26 = .ok (.ireturn, 1) := by decide +kernel
theorem dX9_together_27 : decode cX9_together 27 = .ok (.iload_n 2, 1) := by decide +kernel
theorem dX9_together_28 : decode cX9_together 28 = .ok (.aload_n 3, 1) := by decide +kernel
theorem dX9_together_29 : decode cX9_together 29 = .ok (.getfield 142, 3) := by decide +kernel
theorem dX9_together_32 : decode cX9_together 32 = .ok (.isub, 1) := by decide +kernel
theorem dX9_together_33 : decode cX9_together 33 = .ok (.istore 4, 2) := by decide +kernel
theorem dX9_together_35 : decode cX9_together 35 = .ok (.iload 4, 2) := by decide +kernel
theorem dX9_together_37 : decode cX9_together 37 = .ok (.aload_n 0, 1) := by decide +kernel
theorem dX9_together_38 : decode cX9_together 38 = .ok (.getfield 106, 3) := by decide +kernel
theorem dX9_together_41 : decode cX9_together 41 = .ok (.if_icmp .lt 8, 3) := by decide +kernel
theorem dX9_together_44 : decode cX9_together 44 = .ok (.iload 4, 2) := by decide +kernel
theorem dX9_together_46 : decode cX9_together 46 = .ok (.goto 4, 3) := by decide +kernel
theorem dX9_together_49 : decode cX9_together 49 = .ok (.iconst (-1), 1) := by decide +kernel
theorem dX9_together_50 : decode cX9_together 50 = .ok (.ireturn, 1) := by decide +kernel
set_option maxRecDepth 20000 in
theorem ggX9_tell_X9_potAt : GoodIn wsX9_tell wsX9_potAt := goodIn_r _ [8, 9, 10, 69, 70, 71, 72, 73, 74, 75, 76, 77, 78, 79, 80, 81, 82, 83, 84, 85, 86] (by decide +kernel) (by decide +kernel)
set_option maxRecDepth 20000 in
theorem gX9_tell_X9_potAt : GoodIn wsX9_tell (wsV RX9 135 RX9 yX9_potAt wsX9_potAt) := goodIn_app (goodIn_of _ (by decide +kernel)) ggX9_tell_X9_potAt
set_option maxRecDepth 20000 in
theorem ggX9_tell_X5_boils : GoodIn wsX9_tell wsX5_boils := goodIn_r _ [16, 17, 91, 92, 93, 94, 95, 96, 97, 98, 99, 100, 101, 102, 103, 104, 105, 106, 107, 108, 109, 110, 111, 112, 113, 114, 115, 116, 117, 118, 119, 120, 121, 122, 123, 124, 125] (by decide +kernel) (by decide +kernel)
set_option maxRecDepth 20000 in
theorem gX9_tell_X5_boils_u151X0 : GoodIn wsX9_tell (va_wsU RX9 151 RX0 "OneTimer$Pot" ⟨"OneTimer$Pot", "boils", "()Z"⟩ yX5_boils wsX5_boils) := goodIn_app (goodIn_of _ (by decide +kernel)) ggX9_tell_X5_boils
set_option maxRecDepth 20000 in
theorem gX9_tell_X5_boils_u151X2 : GoodIn wsX9_tell (va_wsU RX9 151 RX2 "OneTimer$Pot" ⟨"OneTimer$Pot", "boils", "()Z"⟩ yX5_boils wsX5_boils) := goodIn_app (goodIn_of _ (by decide +kernel)) ggX9_tell_X5_boils
set_option maxRecDepth 20000 in
theorem gX9_tell_X5_boils : GoodIn wsX9_tell (wsV RX9 151 RX5 yX5_boils wsX5_boils) := goodIn_app (goodIn_of _ (by decide +kernel)) ggX9_tell_X5_boils
set_option maxRecDepth 20000 in
theorem gX9_tell_X5_boils_u151X6 : GoodIn wsX9_tell (va_wsU RX9 151 RX6 "OneTimer$Pot" ⟨"OneTimer$Pot", "boils", "()Z"⟩ yX5_boils wsX5_boils) := goodIn_app (goodIn_of _ (by decide +kernel)) ggX9_tell_X5_boils
set_option maxRecDepth 20000 in
theorem gX9_tell_X5_boils_u151X7 : GoodIn wsX9_tell (va_wsU RX9 151 RX7 "OneTimer$Pot" ⟨"OneTimer$Pot", "boils", "()Z"⟩ yX5_boils wsX5_boils) := goodIn_app (goodIn_of _ (by decide +kernel)) ggX9_tell_X5_boils
set_option maxRecDepth 20000 in
theorem ggX9_tell_X5_due : GoodIn wsX9_tell wsX5_due := goodIn_r _ [27, 17, 28, 91, 92, 93, 94, 95, 96, 97, 98, 99, 100, 101, 102, 103, 104, 105, 106, 107, 108, 109, 110, 111, 112, 113, 114, 115, 116, 117, 118, 119, 120, 121, 122, 123, 124, 125] (by decide +kernel) (by decide +kernel)
set_option maxRecDepth 20000 in
theorem gX9_tell_X5_due_u154X0 : GoodIn wsX9_tell (va_wsU RX9 154 RX0 "OneTimer$Pot" ⟨"OneTimer$Pot", "due", "()I"⟩ yX5_due wsX5_due) := goodIn_app (goodIn_of _ (by decide +kernel)) ggX9_tell_X5_due
set_option maxRecDepth 20000 in
theorem gX9_tell_X5_due_u154X2 : GoodIn wsX9_tell (va_wsU RX9 154 RX2 "OneTimer$Pot" ⟨"OneTimer$Pot", "due", "()I"⟩ yX5_due wsX5_due) := goodIn_app (goodIn_of _ (by decide +kernel)) ggX9_tell_X5_due
set_option maxRecDepth 20000 in
theorem gX9_tell_X5_due : GoodIn wsX9_tell (wsV RX9 154 RX5 yX5_due wsX5_due) := goodIn_app (goodIn_of _ (by decide +kernel)) ggX9_tell_X5_due
set_option maxRecDepth 20000 in
theorem gX9_tell_X5_due_u154X6 : GoodIn wsX9_tell (va_wsU RX9 154 RX6 "OneTimer$Pot" ⟨"OneTimer$Pot", "due", "()I"⟩ yX5_due wsX5_due) := goodIn_app (goodIn_of _ (by decide +kernel)) ggX9_tell_X5_due
set_option maxRecDepth 20000 in
theorem gX9_tell_X5_due_u154X7 : GoodIn wsX9_tell (va_wsU RX9 154 RX7 "OneTimer$Pot" ⟨"OneTimer$Pot", "due", "()I"⟩ yX5_due wsX5_due) := goodIn_app (goodIn_of _ (by decide +kernel)) ggX9_tell_X5_due
