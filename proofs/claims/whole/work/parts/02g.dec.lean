theorem dX10_init_4 : decode cX10_init 4 = .ok (.aload_n 0, 1) := by decide +kernel
theorem dX10_init_5 : decode cX10_init 5 = .ok (.iconst 4, 1) := by decide +kernel
theorem dX10_init_6 : decode cX10_init 6 = .ok (.newarray .int, 2) := by decide +kernel
theorem dX10_init_8 : decode cX10_init 8 = .ok (.putfield 7, 3) := by decide +kernel
theorem dX10_init_11 : decode cX10_init 11 = .ok (.aload_n 0, 1) := by decide +kernel
theorem dX10_init_12 : decode cX10_init 12 = .ok (.iconst 4, 1) := by decide +kernel
theorem dX10_init_13 : decode cX10_init 13 = .ok (.newarray .int, 2) := by decide +kernel
theorem dX10_init_15 : decode cX10_init 15 = .ok (.putfield 13, 3) := by decide +kernel
theorem dX10_init_18 : decode cX10_init 18 = .ok (.aload_n 0, 1) := by decide +kernel
theorem dX10_init_19 : decode cX10_init 19 = .ok (.iconst 4, 1) := by decide +kernel
theorem dX10_init_20 : decode cX10_init 20 = .ok (.newarray .int, 2) := by decide +kernel
theorem dX10_init_22 : decode cX10_init 22 = .ok (.putfield 16, 3) := by decide +kernel
theorem dX10_init_25 : decode cX10_init 25 = .ok (.aload_n 0, 1) := by decide +kernel
theorem dX10_init_26 : decode cX10_init 26 = .ok (.iconst 4, 1) := by decide +kernel
theorem dX10_init_27 : decode cX10_init 27 = .ok (.newarray .int, 2) := by decide +kernel
theorem dX10_init_29 : decode cX10_init 29 = .ok (.putfield 19, 3) := by decide +kernel
theorem dX10_init_32 : decode cX10_init 32 = .ok (.aload_n 0, 1) := by decide +kernel
theorem dX10_init_33 : decode cX10_init 33 = .ok (.iconst 4, 1) := by decide +kernel
theorem dX10_init_34 : decode cX10_init 34 = .ok (.newarray .int, 2) := by decide +kernel
theorem dX10_init_36 : decode cX10_init 36 = .ok (.putfield 22, 3) := by decide +kernel
theorem dX10_init_39 : decode cX10_init 39 = .ok (.aload_n 0, 1) := by decide +kernel
theorem dX10_init_40 : decode cX10_init 40 = .ok (.bipush 6, 2) := by decide +kernel
theorem dX10_init_42 : decode cX10_init 42 = .ok (.newarray .int, 2) := by decide +kernel
theorem dX10_init_44 : decode cX10_init 44 = .ok (.putfield 25, 3) := by decide +kernel
theorem dX10_init_47 : decode cX10_init 47 = .ok (.aload_n 0, 1) := by decide +kernel
theorem dX10_init_48 : decode cX10_init 48 = .ok (.bipush 6, 2) := by decide +kernel
theorem dX10_init_50 : decode cX10_init 50 = .ok (.newarray .int, 2) := by decide +kernel
theorem dX10_init_52 : decode cX10_init 52 = .ok (.putfield 28, 3) := by decide +kernel
theorem dX10_init_55 : decode cX10_init 55 = .ok (.aload_n 0, 1) := by decide +kernel
theorem dX10_init_56 : decode cX10_init 56 = .ok (.bipush 6, 2) := by decide +kernel
theorem dX10_init_58 : decode cX10_init 58 = .ok (.newarray .int, 2) := by decide +kernel
theorem dX10_init_60 : decode cX10_init 60 = .ok (.putfield 31, 3) := by decide +kernel
theorem dX10_init_63 : decode cX10_init 63 = .ok (.aload_n 0, 1) := by decide +kernel
theorem dX10_init_64 : decode cX10_init 64 = .ok (.bipush 6, 2) := by decide +kernel
theorem dX10_init_66 : decode cX10_init 66 = .ok (.newarray .int, 2) := by decide +kernel
theorem dX10_init_68 : decode cX10_init 68 = .ok (.putfield 34, 3) := by decide +kernel
theorem dX10_init_71 : decode cX10_init 71 = .ok (.aload_n 0, 1) := by decide +kernel
theorem dX10_init_72 : decode cX10_init 72 = .ok (.bipush 21, 2) := by decide +kernel
theorem dX10_init_74 : decode cX10_init 74 = .ok (.newarray .byte, 2) := by decide +kernel
theorem dX10_init_76 : decode cX10_init 76 = .ok (.putfield 37, 3) := by decide +kernel
theorem dX10_init_79 : decode cX10_init 79 = .ok (.aload_n 0, 1) := by decide +kernel
theorem dX10_init_80 : decode cX10_init 80 = .ok (.sipush 1936, 3) := by decide +kernel
theorem dX10_init_83 : decode cX10_init 83 = .ok (.newarray .int, 2) := by decide +kernel
theorem dX10_init_85 : decode cX10_init 85 = .ok (.putfield 41, 3) := by decide +kernel
theorem dX10_init_88 : decode cX10_init 88 = .ok (.aload_n 0, 1) := by decide +kernel
theorem dX10_init_89 : decode cX10_init 89 = .ok (.sipush 1936, 3) := by decide +kernel
theorem dX10_init_92 : decode cX10_init 92 = .ok (.newarray .int, 2) := by decide +kernel
theorem dX10_init_94 : decode cX10_init 94 = .ok (.putfield 44, 3) := by decide +kernel
theorem dX10_init_97 : decode cX10_init 97 = .ok (.aload_n 0, 1) := by decide +kernel
theorem dX10_init_98 : decode cX10_init 98 = .ok (.iconst 4, 1) := by decide +kernel
theorem dX10_init_99 : decode cX10_init 99 = .ok (.newarray .int, 2) := by decide +kernel
theorem dX10_init_101 : decode cX10_init 101 = .ok (.putfield 47, 3) := by decide +kernel
theorem dX10_init_104 : decode cX10_init 104 = .ok (.aload_n 0, 1) := by decide +kernel
theorem dX10_init_105 : decode cX10_init 105 = .ok (.iconst 4, 1) := by decide +kernel
theorem dX10_init_106 : decode cX10_init 106 = .ok (.newarray .int, 2) := by decide +kernel
theorem dX10_init_108 : decode cX10_init 108 = .ok (.putfield 50, 3) := by decide +kernel
theorem dX10_init_111 : decode cX10_init 111 = .ok (.aload_n 0, 1) := by decide +kernel
theorem dX10_init_112 : decode cX10_init 112 = .ok (.iconst 4, 1) := by decide +kernel
theorem dX10_init_113 : decode cX10_init 113 = .ok (.newarray .int, 2) := by decide +kernel
theorem dX10_init_115 : decode cX10_init 115 = .ok (.putfield 53, 3) := by decide +kernel
theorem dX10_init_118 : decode cX10_init 118 = .ok (.aload_n 0, 1) := by decide +kernel
theorem dX10_init_119 : decode cX10_init 119 = .ok (.bipush 6, 2) := by decide +kernel
theorem dX10_init_121 : decode cX10_init 121 = .ok (.newarray .int, 2) := by decide +kernel
theorem dX10_init_123 : decode cX10_init 123 = .ok (.putfield 56, 3) := by decide +kernel
theorem dX10_init_126 : decode cX10_init 126 = .ok (.aload_n 0, 1) := by decide +kernel
theorem dX10_init_127 : decode cX10_init 127 = .ok (.bipush 6, 2) := by decide +kernel
theorem dX10_init_129 : decode cX10_init 129 = .ok (.newarray .int, 2) := by decide +kernel
theorem dX10_init_131 : decode cX10_init 131 = .ok (.putfield 59, 3) := by decide +kernel
theorem dX10_init_134 : decode cX10_init 134 = .ok (.aload_n 0, 1) := by decide +kernel
theorem dX10_init_135 : decode cX10_init 135 = .ok (.bipush 6, 2) := by decide +kernel
theorem dX10_init_137 : decode cX10_init 137 = .ok (.newarray .int, 2) := by decide +kernel
theorem dX10_init_139 : decode cX10_init 139 = .ok (.putfield 62, 3) := by decide +kernel
theorem dX10_init_142 : decode cX10_init 142 = .ok (.aload_n 0, 1) := by decide +kernel
theorem dX10_init_143 : decode cX10_init 143 = .ok (.bipush 6, 2) := by decide +kernel
theorem dX10_init_145 : decode cX10_init 145 = .ok (.newarray .int, 2) := by decide +kernel
theorem dX10_init_147 : decode cX10_init 147 = .ok (.putfield 65, 3) := by decide +kernel
theorem dX10_init_150 : decode cX10_init 150 = .ok (.return_, 1) := by decide +kernel
theorem dX10_within_0 : decode cX10_within 0 = .ok (.iload_n 0, 1) := by decide +kernel
theorem dX10_within_1 : decode cX10_within 1 = .ok (.iload_n 1, 1) := by decide +kernel
theorem dX10_within_2 : decode cX10_within 2 = .ok (.if_icmp .lt 12, 3) := by decide +kernel
theorem dX10_within_5 : decode cX10_within 5 = .ok (.iload_n 0, 1) := by decide +kernel
theorem dX10_within_6 : decode cX10_within 6 = .ok (.iload_n 2, 1) := by decide +kernel
theorem dX10_within_7 : decode cX10_within 7 = .ok (.if_icmp .gt 7, 3) := by decide +kernel
theorem dX10_within_10 : decode cX10_within 10 = .ok (.iconst 1, 1) := by decide +kernel
theorem dX10_within_11 : decode cX10_within 11 = .ok (.goto 4, 3) := by decide +kernel
theorem dX10_within_14 : decode cX10_within 14 = .ok (.iconst 0, 1) := by decide +kernel
theorem dX10_within_15 : decode cX10_within 15 = .ok (.ireturn, 1) := by decide +kernel
set_option maxRecDepth 20000 in
theorem ggX10_letter_X10_within : GoodIn wsX10_letter wsX10_within := goodIn_r _ [6] (by decide +kernel) (by decide +kernel)
set_option maxRecDepth 20000 in
theorem gX10_letter_X10_within : GoodIn wsX10_letter (va_wsS RX10 68 yX10_within wsX10_within) := goodIn_app (goodIn_of _ (by decide +kernel)) ggX10_letter_X10_within
theorem dX10_letter_0 : decode cX10_letter 0 = .ok (.iload_n 1, 1) := by decide +kernel
theorem dX10_letter_1 : decode cX10_letter 1 = .ok (.bipush 32, 2) := by decide +kernel
theorem dX10_letter_3 : decode cX10_letter 3 = .ok (.bipush 126, 2) := by decide +kernel
theorem dX10_letter_5 : decode cX10_letter 5 = .ok (.invokestatic 68, 3) := by decide +kernel
theorem dX10_letter_8 : decode cX10_letter 8 = .ok (.ifCond .ne 6, 3) := by decide +kernel
theorem dX10_letter_11 : decode cX10_letter 11 = .ok (.bipush (-102), 2) := by decide +kernel
theorem dX10_letter_13 : decode cX10_letter 13 = .ok (.ireturn, 1) := by decide +kernel
theorem dX10_letter_14 : decode cX10_letter 14 = .ok (.aload_n 0, 1) := by decide +kernel
theorem dX10_letter_15 : decode cX10_letter 15 = .ok (.getfield 72, 3) := by decide +kernel
theorem dX10_letter_18 : decode cX10_letter 18 = .ok (.bipush 21, 2) := by decide +kernel
theorem dX10_letter_20 : decode cX10_letter 20 = .ok (.if_icmp .ne 6, 3) := by decide +kernel
theorem dX10_letter_23 : decode cX10_letter 23 = .ok (.bipush (-104), 2) := by decide +kernel
theorem dX10_letter_25 : decode cX10_letter 25 = .ok (.ireturn, 1) := by decide +kernel
theorem dX10_letter_26 : decode cX10_letter 26 = .ok (.aload_n 0, 1) := by decide +kernel
theorem dX10_letter_27 : decode cX10_letter 27 = .ok (.getfield 37, 3) := by decide +kernel
theorem dX10_letter_30 : decode cX10_letter 30 = .ok (.aload_n 0, 1) := by decide +kernel
theorem dX10_letter_31 : decode cX10_letter 31 = .ok (.getfield 72, 3) := by decide +kernel
theorem dX10_letter_34 : decode cX10_letter 34 = .ok (.iload_n 1, 1) := by decide +kernel
theorem dX10_letter_35 : decode cX10_letter 35 = .ok (.i2b, 1) := by decide +kernel
theorem dX10_letter_36 : decode cX10_letter 36 = .ok (.bastore, 1) := by decide +kernel
theorem dX10_letter_37 : decode cX10_letter 37 = .ok (.aload_n 0, 1) := by decide +kernel
theorem dX10_letter_38 : decode cX10_letter 38 = .ok (.dup, 1) := by decide +kernel
theorem dX10_letter_39 : decode cX10_letter 39 = .ok (.getfield 72, 3) := by decide +kernel
theorem dX10_letter_42 : decode cX10_letter 42 = .ok (.iconst 1, 1) := by decide +kernel
theorem dX10_letter_43 : decode cX10_letter 43 = .ok (.iadd, 1) := by decide +kernel
theorem dX10_letter_44 : decode cX10_letter 44 = .ok (.putfield 72, 3) := by decide +kernel
theorem dX10_letter_47 : decode cX10_letter 47 = .ok (.aload_n 0, 1) := by decide +kernel
theorem dX10_letter_48 : decode cX10_letter 48 = .ok (.getfield 72, 3) := by decide +kernel
theorem dX10_letter_51 : decode cX10_letter 51 = .ok (.ireturn, 1) := by decide +kernel
theorem dX10_blank_0 : decode cX10_blank 0 = .ok (.aload_n 0, 1) := by decide +kernel
theorem dX10_blank_1 : decode cX10_blank 1 = .ok (.getfield 72, 3) := by decide +kernel
theorem dX10_blank_4 : decode cX10_blank 4 = .ok (.istore_n 1, 1) := by decide +kernel
theorem dX10_blank_5 : decode cX10_blank 5 = .ok (.aload_n 0, 1) := by decide +kernel
theorem dX10_blank_6 : decode cX10_blank 6 = .ok (.iconst 0, 1) := by decide +kernel
theorem dX10_blank_7 : decode cX10_blank 7 = .ok (.putfield 72, 3) := by decide +kernel
theorem dX10_blank_10 : decode cX10_blank 10 = .ok (.iload_n 1, 1) := by decide +kernel
theorem dX10_blank_11 : decode cX10_blank 11 = .ok (.ireturn, 1) := by decide +kernel
theorem dX10_kindBy_0 : decode cX10_kindBy 0 = .ok (.iload_n 0, 1) := by decide +kernel
theorem dX10_kindBy_1 : decode cX10_kindBy 1 = .ok (.lookupswitch 61 #[(98, 59), (101, 53), (112, 51), (114, 55), (115, 57)], 51) := by decide +kernel
theorem dX10_kindBy_52 : decode cX10_kindBy 52 = .ok (.iconst 0, 1) := by decide +kernel
theorem dX10_kindBy_53 : decode cX10_kindBy 53 = .ok (.ireturn, 1) := by decide +kernel
theorem dX10_kindBy_54 : decode cX10_kindBy 54 = .ok (.iconst 1, 1) := by decide +kernel
theorem dX10_kindBy_55 : decode cX10_kindBy 55 = .ok (.ireturn, 1) := by decide +kernel
theorem dX10_kindBy_56 : decode cX10_kindBy 56 = .ok (.iconst 2, 1) := by decide +kernel
theorem dX10_kindBy_57 : decode cX10_kindBy 57 = .ok (.ireturn, 1) := by decide +kernel
theorem dX10_kindBy_58 : decode cX10_kindBy 58 = .ok (.iconst 3, 1) := by decide +kernel
theorem dX10_kindBy_59 : decode cX10_kindBy 59 = .ok (.ireturn, 1) := by decide +kernel
theorem dX10_kindBy_60 : decode cX10_kindBy 60 = .ok (.iconst 4, 1) := by decide +kernel
theorem dX10_kindBy_61 : decode cX10_kindBy 61 = .ok (.ireturn, 1) := by decide +kernel
theorem dX10_kindBy_62 : decode cX10_kindBy 62 = .ok (.iconst (-1), 1) := by decide +kernel
theorem dX10_kindBy_63 : decode cX10_kindBy 63 = .ok (.ireturn, 1) := by decide +kernel
set_option maxRecDepth 20000 in
theorem ggX10_figure_X10_within : GoodIn wsX10_figure wsX10_within := goodIn_r _ [6] (by decide +kernel) (by decide +kernel)
set_option maxRecDepth 20000 in
theorem gX10_figure_X10_within : GoodIn wsX10_figure (va_wsS RX10 68 yX10_within wsX10_within) := goodIn_app (goodIn_of _ (by decide +kernel)) ggX10_figure_X10_within
theorem dX10_figure_0 : decode cX10_figure 0 = .ok (.iload_n 1, 1) := by decide +kernel
theorem dX10_figure_1 : decode cX10_figure 1 = .ok (.aload_n 0, 1) := by decide +kernel
theorem dX10_figure_2 : decode cX10_figure 2 = .ok (.getfield 72, 3) := by decide +kernel
theorem dX10_figure_5 : decode cX10_figure 5 = .ok (.if_icmp .ge 33, 3) := by decide +kernel
theorem dX10_figure_8 : decode cX10_figure 8 = .ok (.aload_n 0, 1) := by decide +kernel
theorem dX10_figure_9 : decode cX10_figure 9 = .ok (.getfield 37, 3) := by decide +kernel
theorem dX10_figure_12 : decode cX10_figure 12 = .ok (.iload_n 1, 1) := by decide +kernel
theorem dX10_figure_13 : decode cX10_figure 13 = .ok (.baload, 1) := by decide +kernel
theorem dX10_figure_14 : decode cX10_figure 14 = .ok (.bipush 48, 2) := by decide +kernel
theorem dX10_figure_16 : decode cX10_figure 16 = .ok (.isub, 1) := by decide +kernel
theorem dX10_figure_17 : decode cX10_figure 17 = .ok (.iconst 0, 1) := by decide +kernel
theorem dX10_figure_18 : decode cX10_figure 18 = .ok (.bipush 9, 2) := by decide +kernel
theorem dX10_figure_20 : decode cX10_figure 20 = .ok (.invokestatic 68, 3) := by decide +kernel
theorem dX10_figure_23 : decode cX10_figure 23 = .ok (.ifCond .eq 15, 3) := by decide +kernel
theorem dX10_figure_26 : decode cX10_figure 26 = .ok (.aload_n 0, 1) := by decide +kernel
theorem dX10_figure_27 : decode cX10_figure 27 = .ok (.getfield 37, 3) := by decide +kernel
theorem dX10_figure_30 : decode cX10_figure 30 = .ok (.iload_n 1, 1) := by decide +kernel
theorem dX10_figure_31 : decode cX10_figure 31 = .ok (.baload, 1) := by decide +kernel
theorem dX10_figure_32 : decode cX10_figure 32 = .ok (.bipush 48, 2) := by decide +kernel
theorem dX10_figure_34 : decode cX10_figure 34 = .ok (.isub, 1) := by decide +kernel
theorem dX10_figure_35 : decode cX10_figure 35 = .ok (.goto 4, 3) := by decide +kernel
theorem dX10_figure_38 : decode cX10_figure 38 = .ok (.iconst (-1), 1) := by decide +kernel
theorem dX10_figure_39 : decode cX10_figure 39 = .ok (.ireturn, 1) := by decide +kernel
set_option maxRecDepth 20000 in
theorem ggX10_readTwo_X10_figure : GoodIn wsX10_readTwo wsX10_figure := goodIn_r _ [5, 6, 7, 8, 9, 4, 10, 11, 12, 13, 14, 15, 16, 17, 18, 19, 20, 21, 22, 23, 24, 25, 26, 27, 28, 29, 30, 31, 32, 33, 34, 35, 36, 37, 38, 39, 40, 41, 42, 43, 44, 45, 46, 47, 48, 49] (by decide +kernel) (by decide +kernel)
set_option maxRecDepth 20000 in
theorem gX10_readTwo_X10_figure : GoodIn wsX10_readTwo (wsV RX10 76 RX10 yX10_figure wsX10_figure) := goodIn_app (goodIn_of _ (by decide +kernel)) ggX10_readTwo_X10_figure
theorem dX10_readTwo_0 : decode cX10_readTwo 0 = .ok (.aload_n 0, 1) := by decide +kernel
theorem dX10_readTwo_1 : decode cX10_readTwo 1 = .ok (.iload_n 1, 1) := by decide +kernel
theorem dX10_readTwo_2 : decode cX10_readTwo 2 = .ok (.invokevirtual 76, 3) := by decide +kernel
theorem dX10_readTwo_5 : decode cX10_readTwo 5 = .ok (.istore_n 3, 1) := by decide +kernel
theorem dX10_readTwo_6 : decode cX10_readTwo 6 = .ok (.iload_n 3, 1) := by decide +kernel
theorem dX10_readTwo_7 : decode cX10_readTwo 7 = .ok (.iconst (-1), 1) := by decide +kernel
theorem dX10_readTwo_8 : decode cX10_readTwo 8 = .ok (.if_icmp .eq 11, 3) := by decide +kernel
theorem dX10_readTwo_11 : decode cX10_readTwo 11 = .ok (.iload_n 3, 1) := by decide +kernel
theorem dX10_readTwo_12 : decode cX10_readTwo 12 = .ok (.iload_n 2, 1) := by decide +kernel
theorem dX10_readTwo_13 : decode cX10_readTwo 13 = .ok (.bipush 10, 2) := by decide +kernel
theorem dX10_readTwo_15 : decode cX10_readTwo 15 = .ok (.idiv, 1) := by decide +kernel
theorem dX10_readTwo_16 : decode cX10_readTwo 16 = .ok (.if_icmp .le 5, 3) := by decide +kernel
theorem dX10_readTwo_19 : decode cX10_readTwo 19 = .ok (.iload_n 1, 1) := by decide +kernel
theorem dX10_readTwo_20 : decode cX10_readTwo 20 = .ok (.ireturn, 1) := by decide +kernel
theorem dX10_readTwo_21 : decode cX10_readTwo 21 = .ok (.aload_n 0, 1) := by decide +kernel
theorem dX10_readTwo_22 : decode cX10_readTwo 22 = .ok (.iload_n 1, 1) := by decide +kernel
theorem dX10_readTwo_23 : decode cX10_readTwo 23 = .ok (.iconst 1, 1) := by decide +kernel
theorem dX10_readTwo_24 : decode cX10_readTwo 24 = .ok (.iadd, 1) := by decide +kernel
theorem dX10_readTwo_25 : decode cX10_readTwo 25 = .ok (.invokevirtual 76, 3) := by decide +kernel
theorem dX10_readTwo_28 : decode cX10_readTwo 28 = .ok (.istore 4, 2) := by decide +kernel
theorem dX10_readTwo_30 : decode cX10_readTwo 30 = .ok (.iload 4, 2) := by decide +kernel
theorem dX10_readTwo_32 : decode cX10_readTwo 32 = .ok (.iconst (-1), 1) := by decide +kernel
theorem dX10_readTwo_33 : decode cX10_readTwo 33 = .ok (.if_icmp .eq 29, 3) := by decide +kernel
theorem dX10_readTwo_36 : decode cX10_readTwo 36 = .ok (.bipush 10, 2) := by decide +kernel
theorem dX10_readTwo_38 : decode cX10_readTwo 38 = .ok (.iload_n 3, 1) := by decide +kernel
theorem dX10_readTwo_39 : decode cX10_readTwo 39 = .ok (.imul, 1) := by decide +kernel
theorem dX10_readTwo_40 : decode cX10_readTwo 40 = .ok (.iload 4, 2) := by decide +kernel
theorem dX10_readTwo_42 : decode cX10_readTwo 42 = .ok (.iadd, 1) := by decide +kernel
theorem dX10_readTwo_43 : decode cX10_readTwo 43 = .ok (.iconst 1, 1) := by decide +kernel
theorem dX10_readTwo_44 : decode cX10_readTwo 44 = .ok (.if_icmp .lt 18, 3) := by decide +kernel
theorem dX10_readTwo_47 : decode cX10_readTwo 47 = .ok (.bipush 10, 2) := by decide +kernel
theorem dX10_readTwo_49 : decode cX10_readTwo 49 = .ok (.iload_n 3, 1) := by decide +kernel
theorem dX10_readTwo_50 : decode cX10_readTwo 50 = .ok (.imul, 1) := by decide +kernel
theorem dX10_readTwo_51 : decode cX10_readTwo 51 = .ok (.iload 4, 2) := by decide +kernel
theorem dX10_readTwo_53 : decode cX10_readTwo 53 = .ok (.iadd, 1) := by decide +kernel
theorem dX10_readTwo_54 : decode cX10_readTwo 54 = .ok (.iload_n 2, 1) := by decide +kernel
theorem dX10_readTwo_55 : decode cX10_readTwo 55 = .ok (.if_icmp .gt 7, 3) := by decide +kernel
theorem dX10_readTwo_58 : decode cX10_readTwo 58 = .ok (.iconst 1, 1) := by decide +kernel
theorem dX10_readTwo_59 : decode cX10_readTwo 59 = .ok (.goto 4, 3) := by decide +kernel
theorem dX10_readTwo_62 : decode cX10_readTwo 62 = .ok (.iconst 0, 1) := by decide +kernel
theorem dX10_readTwo_63 : decode cX10_readTwo 63 = .ok (.istore 5, 2) := by decide +kernel
theorem dX10_readTwo_65 : decode cX10_readTwo 65 = .ok (.iload 5, 2) := by decide +kernel
theorem dX10_readTwo_67 : decode cX10_readTwo 67 = .ok (.ifCond .eq 9, 3) := by decide +kernel
theorem dX10_readTwo_70 : decode cX10_readTwo 70 = .ok (.iload_n 1, 1) := by decide +kernel
theorem dX10_readTwo_71 : decode cX10_readTwo 71 = .ok (.iconst 2, 1) := by decide +kernel
theorem dX10_readTwo_72 : decode cX10_readTwo 72 = .ok (.iadd, 1) := by decide +kernel
theorem dX10_readTwo_73 : decode cX10_readTwo 73 = .ok (.goto 6, 3) := by decide +kernel
theorem dX10_readTwo_76 : decode cX10_readTwo 76 = .ok (.iload_n 1, 1) := by decide +kernel
theorem dX10_readTwo_77 : decode cX10_readTwo 77 = .ok (.iconst 1, 1) := by decide +kernel
theorem dX10_readTwo_78 : decode cX10_readTwo 78 = .ok (.iadd, 1) := by decide +kernel
theorem dX10_readTwo_79 : decode cX10_readTwo 79 = .ok (.ireturn, 1) := by decide +kernel
theorem dX10_two_0 : decode cX10_two 0 = .ok (.bipush 10, 2) := by decide +kernel
theorem dX10_two_2 : decode cX10_two 2 = .ok (.aload_n 0, 1) := by decide +kernel
theorem dX10_two_3 : decode cX10_two 3 = .ok (.getfield 37, 3) := by decide +kernel
theorem dX10_two_6 : decode cX10_two 6 = .ok (.iload_n 1, 1) := by decide +kernel
theorem dX10_two_7 : decode cX10_two 7 = .ok (.baload, 1) := by decide +kernel
theorem dX10_two_8 : decode cX10_two 8 = .ok (.bipush 48, 2) := by decide +kernel
theorem dX10_two_10 : decode cX10_two 10 = .ok (.isub, 1) := by decide +kernel
theorem dX10_two_11 : decode cX10_two 11 = .ok (.imul, 1) := by decide +kernel
theorem dX10_two_12 : decode cX10_two 12 = .ok (.aload_n 0, 1) := by decide +kernel
theorem dX10_two_13 : decode cX10_two 13 = .ok (.getfield 37, 3) := by decide +kernel
theorem dX10_two_16 : decode cX10_two 16 = .ok (.iload_n 1, 1) := by decide +kernel
theorem dX10_two_17 : decode cX10_two 17 = .ok (.iconst 1, 1) := by decide +kernel
theorem dX10_two_18 : decode cX10_two 18 = .ok (.iadd, 1) := by decide +kernel
theorem dX10_two_19 : decode cX10_two 19 = .ok (.baload, 1) := by decide +kernel
theorem dX10_two_20 : decode cX10_two 20 = .ok (.iadd, 1) := by decide +kernel
theorem dX10_two_21 : decode cX10_two 21 = .ok (.bipush 48, 2) := by decide +kernel
theorem dX10_two_23 : decode cX10_two 23 = .ok (.isub, 1) := by decide +kernel
theorem dX10_two_24 : decode cX10_two 24 = .ok (.ireturn, 1) := by decide +kernel
set_option maxRecDepth 20000 in
theorem ggX10_readRest_X10_readTwo : GoodIn wsX10_readRest wsX10_readTwo := goodIn_r _ [7, 8, 9, 10, 6, 11, 1, 12, 13, 14, 15, 16, 17, 18, 19, 20, 21, 22, 23, 24, 25, 26, 27, 28, 29, 30, 31, 32, 33, 34, 35, 36, 37, 38, 39, 40, 41, 42, 43, 44, 45, 46, 47, 48, 49, 50, 51, 52, 53, 54] (by decide +kernel) (by decide +kernel)
set_option maxRecDepth 20000 in
theorem gX10_readRest_X10_readTwo : GoodIn wsX10_readRest (wsV RX10 80 RX10 yX10_readTwo wsX10_readTwo) := goodIn_app (goodIn_of _ (by decide +kernel)) ggX10_readRest_X10_readTwo
set_option maxRecDepth 20000 in
theorem ggX10_readRest_X10_figure : GoodIn wsX10_readRest wsX10_figure := goodIn_r _ [11, 1, 12, 13, 14, 6, 15, 16, 17, 18, 19, 20, 21, 22, 23, 24, 25, 26, 27, 28, 29, 30, 31, 32, 33, 34, 35, 36, 37, 38, 39, 40, 41, 42, 43, 44, 45, 46, 47, 48, 49, 50, 51, 52, 53, 54] (by decide +kernel) (by decide +kernel)
set_option maxRecDepth 20000 in
theorem gX10_readRest_X10_figure : GoodIn wsX10_readRest (wsV RX10 76 RX10 yX10_figure wsX10_figure) := goodIn_app (goodIn_of _ (by decide +kernel)) ggX10_readRest_X10_figure
theorem dX10_readRest_0 : decode cX10_readRest 0 = .ok (.aload_n 0, 1) := by decide +kernel
theorem dX10_readRest_1 : decode cX10_readRest 1 = .ok (.iload_n 1, 1) := by decide +kernel
theorem dX10_readRest_2 : decode cX10_readRest 2 = .ok (.bipush 60, 2) := by decide +kernel
theorem dX10_readRest_4 : decode cX10_readRest 4 = .ok (.invokevirtual 80, 3) := by decide +kernel
theorem dX10_readRest_7 : decode cX10_readRest 7 = .ok (.istore_n 2, 1) := by decide +kernel
theorem dX10_readRest_8 : decode cX10_readRest 8 = .ok (.iload_n 2, 1) := by decide +kernel
theorem dX10_readRest_9 : decode cX10_readRest 9 = .ok (.iload_n 1, 1) := by decide +kernel
theorem dX10_readRest_10 : decode cX10_readRest 10 = .ok (.iconst 2, 1) := by decide +kernel
theorem dX10_readRest_11 : decode cX10_readRest 11 = .ok (.iadd, 1) := by decide +kernel
theorem dX10_readRest_12 : decode cX10_readRest 12 = .ok (.if_icmp .eq 5, 3) := by decide +kernel
theorem dX10_readRest_15 : decode cX10_readRest 15 = .ok (.iload_n 2, 1) := by decide +kernel
theorem dX10_readRest_16 : decode cX10_readRest 16 = .ok (.ireturn, 1) := by decide +kernel
theorem dX10_readRest_17 : decode cX10_readRest 17 = .ok (.aload_n 0, 1) := by decide +kernel
theorem dX10_readRest_18 : decode cX10_readRest 18 = .ok (.iload_n 2, 1) := by decide +kernel
theorem dX10_readRest_19 : decode cX10_readRest 19 = .ok (.invokevirtual 76, 3) := by decide +kernel
theorem dX10_readRest_22 : decode cX10_readRest 22 = .ok (.iconst 1, 1) := by decide +kernel
theorem dX10_readRest_23 : decode cX10_readRest 23 = .ok (.if_icmp .lt 12, 3) := by decide +kernel
theorem dX10_readRest_26 : decode cX10_readRest 26 = .ok (.aload_n 0, 1) := by decide +kernel
theorem dX10_readRest_27 : decode cX10_readRest 27 = .ok (.iload_n 2, 1) := by decide +kernel
theorem dX10_readRest_28 : decode cX10_readRest 28 = .ok (.invokevirtual 76, 3) := by decide +kernel
theorem dX10_readRest_31 : decode cX10_readRest 31 = .ok (.iconst 4, 1) := by decide +kernel
theorem dX10_readRest_32 : decode cX10_readRest 32 = .ok (.if_icmp .le 5, 3) := by decide +kernel
theorem dX10_readRest_35 : decode cX10_readRest 35 = .ok (.iload_n 2, 1) := by decide +kernel
theorem dX10_readRest_36 : decode cX10_readRest 36 = .ok (.ireturn, 1) := by decide +kernel
theorem dX10_readRest_37 : decode cX10_readRest 37 = .ok (.aload_n 0, 1) := by decide +kernel
theorem dX10_readRest_38 : decode cX10_readRest 38 = .ok (.iload_n 2, 1) := by decide +kernel
theorem dX10_readRest_39 : decode cX10_readRest 39 = .ok (.iconst 1, 1) := by decide +kernel
theorem dX10_readRest_40 : decode cX10_readRest 40 = .ok (.iadd, 1) := by decide +kernel
theorem dX10_readRest_41 : decode cX10_readRest 41 = .ok (.aload_n 0, 1) := by decide +kernel
theorem dX10_readRest_42 : decode cX10_readRest 42 = .ok (.getfield 72, 3) := by decide +kernel
theorem dX10_readRest_45 : decode cX10_readRest 45 = .ok (.if_icmp .ne 7, 3) := by decide +kernel
theorem dX10_readRest_48 : decode cX10_readRest 48 = .ok (.iconst 1, 1) := by decide +kernel
theorem dX10_readRest_49 : decode cX10_readRest 49 = .ok (.goto 4, 3) := by decide +kernel
theorem dX10_readRest_52 : decode cX10_readRest 52 = .ok (.iconst 0, 1) := by decide +kernel
theorem dX10_readRest_53 : decode cX10_readRest 53 = .ok (.putfield 84, 3) := by decide +kernel
theorem dX10_readRest_56 : decode cX10_readRest 56 = .ok (.iload_n 2, 1) := by decide +kernel
theorem dX10_readRest_57 : decode cX10_readRest 57 = .ok (.iconst 1, 1) := by decide +kernel
theorem dX10_readRest_58 : decode cX10_readRest 58 = .ok (.iadd, 1) := by decide +kernel
theorem dX10_readRest_59 : decode cX10_readRest 59 = .ok (.ireturn, 1) := by decide +kernel
set_option maxRecDepth 20000 in
theorem ggX10_read_X10_kindBy : GoodIn wsX10_read wsX10_kindBy := goodIn_r _ [8] (by decide +kernel) (by decide +kernel)
set_option maxRecDepth 20000 in
theorem gX10_read_X10_kindBy : GoodIn wsX10_read (va_wsS RX10 91 yX10_kindBy wsX10_kindBy) := goodIn_app (goodIn_of _ (by decide +kernel)) ggX10_read_X10_kindBy
set_option maxRecDepth 20000 in
theorem ggX10_read_X10_readTwo : GoodIn wsX10_read wsX10_readTwo := goodIn_r _ [12, 13, 14, 15, 7, 16, 3, 4, 17, 18, 19, 24, 25, 26, 27, 28, 29, 30, 31, 32, 33, 34, 35, 36, 37, 38, 39, 40, 41, 42, 43, 44, 45, 46, 47, 48, 49, 50, 51, 52, 53, 54, 55, 56, 57, 58, 59, 60, 61, 62] (by decide +kernel) (by decide +kernel)
set_option maxRecDepth 20000 in
theorem gX10_read_X10_readTwo : GoodIn wsX10_read (wsV RX10 80 RX10 yX10_readTwo wsX10_readTwo) := goodIn_app (goodIn_of _ (by decide +kernel)) ggX10_read_X10_readTwo
set_option maxRecDepth 20000 in
theorem ggX10_read_X10_readRest : GoodIn wsX10_read wsX10_readRest := goodIn_r _ [23, 3, 1, 9, 10, 11, 7, 12, 13, 14, 15, 16, 4, 17, 18, 19, 24, 25, 26, 27, 28, 29, 30, 31, 32, 33, 34, 35, 36, 37, 38, 39, 40, 41, 42, 43, 44, 45, 46, 47, 48, 49, 50, 51, 52, 53, 54, 55, 56, 57, 58, 59, 60, 61, 62] (by decide +kernel) (by decide +kernel)
set_option maxRecDepth 20000 in
theorem gX10_read_X10_readRest : GoodIn wsX10_read (wsV RX10 94 RX10 yX10_readRest wsX10_readRest) := goodIn_app (goodIn_of _ (by decide +kernel)) ggX10_read_X10_readRest
theorem dX10_read_0 : decode cX10_read 0 = .ok (.aload_n 0, 1) := by decide +kernel
theorem dX10_read_1 : decode cX10_read 1 = .ok (.iconst 0, 1) := by decide +kernel
theorem dX10_read_2 : decode cX10_read 2 = .ok (.putfield 84, 3) := by decide +kernel
theorem dX10_read_5 : decode cX10_read 5 = .ok (.aload_n 0, 1) := by decide +kernel
theorem dX10_read_6 : decode cX10_read 6 = .ok (.iconst 0, 1) := by decide +kernel
theorem dX10_read_7 : decode cX10_read 7 = .ok (.putfield 88, 3) := by decide +kernel
theorem dX10_read_10 : decode cX10_read 10 = .ok (.iconst 0, 1) := by decide +kernel
theorem dX10_read_11 : decode cX10_read 11 = .ok (.istore_n 1, 1) := by decide +kernel
theorem dX10_read_12 : decode cX10_read 12 = .ok (.aload_n 0, 1) := by decide +kernel
theorem dX10_read_13 : decode cX10_read 13 = .ok (.getfield 88, 3) := by decide +kernel
theorem dX10_read_16 : decode cX10_read 16 = .ok (.iconst 4, 1) := by decide +kernel
theorem dX10_read_17 : decode cX10_read 17 = .ok (.if_icmp .ge 127, 3) := by decide +kernel
theorem dX10_read_20 : decode cX10_read 20 = .ok (.iload_n 1, 1) := by decide +kernel
theorem dX10_read_21 : decode cX10_read 21 = .ok (.aload_n 0, 1) := by decide +kernel
theorem dX10_read_22 : decode cX10_read 22 = .ok (.getfield 72, 3) := by decide +kernel
theorem dX10_read_25 : decode cX10_read 25 = .ok (.if_icmp .eq 16, 3) := by decide +kernel
theorem dX10_read_28 : decode cX10_read 28 = .ok (.aload_n 0, 1) := by decide +kernel
theorem dX10_read_29 : decode cX10_read 29 = .ok (.getfield 37, 3) := by decide +kernel
theorem dX10_read_32 : decode cX10_read 32 = .ok (.iload_n 1, 1) := by decide +kernel
theorem dX10_read_33 : decode cX10_read 33 = .ok (.baload, 1) := by decide +kernel
theorem dX10_read_34 : decode cX10_read 34 = .ok (.invokestatic 91, 3) := by decide +kernel
theorem dX10_read_37 : decode cX10_read 37 = .ok (.iconst (-1), 1) := by decide +kernel
theorem dX10_read_38 : decode cX10_read 38 = .ok (.if_icmp .ne 5, 3) := by decide +kernel
theorem dX10_read_41 : decode cX10_read 41 = .ok (.iload_n 1, 1) := by decide +kernel
theorem dX10_read_42 : decode cX10_read 42 = .ok (.ireturn, 1) := by decide +kernel
theorem dX10_read_43 : decode cX10_read 43 = .ok (.aload_n 0, 1) := by decide +kernel
theorem dX10_read_44 : decode cX10_read 44 = .ok (.iload_n 1, 1) := by decide +kernel
theorem dX10_read_45 : decode cX10_read 45 = .ok (.iconst 1, 1) := by decide +kernel
theorem dX10_read_46 : decode cX10_read 46 = .ok (.iadd, 1) := by decide +kernel
theorem dX10_read_47 : decode cX10_read 47 = .ok (.bipush 40, 2) := by decide +kernel
theorem dX10_read_49 : decode cX10_read 49 = .ok (.invokevirtual 80, 3) := by decide +kernel
theorem dX10_read_52 : decode cX10_read 52 = .ok (.istore_n 2, 1) := by decide +kernel
theorem dX10_read_53 : decode cX10_read 53 = .ok (.iload_n 2, 1) := by decide +kernel
theorem dX10_read_54 : decode cX10_read 54 = .ok (.iload_n 1, 1) := by decide +kernel
theorem dX10_read_55 : decode cX10_read 55 = .ok (.iconst 3, 1) := by decide +kernel
theorem dX10_read_56 : decode cX10_read 56 = .ok (.iadd, 1) := by decide +kernel
theorem dX10_read_57 : decode cX10_read 57 = .ok (.if_icmp .eq 5, 3) := by decide +kernel
theorem dX10_read_60 : decode cX10_read 60 = .ok (.iload_n 2, 1) := by decide +kernel
theorem dX10_read_61 : decode cX10_read 61 = .ok (.ireturn, 1) := by decide +kernel
theorem dX10_read_62 : decode cX10_read 62 = .ok (.aload_n 0, 1) := by decide +kernel
theorem dX10_read_63 : decode cX10_read 63 = .ok (.dup, 1) := by decide +kernel
theorem dX10_read_64 : decode cX10_read 64 = .ok (.getfield 88, 3) := by decide +kernel
theorem dX10_read_67 : decode cX10_read 67 = .ok (.iconst 1, 1) := by decide +kernel
theorem dX10_read_68 : decode cX10_read 68 = .ok (.iadd, 1) := by decide +kernel
theorem dX10_read_69 : decode cX10_read 69 = .ok (.putfield 88, 3) := by decide +kernel
theorem dX10_read_72 : decode cX10_read 72 = .ok (.iload_n 2, 1) := by decide +kernel
theorem dX10_read_73 : decode cX10_read 73 = .ok (.istore_n 1, 1) := by decide +kernel
theorem dX10_read_74 : decode cX10_read 74 = .ok (.iload_n 1, 1) := by decide +kernel
theorem dX10_read_75 : decode cX10_read 75 = .ok (.aload_n 0, 1) := by decide +kernel
theorem dX10_read_76 : decode cX10_read 76 = .ok (.getfield 72, 3) := by decide +kernel
theorem dX10_read_79 : decode cX10_read 79 = .ok (.if_icmp .ge 30, 3) := by decide +kernel
theorem dX10_read_82 : decode cX10_read 82 = .ok (.aload_n 0, 1) := by decide +kernel
theorem dX10_read_83 : decode cX10_read 83 = .ok (.getfield 37, 3) := by decide +kernel
theorem dX10_read_86 : decode cX10_read 86 = .ok (.iload_n 1, 1) := by decide +kernel
theorem dX10_read_87 : decode cX10_read 87 = .ok (.baload, 1) := by decide +kernel
theorem dX10_read_88 : decode cX10_read 88 = .ok (.bipush 59, 2) := by decide +kernel
theorem dX10_read_90 : decode cX10_read 90 = .ok (.if_icmp .ne 19, 3) := by decide +kernel
theorem dX10_read_93 : decode cX10_read 93 = .ok (.aload_n 0, 1) := by decide +kernel
theorem dX10_read_94 : decode cX10_read 94 = .ok (.getfield 88, 3) := by decide +kernel
theorem dX10_read_97 : decode cX10_read 97 = .ok (.iconst 1, 1) := by decide +kernel
theorem dX10_read_98 : decode cX10_read 98 = .ok (.if_icmp .le 11, 3) := by decide +kernel
theorem dX10_read_101 : decode cX10_read 101 = .ok (.aload_n 0, 1) := by decide +kernel
theorem dX10_read_102 : decode cX10_read 102 = .ok (.iload_n 1, 1) := by decide +kernel
theorem dX10_read_103 : decode cX10_read 103 = .ok (.iconst 1, 1) := by decide +kernel
theorem dX10_read_104 : decode cX10_read 104 = .ok (.iadd, 1) := by decide +kernel
theorem dX10_read_105 : decode cX10_read 105 = .ok (.invokevirtual 94, 3) := by decide +kernel
theorem dX10_read_108 : decode cX10_read 108 = .ok (.ireturn, 1) := by decide +kernel
theorem dX10_read_109 : decode cX10_read 109 = .ok (.iload_n 1, 1) := by decide +kernel
theorem dX10_read_110 : decode cX10_read 110 = .ok (.aload_n 0, 1) := by decide +kernel
theorem dX10_read_111 : decode cX10_read 111 = .ok (.getfield 72, 3) := by decide +kernel
theorem dX10_read_114 : decode cX10_read 114 = .ok (.if_icmp .eq 22, 3) := by decide +kernel
theorem dX10_read_117 : decode cX10_read 117 = .ok (.aload_n 0, 1) := by decide +kernel
theorem dX10_read_118 : decode cX10_read 118 = .ok (.getfield 88, 3) := by decide +kernel
theorem dX10_read_121 : decode cX10_read 121 = .ok (.iconst 4, 1) := by decide +kernel
theorem dX10_read_122 : decode cX10_read 122 = .ok (.if_icmp .eq 14, 3) := by decide +kernel
theorem dX10_read_125 : decode cX10_read 125 = .ok (.aload_n 0, 1) := by decide +kernel
theorem dX10_read_126 : decode cX10_read 126 = .ok (.getfield 37, 3) := by decide +kernel
theorem dX10_read_129 : decode cX10_read 129 = .ok (.iload_n 1, 1) := by decide +kernel
theorem dX10_read_130 : decode cX10_read 130 = .ok (.baload, 1) := by decide +kernel
theorem dX10_read_131 : decode cX10_read 131 = .ok (.bipush 44, 2) := by decide +kernel
theorem dX10_read_133 : decode cX10_read 133 = .ok (.if_icmp .eq 5, 3) := by decide +kernel
theorem dX10_read_136 : decode cX10_read 136 = .ok (.iload_n 1, 1) := by decide +kernel
theorem dX10_read_137 : decode cX10_read 137 = .ok (.ireturn, 1) := by decide +kernel
theorem dX10_read_138 : decode cX10_read 138 = .ok (.iinc 1 1, 3) := by decide +kernel
theorem dX10_read_141 : decode cX10_read 141 = .ok (.goto (-129), 3) := by decide +kernel
theorem dX10_read_144 : decode cX10_read 144 = .ok (.iload_n 1, 1) := by decide +kernel
theorem dX10_read_145 : decode cX10_read 145 = .ok (.ireturn, 1) := by decide +kernel
set_option maxRecDepth 20000 in
theorem ggX10_fault_X10_read : GoodIn wsX10_fault wsX10_read := goodIn_r _ [5, 6, 7, 8, 9, 10, 11, 4, 12, 13, 14, 15, 16, 17, 18, 19, 20, 21, 22, 23, 24, 25, 26, 27, 28, 29, 30, 31, 32, 33, 34, 35, 36, 37, 38, 39, 40, 41, 42, 43, 44, 45, 46, 47, 48, 49, 50, 51, 52, 53, 54, 55, 56, 57, 58, 59, 60, 61, 62, 63, 64, 65, 66] (by decide +kernel) (by decide +kernel)
set_option maxRecDepth 20000 in
theorem gX10_fault_X10_read : GoodIn wsX10_fault (wsV RX10 97 RX10 yX10_read wsX10_read) := goodIn_app (goodIn_of _ (by decide +kernel)) ggX10_fault_X10_read
theorem dX10_fault_0 : decode cX10_fault 0 = .ok (.aload_n 0, 1) := by decide +kernel
theorem dX10_fault_1 : decode cX10_fault 1 = .ok (.invokevirtual 97, 3) := by decide +kernel
theorem dX10_fault_4 : decode cX10_fault 4 = .ok (.ireturn, 1) := by decide +kernel
set_option maxRecDepth 20000 in
theorem ggX10_kitchen_X10_read : GoodIn wsX10_kitchen wsX10_read := goodIn_r _ [22, 1, 2, 17, 5, 23, 24, 21, 25, 26, 27, 28, 29, 30, 31, 32, 33, 34, 35, 36, 37, 38, 39, 40, 45, 46, 47, 48, 49, 50, 51, 52, 53, 54, 55, 56, 57, 58, 59, 60, 61, 62, 63, 64, 65, 66, 67, 68, 69, 70, 71, 72, 73, 74, 75, 76, 77, 78, 79, 80, 81, 82, 83] (by decide +kernel) (by decide +kernel)
set_option maxRecDepth 20000 in
theorem gX10_kitchen_X10_read : GoodIn wsX10_kitchen (wsV RX10 97 RX10 yX10_read wsX10_read) := goodIn_app (goodIn_of _ (by decide +kernel)) ggX10_kitchen_X10_read
set_option maxRecDepth 20000 in
theorem ggX10_kitchen_X10_two : GoodIn wsX10_kitchen wsX10_two := goodIn_r _ [44, 5, 45, 46, 47, 48, 49, 50, 51, 52, 53, 54, 55, 56, 57, 58, 59, 60, 61, 62, 63, 64, 65, 66, 67, 68, 69, 70, 71, 72, 73, 74, 75, 76, 77, 78, 79, 80, 81, 82, 83] (by decide +kernel) (by decide +kernel)
set_option maxRecDepth 20000 in
theorem gX10_kitchen_X10_two : GoodIn wsX10_kitchen (wsV RX10 104 RX10 yX10_two wsX10_two) := goodIn_app (goodIn_of _ (by decide +kernel)) ggX10_kitchen_X10_two
set_option maxRecDepth 20000 in
theorem ggX10_kitchen_X10_kindBy : GoodIn wsX10_kitchen wsX10_kindBy := goodIn_r _ [25] (by decide +kernel) (by decide +kernel)
set_option maxRecDepth 20000 in
theorem gX10_kitchen_X10_kindBy : GoodIn wsX10_kitchen (va_wsS RX10 91 yX10_kindBy wsX10_kindBy) := goodIn_app (goodIn_of _ (by decide +kernel)) ggX10_kitchen_X10_kindBy
theorem dX10_kitchen_0 : decode cX10_kitchen 0 = .ok (.aload_n 0, 1) := by decide +kernel
theorem dX10_kitchen_1 : decode cX10_kitchen 1 = .ok (.invokevirtual 97, 3) := by decide +kernel
theorem dX10_kitchen_4 : decode cX10_kitchen 4 = .ok (.istore_n 1, 1) := by decide +kernel
theorem dX10_kitchen_5 : decode cX10_kitchen 5 = .ok (.aload_n 0, 1) := by decide +kernel
theorem dX10_kitchen_6 : decode cX10_kitchen 6 = .ok (.getfield 84, 3) := by decide +kernel
theorem dX10_kitchen_9 : decode cX10_kitchen 9 = .ok (.ifCond .ne 6, 3) := by decide +kernel
theorem dX10_kitchen_12 : decode cX10_kitchen 12 = .ok (.bipush (-103), 2) := by decide +kernel
theorem dX10_kitchen_14 : decode cX10_kitchen 14 = .ok (.ireturn, 1) := by decide +kernel
theorem dX10_kitchen_15 : decode cX10_kitchen 15 = .ok (.aload_n 0, 1) := by decide +kernel
theorem dX10_kitchen_16 : decode cX10_kitchen 16 = .ok (.aload_n 0, 1) := by decide +kernel
theorem dX10_kitchen_17 : decode cX10_kitchen 17 = .ok (.getfield 88, 3) := by decide +kernel
theorem dX10_kitchen_20 : decode cX10_kitchen 20 = .ok (.putfield 101, 3) := by decide +kernel
theorem dX10_kitchen_23 : decode cX10_kitchen 23 = .ok (.aload_n 0, 1) := by decide +kernel
theorem dX10_kitchen_24 : decode cX10_kitchen 24 = .ok (.aload_n 0, 1) := by decide +kernel
theorem dX10_kitchen_25 : decode cX10_kitchen 25 = .ok (.iload_n 1, 1) := by decide +kernel
theorem dX10_kitchen_26 : decode cX10_kitchen 26 = .ok (.iconst 3, 1) := by decide +kernel
theorem dX10_kitchen_27 : decode cX10_kitchen 27 = .ok (.isub, 1) := by decide +kernel
theorem dX10_kitchen_28 : decode cX10_kitchen 28 = .ok (.invokevirtual 104, 3) := by decide +kernel
theorem dX10_kitchen_31 : decode cX10_kitchen 31 = .ok (.putfield 107, 3) := by decide +kernel
theorem dX10_kitchen_34 : decode cX10_kitchen 34 = .ok (.aload_n 0, 1) := by decide +kernel
theorem dX10_kitchen_35 : decode cX10_kitchen 35 = .ok (.aload_n 0, 1) := by decide +kernel
theorem dX10_kitchen_36 : decode cX10_kitchen 36 = .ok (.getfield 37, 3) := by decide +kernel
theorem dX10_kitchen_39 : decode cX10_kitchen 39 = .ok (.iload_n 1, 1) := by decide +kernel
theorem dX10_kitchen_40 : decode cX10_kitchen 40 = .ok (.iconst 1, 1) := by decide +kernel
theorem dX10_kitchen_41 : decode cX10_kitchen 41 = .ok (.isub, 1) := by decide +kernel
theorem dX10_kitchen_42 : decode cX10_kitchen 42 = .ok (.baload, 1) := by decide +kernel
theorem dX10_kitchen_43 : decode cX10_kitchen 43 = .ok (.bipush 48, 2) := by decide +kernel
theorem dX10_kitchen_45 : decode cX10_kitchen 45 = .ok (.isub, 1) := by decide +kernel
theorem dX10_kitchen_46 : decode cX10_kitchen 46 = .ok (.putfield 110, 3) := by decide +kernel
theorem dX10_kitchen_49 : decode cX10_kitchen 49 = .ok (.iconst 0, 1) := by decide +kernel
theorem dX10_kitchen_50 : decode cX10_kitchen 50 = .ok (.istore_n 2, 1) := by decide +kernel
theorem dX10_kitchen_51 : decode cX10_kitchen 51 = .ok (.iload_n 2, 1) := by decide +kernel
theorem dX10_kitchen_52 : decode cX10_kitchen 52 = .ok (.aload_n 0, 1) := by decide +kernel
theorem dX10_kitchen_53 : decode cX10_kitchen 53 = .ok (.getfield 101, 3) := by decide +kernel
theorem dX10_kitchen_56 : decode cX10_kitchen 56 = .ok (.if_icmp .ge 62, 3) := by decide +kernel
theorem dX10_kitchen_59 : decode cX10_kitchen 59 = .ok (.aload_n 0, 1) := by decide +kernel
theorem dX10_kitchen_60 : decode cX10_kitchen 60 = .ok (.getfield 7, 3) := by decide +kernel
theorem dX10_kitchen_63 : decode cX10_kitchen 63 = .ok (.iload_n 2, 1) := by decide +kernel
theorem dX10_kitchen_64 : decode cX10_kitchen 64 = .ok (.aload_n 0, 1) := by decide +kernel
theorem dX10_kitchen_65 : decode cX10_kitchen 65 = .ok (.getfield 37, 3) := by decide +kernel
theorem dX10_kitchen_68 : decode cX10_kitchen 68 = .ok (.iconst 4, 1) := by decide +kernel
theorem dX10_kitchen_69 : decode cX10_kitchen 69 = .ok (.iload_n 2, 1) := by decide +kernel
theorem dX10_kitchen_70 : decode cX10_kitchen 70 = .ok (.imul, 1) := by decide +kernel
theorem dX10_kitchen_71 : decode cX10_kitchen 71 = .ok (.baload, 1) := by decide +kernel
theorem dX10_kitchen_72 : decode cX10_kitchen 72 = .ok (.invokestatic 91, 3) := by decide +kernel
theorem dX10_kitchen_75 : decode cX10_kitchen 75 = .ok (.iastore, 1) := by decide +kernel
theorem dX10_kitchen_76 : decode cX10_kitchen 76 = .ok (.aload_n 0, 1) := by decide +kernel
theorem dX10_kitchen_77 : decode cX10_kitchen 77 = .ok (.getfield 13, 3) := by decide +kernel
theorem dX10_kitchen_80 : decode cX10_kitchen 80 = .ok (.iload_n 2, 1) := by decide +kernel
theorem dX10_kitchen_81 : decode cX10_kitchen 81 = .ok (.aload_n 0, 1) := by decide +kernel
theorem dX10_kitchen_82 : decode cX10_kitchen 82 = .ok (.iconst 4, 1) := by decide +kernel
theorem dX10_kitchen_83 : decode cX10_kitchen 83 = .ok (.iload_n 2, 1) := by decide +kernel
theorem dX10_kitchen_84 : decode cX10_kitchen 84 = .ok (.imul, 1) := by decide +kernel
theorem dX10_kitchen_85 : decode cX10_kitchen 85 = .ok (.iconst 1, 1) := by decide +kernel
theorem dX10_kitchen_86 : decode cX10_kitchen 86 = .ok (.iadd, 1) := by decide +kernel
theorem dX10_kitchen_87 : decode cX10_kitchen 87 = .ok (.invokevirtual 104, 3) := by decide +kernel
theorem dX10_kitchen_90 : decode cX10_kitchen 90 = .ok (.iastore, 1) := by decide +kernel
theorem dX10_kitchen_91 : decode cX10_kitchen 91 = .ok (.aload_n 0, 1) := by decide +kernel
theorem dX10_kitchen_92 : decode cX10_kitchen 92 = .ok (.getfield 16, 3) := by decide +kernel
theorem dX10_kitchen_95 : decode cX10_kitchen 95 = .ok (.iload_n 2, 1) := by decide +kernel
theorem dX10_kitchen_96 : decode cX10_kitchen 96 = .ok (.iconst (-1), 1) := by decide +kernel
theorem dX10_kitchen_97 : decode cX10_kitchen 97 = .ok (.iastore, 1) := by decide +kernel
theorem dX10_kitchen_98 : decode cX10_kitchen 98 = .ok (.aload_n 0, 1) := by decide +kernel
theorem dX10_kitchen_99 : decode cX10_kitchen 99 = .ok (.getfield 19, 3) := by decide +kernel
theorem dX10_kitchen_102 : decode cX10_kitchen 102 = .ok (.iload_n 2, 1) := by decide +kernel
theorem dX10_kitchen_103 : decode cX10_kitchen 103 = .ok (.iconst 0, 1) := by decide +kernel
theorem dX10_kitchen_104 : decode cX10_kitchen 104 = .ok (.iastore, 1) := by decide +kernel
theorem dX10_kitchen_105 : decode cX10_kitchen 105 = .ok (.aload_n 0, 1) := by decide +kernel
theorem dX10_kitchen_106 : decode cX10_kitchen 106 = .ok (.getfield 22, 3) := by decide +kernel
theorem dX10_kitchen_109 : decode cX10_kitchen 109 = .ok (.iload_n 2, 1) := by decide +kernel
theorem dX10_kitchen_110 : decode cX10_kitchen 110 = .ok (.iconst (-1), 1) := by decide +kernel
theorem dX10_kitchen_111 : decode cX10_kitchen 111 = .ok (.iastore, 1) := by decide +kernel
theorem dX10_kitchen_112 : decode cX10_kitchen 112 = .ok (.iinc 2 1, 3) := by decide +kernel
theorem dX10_kitchen_115 : decode cX10_kitchen 115 = .ok (.goto (-64), 3) := by decide +kernel
theorem dX10_kitchen_118 : decode cX10_kitchen 118 = .ok (.aload_n 0, 1) := by decide +kernel
theorem dX10_kitchen_119 : decode cX10_kitchen 119 = .ok (.dup, 1) := by decide +kernel
theorem dX10_kitchen_120 : decode cX10_kitchen 120 = .ok (.getfield 113, 3) := by decide +kernel
theorem dX10_kitchen_123 : decode cX10_kitchen 123 = .ok (.iconst 1, 1) := by decide +kernel
theorem dX10_kitchen_124 : decode cX10_kitchen 124 = .ok (.iadd, 1) := by decide +kernel
theorem dX10_kitchen_125 : decode cX10_kitchen 125 = .ok (.putfield 113, 3) := by decide +kernel
theorem dX10_kitchen_128 : decode cX10_kitchen 128 = .ok (.aload_n 0, 1) := by decide +kernel
theorem dX10_kitchen_129 : decode cX10_kitchen 129 = .ok (.iconst 0, 1) := by decide +kernel
theorem dX10_kitchen_130 : decode cX10_kitchen 130 = .ok (.putfield 116, 3) := by decide +kernel
theorem dX10_kitchen_133 : decode cX10_kitchen 133 = .ok (.aload_n 0, 1) := by decide +kernel
theorem dX10_kitchen_134 : decode cX10_kitchen 134 = .ok (.aload_n 0, 1) := by decide +kernel
theorem dX10_kitchen_135 : decode cX10_kitchen 135 = .ok (.getfield 110, 3) := by decide +kernel
theorem dX10_kitchen_138 : decode cX10_kitchen 138 = .ok (.putfield 119, 3) := by decide +kernel
theorem dX10_kitchen_141 : decode cX10_kitchen 141 = .ok (.aload_n 0, 1) := by decide +kernel
theorem dX10_kitchen_142 : decode cX10_kitchen 142 = .ok (.iconst 0, 1) := by decide +kernel
theorem dX10_kitchen_143 : decode cX10_kitchen 143 = .ok (.putfield 122, 3) := by decide +kernel
theorem dX10_kitchen_146 : decode cX10_kitchen 146 = .ok (.aload_n 0, 1) := by decide +kernel
theorem dX10_kitchen_147 : decode cX10_kitchen 147 = .ok (.iconst 0, 1) := by decide +kernel
theorem dX10_kitchen_148 : decode cX10_kitchen 148 = .ok (.putfield 125, 3) := by decide +kernel
theorem dX10_kitchen_151 : decode cX10_kitchen 151 = .ok (.aload_n 0, 1) := by decide +kernel
theorem dX10_kitchen_152 : decode cX10_kitchen 152 = .ok (.iconst 0, 1) := by decide +kernel
theorem dX10_kitchen_153 : decode cX10_kitchen 153 = .ok (.putfield 72, 3) := by decide +kernel
theorem dX10_kitchen_156 : decode cX10_kitchen 156 = .ok (.aload_n 0, 1) := by decide +kernel
theorem dX10_kitchen_157 : decode cX10_kitchen 157 = .ok (.getfield 101, 3) := by decide +kernel
theorem dX10_kitchen_160 : decode cX10_kitchen 160 = .ok (.ireturn, 1) := by decide +kernel
set_option maxRecDepth 20000 in
theorem ggX10_isPot_X10_within : GoodIn wsX10_isPot wsX10_within := goodIn_r _ [5] (by decide +kernel) (by decide +kernel)
set_option maxRecDepth 20000 in
theorem gX10_isPot_X10_within : GoodIn wsX10_isPot (va_wsS RX10 68 yX10_within wsX10_within) := goodIn_app (goodIn_of _ (by decide +kernel)) ggX10_isPot_X10_within
theorem dX10_isPot_0 : decode cX10_isPot 0 = .ok (.iload_n 1, 1) := by decide +kernel
theorem dX10_isPot_1 : decode cX10_isPot 1 = .ok (.iconst 0, 1) := by decide +kernel
theorem dX10_isPot_2 : decode cX10_isPot 2 = .ok (.aload_n 0, 1) := by decide +kernel
theorem dX10_isPot_3 : decode cX10_isPot 3 = .ok (.getfield 101, 3) := by decide +kernel
theorem dX10_isPot_6 : decode cX10_isPot 6 = .ok (.iconst 1, 1) := by decide +kernel
theorem dX10_isPot_7 : decode cX10_isPot 7 = .ok (.isub, 1) := by decide +kernel
theorem dX10_isPot_8 : decode cX10_isPot 8 = .ok (.invokestatic 68, 3) := by decide +kernel
theorem dX10_isPot_11 : decode cX10_isPot 11 = .ok (.ireturn, 1) := by decide +kernel
theorem dX10_keepsOf_0 : decode cX10_keepsOf 0 = .ok (.aload_n 0, 1) := by decide +kernel
theorem dX10_keepsOf_1 : decode cX10_keepsOf 1 = .ok (.getfield 7, 3) := by decide +kernel
theorem dX10_keepsOf_4 : decode cX10_keepsOf 4 = .ok (.iload_n 1, 1) := by decide +kernel
theorem dX10_keepsOf_5 : decode cX10_keepsOf 5 = .ok (.iaload, 1) := by decide +kernel
theorem dX10_keepsOf_6 : decode cX10_keepsOf 6 = .ok (.tableswitch 40 1 4 #[30, 32, 34, 37], 30) := by decide +kernel
theorem dX10_keepsOf_36 : decode cX10_keepsOf 36 = .ok (.iconst 1, 1) := by decide +kernel
theorem dX10_keepsOf_37 : decode cX10_keepsOf 37 = .ok (.ireturn, 1) := by decide +kernel
theorem dX10_keepsOf_38 : decode cX10_keepsOf 38 = .ok (.iconst 3, 1) := by decide +kernel
theorem dX10_keepsOf_39 : decode cX10_keepsOf 39 = .ok (.ireturn, 1) := by decide +kernel
theorem dX10_keepsOf_40 : decode cX10_keepsOf 40 = .ok (.bipush 9, 2) := by decide +kernel
theorem dX10_keepsOf_42 : decode cX10_keepsOf 42 = .ok (.ireturn, 1) := by decide +kernel
theorem dX10_keepsOf_43 : decode cX10_keepsOf 43 = .ok (.bipush 6, 2) := by decide +kernel
theorem dX10_keepsOf_45 : decode cX10_keepsOf 45 = .ok (.ireturn, 1) := by decide +kernel
theorem dX10_keepsOf_46 : decode cX10_keepsOf 46 = .ok (.iconst 0, 1) := by decide +kernel
theorem dX10_keepsOf_47 : decode cX10_keepsOf 47 = .ok (.ireturn, 1) := by decide +kernel
theorem dX10_out_0 : decode cX10_out 0 = .ok (.iload_n 0, 1) := by decide +kernel
theorem dX10_out_1 : decode cX10_out 1 = .ok (.iload_n 1, 1) := by decide +kernel
theorem dX10_out_2 : decode cX10_out 2 = .ok (.if_icmp .ge 12, 3) := by decide +kernel
theorem dX10_out_5 : decode cX10_out 5 = .ok (.bipush 100, 2) := by decide +kernel
theorem dX10_out_7 : decode cX10_out 7 = .ok (.iload_n 1, 1) := by decide +kernel
theorem dX10_out_8 : decode cX10_out 8 = .ok (.iload_n 0, 1) := by decide +kernel
theorem dX10_out_9 : decode cX10_out 9 = .ok (.isub, 1) := by decide +kernel
theorem dX10_out_10 : decode cX10_out 10 = .ok (.isub, 1) := by decide +kernel
theorem dX10_out_11 : decode cX10_out 11 = .ok (.goto 23, 3) := by decide +kernel
theorem dX10_out_14 : decode cX10_out 14 = .ok (.iload_n 0, 1) := by decide +kernel
theorem dX10_out_15 : decode cX10_out 15 = .ok (.iload_n 1, 1) := by decide +kernel
theorem dX10_out_16 : decode cX10_out 16 = .ok (.iload_n 2, 1) := by decide +kernel
theorem dX10_out_17 : decode cX10_out 17 = .ok (.iadd, 1) := by decide +kernel
theorem dX10_out_18 : decode cX10_out 18 = .ok (.if_icmp .gt 8, 3) := by decide +kernel
theorem dX10_out_21 : decode cX10_out 21 = .ok (.bipush 100, 2) := by decide +kernel
theorem dX10_out_23 : decode cX10_out 23 = .ok (.goto 11, 3) := by decide +kernel
theorem dX10_out_26 : decode cX10_out 26 = .ok (.bipush 100, 2) := by decide +kernel
theorem dX10_out_28 : decode cX10_out 28 = .ok (.iload_n 0, 1) := by decide +kernel
theorem dX10_out_29 : decode cX10_out 29 = .ok (.iadd, 1) := by decide +kernel
theorem dX10_out_30 : decode cX10_out 30 = .ok (.iload_n 1, 1) := by decide +kernel
theorem dX10_out_31 : decode cX10_out 31 = .ok (.isub, 1) := by decide +kernel
theorem dX10_out_32 : decode cX10_out 32 = .ok (.iload_n 2, 1) := by decide +kernel
theorem dX10_out_33 : decode cX10_out 33 = .ok (.isub, 1) := by decide +kernel
theorem dX10_out_34 : decode cX10_out 34 = .ok (.ireturn, 1) := by decide +kernel
theorem dX10_boils_0 : decode cX10_boils 0 = .ok (.aload_n 0, 1) := by decide +kernel
theorem dX10_boils_1 : decode cX10_boils 1 = .ok (.getfield 16, 3) := by decide +kernel
theorem dX10_boils_4 : decode cX10_boils 4 = .ok (.iload_n 1, 1) := by decide +kernel
theorem dX10_boils_5 : decode cX10_boils 5 = .ok (.iaload, 1) := by decide +kernel
theorem dX10_boils_6 : decode cX10_boils 6 = .ok (.iconst (-1), 1) := by decide +kernel
theorem dX10_boils_7 : decode cX10_boils 7 = .ok (.if_icmp .eq 7, 3) := by decide +kernel
theorem dX10_boils_10 : decode cX10_boils 10 = .ok (.iconst 1, 1) := by decide +kernel
theorem dX10_boils_11 : decode cX10_boils 11 = .ok (.goto 4, 3) := by decide +kernel
theorem dX10_boils_14 : decode cX10_boils 14 = .ok (.iconst 0, 1) := by decide +kernel
theorem dX10_boils_15 : decode cX10_boils 15 = .ok (.ireturn, 1) := by decide +kernel
theorem dX10_dueOf_0 : decode cX10_dueOf 0 = .ok (.aload_n 0, 1) := by decide +kernel
theorem dX10_dueOf_1 : decode cX10_dueOf 1 = .ok (.getfield 16, 3) := by decide +kernel
theorem dX10_dueOf_4 : decode cX10_dueOf 4 = .ok (.iload_n 1, 1) := by decide +kernel
theorem dX10_dueOf_5 : decode cX10_dueOf 5 = .ok (.iaload, 1) := by decide +kernel
theorem dX10_dueOf_6 : decode cX10_dueOf 6 = .ok (.aload_n 0, 1) := by decide +kernel
theorem dX10_dueOf_7 : decode cX10_dueOf 7 = .ok (.getfield 13, 3) := by decide +kernel
theorem dX10_dueOf_10 : decode cX10_dueOf 10 = .ok (.iload_n 1, 1) := by decide +kernel
theorem dX10_dueOf_11 : decode cX10_dueOf 11 = .ok (.iaload, 1) := by decide +kernel
theorem dX10_dueOf_12 : decode cX10_dueOf 12 = .ok (.iadd, 1) := by decide +kernel
theorem dX10_dueOf_13 : decode cX10_dueOf 13 = .ok (.ireturn, 1) := by decide +kernel
set_option maxRecDepth 20000 in
theorem ggX10_outAt_X10_dueOf : GoodIn wsX10_outAt wsX10_dueOf := goodIn_r _ [5, 6, 7, 16, 17, 18, 19, 20, 21, 22, 23, 24, 25, 26, 27, 28, 29, 30, 31, 32, 33, 34, 35, 36, 37, 38, 39, 40, 41, 42, 43, 44, 45, 46, 47, 48, 49, 50, 51, 52, 53, 54] (by decide +kernel) (by decide +kernel)
set_option maxRecDepth 20000 in
theorem gX10_outAt_X10_dueOf : GoodIn wsX10_outAt (wsV RX10 128 RX10 yX10_dueOf wsX10_dueOf) := goodIn_app (goodIn_of _ (by decide +kernel)) ggX10_outAt_X10_dueOf
set_option maxRecDepth 20000 in
theorem ggX10_outAt_X10_keepsOf : GoodIn wsX10_outAt wsX10_keepsOf := goodIn_r _ [11, 12, 16, 17, 18, 19, 20, 21, 22, 23, 24, 25, 26, 27, 28, 29, 30, 31, 32, 33, 34, 35, 36, 37, 38, 39, 40, 41, 42, 43, 44, 45, 46, 47, 48, 49, 50, 51, 52, 53, 54] (by decide +kernel) (by decide +kernel)
set_option maxRecDepth 20000 in
theorem gX10_outAt_X10_keepsOf : GoodIn wsX10_outAt (wsV RX10 131 RX10 yX10_keepsOf wsX10_keepsOf) := goodIn_app (goodIn_of _ (by decide +kernel)) ggX10_outAt_X10_keepsOf
set_option maxRecDepth 20000 in
theorem ggX10_outAt_X10_out : GoodIn wsX10_outAt wsX10_out := goodIn_r _ [15] (by decide +kernel) (by decide +kernel)
set_option maxRecDepth 20000 in
theorem gX10_outAt_X10_out : GoodIn wsX10_outAt (va_wsS RX10 134 yX10_out wsX10_out) := goodIn_app (goodIn_of _ (by decide +kernel)) ggX10_outAt_X10_out
theorem dX10_outAt_0 : decode cX10_outAt 0 = .ok (.iload_n 2, 1) := by decide +kernel
theorem dX10_outAt_1 : decode cX10_outAt 1 = .ok (.aload_n 0, 1) := by decide +kernel
theorem dX10_outAt_2 : decode cX10_outAt 2 = .ok (.iload_n 1, 1) := by decide +kernel
theorem dX10_outAt_3 : decode cX10_outAt 3 = .ok (.invokevirtual 128, 3) := by decide +kernel
theorem dX10_outAt_6 : decode cX10_outAt 6 = .ok (.aload_n 0, 1) := by decide +kernel
theorem dX10_outAt_7 : decode cX10_outAt 7 = .ok (.iload_n 1, 1) := by decide +kernel
theorem dX10_outAt_8 : decode cX10_outAt 8 = .ok (.invokevirtual 131, 3) := by decide +kernel
theorem dX10_outAt_11 : decode cX10_outAt 11 = .ok (.invokestatic 134, 3) := by decide +kernel
theorem dX10_outAt_14 : decode cX10_outAt 14 = .ok (.ireturn, 1) := by decide +kernel
set_option maxRecDepth 20000 in
theorem ggX10_potNow_X10_keepsOf : GoodIn wsX10_potNow wsX10_keepsOf := goodIn_r _ [11, 1, 27, 28, 29, 30, 31, 32, 33, 34, 35, 36, 37, 38, 39, 40, 41, 42, 43, 44, 45, 46, 47, 48, 49, 50, 51, 52, 53, 54, 55, 56, 57, 58, 59, 60, 61, 62, 63, 64, 65] (by decide +kernel) (by decide +kernel)
set_option maxRecDepth 20000 in
theorem gX10_potNow_X10_keepsOf : GoodIn wsX10_potNow (wsV RX10 131 RX10 yX10_keepsOf wsX10_keepsOf) := goodIn_app (goodIn_of _ (by decide +kernel)) ggX10_potNow_X10_keepsOf
set_option maxRecDepth 20000 in
theorem ggX10_potNow_X10_boils : GoodIn wsX10_potNow wsX10_boils := goodIn_r _ [15, 3, 27, 28, 29, 30, 31, 32, 33, 34, 35, 36, 37, 38, 39, 40, 41, 42, 43, 44, 45, 46, 47, 48, 49, 50, 51, 52, 53, 54, 55, 56, 57, 58, 59, 60, 61, 62, 63, 64, 65] (by decide +kernel) (by decide +kernel)
set_option maxRecDepth 20000 in
theorem gX10_potNow_X10_boils : GoodIn wsX10_potNow (wsV RX10 138 RX10 yX10_boils wsX10_boils) := goodIn_app (goodIn_of _ (by decide +kernel)) ggX10_potNow_X10_boils
set_option maxRecDepth 20000 in
theorem ggX10_potNow_X10_dueOf : GoodIn wsX10_potNow wsX10_dueOf := goodIn_r _ [19, 3, 2, 27, 28, 29, 30, 31, 32, 33, 34, 35, 36, 37, 38, 39, 40, 41, 42, 43, 44, 45, 46, 47, 48, 49, 50, 51, 52, 53, 54, 55, 56, 57, 58, 59, 60, 61, 62, 63, 64, 65] (by decide +kernel) (by decide +kernel)
set_option maxRecDepth 20000 in
theorem gX10_potNow_X10_dueOf : GoodIn wsX10_potNow (wsV RX10 128 RX10 yX10_dueOf wsX10_dueOf) := goodIn_app (goodIn_of _ (by decide +kernel)) ggX10_potNow_X10_dueOf
set_option maxRecDepth 20000 in
theorem ggX10_potNow_X10_outAt : GoodIn wsX10_potNow wsX10_outAt := goodIn_r _ [23, 16, 17, 18, 10, 19, 3, 2, 7, 8, 9, 11, 1, 24, 25, 26, 27, 28, 29, 30, 31, 32, 33, 34, 35, 36, 37, 38, 39, 40, 41, 42, 43, 44, 45, 46, 47, 48, 49, 50, 51, 52, 53, 54, 55, 56, 57, 58, 59, 60, 61, 62, 63, 64, 65] (by decide +kernel) (by decide +kernel)
set_option maxRecDepth 20000 in
theorem gX10_potNow_X10_outAt : GoodIn wsX10_potNow (wsV RX10 142 RX10 yX10_outAt wsX10_outAt) := goodIn_app (goodIn_of _ (by decide +kernel)) ggX10_potNow_X10_outAt
theorem dX10_potNow_0 : decode cX10_potNow 0 = .ok (.iload_n 2, 1) := by decide +kernel
theorem dX10_potNow_1 : decode cX10_potNow 1 = .ok (.tableswitch 117 0 6 #[43, 50, 57, 63, 70, 88, 110], 43) := by decide +kernel
theorem dX10_potNow_44 : decode cX10_potNow 44 = .ok (.aload_n 0, 1) := by decide +kernel
theorem dX10_potNow_45 : decode cX10_potNow 45 = .ok (.getfield 7, 3) := by decide +kernel
theorem dX10_potNow_48 : decode cX10_potNow 48 = .ok (.iload_n 1, 1) := by decide +kernel
theorem dX10_potNow_49 : decode cX10_potNow 49 = .ok (.iaload, 1) := by decide +kernel
theorem dX10_potNow_50 : decode cX10_potNow 50 = .ok (.ireturn, 1) := by decide +kernel
theorem dX10_potNow_51 : decode cX10_potNow 51 = .ok (.aload_n 0, 1) := by decide +kernel
theorem dX10_potNow_52 : decode cX10_potNow 52 = .ok (.getfield 13, 3) := by decide +kernel
theorem dX10_potNow_55 : decode cX10_potNow 55 = .ok (.iload_n 1, 1) := by decide +kernel
theorem dX10_potNow_56 : decode cX10_potNow 56 = .ok (.iaload, 1) := by decide +kernel
theorem dX10_potNow_57 : decode cX10_potNow 57 = .ok (.ireturn, 1) := by decide +kernel
theorem dX10_potNow_58 : decode cX10_potNow 58 = .ok (.aload_n 0, 1) := by decide +kernel
theorem dX10_potNow_59 : decode cX10_potNow 59 = .ok (.iload_n 1, 1) := by decide +kernel
theorem dX10_potNow_60 : decode cX10_potNow 60 = .ok (.invokevirtual 131, 3) := by decide +kernel
theorem dX10_potNow_63 : decode cX10_potNow 63 = .ok (.ireturn, 1) := by decide +kernel
theorem dX10_potNow_64 : decode cX10_potNow 64 = .ok (.aload_n 0, 1) := by decide +kernel
theorem dX10_potNow_65 : decode cX10_potNow 65 = .ok (.getfield 16, 3) := by decide +kernel
theorem dX10_potNow_68 : decode cX10_potNow 68 = .ok (.iload_n 1, 1) := by decide +kernel
theorem dX10_potNow_69 : decode cX10_potNow 69 = .ok (.iaload, 1) := by decide +kernel
theorem dX10_potNow_70 : decode cX10_potNow 70 = .ok (.ireturn, 1) := by decide +kernel
theorem dX10_potNow_71 : decode cX10_potNow 71 = .ok (.aload_n 0, 1) := by decide +kernel
theorem dX10_potNow_72 : decode cX10_potNow 72 = .ok (.iload_n 1, 1) := by decide +kernel
theorem dX10_potNow_73 : decode cX10_potNow 73 = .ok (.invokevirtual 138, 3) := by decide +kernel
theorem dX10_potNow_76 : decode cX10_potNow 76 = .ok (.ifCond .eq 11, 3) := by decide +kernel
theorem dX10_potNow_79 : decode cX10_potNow 79 = .ok (.aload_n 0, 1) := by decide +kernel
theorem dX10_potNow_80 : decode cX10_potNow 80 = .ok (.iload_n 1, 1) := by decide +kernel
theorem dX10_potNow_81 : decode cX10_potNow 81 = .ok (.invokevirtual 128, 3) := by decide +kernel
theorem dX10_potNow_84 : decode cX10_potNow 84 = .ok (.goto 4, 3) := by decide +kernel
theorem dX10_potNow_87 : decode cX10_potNow 87 = .ok (.iconst (-1), 1) := by decide +kernel
theorem dX10_potNow_88 : decode cX10_potNow 88 = .ok (.ireturn, 1) := by decide +kernel
theorem dX10_potNow_89 : decode cX10_potNow 89 = .ok (.aload_n 0, 1) := by decide +kernel
theorem dX10_potNow_90 : decode cX10_potNow 90 = .ok (.iload_n 1, 1) := by decide +kernel
theorem dX10_potNow_91 : decode cX10_potNow 91 = .ok (.invokevirtual 138, 3) := by decide +kernel
theorem dX10_potNow_94 : decode cX10_potNow 94 = .ok (.ifCond .eq 15, 3) := by decide +kernel
theorem dX10_potNow_97 : decode cX10_potNow 97 = .ok (.aload_n 0, 1) := by decide +kernel
theorem dX10_potNow_98 : decode cX10_potNow 98 = .ok (.iload_n 1, 1) := by decide +kernel
theorem dX10_potNow_99 : decode cX10_potNow 99 = .ok (.aload_n 0, 1) := by decide +kernel
theorem dX10_potNow_100 : decode cX10_potNow 100 = .ok (.getfield 116, 3) := by decide +kernel
theorem dX10_potNow_103 : decode cX10_potNow 103 = .ok (.invokevirtual 142, 3) := by decide +kernel
theorem dX10_potNow_106 : decode cX10_potNow 106 = .ok (.goto 4, 3) := by decide +kernel
theorem dX10_potNow_109 : decode cX10_potNow 109 = .ok (.iconst (-1), 1) := by decide +kernel
theorem dX10_potNow_110 : decode cX10_potNow 110 = .ok (.ireturn, 1) := by decide +kernel
theorem dX10_potNow_111 : decode cX10_potNow 111 = .ok (.aload_n 0, 1) := by decide +kernel
theorem dX10_potNow_112 : decode cX10_potNow 112 = .ok (.getfield 19, 3) := by decide +kernel
theorem dX10_potNow_115 : decode cX10_potNow 115 = .ok (.iload_n 1, 1) := by decide +kernel
theorem dX10_potNow_116 : decode cX10_potNow 116 = .ok (.iaload, 1) := by decide +kernel
theorem dX10_potNow_117 : decode cX10_potNow 117 = .ok (.ireturn, 1) := by decide +kernel
theorem dX10_potNow_118 : decode cX10_potNow 118 = .ok (.aload_n 0, 1) := by decide +kernel
theorem dX10_potNow_119 : decode cX10_potNow 119 = .ok (.getfield 22, 3) := by decide +kernel
theorem dX10_potNow_122 : decode cX10_potNow 122 = .ok (.iload_n 1, 1) := by decide +kernel
theorem dX10_potNow_123 : decode cX10_potNow 123 = .ok (.iaload, 1) := by decide +kernel
theorem dX10_potNow_124 : decode cX10_potNow 124 = .ok (.ireturn, 1) := by decide +kernel
set_option maxRecDepth 20000 in
theorem ggX10_about_X10_isPot : GoodIn wsX10_about wsX10_isPot := goodIn_r _ [5, 6, 7, 8, 4, 9, 39, 40, 41, 42, 43, 44, 45, 46, 47, 48, 49, 50, 51, 52, 53, 54, 55, 56, 57, 58, 59, 60, 61, 62, 63, 64, 65, 66, 67, 68, 69, 70, 71, 72, 73, 74, 75, 76, 77] (by decide +kernel) (by decide +kernel)
set_option maxRecDepth 20000 in
theorem gX10_about_X10_isPot : GoodIn wsX10_about (wsV RX10 145 RX10 yX10_isPot wsX10_isPot) := goodIn_app (goodIn_of _ (by decide +kernel)) ggX10_about_X10_isPot
set_option maxRecDepth 20000 in
theorem ggX10_about_X10_within : GoodIn wsX10_about wsX10_within := goodIn_r _ [9] (by decide +kernel) (by decide +kernel)
set_option maxRecDepth 20000 in
theorem gX10_about_X10_within : GoodIn wsX10_about (va_wsS RX10 68 yX10_within wsX10_within) := goodIn_app (goodIn_of _ (by decide +kernel)) ggX10_about_X10_within
set_option maxRecDepth 20000 in
theorem ggX10_about_X10_potNow : GoodIn wsX10_about wsX10_potNow := goodIn_r _ [13, 14, 15, 16, 17, 18, 19, 20, 21, 22, 4, 23, 24, 25, 26, 27, 28, 29, 30, 31, 32, 33, 34, 35, 36, 37, 38, 39, 40, 41, 42, 43, 44, 45, 46, 47, 48, 49, 50, 51, 52, 53, 54, 55, 56, 57, 58, 59, 60, 61, 62, 63, 64, 65, 66, 67, 68, 69, 70, 71, 72, 73, 74, 75, 76, 77] (by decide +kernel) (by decide +kernel)
set_option maxRecDepth 20000 in
theorem gX10_about_X10_potNow : GoodIn wsX10_about (wsV RX10 148 RX10 yX10_potNow wsX10_potNow) := goodIn_app (goodIn_of _ (by decide +kernel)) ggX10_about_X10_potNow
theorem dX10_about_0 : decode cX10_about 0 = .ok (.aload_n 0, 1) := by decide +kernel
theorem dX10_about_1 : decode cX10_about 1 = .ok (.iload_n 1, 1) := by decide +kernel
theorem dX10_about_2 : decode cX10_about 2 = .ok (.invokevirtual 145, 3) := by decide +kernel
theorem dX10_about_5 : decode cX10_about 5 = .ok (.ifCond .ne 8, 3) := by decide +kernel
theorem dX10_about_8 : decode cX10_about 8 = .ok (.bipush (-101), 2) := by decide +kernel
theorem dX10_about_10 : decode cX10_about 10 = .ok (.goto 24, 3) := by decide +kernel
theorem dX10_about_13 : decode cX10_about 13 = .ok (.iload_n 2, 1) := by decide +kernel
theorem dX10_about_14 : decode cX10_about 14 = .ok (.iconst 0, 1) := by decide +kernel
theorem dX10_about_15 : decode cX10_about 15 = .ok (.bipush 7, 2) := by decide +kernel
theorem dX10_about_17 : decode cX10_about 17 = .ok (.invokestatic 68, 3) := by decide +kernel
theorem dX10_about_20 : decode cX10_about 20 = .ok (.ifCond .eq 12, 3) := by decide +kernel
theorem dX10_about_23 : decode cX10_about 23 = .ok (.aload_n 0, 1) := by decide +kernel
theorem dX10_about_24 : decode cX10_about 24 = .ok (.iload_n 1, 1) := by decide +kernel
theorem dX10_about_25 : decode cX10_about 25 = .ok (.iload_n 2, 1) := by decide +kernel
theorem dX10_about_26 : decode cX10_about 26 = .ok (.invokevirtual 148, 3) := by decide +kernel
theorem dX10_about_29 : decode cX10_about 29 = .ok (.goto 5, 3) := by decide +kernel
theorem dX10_about_32 : decode cX10_about 32 = .ok (.bipush (-102), 2) := by decide +kernel
theorem dX10_about_34 : decode cX10_about 34 = .ok (.ireturn, 1) := by decide +kernel
set_option maxRecDepth 20000 in
theorem ggX10_as_X10_isPot : GoodIn wsX10_as wsX10_isPot := goodIn_r _ [6, 7, 8, 9, 5, 10, 11, 12, 13, 14, 15, 16, 17, 18, 19, 20, 21, 22, 23, 24, 25, 26, 27, 28, 29, 30, 31, 32, 33, 34, 35, 36, 37, 38, 39, 40, 41, 42, 43, 44, 45, 46, 47, 48, 49] (by decide +kernel) (by decide +kernel)
set_option maxRecDepth 20000 in
theorem gX10_as_X10_isPot : GoodIn wsX10_as (wsV RX10 145 RX10 yX10_isPot wsX10_isPot) := goodIn_app (goodIn_of _ (by decide +kernel)) ggX10_as_X10_isPot
set_option maxRecDepth 20000 in
theorem ggX10_as_X10_within : GoodIn wsX10_as wsX10_within := goodIn_r _ [10] (by decide +kernel) (by decide +kernel)
set_option maxRecDepth 20000 in
theorem gX10_as_X10_within : GoodIn wsX10_as (va_wsS RX10 68 yX10_within wsX10_within) := goodIn_app (goodIn_of _ (by decide +kernel)) ggX10_as_X10_within
theorem dX10_as_0 : decode cX10_as 0 = .ok (.aload_n 0, 1) := by decide +kernel
theorem dX10_as_1 : decode cX10_as 1 = .ok (.iload_n 1, 1) := by decide +kernel
theorem dX10_as_2 : decode cX10_as 2 = .ok (.invokevirtual 145, 3) := by decide +kernel
theorem dX10_as_5 : decode cX10_as 5 = .ok (.ifCond .ne 6, 3) := by decide +kernel
theorem dX10_as_8 : decode cX10_as 8 = .ok (.bipush (-101), 2) := by decide +kernel
theorem dX10_as_10 : decode cX10_as 10 = .ok (.ireturn, 1) := by decide +kernel
theorem dX10_as_11 : decode cX10_as 11 = .ok (.iload_n 2, 1) := by decide +kernel
theorem dX10_as_12 : decode cX10_as 12 = .ok (.iconst 0, 1) := by decide +kernel
theorem dX10_as_13 : decode cX10_as 13 = .ok (.iconst 4, 1) := by decide +kernel
theorem dX10_as_14 : decode cX10_as 14 = .ok (.invokestatic 68, 3) := by decide +kernel
theorem dX10_as_17 : decode cX10_as 17 = .ok (.ifCond .ne 6, 3) := by decide +kernel
theorem dX10_as_20 : decode cX10_as 20 = .ok (.bipush (-102), 2) := by decide +kernel
theorem dX10_as_22 : decode cX10_as 22 = .ok (.ireturn, 1) := by decide +kernel
theorem dX10_as_23 : decode cX10_as 23 = .ok (.aload_n 0, 1) := by decide +kernel
theorem dX10_as_24 : decode cX10_as 24 = .ok (.getfield 7, 3) := by decide +kernel
theorem dX10_as_27 : decode cX10_as 27 = .ok (.iload_n 1, 1) := by decide +kernel
theorem dX10_as_28 : decode cX10_as 28 = .ok (.iaload, 1) := by decide +kernel
theorem dX10_as_29 : decode cX10_as 29 = .ok (.istore_n 3, 1) := by decide +kernel
theorem dX10_as_30 : decode cX10_as 30 = .ok (.iload_n 2, 1) := by decide +kernel
theorem dX10_as_31 : decode cX10_as 31 = .ok (.ifCond .eq 18, 3) := by decide +kernel
theorem dX10_as_34 : decode cX10_as 34 = .ok (.iload_n 3, 1) := by decide +kernel
theorem dX10_as_35 : decode cX10_as 35 = .ok (.iload_n 2, 1) := by decide +kernel
theorem dX10_as_36 : decode cX10_as 36 = .ok (.if_icmp .eq 13, 3) := by decide +kernel
theorem dX10_as_39 : decode cX10_as 39 = .ok (.iload_n 2, 1) := by decide +kernel
theorem dX10_as_40 : decode cX10_as 40 = .ok (.iconst 2, 1) := by decide +kernel
theorem dX10_as_41 : decode cX10_as 41 = .ok (.if_icmp .ne 12, 3) := by decide +kernel
theorem dX10_as_44 : decode cX10_as 44 = .ok (.iload_n 3, 1) := by decide +kernel
theorem dX10_as_45 : decode cX10_as 45 = .ok (.iconst 4, 1) := by decide +kernel
theorem dX10_as_46 : decode cX10_as 46 = .ok (.if_icmp .ne 7, 3) := by decide +kernel
theorem dX10_as_49 : decode cX10_as 49 = .ok (.iload_n 1, 1) := by decide +kernel
theorem dX10_as_50 : decode cX10_as 50 = .ok (.goto 4, 3) := by decide +kernel
theorem dX10_as_53 : decode cX10_as 53 = .ok (.iconst (-1), 1) := by decide +kernel
theorem dX10_as_54 : decode cX10_as 54 = .ok (.ireturn, 1) := by decide +kernel
set_option maxRecDepth 20000 in
theorem ggX10_boil_X10_isPot : GoodIn wsX10_boil wsX10_isPot := goodIn_r _ [7, 8, 9, 10, 6, 11, 21, 22, 23, 24, 25, 26, 27, 28, 29, 30, 31, 32, 33, 34, 35, 36, 37, 38, 39, 40, 41, 42, 43, 44, 45, 46, 47, 48, 49, 50, 51, 52, 53, 54, 55, 56, 57, 58, 59] (by decide +kernel) (by decide +kernel)
set_option maxRecDepth 20000 in
theorem gX10_boil_X10_isPot : GoodIn wsX10_boil (wsV RX10 145 RX10 yX10_isPot wsX10_isPot) := goodIn_app (goodIn_of _ (by decide +kernel)) ggX10_boil_X10_isPot
set_option maxRecDepth 20000 in
theorem ggX10_boil_X10_boils : GoodIn wsX10_boil wsX10_boils := goodIn_r _ [15, 1, 21, 22, 23, 24, 25, 26, 27, 28, 29, 30, 31, 32, 33, 34, 35, 36, 37, 38, 39, 40, 41, 42, 43, 44, 45, 46, 47, 48, 49, 50, 51, 52, 53, 54, 55, 56, 57, 58, 59] (by decide +kernel) (by decide +kernel)
set_option maxRecDepth 20000 in
theorem gX10_boil_X10_boils : GoodIn wsX10_boil (wsV RX10 138 RX10 yX10_boils wsX10_boils) := goodIn_app (goodIn_of _ (by decide +kernel)) ggX10_boil_X10_boils
set_option maxRecDepth 20000 in
theorem ggX10_boil_X10_dueOf : GoodIn wsX10_boil wsX10_dueOf := goodIn_r _ [19, 1, 20, 21, 22, 23, 24, 25, 26, 27, 28, 29, 30, 31, 32, 33, 34, 35, 36, 37, 38, 39, 40, 41, 42, 43, 44, 45, 46, 47, 48, 49, 50, 51, 52, 53, 54, 55, 56, 57, 58, 59] (by decide +kernel) (by decide +kernel)
