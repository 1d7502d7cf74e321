theorem dX9_pass_10 : decode cX9_pass 10 = .ok (.iload_n 2, 1) := by decide +kernel
theorem dX9_pass_11 : decode cX9_pass 11 = .ok (.iconst 1, 1) := by decide +kernel
theorem dX9_pass_12 : decode cX9_pass 12 = .ok (.if_icmp .lt 27, 3) := by decide +kernel
theorem dX9_pass_15 : decode cX9_pass 15 = .ok (.iload_n 2, 1) := by decide +kernel
theorem dX9_pass_16 : decode cX9_pass 16 = .ok (.sipush 999, 3) := by decide +kernel
theorem dX9_pass_19 : decode cX9_pass 19 = .ok (.if_icmp .gt 20, 3) := by decide +kernel
theorem dX9_pass_22 : decode cX9_pass 22 = .ok (.iload_n 3, 1) := by decide +kernel
theorem dX9_pass_23 : decode cX9_pass 23 = .ok (.iconst 1, 1) := by decide +kernel
theorem dX9_pass_24 : decode cX9_pass 24 = .ok (.if_icmp .lt 15, 3) := by decide +kernel
theorem dX9_pass_27 : decode cX9_pass 27 = .ok (.iload_n 3, 1) := by decide +kernel
theorem dX9_pass_28 : decode cX9_pass 28 = .ok (.sipush 999, 3) := by decide +kernel
theorem dX9_pass_31 : decode cX9_pass 31 = .ok (.if_icmp .gt 8, 3) := by decide +kernel
theorem dX9_pass_34 : decode cX9_pass 34 = .ok (.iload_n 2, 1) := by decide +kernel
theorem dX9_pass_35 : decode cX9_pass 35 = .ok (.iload_n 3, 1) := by decide +kernel
theorem dX9_pass_36 : decode cX9_pass 36 = .ok (.if_icmp .ne 6, 3) := by decide +kernel
theorem dX9_pass_39 : decode cX9_pass 39 = .ok (.bipush (-2), 2) := by decide +kernel
theorem dX9_pass_41 : decode cX9_pass 41 = .ok (.ireturn, 1) := by decide +kernel
theorem dX9_pass_42 : decode cX9_pass 42 = .ok (.iload 4, 2) := by decide +kernel
theorem dX9_pass_44 : decode cX9_pass 44 = .ok (.iconst 1, 1) := by decide +kernel
theorem dX9_pass_45 : decode cX9_pass 45 = .ok (.if_icmp .lt 11, 3) := by decide +kernel
theorem dX9_pass_48 : decode cX9_pass 48 = .ok (.iload 4, 2) := by decide +kernel
theorem dX9_pass_50 : decode cX9_pass 50 = .ok (.sipush 3600, 3) := by decide +kernel
theorem dX9_pass_53 : decode cX9_pass 53 = .ok (.if_icmp .le 6, 3) := by decide +kernel
theorem dX9_pass_56 : decode cX9_pass 56 = .ok (.bipush (-3), 2) := by decide +kernel
theorem dX9_pass_58 : decode cX9_pass 58 = .ok (.ireturn, 1) := by decide +kernel
theorem dX9_pass_59 : decode cX9_pass 59 = .ok (.aload_n 0, 1) := by decide +kernel
theorem dX9_pass_60 : decode cX9_pass 60 = .ok (.getfield 54, 3) := by decide +kernel
theorem dX9_pass_63 : decode cX9_pass 63 = .ok (.iload_n 1, 1) := by decide +kernel
theorem dX9_pass_64 : decode cX9_pass 64 = .ok (.iconst 1, 1) := by decide +kernel
theorem dX9_pass_65 : decode cX9_pass 65 = .ok (.isub, 1) := by decide +kernel
theorem dX9_pass_66 : decode cX9_pass 66 = .ok (.iaload, 1) := by decide +kernel
theorem dX9_pass_67 : decode cX9_pass 67 = .ok (.ifCond .le 6, 3) := by decide +kernel
theorem dX9_pass_70 : decode cX9_pass 70 = .ok (.bipush (-4), 2) := by decide +kernel
theorem dX9_pass_72 : decode cX9_pass 72 = .ok (.ireturn, 1) := by decide +kernel
theorem dX9_pass_73 : decode cX9_pass 73 = .ok (.aload_n 0, 1) := by decide +kernel
theorem dX9_pass_74 : decode cX9_pass 74 = .ok (.getfield 54, 3) := by decide +kernel
theorem dX9_pass_77 : decode cX9_pass 77 = .ok (.iload_n 1, 1) := by decide +kernel
theorem dX9_pass_78 : decode cX9_pass 78 = .ok (.iconst 1, 1) := by decide +kernel
theorem dX9_pass_79 : decode cX9_pass 79 = .ok (.isub, 1) := by decide +kernel
theorem dX9_pass_80 : decode cX9_pass 80 = .ok (.iload 4, 2) := by decide +kernel
theorem dX9_pass_82 : decode cX9_pass 82 = .ok (.iastore, 1) := by decide +kernel
theorem dX9_pass_83 : decode cX9_pass 83 = .ok (.iconst 0, 1) := by decide +kernel
theorem dX9_pass_84 : decode cX9_pass 84 = .ok (.ireturn, 1) := by decide +kernel
theorem dX9_listed_0 : decode cX9_listed 0 = .ok (.iload_n 1, 1) := by decide +kernel
theorem dX9_listed_1 : decode cX9_listed 1 = .ok (.istore_n 2, 1) := by decide +kernel
theorem dX9_listed_2 : decode cX9_listed 2 = .ok (.iconst 0, 1) := by decide +kernel
theorem dX9_listed_3 : decode cX9_listed 3 = .ok (.istore_n 3, 1) := by decide +kernel
theorem dX9_listed_4 : decode cX9_listed 4 = .ok (.iload_n 3, 1) := by decide +kernel
theorem dX9_listed_5 : decode cX9_listed 5 = .ok (.aload_n 0, 1) := by decide +kernel
theorem dX9_listed_6 : decode cX9_listed 6 = .ok (.getfield 149, 3) := by decide +kernel
theorem dX9_listed_9 : decode cX9_listed 9 = .ok (.if_icmp .ge 33, 3) := by decide +kernel
theorem dX9_listed_12 : decode cX9_listed 12 = .ok (.iload_n 2, 1) := by decide +kernel
theorem dX9_listed_13 : decode cX9_listed 13 = .ok (.ifCond .lt 29, 3) := by decide +kernel
theorem dX9_listed_16 : decode cX9_listed 16 = .ok (.aload_n 0, 1) := by decide +kernel
theorem dX9_listed_17 : decode cX9_listed 17 = .ok (.getfield 54, 3) := by decide +kernel
theorem dX9_listed_20 : decode cX9_listed 20 = .ok (.iload_n 3, 1) := by decide +kernel
theorem dX9_listed_21 : decode cX9_listed 21 = .ok (.iaload, 1) := by decide +kernel
theorem dX9_listed_22 : decode cX9_listed 22 = .ok (.ifCond .le 14, 3) := by decide +kernel
theorem dX9_listed_25 : decode cX9_listed 25 = .ok (.iload_n 2, 1) := by decide +kernel
theorem dX9_listed_26 : decode cX9_listed 26 = .ok (.ifCond .ne 7, 3) := by decide +kernel
theorem dX9_listed_29 : decode cX9_listed 29 = .ok (.iload_n 3, 1) := by decide +kernel
theorem dX9_listed_30 : decode cX9_listed 30 = .ok (.iconst 1, 1) := by decide +kernel
theorem dX9_listed_31 : decode cX9_listed 31 = .ok (.iadd, 1) := by decide +kernel
theorem dX9_listed_32 : decode cX9_listed 32 = .ok (.ireturn, 1) := by decide +kernel
theorem dX9_listed_33 : decode cX9_listed 33 = .ok (.iinc 2 (-1), 3) := by decide +kernel
theorem dX9_listed_36 : decode cX9_listed 36 = .ok (.iinc 3 1, 3) := by decide +kernel
theorem dX9_listed_39 : decode cX9_listed 39 = .ok (.goto (-35), 3) := by decide +kernel
theorem dX9_listed_42 : decode cX9_listed 42 = .ok (.iconst (-1), 1) := by decide +kernel
theorem dX9_listed_43 : decode cX9_listed 43 = .ok (.ireturn, 1) := by decide +kernel
set_option maxRecDepth 20000 in
theorem ggX9_reset_X9_isRow : GoodIn wsX9_reset wsX9_isRow := goodIn_q _ [(6, 2), (22, 32)] (by decide +kernel) (by decide +kernel)
set_option maxRecDepth 20000 in
theorem gX9_reset_X9_isRow : GoodIn wsX9_reset (wsV RX9 171 RX9 yX9_isRow wsX9_isRow) := goodIn_app (goodIn_of _ (by decide +kernel)) ggX9_reset_X9_isRow
set_option maxRecDepth 20000 in
theorem ggX9_reset_X9_isOn : GoodIn wsX9_reset wsX9_isOn := goodIn_q _ [(11, 6), (5, 1), (17, 37)] (by decide +kernel) (by decide +kernel)
set_option maxRecDepth 20000 in
theorem gX9_reset_X9_isOn : GoodIn wsX9_reset (wsV RX9 163 RX9 yX9_isOn wsX9_isOn) := goodIn_app (goodIn_of _ (by decide +kernel)) ggX9_reset_X9_isOn
theorem dX9_reset_0 : decode cX9_reset 0 = .ok (.aload_n 0, 1) := by decide +kernel
theorem dX9_reset_1 : decode cX9_reset 1 = .ok (.iload_n 1, 1) := by decide +kernel
theorem dX9_reset_2 : decode cX9_reset 2 = .ok (.invokevirtual 171, 3) := by decide +kernel
theorem dX9_reset_5 : decode cX9_reset 5 = .ok (.ifCond .eq 24, 3) := by decide +kernel
theorem dX9_reset_8 : decode cX9_reset 8 = .ok (.aload_n 0, 1) := by decide +kernel
theorem dX9_reset_9 : decode cX9_reset 9 = .ok (.getfield 51, 3) := by decide +kernel
theorem dX9_reset_12 : decode cX9_reset 12 = .ok (.iload_n 1, 1) := by decide +kernel
theorem dX9_reset_13 : decode cX9_reset 13 = .ok (.iconst 1, 1) := by decide +kernel
theorem dX9_reset_14 : decode cX9_reset 14 = .ok (.isub, 1) := by decide +kernel
theorem dX9_reset_15 : decode cX9_reset 15 = .ok (.baload, 1) := by decide +kernel
theorem dX9_reset_16 : decode cX9_reset 16 = .ok (.ifCond .eq 13, 3) := by decide +kernel
theorem dX9_reset_19 : decode cX9_reset 19 = .ok (.aload_n 0, 1) := by decide +kernel
theorem dX9_reset_20 : decode cX9_reset 20 = .ok (.iload_n 1, 1) := by decide +kernel
theorem dX9_reset_21 : decode cX9_reset 21 = .ok (.iconst 1, 1) := by decide +kernel
theorem dX9_reset_22 : decode cX9_reset 22 = .ok (.isub, 1) := by decide +kernel
theorem dX9_reset_23 : decode cX9_reset 23 = .ok (.invokevirtual 163, 3) := by decide +kernel
theorem dX9_reset_26 : decode cX9_reset 26 = .ok (.ifCond .eq 5, 3) := by decide +kernel
theorem dX9_reset_29 : decode cX9_reset 29 = .ok (.iconst 0, 1) := by decide +kernel
theorem dX9_reset_30 : decode cX9_reset 30 = .ok (.ireturn, 1) := by decide +kernel
theorem dX9_reset_31 : decode cX9_reset 31 = .ok (.aload_n 0, 1) := by decide +kernel
theorem dX9_reset_32 : decode cX9_reset 32 = .ok (.getfield 51, 3) := by decide +kernel
theorem dX9_reset_35 : decode cX9_reset 35 = .ok (.iload_n 1, 1) := by decide +kernel
theorem dX9_reset_36 : decode cX9_reset 36 = .ok (.iconst 1, 1) := by decide +kernel
theorem dX9_reset_37 : decode cX9_reset 37 = .ok (.isub, 1) := by decide +kernel
theorem dX9_reset_38 : decode cX9_reset 38 = .ok (.iconst 0, 1) := by decide +kernel
theorem dX9_reset_39 : decode cX9_reset 39 = .ok (.bastore, 1) := by decide +kernel
theorem dX9_reset_40 : decode cX9_reset 40 = .ok (.iconst 1, 1) := by decide +kernel
theorem dX9_reset_41 : decode cX9_reset 41 = .ok (.ireturn, 1) := by decide +kernel
theorem dX9_bits_0 : decode cX9_bits 0 = .ok (.iload_n 0, 1) := by decide +kernel
theorem dX9_bits_1 : decode cX9_bits 1 = .ok (.tableswitch 63 0 5 #[39, 43, 47, 51, 55, 59], 39) := by decide +kernel
theorem dX9_bits_40 : decode cX9_bits 40 = .ok (.ldc2_w 174, 3) := by decide +kernel
theorem dX9_bits_43 : decode cX9_bits 43 = .ok (.lreturn, 1) := by decide +kernel
theorem dX9_bits_44 : decode cX9_bits 44 = .ok (.ldc2_w 176, 3) := by decide +kernel
theorem dX9_bits_47 : decode cX9_bits 47 = .ok (.lreturn, 1) := by decide +kernel
theorem dX9_bits_48 : decode cX9_bits 48 = .ok (.ldc2_w 178, 3) := by decide +kernel
theorem dX9_bits_51 : decode cX9_bits 51 = .ok (.lreturn, 1) := by decide +kernel
theorem dX9_bits_52 : decode cX9_bits 52 = .ok (.ldc2_w 180, 3) := by decide +kernel
theorem dX9_bits_55 : decode cX9_bits 55 = .ok (.lreturn, 1) := by decide +kernel
theorem dX9_bits_56 : decode cX9_bits 56 = .ok (.ldc2_w 182, 3) := by decide +kernel
theorem dX9_bits_59 : decode cX9_bits 59 = .ok (.lreturn, 1) := by decide +kernel
theorem dX9_bits_60 : decode cX9_bits 60 = .ok (.ldc2_w 184, 3) := by decide +kernel
theorem dX9_bits_63 : decode cX9_bits 63 = .ok (.lreturn, 1) := by decide +kernel
theorem dX9_bits_64 : decode cX9_bits 64 = .ok (.iload_n 1, 1) := by decide +kernel
theorem dX9_bits_65 : decode cX9_bits 65 = .ok (.iload_n 0, 1) := by decide +kernel
theorem dX9_bits_66 : decode cX9_bits 66 = .ok (.bipush 6, 2) := by decide +kernel
theorem dX9_bits_68 : decode cX9_bits 68 = .ok (.isub, 1) := by decide +kernel
theorem dX9_bits_69 : decode cX9_bits 69 = .ok (.ishr, 1) := by decide +kernel
theorem dX9_bits_70 : decode cX9_bits 70 = .ok (.iconst 1, 1) := by decide +kernel
theorem dX9_bits_71 : decode cX9_bits 71 = .ok (.iand, 1) := by decide +kernel
theorem dX9_bits_72 : decode cX9_bits 72 = .ok (.iconst 1, 1) := by decide +kernel
theorem dX9_bits_73 : decode cX9_bits 73 = .ok (.if_icmp .ne 9, 3) := by decide +kernel
theorem dX9_bits_76 : decode cX9_bits 76 = .ok (.ldc2_w 186, 3) := by decide +kernel
theorem dX9_bits_79 : decode cX9_bits 79 = .ok (.goto 4, 3) := by decide +kernel
theorem dX9_bits_82 : decode cX9_bits 82 = .ok (.lconst 0, 1) := by decide +kernel
theorem dX9_bits_83 : decode cX9_bits 83 = .ok (.lreturn, 1) := by decide +kernel
set_option maxRecDepth 20000 in
theorem ggX9_table_X9_table : GoodIn wsX9_table wsX9_table := goodIn_q _ [(0, 51)] (by decide +kernel) (by decide +kernel)
set_option maxRecDepth 20000 in
theorem gX9_table_X9_table : GoodIn wsX9_table (wsV RX9 188 RX9 yX9_table wsX9_table) := goodIn_app (goodIn_of _ (by decide +kernel)) ggX9_table_X9_table
set_option maxRecDepth 20000 in
theorem ggX9_table_X9_bits : GoodIn wsX9_table wsX9_bits := goodIn_q _ [(12, 7), (4, 1)] (by decide +kernel) (by decide +kernel)
set_option maxRecDepth 20000 in
theorem gX9_table_X9_bits : GoodIn wsX9_table (va_wsS RX9 192 yX9_bits wsX9_bits) := goodIn_app (goodIn_of _ (by decide +kernel)) ggX9_table_X9_bits
theorem dX9_table_0 : decode cX9_table 0 = .ok (.aload_n 0, 1) := by decide +kernel
theorem dX9_table_1 : decode cX9_table 1 = .ok (.getfield 20, 3) := by decide +kernel
theorem dX9_table_4 : decode cX9_table 4 = .ok (.iload_n 1, 1) := by decide +kernel
theorem dX9_table_5 : decode cX9_table 5 = .ok (.iaload, 1) := by decide +kernel
theorem dX9_table_6 : decode cX9_table 6 = .ok (.istore_n 3, 1) := by decide +kernel
theorem dX9_table_7 : decode cX9_table 7 = .ok (.iload_n 3, 1) := by decide +kernel
theorem dX9_table_8 : decode cX9_table 8 = .ok (.bipush 16, 2) := by decide +kernel
theorem dX9_table_10 : decode cX9_table 10 = .ok (.if_icmp .ne 64, 3) := by decide +kernel
theorem dX9_table_13 : decode cX9_table 13 = .ok (.aload_n 0, 1) := by decide +kernel
theorem dX9_table_14 : decode cX9_table 14 = .ok (.aload_n 0, 1) := by decide +kernel
theorem dX9_table_15 : decode cX9_table 15 = .ok (.getfield 23, 3) := by decide +kernel
theorem dX9_table_18 : decode cX9_table 18 = .ok (.iload_n 1, 1) := by decide +kernel
theorem dX9_table_19 : decode cX9_table 19 = .ok (.iaload, 1) := by decide +kernel
theorem dX9_table_20 : decode cX9_table 20 = .ok (.iload_n 2, 1) := by decide +kernel
theorem dX9_table_21 : decode cX9_table 21 = .ok (.invokevirtual 188, 3) := by decide +kernel
theorem dX9_table_24 : decode cX9_table 24 = .ok (.iconst 0, 1) := by decide +kernel
theorem dX9_table_25 : decode cX9_table 25 = .ok (.istore 4, 2) := by decide +kernel
theorem dX9_table_27 : decode cX9_table 27 = .ok (.iload 4, 2) := by decide +kernel
theorem dX9_table_29 : decode cX9_table 29 = .ok (.sipush 1024, 3) := by decide +kernel
theorem dX9_table_32 : decode cX9_table 32 = .ok (.if_icmp .ge 39, 3) := by decide +kernel
theorem dX9_table_35 : decode cX9_table 35 = .ok (.aload_n 0, 1) := by decide +kernel
theorem dX9_table_36 : decode cX9_table 36 = .ok (.getfield 63, 3) := by decide +kernel
theorem dX9_table_39 : decode cX9_table 39 = .ok (.sipush 1024, 3) := by decide +kernel
theorem dX9_table_42 : decode cX9_table 42 = .ok (.iload_n 2, 1) := by decide +kernel
theorem dX9_table_43 : decode cX9_table 43 = .ok (.imul, 1) := by decide +kernel
theorem dX9_table_44 : decode cX9_table 44 = .ok (.iload 4, 2) := by decide +kernel
theorem dX9_table_46 : decode cX9_table 46 = .ok (.iadd, 1) := by decide +kernel
theorem dX9_table_47 : decode cX9_table 47 = .ok (.aload_n 0, 1) := by decide +kernel
theorem dX9_table_48 : decode cX9_table 48 = .ok (.getfield 63, 3) := by decide +kernel
theorem dX9_table_51 : decode cX9_table 51 = .ok (.sipush 1024, 3) := by decide +kernel
theorem dX9_table_54 : decode cX9_table 54 = .ok (.iload_n 2, 1) := by decide +kernel
theorem dX9_table_55 : decode cX9_table 55 = .ok (.imul, 1) := by decide +kernel
theorem dX9_table_56 : decode cX9_table 56 = .ok (.iload 4, 2) := by decide +kernel
theorem dX9_table_58 : decode cX9_table 58 = .ok (.iadd, 1) := by decide +kernel
theorem dX9_table_59 : decode cX9_table 59 = .ok (.laload, 1) := by decide +kernel
theorem dX9_table_60 : decode cX9_table 60 = .ok (.ldc2_w 186, 3) := by decide +kernel
theorem dX9_table_63 : decode cX9_table 63 = .ok (.lxor, 1) := by decide +kernel
theorem dX9_table_64 : decode cX9_table 64 = .ok (.lastore, 1) := by decide +kernel
theorem dX9_table_65 : decode cX9_table 65 = .ok (.iinc 4 1, 3) := by decide +kernel
theorem dX9_table_68 : decode cX9_table 68 = .ok (.goto (-41), 3) := by decide +kernel
theorem dX9_table_71 : decode cX9_table 71 = .ok (.goto 153, 3) := by decide +kernel
theorem dX9_table_74 : decode cX9_table 74 = .ok (.iload_n 3, 1) := by decide +kernel
theorem dX9_table_75 : decode cX9_table 75 = .ok (.bipush 16, 2) := by decide +kernel
theorem dX9_table_77 : decode cX9_table 77 = .ok (.if_icmp .ge 42, 3) := by decide +kernel
theorem dX9_table_80 : decode cX9_table 80 = .ok (.iconst 0, 1) := by decide +kernel
theorem dX9_table_81 : decode cX9_table 81 = .ok (.istore 4, 2) := by decide +kernel
theorem dX9_table_83 : decode cX9_table 83 = .ok (.iload 4, 2) := by decide +kernel
theorem dX9_table_85 : decode cX9_table 85 = .ok (.sipush 1024, 3) := by decide +kernel
theorem dX9_table_88 : decode cX9_table 88 = .ok (.if_icmp .ge 28, 3) := by decide +kernel
theorem dX9_table_91 : decode cX9_table 91 = .ok (.aload_n 0, 1) := by decide +kernel
theorem dX9_table_92 : decode cX9_table 92 = .ok (.getfield 63, 3) := by decide +kernel
theorem dX9_table_95 : decode cX9_table 95 = .ok (.sipush 1024, 3) := by decide +kernel
theorem dX9_table_98 : decode cX9_table 98 = .ok (.iload_n 2, 1) := by decide +kernel
theorem dX9_table_99 : decode cX9_table 99 = .ok (.imul, 1) := by decide +kernel
theorem dX9_table_100 : decode cX9_table 100 = .ok (.iload 4, 2) := by decide +kernel
theorem dX9_table_102 : decode cX9_table 102 = .ok (.iadd, 1) := by decide +kernel
theorem dX9_table_103 : decode cX9_table 103 = .ok (.iload_n 3, 1) := by decide +kernel
theorem dX9_table_104 : decode cX9_table 104 = .ok (.iload 4, 2) := by decide +kernel
theorem dX9_table_106 : decode cX9_table 106 = .ok (.invokestatic 192, 3) := by decide +kernel
theorem dX9_table_109 : decode cX9_table 109 = .ok (.lastore, 1) := by decide +kernel
theorem dX9_table_110 : decode cX9_table 110 = .ok (.iinc 4 1, 3) := by decide +kernel
theorem dX9_table_113 : decode cX9_table 113 = .ok (.goto (-30), 3) := by decide +kernel
theorem dX9_table_116 : decode cX9_table 116 = .ok (.goto 108, 3) := by decide +kernel
theorem dX9_table_119 : decode cX9_table 119 = .ok (.aload_n 0, 1) := by decide +kernel
theorem dX9_table_120 : decode cX9_table 120 = .ok (.aload_n 0, 1) := by decide +kernel
theorem dX9_table_121 : decode cX9_table 121 = .ok (.getfield 23, 3) := by decide +kernel
theorem dX9_table_124 : decode cX9_table 124 = .ok (.iload_n 1, 1) := by decide +kernel
theorem dX9_table_125 : decode cX9_table 125 = .ok (.iaload, 1) := by decide +kernel
theorem dX9_table_126 : decode cX9_table 126 = .ok (.iload_n 2, 1) := by decide +kernel
theorem dX9_table_127 : decode cX9_table 127 = .ok (.invokevirtual 188, 3) := by decide +kernel
theorem dX9_table_130 : decode cX9_table 130 = .ok (.aload_n 0, 1) := by decide +kernel
theorem dX9_table_131 : decode cX9_table 131 = .ok (.aload_n 0, 1) := by decide +kernel
theorem dX9_table_132 : decode cX9_table 132 = .ok (.getfield 26, 3) := by decide +kernel
theorem dX9_table_135 : decode cX9_table 135 = .ok (.iload_n 1, 1) := by decide +kernel
theorem dX9_table_136 : decode cX9_table 136 = .ok (.iaload, 1) := by decide +kernel
theorem dX9_table_137 : decode cX9_table 137 = .ok (.iload_n 2, 1) := by decide +kernel
theorem dX9_table_138 : decode cX9_table 138 = .ok (.iconst 1, 1) := by decide +kernel
theorem dX9_table_139 : decode cX9_table 139 = .ok (.iadd, 1) := by decide +kernel
theorem dX9_table_140 : decode cX9_table 140 = .ok (.invokevirtual 188, 3) := by decide +kernel
theorem dX9_table_143 : decode cX9_table 143 = .ok (.iconst 0, 1) := by decide +kernel
theorem dX9_table_144 : decode cX9_table 144 = .ok (.istore 4, 2) := by decide +kernel
theorem dX9_table_146 : decode cX9_table 146 = .ok (.iload 4, 2) := by decide +kernel
theorem dX9_table_148 : decode cX9_table 148 = .ok (.sipush 1024, 3) := by decide +kernel
theorem dX9_table_151 : decode cX9_table 151 = .ok (.if_icmp .ge 73, 3) := by decide +kernel
theorem dX9_table_154 : decode cX9_table 154 = .ok (.aload_n 0, 1) := by decide +kernel
theorem dX9_table_155 : decode cX9_table 155 = .ok (.getfield 63, 3) := by decide +kernel
theorem dX9_table_158 : decode cX9_table 158 = .ok (.sipush 1024, 3) := by decide +kernel
theorem dX9_table_161 : decode cX9_table 161 = .ok (.iload_n 2, 1) := by decide +kernel
theorem dX9_table_162 : decode cX9_table 162 = .ok (.imul, 1) := by decide +kernel
theorem dX9_table_163 : decode cX9_table 163 = .ok (.iload 4, 2) := by decide +kernel
theorem dX9_table_165 : decode cX9_table 165 = .ok (.iadd, 1) := by decide +kernel
theorem dX9_table_166 : decode cX9_table 166 = .ok (.laload, 1) := by decide +kernel
theorem dX9_table_167 : decode cX9_table 167 = .ok (.lstore 5, 2) := by decide +kernel
theorem dX9_table_169 : decode cX9_table 169 = .ok (.aload_n 0, 1) := by decide +kernel
theorem dX9_table_170 : decode cX9_table 170 = .ok (.getfield 63, 3) := by decide +kernel
theorem dX9_table_173 : decode cX9_table 173 = .ok (.sipush 1024, 3) := by decide +kernel
theorem dX9_table_176 : decode cX9_table 176 = .ok (.iload_n 2, 1) := by decide +kernel
theorem dX9_table_177 : decode cX9_table 177 = .ok (.iconst 1, 1) := by decide +kernel
theorem dX9_table_178 : decode cX9_table 178 = .ok (.iadd, 1) := by decide +kernel
theorem dX9_table_179 : decode cX9_table 179 = .ok (.imul, 1) := by decide +kernel
theorem dX9_table_180 : decode cX9_table 180 = .ok (.iload 4, 2) := by decide +kernel
theorem dX9_table_182 : decode cX9_table 182 = .ok (.iadd, 1) := by decide +kernel
theorem dX9_table_183 : decode cX9_table 183 = .ok (.laload, 1) := by decide +kernel
theorem dX9_table_184 : decode cX9_table 184 = .ok (.lstore 7, 2) := by decide +kernel
theorem dX9_table_186 : decode cX9_table 186 = .ok (.aload_n 0, 1) := by decide +kernel
theorem dX9_table_187 : decode cX9_table 187 = .ok (.getfield 63, 3) := by decide +kernel
theorem dX9_table_190 : decode cX9_table 190 = .ok (.sipush 1024, 3) := by decide +kernel
theorem dX9_table_193 : decode cX9_table 193 = .ok (.iload_n 2, 1) := by decide +kernel
theorem dX9_table_194 : decode cX9_table 194 = .ok (.imul, 1) := by decide +kernel
theorem dX9_table_195 : decode cX9_table 195 = .ok (.iload 4, 2) := by decide +kernel
theorem dX9_table_197 : decode cX9_table 197 = .ok (.iadd, 1) := by decide +kernel
theorem dX9_table_198 : decode cX9_table 198 = .ok (.iload_n 3, 1) := by decide +kernel
theorem dX9_table_199 : decode cX9_table 199 = .ok (.bipush 17, 2) := by decide +kernel
theorem dX9_table_201 : decode cX9_table 201 = .ok (.if_icmp .ne 11, 3) := by decide +kernel
theorem dX9_table_204 : decode cX9_table 204 = .ok (.lload 5, 2) := by decide +kernel
theorem dX9_table_206 : decode cX9_table 206 = .ok (.lload 7, 2) := by decide +kernel
theorem dX9_table_208 : decode cX9_table 208 = .ok (.land, 1) := by decide +kernel
theorem dX9_table_209 : decode cX9_table 209 = .ok (.goto 8, 3) := by decide +kernel
theorem dX9_table_212 : decode cX9_table 212 = .ok (.lload 5, 2) := by decide +kernel
theorem dX9_table_214 : decode cX9_table 214 = .ok (.lload 7, 2) := by decide +kernel
theorem dX9_table_216 : decode cX9_table 216 = .ok (.lor, 1) := by decide +kernel
theorem dX9_table_217 : decode cX9_table 217 = .ok (.lastore, 1) := by decide +kernel
theorem dX9_table_218 : decode cX9_table 218 = .ok (.iinc 4 1, 3) := by decide +kernel
theorem dX9_table_221 : decode cX9_table 221 = .ok (.goto (-75), 3) := by decide +kernel
theorem dX9_table_224 : decode cX9_table 224 = .ok (.return_, 1) := by decide +kernel
set_option maxRecDepth 20000 in
theorem ggX9_testAll_X9_table : GoodIn wsX9_testAll wsX9_table := goodIn_q _ [(20, 3), (4, 1), (13, 1), (23, 1), (16, 4), (24, 9), (37, 32)] (by decide +kernel) (by decide +kernel)
set_option maxRecDepth 20000 in
theorem gX9_testAll_X9_table : GoodIn wsX9_testAll (wsV RX9 188 RX9 yX9_table wsX9_table) := goodIn_app (goodIn_of _ (by decide +kernel)) ggX9_testAll_X9_table
set_option maxRecDepth 20000 in
theorem ggX9_testAll_X9_hasAct : GoodIn wsX9_testAll wsX9_hasAct := goodIn_q _ [(36, 1), (3, 1), (10, 2), (37, 32)] (by decide +kernel) (by decide +kernel)
set_option maxRecDepth 20000 in
theorem gX9_testAll_X9_hasAct : GoodIn wsX9_testAll (wsV RX9 167 RX9 yX9_hasAct wsX9_hasAct) := goodIn_app (goodIn_of _ (by decide +kernel)) ggX9_testAll_X9_hasAct
theorem dX9_testAll_0 : decode cX9_testAll 0 = .ok (.iconst 0, 1) := by decide +kernel
theorem dX9_testAll_1 : decode cX9_testAll 1 = .ok (.istore_n 1, 1) := by decide +kernel
theorem dX9_testAll_2 : decode cX9_testAll 2 = .ok (.iload_n 1, 1) := by decide +kernel
theorem dX9_testAll_3 : decode cX9_testAll 3 = .ok (.aload_n 0, 1) := by decide +kernel
theorem dX9_testAll_4 : decode cX9_testAll 4 = .ok (.getfield 149, 3) := by decide +kernel
theorem dX9_testAll_7 : decode cX9_testAll 7 = .ok (.if_icmp .ge 265, 3) := by decide +kernel
theorem dX9_testAll_10 : decode cX9_testAll 10 = .ok (.aload_n 0, 1) := by decide +kernel
theorem dX9_testAll_11 : decode cX9_testAll 11 = .ok (.aload_n 0, 1) := by decide +kernel
theorem dX9_testAll_12 : decode cX9_testAll 12 = .ok (.getfield 29, 3) := by decide +kernel
theorem dX9_testAll_15 : decode cX9_testAll 15 = .ok (.bipush 40, 2) := by decide +kernel
theorem dX9_testAll_17 : decode cX9_testAll 17 = .ok (.aload_n 0, 1) := by decide +kernel
theorem dX9_testAll_18 : decode cX9_testAll 18 = .ok (.getfield 101, 3) := by decide +kernel
theorem dX9_testAll_21 : decode cX9_testAll 21 = .ok (.imul, 1) := by decide +kernel
theorem dX9_testAll_22 : decode cX9_testAll 22 = .ok (.iload_n 1, 1) := by decide +kernel
theorem dX9_testAll_23 : decode cX9_testAll 23 = .ok (.iadd, 1) := by decide +kernel
theorem dX9_testAll_24 : decode cX9_testAll 24 = .ok (.iaload, 1) := by decide +kernel
theorem dX9_testAll_25 : decode cX9_testAll 25 = .ok (.iconst 0, 1) := by decide +kernel
theorem dX9_testAll_26 : decode cX9_testAll 26 = .ok (.invokevirtual 188, 3) := by decide +kernel
theorem dX9_testAll_29 : decode cX9_testAll 29 = .ok (.aload_n 0, 1) := by decide +kernel
theorem dX9_testAll_30 : decode cX9_testAll 30 = .ok (.getfield 63, 3) := by decide +kernel
theorem dX9_testAll_33 : decode cX9_testAll 33 = .ok (.iconst 0, 1) := by decide +kernel
theorem dX9_testAll_34 : decode cX9_testAll 34 = .ok (.aload_n 0, 1) := by decide +kernel
theorem dX9_testAll_35 : decode cX9_testAll 35 = .ok (.getfield 58, 3) := by decide +kernel
theorem dX9_testAll_38 : decode cX9_testAll 38 = .ok (.sipush 1024, 3) := by decide +kernel
theorem dX9_testAll_41 : decode cX9_testAll 41 = .ok (.iload_n 1, 1) := by decide +kernel
theorem dX9_testAll_42 : decode cX9_testAll 42 = .ok (.imul, 1) := by decide +kernel
theorem dX9_testAll_43 : decode cX9_testAll 43 = .ok (.sipush 1024, 3) := by decide +kernel
theorem dX9_testAll_46 : decode cX9_testAll 46 = .ok (.invokestatic 196, 3) := by decide +kernel
theorem dX9_testAll_49 : decode cX9_testAll 49 = .ok (.iconst 0, 1) := by decide +kernel
theorem dX9_testAll_50 : decode cX9_testAll 50 = .ok (.istore_n 2, 1) := by decide +kernel
theorem dX9_testAll_51 : decode cX9_testAll 51 = .ok (.iconst 0, 1) := by decide +kernel
theorem dX9_testAll_52 : decode cX9_testAll 52 = .ok (.istore_n 3, 1) := by decide +kernel
theorem dX9_testAll_53 : decode cX9_testAll 53 = .ok (.iload_n 3, 1) := by decide +kernel
theorem dX9_testAll_54 : decode cX9_testAll 54 = .ok (.aload_n 0, 1) := by decide +kernel
theorem dX9_testAll_55 : decode cX9_testAll 55 = .ok (.getfield 32, 3) := by decide +kernel
theorem dX9_testAll_58 : decode cX9_testAll 58 = .ok (.bipush 40, 2) := by decide +kernel
theorem dX9_testAll_60 : decode cX9_testAll 60 = .ok (.aload_n 0, 1) := by decide +kernel
theorem dX9_testAll_61 : decode cX9_testAll 61 = .ok (.getfield 101, 3) := by decide +kernel
theorem dX9_testAll_64 : decode cX9_testAll 64 = .ok (.imul, 1) := by decide +kernel
theorem dX9_testAll_65 : decode cX9_testAll 65 = .ok (.iload_n 1, 1) := by decide +kernel
theorem dX9_testAll_66 : decode cX9_testAll 66 = .ok (.iadd, 1) := by decide +kernel
theorem dX9_testAll_67 : decode cX9_testAll 67 = .ok (.iaload, 1) := by decide +kernel
theorem dX9_testAll_68 : decode cX9_testAll 68 = .ok (.if_icmp .ge 183, 3) := by decide +kernel
theorem dX9_testAll_71 : decode cX9_testAll 71 = .ok (.iload_n 2, 1) := by decide +kernel
theorem dX9_testAll_72 : decode cX9_testAll 72 = .ok (.ifCond .ne 179, 3) := by decide +kernel
theorem dX9_testAll_75 : decode cX9_testAll 75 = .ok (.aload_n 0, 1) := by decide +kernel
theorem dX9_testAll_76 : decode cX9_testAll 76 = .ok (.getfield 35, 3) := by decide +kernel
theorem dX9_testAll_79 : decode cX9_testAll 79 = .ok (.bipush 8, 2) := by decide +kernel
theorem dX9_testAll_81 : decode cX9_testAll 81 = .ok (.bipush 40, 2) := by decide +kernel
theorem dX9_testAll_83 : decode cX9_testAll 83 = .ok (.aload_n 0, 1) := by decide +kernel
theorem dX9_testAll_84 : decode cX9_testAll 84 = .ok (.getfield 101, 3) := by decide +kernel
theorem dX9_testAll_87 : decode cX9_testAll 87 = .ok (.imul, 1) := by decide +kernel
theorem dX9_testAll_88 : decode cX9_testAll 88 = .ok (.iload_n 1, 1) := by decide +kernel
theorem dX9_testAll_89 : decode cX9_testAll 89 = .ok (.iadd, 1) := by decide +kernel
theorem dX9_testAll_90 : decode cX9_testAll 90 = .ok (.imul, 1) := by decide +kernel
theorem dX9_testAll_91 : decode cX9_testAll 91 = .ok (.iload_n 3, 1) := by decide +kernel
theorem dX9_testAll_92 : decode cX9_testAll 92 = .ok (.iadd, 1) := by decide +kernel
theorem dX9_testAll_93 : decode cX9_testAll 93 = .ok (.iaload, 1) := by decide +kernel
theorem dX9_testAll_94 : decode cX9_testAll 94 = .ok (.istore 4, 2) := by decide +kernel
theorem dX9_testAll_96 : decode cX9_testAll 96 = .ok (.iconst 0, 1) := by decide +kernel
theorem dX9_testAll_97 : decode cX9_testAll 97 = .ok (.istore 5, 2) := by decide +kernel
theorem dX9_testAll_99 : decode cX9_testAll 99 = .ok (.iload 5, 2) := by decide +kernel
theorem dX9_testAll_101 : decode cX9_testAll 101 = .ok (.sipush 1024, 3) := by decide +kernel
theorem dX9_testAll_104 : decode cX9_testAll 104 = .ok (.if_icmp .ge 17, 3) := by decide +kernel
theorem dX9_testAll_107 : decode cX9_testAll 107 = .ok (.aload_n 0, 1) := by decide +kernel
theorem dX9_testAll_108 : decode cX9_testAll 108 = .ok (.getfield 66, 3) := by decide +kernel
theorem dX9_testAll_111 : decode cX9_testAll 111 = .ok (.iload 5, 2) := by decide +kernel
theorem dX9_testAll_113 : decode cX9_testAll 113 = .ok (.lconst 0, 1) := by decide +kernel
theorem dX9_testAll_114 : decode cX9_testAll 114 = .ok (.lastore, 1) := by decide +kernel
theorem dX9_testAll_115 : decode cX9_testAll 115 = .ok (.iinc 5 1, 3) := by decide +kernel
theorem dX9_testAll_118 : decode cX9_testAll 118 = .ok (.goto (-19), 3) := by decide +kernel
theorem dX9_testAll_121 : decode cX9_testAll 121 = .ok (.iconst 0, 1) := by decide +kernel
theorem dX9_testAll_122 : decode cX9_testAll 122 = .ok (.istore 5, 2) := by decide +kernel
theorem dX9_testAll_124 : decode cX9_testAll 124 = .ok (.iload 5, 2) := by decide +kernel
theorem dX9_testAll_126 : decode cX9_testAll 126 = .ok (.iload_n 1, 1) := by decide +kernel
theorem dX9_testAll_127 : decode cX9_testAll 127 = .ok (.if_icmp .ge 61, 3) := by decide +kernel
theorem dX9_testAll_130 : decode cX9_testAll 130 = .ok (.iconst 0, 1) := by decide +kernel
theorem dX9_testAll_131 : decode cX9_testAll 131 = .ok (.istore 6, 2) := by decide +kernel
theorem dX9_testAll_133 : decode cX9_testAll 133 = .ok (.iload 6, 2) := by decide +kernel
theorem dX9_testAll_135 : decode cX9_testAll 135 = .ok (.sipush 1024, 3) := by decide +kernel
theorem dX9_testAll_138 : decode cX9_testAll 138 = .ok (.if_icmp .ge 44, 3) := by decide +kernel
theorem dX9_testAll_141 : decode cX9_testAll 141 = .ok (.aload_n 0, 1) := by decide +kernel
theorem dX9_testAll_142 : decode cX9_testAll 142 = .ok (.iload 5, 2) := by decide +kernel
theorem dX9_testAll_144 : decode cX9_testAll 144 = .ok (.iload 4, 2) := by decide +kernel
theorem dX9_testAll_146 : decode cX9_testAll 146 = .ok (.invokevirtual 167, 3) := by decide +kernel
theorem dX9_testAll_149 : decode cX9_testAll 149 = .ok (.ifCond .eq 33, 3) := by decide +kernel
theorem dX9_testAll_152 : decode cX9_testAll 152 = .ok (.aload_n 0, 1) := by decide +kernel
theorem dX9_testAll_153 : decode cX9_testAll 153 = .ok (.getfield 66, 3) := by decide +kernel
theorem dX9_testAll_156 : decode cX9_testAll 156 = .ok (.iload 6, 2) := by decide +kernel
theorem dX9_testAll_158 : decode cX9_testAll 158 = .ok (.dup2, 1) := by decide +kernel
theorem dX9_testAll_159 : decode cX9_testAll 159 = .ok (.laload, 1) := by decide +kernel
theorem dX9_testAll_160 : decode cX9_testAll 160 = .ok (.aload_n 0, 1) := by decide +kernel
theorem dX9_testAll_161 : decode cX9_testAll 161 = .ok (.getfield 58, 3) := by decide +kernel
theorem dX9_testAll_164 : decode cX9_testAll 164 = .ok (.sipush 1024, 3) := by decide +kernel
theorem dX9_testAll_167 : decode cX9_testAll 167 = .ok (.iload 5, 2) := by decide +kernel
theorem dX9_testAll_169 : decode cX9_testAll 169 = .ok (.imul, 1) := by decide +kernel
theorem dX9_testAll_170 : decode cX9_testAll 170 = .ok (.iload 6, 2) := by decide +kernel
theorem dX9_testAll_172 : decode cX9_testAll 172 = .ok (.iadd, 1) := by decide +kernel
theorem dX9_testAll_173 : decode cX9_testAll 173 = .ok (.laload, 1) := by decide +kernel
theorem dX9_testAll_174 : decode cX9_testAll 174 = .ok (.lor, 1) := by decide +kernel
theorem dX9_testAll_175 : decode cX9_testAll 175 = .ok (.lastore, 1) := by decide +kernel
theorem dX9_testAll_176 : decode cX9_testAll 176 = .ok (.iinc 6 1, 3) := by decide +kernel
theorem dX9_testAll_179 : decode cX9_testAll 179 = .ok (.goto (-46), 3) := by decide +kernel
theorem dX9_testAll_182 : decode cX9_testAll 182 = .ok (.iinc 5 1, 3) := by decide +kernel
theorem dX9_testAll_185 : decode cX9_testAll 185 = .ok (.goto (-61), 3) := by decide +kernel
theorem dX9_testAll_188 : decode cX9_testAll 188 = .ok (.iconst 0, 1) := by decide +kernel
theorem dX9_testAll_189 : decode cX9_testAll 189 = .ok (.istore 5, 2) := by decide +kernel
theorem dX9_testAll_191 : decode cX9_testAll 191 = .ok (.iload 5, 2) := by decide +kernel
theorem dX9_testAll_193 : decode cX9_testAll 193 = .ok (.sipush 1024, 3) := by decide +kernel
theorem dX9_testAll_196 : decode cX9_testAll 196 = .ok (.if_icmp .ge 49, 3) := by decide +kernel
theorem dX9_testAll_199 : decode cX9_testAll 199 = .ok (.iload_n 2, 1) := by decide +kernel
theorem dX9_testAll_200 : decode cX9_testAll 200 = .ok (.ifCond .ne 45, 3) := by decide +kernel
theorem dX9_testAll_203 : decode cX9_testAll 203 = .ok (.aload_n 0, 1) := by decide +kernel
theorem dX9_testAll_204 : decode cX9_testAll 204 = .ok (.getfield 58, 3) := by decide +kernel
theorem dX9_testAll_207 : decode cX9_testAll 207 = .ok (.sipush 1024, 3) := by decide +kernel
theorem dX9_testAll_210 : decode cX9_testAll 210 = .ok (.iload_n 1, 1) := by decide +kernel
theorem dX9_testAll_211 : decode cX9_testAll 211 = .ok (.imul, 1) := by decide +kernel
theorem dX9_testAll_212 : decode cX9_testAll 212 = .ok (.iload 5, 2) := by decide +kernel
theorem dX9_testAll_214 : decode cX9_testAll 214 = .ok (.iadd, 1) := by decide +kernel
theorem dX9_testAll_215 : decode cX9_testAll 215 = .ok (.laload, 1) := by decide +kernel
theorem dX9_testAll_216 : decode cX9_testAll 216 = .ok (.aload_n 0, 1) := by decide +kernel
theorem dX9_testAll_217 : decode cX9_testAll 217 = .ok (.getfield 66, 3) := by decide +kernel
theorem dX9_testAll_220 : decode cX9_testAll 220 = .ok (.iload 5, 2) := by decide +kernel
theorem dX9_testAll_222 : decode cX9_testAll 222 = .ok (.laload, 1) := by decide +kernel
theorem dX9_testAll_223 : decode cX9_testAll 223 = .ok (.ldc2_w 186, 3) := by decide +kernel
theorem dX9_testAll_226 : decode cX9_testAll 226 = .ok (.lxor, 1) := by decide +kernel
theorem dX9_testAll_227 : decode cX9_testAll 227 = .ok (.land, 1) := by decide +kernel
theorem dX9_testAll_228 : decode cX9_testAll 228 = .ok (.lconst 0, 1) := by decide +kernel
theorem dX9_testAll_229 : decode cX9_testAll 229 = .ok (.lcmp, 1) := by decide +kernel
theorem dX9_testAll_230 : decode cX9_testAll 230 = .ok (.ifCond .eq 7, 3) := by decide +kernel
theorem dX9_testAll_233 : decode cX9_testAll 233 = .ok (.iconst 1, 1) := by decide +kernel
theorem dX9_testAll_234 : decode cX9_testAll 234 = .ok (.goto 4, 3) := by decide +kernel
theorem dX9_testAll_237 : decode cX9_testAll 237 = .ok (.iconst 0, 1) := by decide +kernel
theorem dX9_testAll_238 : decode cX9_testAll 238 = .ok (.istore_n 2, 1) := by decide +kernel
theorem dX9_testAll_239 : decode cX9_testAll 239 = .ok (.iinc 5 1, 3) := by decide +kernel
theorem dX9_testAll_242 : decode cX9_testAll 242 = .ok (.goto (-51), 3) := by decide +kernel
theorem dX9_testAll_245 : decode cX9_testAll 245 = .ok (.iinc 3 1, 3) := by decide +kernel
theorem dX9_testAll_248 : decode cX9_testAll 248 = .ok (.goto (-195), 3) := by decide +kernel
theorem dX9_testAll_251 : decode cX9_testAll 251 = .ok (.aload_n 0, 1) := by decide +kernel
theorem dX9_testAll_252 : decode cX9_testAll 252 = .ok (.getfield 69, 3) := by decide +kernel
theorem dX9_testAll_255 : decode cX9_testAll 255 = .ok (.iload_n 1, 1) := by decide +kernel
theorem dX9_testAll_256 : decode cX9_testAll 256 = .ok (.iload_n 2, 1) := by decide +kernel
theorem dX9_testAll_257 : decode cX9_testAll 257 = .ok (.ifCond .ne 7, 3) := by decide +kernel
theorem dX9_testAll_260 : decode cX9_testAll 260 = .ok (.iconst 1, 1) := by decide +kernel
theorem dX9_testAll_261 : decode cX9_testAll 261 = .ok (.goto 4, 3) := by decide +kernel
theorem dX9_testAll_264 : decode cX9_testAll 264 = .ok (.iconst 0, 1) := by decide +kernel
theorem dX9_testAll_265 : decode cX9_testAll 265 = .ok (.bastore, 1) := by decide +kernel
theorem dX9_testAll_266 : decode cX9_testAll 266 = .ok (.iinc 1 1, 3) := by decide +kernel
theorem dX9_testAll_269 : decode cX9_testAll 269 = .ok (.goto (-267), 3) := by decide +kernel
theorem dX9_testAll_272 : decode cX9_testAll 272 = .ok (.aload_n 0, 1) := by decide +kernel
theorem dX9_testAll_273 : decode cX9_testAll 273 = .ok (.iconst 1, 1) := by decide +kernel
theorem dX9_testAll_274 : decode cX9_testAll 274 = .ok (.putfield 152, 3) := by decide +kernel
theorem dX9_testAll_277 : decode cX9_testAll 277 = .ok (.return_, 1) := by decide +kernel
set_option maxRecDepth 20000 in
theorem ggX9_test_X9_testAll : GoodIn wsX9_test wsX9_testAll := goodIn_q _ [(8, 1), (2, 1), (9, 12), (3, 1), (1, 1), (21, 3), (7, 1), (24, 49)] (by decide +kernel) (by decide +kernel)
set_option maxRecDepth 20000 in
theorem gX9_test_X9_testAll : GoodIn wsX9_test (wsV RX9 202 RX9 yX9_testAll wsX9_testAll) := goodIn_app (goodIn_of _ (by decide +kernel)) ggX9_test_X9_testAll
theorem dX9_test_0 : decode cX9_test 0 = .ok (.aload_n 0, 1) := by decide +kernel
theorem dX9_test_1 : decode cX9_test 1 = .ok (.getfield 152, 3) := by decide +kernel
theorem dX9_test_4 : decode cX9_test 4 = .ok (.ifCond .ne 7, 3) := by decide +kernel
theorem dX9_test_7 : decode cX9_test 7 = .ok (.aload_n 0, 1) := by decide +kernel
theorem dX9_test_8 : decode cX9_test 8 = .ok (.invokevirtual 202, 3) := by decide +kernel
theorem dX9_test_11 : decode cX9_test 11 = .ok (.iload_n 1, 1) := by decide +kernel
theorem dX9_test_12 : decode cX9_test 12 = .ok (.istore_n 2, 1) := by decide +kernel
theorem dX9_test_13 : decode cX9_test 13 = .ok (.iconst 0, 1) := by decide +kernel
theorem dX9_test_14 : decode cX9_test 14 = .ok (.istore_n 3, 1) := by decide +kernel
theorem dX9_test_15 : decode cX9_test 15 = .ok (.iload_n 3, 1) := by decide +kernel
theorem dX9_test_16 : decode cX9_test 16 = .ok (.aload_n 0, 1) := by decide +kernel
theorem dX9_test_17 : decode cX9_test 17 = .ok (.getfield 149, 3) := by decide +kernel
theorem dX9_test_20 : decode cX9_test 20 = .ok (.if_icmp .ge 33, 3) := by decide +kernel
theorem dX9_test_23 : decode cX9_test 23 = .ok (.iload_n 2, 1) := by decide +kernel
theorem dX9_test_24 : decode cX9_test 24 = .ok (.ifCond .lt 29, 3) := by decide +kernel
theorem dX9_test_27 : decode cX9_test 27 = .ok (.aload_n 0, 1) := by decide +kernel
theorem dX9_test_28 : decode cX9_test 28 = .ok (.getfield 69, 3) := by decide +kernel
theorem dX9_test_31 : decode cX9_test 31 = .ok (.iload_n 3, 1) := by decide +kernel
theorem dX9_test_32 : decode cX9_test 32 = .ok (.baload, 1) := by decide +kernel
theorem dX9_test_33 : decode cX9_test 33 = .ok (.ifCond .eq 14, 3) := by decide +kernel
theorem dX9_test_36 : decode cX9_test 36 = .ok (.iload_n 2, 1) := by decide +kernel
theorem dX9_test_37 : decode cX9_test 37 = .ok (.ifCond .ne 7, 3) := by decide +kernel
theorem dX9_test_40 : decode cX9_test 40 = .ok (.iload_n 3, 1) := by decide +kernel
theorem dX9_test_41 : decode cX9_test 41 = .ok (.iconst 1, 1) := by decide +kernel
theorem dX9_test_42 : decode cX9_test 42 = .ok (.iadd, 1) := by decide +kernel
theorem dX9_test_43 : decode cX9_test 43 = .ok (.ireturn, 1) := by decide +kernel
theorem dX9_test_44 : decode cX9_test 44 = .ok (.iinc 2 (-1), 3) := by decide +kernel
theorem dX9_test_47 : decode cX9_test 47 = .ok (.iinc 3 1, 3) := by decide +kernel
theorem dX9_test_50 : decode cX9_test 50 = .ok (.goto (-35), 3) := by decide +kernel
theorem dX9_test_53 : decode cX9_test 53 = .ok (.iconst (-1), 1) := by decide +kernel
theorem dX9_test_54 : decode cX9_test 54 = .ok (.ireturn, 1) := by decide +kernel
set_option maxRecDepth 20000 in
theorem ggX9_row_X9_isRow : GoodIn wsX9_row wsX9_isRow := goodIn_q _ [(13, 2), (28, 32)] (by decide +kernel) (by decide +kernel)
set_option maxRecDepth 20000 in
theorem gX9_row_X9_isRow : GoodIn wsX9_row (wsV RX9 171 RX9 yX9_isRow wsX9_isRow) := goodIn_app (goodIn_of _ (by decide +kernel)) ggX9_row_X9_isRow
set_option maxRecDepth 20000 in
theorem ggX9_row_X9_isOn : GoodIn wsX9_row wsX9_isOn := goodIn_q _ [(18, 2), (1, 1), (20, 3), (12, 1), (23, 37)] (by decide +kernel) (by decide +kernel)
set_option maxRecDepth 20000 in
theorem gX9_row_X9_isOn : GoodIn wsX9_row (wsV RX9 163 RX9 yX9_isOn wsX9_isOn) := goodIn_app (goodIn_of _ (by decide +kernel)) ggX9_row_X9_isOn
theorem dX9_row_0 : decode cX9_row 0 = .ok (.aload_n 0, 1) := by decide +kernel
theorem dX9_row_1 : decode cX9_row 1 = .ok (.iload_n 1, 1) := by decide +kernel
theorem dX9_row_2 : decode cX9_row 2 = .ok (.invokevirtual 171, 3) := by decide +kernel
theorem dX9_row_5 : decode cX9_row 5 = .ok (.ifCond .ne 5, 3) := by decide +kernel
theorem dX9_row_8 : decode cX9_row 8 = .ok (.iconst (-1), 1) := by decide +kernel
theorem dX9_row_9 : decode cX9_row 9 = .ok (.ireturn, 1) := by decide +kernel
theorem dX9_row_10 : decode cX9_row 10 = .ok (.bipush 40, 2) := by decide +kernel
theorem dX9_row_12 : decode cX9_row 12 = .ok (.aload_n 0, 1) := by decide +kernel
theorem dX9_row_13 : decode cX9_row 13 = .ok (.getfield 101, 3) := by decide +kernel
theorem dX9_row_16 : decode cX9_row 16 = .ok (.imul, 1) := by decide +kernel
theorem dX9_row_17 : decode cX9_row 17 = .ok (.iload_n 1, 1) := by decide +kernel
theorem dX9_row_18 : decode cX9_row 18 = .ok (.iadd, 1) := by decide +kernel
theorem dX9_row_19 : decode cX9_row 19 = .ok (.iconst 1, 1) := by decide +kernel
theorem dX9_row_20 : decode cX9_row 20 = .ok (.isub, 1) := by decide +kernel
theorem dX9_row_21 : decode cX9_row 21 = .ok (.istore_n 3, 1) := by decide +kernel
theorem dX9_row_22 : decode cX9_row 22 = .ok (.iload_n 2, 1) := by decide +kernel
theorem dX9_row_23 : decode cX9_row 23 = .ok (.tableswitch 132 0 7 #[45, 52, 59, 74, 83, 100, 109, 116], 45) := by decide +kernel
theorem dX9_row_68 : decode cX9_row 68 = .ok (.aload_n 0, 1) := by decide +kernel
theorem dX9_row_69 : decode cX9_row 69 = .ok (.getfield 32, 3) := by decide +kernel
theorem dX9_row_72 : decode cX9_row 72 = .ok (.iload_n 3, 1) := by decide +kernel
theorem dX9_row_73 : decode cX9_row 73 = .ok (.iaload, 1) := by decide +kernel
theorem dX9_row_74 : decode cX9_row 74 = .ok (.ireturn, 1) := by decide +kernel
theorem dX9_row_75 : decode cX9_row 75 = .ok (.aload_n 0, 1) := by decide +kernel
theorem dX9_row_76 : decode cX9_row 76 = .ok (.getfield 38, 3) := by decide +kernel
theorem dX9_row_79 : decode cX9_row 79 = .ok (.iload_n 3, 1) := by decide +kernel
theorem dX9_row_80 : decode cX9_row 80 = .ok (.iaload, 1) := by decide +kernel
theorem dX9_row_81 : decode cX9_row 81 = .ok (.ireturn, 1) := by decide +kernel
theorem dX9_row_82 : decode cX9_row 82 = .ok (.aload_n 0, 1) := by decide +kernel
theorem dX9_row_83 : decode cX9_row 83 = .ok (.getfield 41, 3) := by decide +kernel
theorem dX9_row_86 : decode cX9_row 86 = .ok (.iload_n 3, 1) := by decide +kernel
theorem dX9_row_87 : decode cX9_row 87 = .ok (.baload, 1) := by decide +kernel
theorem dX9_row_88 : decode cX9_row 88 = .ok (.ifCond .eq 7, 3) := by decide +kernel
theorem dX9_row_91 : decode cX9_row 91 = .ok (.iconst 1, 1) := by decide +kernel
theorem dX9_row_92 : decode cX9_row 92 = .ok (.goto 4, 3) := by decide +kernel
theorem dX9_row_95 : decode cX9_row 95 = .ok (.iconst 0, 1) := by decide +kernel
theorem dX9_row_96 : decode cX9_row 96 = .ok (.ireturn, 1) := by decide +kernel
theorem dX9_row_97 : decode cX9_row 97 = .ok (.aload_n 0, 1) := by decide +kernel
theorem dX9_row_98 : decode cX9_row 98 = .ok (.getfield 48, 3) := by decide +kernel
theorem dX9_row_101 : decode cX9_row 101 = .ok (.iload_n 1, 1) := by decide +kernel
theorem dX9_row_102 : decode cX9_row 102 = .ok (.iconst 1, 1) := by decide +kernel
theorem dX9_row_103 : decode cX9_row 103 = .ok (.isub, 1) := by decide +kernel
theorem dX9_row_104 : decode cX9_row 104 = .ok (.iaload, 1) := by decide +kernel
theorem dX9_row_105 : decode cX9_row 105 = .ok (.ireturn, 1) := by decide +kernel
theorem dX9_row_106 : decode cX9_row 106 = .ok (.aload_n 0, 1) := by decide +kernel
theorem dX9_row_107 : decode cX9_row 107 = .ok (.getfield 51, 3) := by decide +kernel
theorem dX9_row_110 : decode cX9_row 110 = .ok (.iload_n 1, 1) := by decide +kernel
theorem dX9_row_111 : decode cX9_row 111 = .ok (.iconst 1, 1) := by decide +kernel
theorem dX9_row_112 : decode cX9_row 112 = .ok (.isub, 1) := by decide +kernel
theorem dX9_row_113 : decode cX9_row 113 = .ok (.baload, 1) := by decide +kernel
theorem dX9_row_114 : decode cX9_row 114 = .ok (.ifCond .eq 7, 3) := by decide +kernel
theorem dX9_row_117 : decode cX9_row 117 = .ok (.iconst 1, 1) := by decide +kernel
theorem dX9_row_118 : decode cX9_row 118 = .ok (.goto 4, 3) := by decide +kernel
theorem dX9_row_121 : decode cX9_row 121 = .ok (.iconst 0, 1) := by decide +kernel
theorem dX9_row_122 : decode cX9_row 122 = .ok (.ireturn, 1) := by decide +kernel
theorem dX9_row_123 : decode cX9_row 123 = .ok (.aload_n 0, 1) := by decide +kernel
theorem dX9_row_124 : decode cX9_row 124 = .ok (.getfield 54, 3) := by decide +kernel
theorem dX9_row_127 : decode cX9_row 127 = .ok (.iload_n 1, 1) := by decide +kernel
theorem dX9_row_128 : decode cX9_row 128 = .ok (.iconst 1, 1) := by decide +kernel
theorem dX9_row_129 : decode cX9_row 129 = .ok (.isub, 1) := by decide +kernel
theorem dX9_row_130 : decode cX9_row 130 = .ok (.iaload, 1) := by decide +kernel
theorem dX9_row_131 : decode cX9_row 131 = .ok (.ireturn, 1) := by decide +kernel
theorem dX9_row_132 : decode cX9_row 132 = .ok (.aload_n 0, 1) := by decide +kernel
theorem dX9_row_133 : decode cX9_row 133 = .ok (.getfield 45, 3) := by decide +kernel
theorem dX9_row_136 : decode cX9_row 136 = .ok (.iload_n 3, 1) := by decide +kernel
theorem dX9_row_137 : decode cX9_row 137 = .ok (.iaload, 1) := by decide +kernel
theorem dX9_row_138 : decode cX9_row 138 = .ok (.ireturn, 1) := by decide +kernel
theorem dX9_row_139 : decode cX9_row 139 = .ok (.aload_n 0, 1) := by decide +kernel
theorem dX9_row_140 : decode cX9_row 140 = .ok (.iload_n 1, 1) := by decide +kernel
theorem dX9_row_141 : decode cX9_row 141 = .ok (.iconst 1, 1) := by decide +kernel
theorem dX9_row_142 : decode cX9_row 142 = .ok (.isub, 1) := by decide +kernel
theorem dX9_row_143 : decode cX9_row 143 = .ok (.invokevirtual 163, 3) := by decide +kernel
theorem dX9_row_146 : decode cX9_row 146 = .ok (.ifCond .eq 7, 3) := by decide +kernel
theorem dX9_row_149 : decode cX9_row 149 = .ok (.iconst 1, 1) := by decide +kernel
theorem dX9_row_150 : decode cX9_row 150 = .ok (.goto 4, 3) := by decide +kernel
theorem dX9_row_153 : decode cX9_row 153 = .ok (.iconst 0, 1) := by decide +kernel
theorem dX9_row_154 : decode cX9_row 154 = .ok (.ireturn, 1) := by decide +kernel
theorem dX9_row_155 : decode cX9_row 155 = .ok (.iconst (-1), 1) := by decide +kernel
theorem dX9_row_156 : decode cX9_row 156 = .ok (.ireturn, 1) := by decide +kernel
theorem dX9_say_0 : decode cX9_say 0 = .ok (.aload_n 0, 1) := by decide +kernel
theorem dX9_say_1 : decode cX9_say 1 = .ok (.getfield 205, 3) := by decide +kernel
theorem dX9_say_4 : decode cX9_say 4 = .ok (.aload_n 0, 1) := by decide +kernel
theorem dX9_say_5 : decode cX9_say 5 = .ok (.getfield 72, 3) := by decide +kernel
theorem dX9_say_8 : decode cX9_say 8 = .ok (.arraylength, 1) := by decide +kernel
theorem dX9_say_9 : decode cX9_say 9 = .ok (.if_icmp .ne 31, 3) := by decide +kernel
theorem dX9_say_12 : decode cX9_say 12 = .ok (.iconst 2, 1) := by decide +kernel
theorem dX9_say_13 : decode cX9_say 13 = .ok (.aload_n 0, 1) := by decide +kernel
theorem dX9_say_14 : decode cX9_say 14 = .ok (.getfield 205, 3) := by decide +kernel
theorem dX9_say_17 : decode cX9_say 17 = .ok (.imul, 1) := by decide +kernel
theorem dX9_say_18 : decode cX9_say 18 = .ok (.newarray .byte, 2) := by decide +kernel
theorem dX9_say_20 : decode cX9_say 20 = .ok (.astore_n 2, 1) := by decide +kernel
theorem dX9_say_21 : decode cX9_say 21 = .ok (.aload_n 0, 1) := by decide +kernel
theorem dX9_say_22 : decode cX9_say 22 = .ok (.getfield 72, 3) := by decide +kernel
theorem dX9_say_25 : decode cX9_say 25 = .ok (.iconst 0, 1) := by decide +kernel
theorem dX9_say_26 : decode cX9_say 26 = .ok (.aload_n 2, 1) := by decide +kernel
theorem dX9_say_27 : decode cX9_say 27 = .ok (.iconst 0, 1) := by decide +kernel
theorem dX9_say_28 : decode cX9_say 28 = .ok (.aload_n 0, 1) := by decide +kernel
theorem dX9_say_29 : decode cX9_say 29 = .ok (.getfield 205, 3) := by decide +kernel
theorem dX9_say_32 : decode cX9_say 32 = .ok (.invokestatic 196, 3) := by decide +kernel
theorem dX9_say_35 : decode cX9_say 35 = .ok (.aload_n 0, 1) := by decide +kernel
theorem dX9_say_36 : decode cX9_say 36 = .ok (.aload_n 2, 1) := by decide +kernel
theorem dX9_say_37 : decode cX9_say 37 = .ok (.putfield 72, 3) := by decide +kernel
theorem dX9_say_40 : decode cX9_say 40 = .ok (.aload_n 0, 1) := by decide +kernel
theorem dX9_say_41 : decode cX9_say 41 = .ok (.getfield 72, 3) := by decide +kernel
theorem dX9_say_44 : decode cX9_say 44 = .ok (.aload_n 0, 1) := by decide +kernel
theorem dX9_say_45 : decode cX9_say 45 = .ok (.getfield 205, 3) := by decide +kernel
theorem dX9_say_48 : decode cX9_say 48 = .ok (.iload_n 1, 1) := by decide +kernel
theorem dX9_say_49 : decode cX9_say 49 = .ok (.i2b, 1) := by decide +kernel
theorem dX9_say_50 : decode cX9_say 50 = .ok (.bastore, 1) := by decide +kernel
theorem dX9_say_51 : decode cX9_say 51 = .ok (.aload_n 0, 1) := by decide +kernel
theorem dX9_say_52 : decode cX9_say 52 = .ok (.dup, 1) := by decide +kernel
theorem dX9_say_53 : decode cX9_say 53 = .ok (.getfield 205, 3) := by decide +kernel
theorem dX9_say_56 : decode cX9_say 56 = .ok (.iconst 1, 1) := by decide +kernel
theorem dX9_say_57 : decode cX9_say 57 = .ok (.iadd, 1) := by decide +kernel
theorem dX9_say_58 : decode cX9_say 58 = .ok (.putfield 205, 3) := by decide +kernel
theorem dX9_say_61 : decode cX9_say 61 = .ok (.return_, 1) := by decide +kernel
set_option maxRecDepth 20000 in
theorem ggX9_say8_X9_say : GoodIn wsX9_say8 wsX9_say := goodIn_q _ [(6, 40)] (by decide +kernel) (by decide +kernel)
set_option maxRecDepth 20000 in
theorem gX9_say8_X9_say : GoodIn wsX9_say8 (wsV RX9 210 RX9 yX9_say wsX9_say) := goodIn_app (goodIn_of _ (by decide +kernel)) ggX9_say8_X9_say
theorem dX9_say8_0 : decode cX9_say8 0 = .ok (.lload_n 1, 1) := by decide +kernel
theorem dX9_say8_1 : decode cX9_say8 1 = .ok (.lstore_n 3, 1) := by decide +kernel
theorem dX9_say8_2 : decode cX9_say8 2 = .ok (.lload_n 3, 1) := by decide +kernel
theorem dX9_say8_3 : decode cX9_say8 3 = .ok (.lconst 0, 1) := by decide +kernel
theorem dX9_say8_4 : decode cX9_say8 4 = .ok (.lcmp, 1) := by decide +kernel
theorem dX9_say8_5 : decode cX9_say8 5 = .ok (.ifCond .eq 21, 3) := by decide +kernel
theorem dX9_say8_8 : decode cX9_say8 8 = .ok (.aload_n 0, 1) := by decide +kernel
theorem dX9_say8_9 : decode cX9_say8 9 = .ok (.lload_n 3, 1) := by decide +kernel
theorem dX9_say8_10 : decode cX9_say8 10 = .ok (.ldc2_w 208, 3) := by decide +kernel
theorem dX9_say8_13 : decode cX9_say8 13 = .ok (.land, 1) := by decide +kernel
theorem dX9_say8_14 : decode cX9_say8 14 = .ok (.l2i, 1) := by decide +kernel
theorem dX9_say8_15 : decode cX9_say8 15 = .ok (.invokevirtual 210, 3) := by decide +kernel
theorem dX9_say8_18 : decode cX9_say8 18 = .ok (.lload_n 3, 1) := by decide +kernel
theorem dX9_say8_19 : decode cX9_say8 19 = .ok (.bipush 8, 2) := by decide +kernel
theorem dX9_say8_21 : decode cX9_say8 21 = .ok (.lushr, 1) := by decide +kernel
theorem dX9_say8_22 : decode cX9_say8 22 = .ok (.lstore_n 3, 1) := by decide +kernel
theorem dX9_say8_23 : decode cX9_say8 23 = .ok (.goto (-21), 3) := by decide +kernel
theorem dX9_say8_26 : decode cX9_say8 26 = .ok (.return_, 1) := by decide +kernel
set_option maxRecDepth 20000 in
theorem ggX9_sayNumber_X9_say : GoodIn wsX9_sayNumber wsX9_say := goodIn_q _ [(5, 40)] (by decide +kernel) (by decide +kernel)
set_option maxRecDepth 20000 in
theorem gX9_sayNumber_X9_say : GoodIn wsX9_sayNumber (wsV RX9 210 RX9 yX9_say wsX9_say) := goodIn_app (goodIn_of _ (by decide +kernel)) ggX9_sayNumber_X9_say
theorem dX9_sayNumber_0 : decode cX9_sayNumber 0 = .ok (.iconst 1, 1) := by decide +kernel
theorem dX9_sayNumber_1 : decode cX9_sayNumber 1 = .ok (.istore_n 2, 1) := by decide +kernel
theorem dX9_sayNumber_2 : decode cX9_sayNumber 2 = .ok (.iload_n 1, 1) := by decide +kernel
theorem dX9_sayNumber_3 : decode cX9_sayNumber 3 = .ok (.iload_n 2, 1) := by decide +kernel
theorem dX9_sayNumber_4 : decode cX9_sayNumber 4 = .ok (.idiv, 1) := by decide +kernel
theorem dX9_sayNumber_5 : decode cX9_sayNumber 5 = .ok (.bipush 10, 2) := by decide +kernel
theorem dX9_sayNumber_7 : decode cX9_sayNumber 7 = .ok (.if_icmp .lt 11, 3) := by decide +kernel
theorem dX9_sayNumber_10 : decode cX9_sayNumber 10 = .ok (.iload_n 2, 1) := by decide +kernel
theorem dX9_sayNumber_11 : decode cX9_sayNumber 11 = .ok (.bipush 10, 2) := by decide +kernel
theorem dX9_sayNumber_13 : decode cX9_sayNumber 13 = .ok (.imul, 1) := by decide +kernel
theorem dX9_sayNumber_14 : decode cX9_sayNumber 14 = .ok (.istore_n 2, 1) := by decide +kernel
theorem dX9_sayNumber_15 : decode cX9_sayNumber 15 = .ok (.goto (-13), 3) := by decide +kernel
theorem dX9_sayNumber_18 : decode cX9_sayNumber 18 = .ok (.iload_n 2, 1) := by decide +kernel
theorem dX9_sayNumber_19 : decode cX9_sayNumber 19 = .ok (.istore_n 3, 1) := by decide +kernel
theorem dX9_sayNumber_20 : decode cX9_sayNumber 20 = .ok (.iload_n 3, 1) := by decide +kernel
theorem dX9_sayNumber_21 : decode cX9_sayNumber 21 = .ok (.ifCond .le 24, 3) := by decide +kernel
theorem dX9_sayNumber_24 : decode cX9_sayNumber 24 = .ok (.aload_n 0, 1) := by decide +kernel
theorem dX9_sayNumber_25 : decode cX9_sayNumber 25 = .ok (.bipush 48, 2) := by decide +kernel
theorem dX9_sayNumber_27 : decode cX9_sayNumber 27 = .ok (.iload_n 1, 1) := by decide +kernel
theorem dX9_sayNumber_28 : decode cX9_sayNumber 28 = .ok (.iload_n 3, 1) := by decide +kernel
theorem dX9_sayNumber_29 : decode cX9_sayNumber 29 = .ok (.idiv, 1) := by decide +kernel
theorem dX9_sayNumber_30 : decode cX9_sayNumber 30 = .ok (.bipush 10, 2) := by decide +kernel
theorem dX9_sayNumber_32 : decode cX9_sayNumber 32 = .ok (.irem, 1) := by decide +kernel
theorem dX9_sayNumber_33 : decode cX9_sayNumber 33 = .ok (.iadd, 1) := by decide +kernel
theorem dX9_sayNumber_34 : decode cX9_sayNumber 34 = .ok (.invokevirtual 210, 3) := by decide +kernel
theorem dX9_sayNumber_37 : decode cX9_sayNumber 37 = .ok (.iload_n 3, 1) := by decide +kernel
theorem dX9_sayNumber_38 : decode cX9_sayNumber 38 = .ok (.bipush 10, 2) := by decide +kernel
theorem dX9_sayNumber_40 : decode cX9_sayNumber 40 = .ok (.idiv, 1) := by decide +kernel
theorem dX9_sayNumber_41 : decode cX9_sayNumber 41 = .ok (.istore_n 3, 1) := by decide +kernel
theorem dX9_sayNumber_42 : decode cX9_sayNumber 42 = .ok (.goto (-22), 3) := by decide +kernel
theorem dX9_sayNumber_45 : decode cX9_sayNumber 45 = .ok (.return_, 1) := by decide +kernel
set_option maxRecDepth 20000 in
theorem ggX9_sayNode_X9_say : GoodIn wsX9_sayNode wsX9_say := goodIn_q _ [(11, 8), (31, 32)] (by decide +kernel) (by decide +kernel)
set_option maxRecDepth 20000 in
theorem gX9_sayNode_X9_say : GoodIn wsX9_sayNode (wsV RX9 210 RX9 yX9_say wsX9_say) := goodIn_app (goodIn_of _ (by decide +kernel)) ggX9_sayNode_X9_say
set_option maxRecDepth 20000 in
theorem ggX9_sayNode_X9_sayNumber : GoodIn wsX9_sayNode wsX9_sayNumber := goodIn_q _ [(22, 1), (7, 12), (31, 32)] (by decide +kernel) (by decide +kernel)
set_option maxRecDepth 20000 in
theorem gX9_sayNode_X9_sayNumber : GoodIn wsX9_sayNode (wsV RX9 214 RX9 yX9_sayNumber wsX9_sayNumber) := goodIn_app (goodIn_of _ (by decide +kernel)) ggX9_sayNode_X9_sayNumber
set_option maxRecDepth 20000 in
theorem ggX9_sayNode_X9_say8 : GoodIn wsX9_sayNode wsX9_say8 := goodIn_q _ [(26, 2), (7, 12), (31, 32)] (by decide +kernel) (by decide +kernel)
set_option maxRecDepth 20000 in
theorem gX9_sayNode_X9_say8 : GoodIn wsX9_sayNode (wsV RX9 219 RX9 yX9_say8 wsX9_say8) := goodIn_app (goodIn_of _ (by decide +kernel)) ggX9_sayNode_X9_say8
set_option maxRecDepth 20000 in
theorem ggX9_sayNode_X9_sayNode : GoodIn wsX9_sayNode wsX9_sayNode := goodIn_q _ [(0, 63)] (by decide +kernel) (by decide +kernel)
set_option maxRecDepth 20000 in
theorem gX9_sayNode_X9_sayNode : GoodIn wsX9_sayNode (wsV RX9 223 RX9 yX9_sayNode wsX9_sayNode) := goodIn_app (goodIn_of _ (by decide +kernel)) ggX9_sayNode_X9_sayNode
theorem dX9_sayNode_0 : decode cX9_sayNode 0 = .ok (.aload_n 0, 1) := by decide +kernel
theorem dX9_sayNode_1 : decode cX9_sayNode 1 = .ok (.getfield 20, 3) := by decide +kernel
theorem dX9_sayNode_4 : decode cX9_sayNode 4 = .ok (.iload_n 1, 1) := by decide +kernel
theorem dX9_sayNode_5 : decode cX9_sayNode 5 = .ok (.iaload, 1) := by decide +kernel
theorem dX9_sayNode_6 : decode cX9_sayNode 6 = .ok (.istore_n 3, 1) := by decide +kernel
theorem dX9_sayNode_7 : decode cX9_sayNode 7 = .ok (.iload_n 3, 1) := by decide +kernel
theorem dX9_sayNode_8 : decode cX9_sayNode 8 = .ok (.bipush 18, 2) := by decide +kernel
theorem dX9_sayNode_10 : decode cX9_sayNode 10 = .ok (.if_icmp .ne 7, 3) := by decide +kernel
theorem dX9_sayNode_13 : decode cX9_sayNode 13 = .ok (.iload_n 2, 1) := by decide +kernel
theorem dX9_sayNode_14 : decode cX9_sayNode 14 = .ok (.ifCond .gt 14, 3) := by decide +kernel
theorem dX9_sayNode_17 : decode cX9_sayNode 17 = .ok (.iload_n 3, 1) := by decide +kernel
theorem dX9_sayNode_18 : decode cX9_sayNode 18 = .ok (.bipush 17, 2) := by decide +kernel
theorem dX9_sayNode_20 : decode cX9_sayNode 20 = .ok (.if_icmp .ne 12, 3) := by decide +kernel
theorem dX9_sayNode_23 : decode cX9_sayNode 23 = .ok (.iload_n 2, 1) := by decide +kernel
theorem dX9_sayNode_24 : decode cX9_sayNode 24 = .ok (.iconst 1, 1) := by decide +kernel
theorem dX9_sayNode_25 : decode cX9_sayNode 25 = .ok (.if_icmp .ne 7, 3) := by decide +kernel
theorem dX9_sayNode_28 : decode cX9_sayNode 28 = .ok (.iconst 1, 1) := by decide +kernel
theorem dX9_sayNode_29 : decode cX9_sayNode 29 = .ok (.goto 4, 3) := by decide +kernel
theorem dX9_sayNode_32 : decode cX9_sayNode 32 = .ok (.iconst 0, 1) := by decide +kernel
theorem dX9_sayNode_33 : decode cX9_sayNode 33 = .ok (.istore 4, 2) := by decide +kernel
theorem dX9_sayNode_35 : decode cX9_sayNode 35 = .ok (.iload 4, 2) := by decide +kernel
theorem dX9_sayNode_37 : decode cX9_sayNode 37 = .ok (.ifCond .eq 9, 3) := by decide +kernel
theorem dX9_sayNode_40 : decode cX9_sayNode 40 = .ok (.aload_n 0, 1) := by decide +kernel
theorem dX9_sayNode_41 : decode cX9_sayNode 41 = .ok (.bipush 40, 2) := by decide +kernel
theorem dX9_sayNode_43 : decode cX9_sayNode 43 = .ok (.invokevirtual 210, 3) := by decide +kernel
theorem dX9_sayNode_46 : decode cX9_sayNode 46 = .ok (.iload_n 3, 1) := by decide +kernel
theorem dX9_sayNode_47 : decode cX9_sayNode 47 = .ok (.bipush 16, 2) := by decide +kernel
theorem dX9_sayNode_49 : decode cX9_sayNode 49 = .ok (.if_icmp .ge 17, 3) := by decide +kernel
theorem dX9_sayNode_52 : decode cX9_sayNode 52 = .ok (.aload_n 0, 1) := by decide +kernel
theorem dX9_sayNode_53 : decode cX9_sayNode 53 = .ok (.bipush 99, 2) := by decide +kernel
theorem dX9_sayNode_55 : decode cX9_sayNode 55 = .ok (.invokevirtual 210, 3) := by decide +kernel
theorem dX9_sayNode_58 : decode cX9_sayNode 58 = .ok (.aload_n 0, 1) := by decide +kernel
theorem dX9_sayNode_59 : decode cX9_sayNode 59 = .ok (.iload_n 3, 1) := by decide +kernel
theorem dX9_sayNode_60 : decode cX9_sayNode 60 = .ok (.invokevirtual 214, 3) := by decide +kernel
theorem dX9_sayNode_63 : decode cX9_sayNode 63 = .ok (.goto 91, 3) := by decide +kernel
theorem dX9_sayNode_66 : decode cX9_sayNode 66 = .ok (.iload_n 3, 1) := by decide +kernel
theorem dX9_sayNode_67 : decode cX9_sayNode 67 = .ok (.bipush 16, 2) := by decide +kernel
theorem dX9_sayNode_69 : decode cX9_sayNode 69 = .ok (.if_icmp .ne 24, 3) := by decide +kernel
theorem dX9_sayNode_72 : decode cX9_sayNode 72 = .ok (.aload_n 0, 1) := by decide +kernel
theorem dX9_sayNode_73 : decode cX9_sayNode 73 = .ok (.ldc2_w 217, 3) := by decide +kernel
theorem dX9_sayNode_76 : decode cX9_sayNode 76 = .ok (.invokevirtual 219, 3) := by decide +kernel
theorem dX9_sayNode_79 : decode cX9_sayNode 79 = .ok (.aload_n 0, 1) := by decide +kernel
theorem dX9_sayNode_80 : decode cX9_sayNode 80 = .ok (.aload_n 0, 1) := by decide +kernel
theorem dX9_sayNode_81 : decode cX9_sayNode 81 = .ok (.getfield 23, 3) := by decide +kernel
theorem dX9_sayNode_84 : decode cX9_sayNode 84 = .ok (.iload_n 1, 1) := by decide +kernel
theorem dX9_sayNode_85 : decode cX9_sayNode 85 = .ok (.iaload, 1) := by decide +kernel
theorem dX9_sayNode_86 : decode cX9_sayNode 86 = .ok (.iconst 1, 1) := by decide +kernel
theorem dX9_sayNode_87 : decode cX9_sayNode 87 = .ok (.invokevirtual 223, 3) := by decide +kernel
theorem dX9_sayNode_90 : decode cX9_sayNode 90 = .ok (.goto 64, 3) := by decide +kernel
theorem dX9_sayNode_93 : decode cX9_sayNode 93 = .ok (.aload_n 0, 1) := by decide +kernel
theorem dX9_sayNode_94 : decode cX9_sayNode 94 = .ok (.aload_n 0, 1) := by decide +kernel
theorem dX9_sayNode_95 : decode cX9_sayNode 95 = .ok (.getfield 23, 3) := by decide +kernel
theorem dX9_sayNode_98 : decode cX9_sayNode 98 = .ok (.iload_n 1, 1) := by decide +kernel
theorem dX9_sayNode_99 : decode cX9_sayNode 99 = .ok (.iaload, 1) := by decide +kernel
theorem dX9_sayNode_100 : decode cX9_sayNode 100 = .ok (.iload_n 3, 1) := by decide +kernel
theorem dX9_sayNode_101 : decode cX9_sayNode 101 = .ok (.bipush 17, 2) := by decide +kernel
theorem dX9_sayNode_103 : decode cX9_sayNode 103 = .ok (.if_icmp .ne 7, 3) := by decide +kernel
theorem dX9_sayNode_106 : decode cX9_sayNode 106 = .ok (.iconst 2, 1) := by decide +kernel
theorem dX9_sayNode_107 : decode cX9_sayNode 107 = .ok (.goto 4, 3) := by decide +kernel
theorem dX9_sayNode_110 : decode cX9_sayNode 110 = .ok (.iconst 0, 1) := by decide +kernel
theorem dX9_sayNode_111 : decode cX9_sayNode 111 = .ok (.invokevirtual 223, 3) := by decide +kernel
theorem dX9_sayNode_114 : decode cX9_sayNode 114 = .ok (.aload_n 0, 1) := by decide +kernel
theorem dX9_sayNode_115 : decode cX9_sayNode 115 = .ok (.iload_n 3, 1) := by decide +kernel
theorem dX9_sayNode_116 : decode cX9_sayNode 116 = .ok (.bipush 17, 2) := by decide +kernel
theorem dX9_sayNode_118 : decode cX9_sayNode 118 = .ok (.if_icmp .ne 9, 3) := by decide +kernel
theorem dX9_sayNode_121 : decode cX9_sayNode 121 = .ok (.ldc2_w 226, 3) := by decide +kernel
theorem dX9_sayNode_124 : decode cX9_sayNode 124 = .ok (.goto 6, 3) := by decide +kernel
theorem dX9_sayNode_127 : decode cX9_sayNode 127 = .ok (.ldc2_w 228, 3) := by decide +kernel
theorem dX9_sayNode_130 : decode cX9_sayNode 130 = .ok (.invokevirtual 219, 3) := by decide +kernel
theorem dX9_sayNode_133 : decode cX9_sayNode 133 = .ok (.aload_n 0, 1) := by decide +kernel
theorem dX9_sayNode_134 : decode cX9_sayNode 134 = .ok (.aload_n 0, 1) := by decide +kernel
theorem dX9_sayNode_135 : decode cX9_sayNode 135 = .ok (.getfield 26, 3) := by decide +kernel
theorem dX9_sayNode_138 : decode cX9_sayNode 138 = .ok (.iload_n 1, 1) := by decide +kernel
theorem dX9_sayNode_139 : decode cX9_sayNode 139 = .ok (.iaload, 1) := by decide +kernel
theorem dX9_sayNode_140 : decode cX9_sayNode 140 = .ok (.iload_n 3, 1) := by decide +kernel
theorem dX9_sayNode_141 : decode cX9_sayNode 141 = .ok (.bipush 17, 2) := by decide +kernel
theorem dX9_sayNode_143 : decode cX9_sayNode 143 = .ok (.if_icmp .ne 7, 3) := by decide +kernel
theorem dX9_sayNode_146 : decode cX9_sayNode 146 = .ok (.iconst 2, 1) := by decide +kernel
theorem dX9_sayNode_147 : decode cX9_sayNode 147 = .ok (.goto 4, 3) := by decide +kernel
theorem dX9_sayNode_150 : decode cX9_sayNode 150 = .ok (.iconst 0, 1) := by decide +kernel
theorem dX9_sayNode_151 : decode cX9_sayNode 151 = .ok (.invokevirtual 223, 3) := by decide +kernel
theorem dX9_sayNode_154 : decode cX9_sayNode 154 = .ok (.iload 4, 2) := by decide +kernel
theorem dX9_sayNode_156 : decode cX9_sayNode 156 = .ok (.ifCond .eq 9, 3) := by decide +kernel
theorem dX9_sayNode_159 : decode cX9_sayNode 159 = .ok (.aload_n 0, 1) := by decide +kernel
theorem dX9_sayNode_160 : decode cX9_sayNode 160 = .ok (.bipush 41, 2) := by decide +kernel
theorem dX9_sayNode_162 : decode cX9_sayNode 162 = .ok (.invokevirtual 210, 3) := by decide +kernel
theorem dX9_sayNode_165 : decode cX9_sayNode 165 = .ok (.return_, 1) := by decide +kernel
set_option maxRecDepth 20000 in
theorem ggX9_write_X9_say8 : GoodIn wsX9_write wsX9_say8 := goodIn_q _ [(19, 5), (18, 1), (24, 1), (1, 1), (14, 1), (25, 5), (44, 32)] (by decide +kernel) (by decide +kernel)
set_option maxRecDepth 20000 in
theorem gX9_write_X9_say8 : GoodIn wsX9_write (wsV RX9 219 RX9 yX9_say8 wsX9_say8) := goodIn_app (goodIn_of _ (by decide +kernel)) ggX9_write_X9_say8
set_option maxRecDepth 20000 in
theorem ggX9_write_X9_sayNumber : GoodIn wsX9_write wsX9_sayNumber := goodIn_q _ [(33, 1), (21, 3), (18, 1), (24, 1), (1, 1), (14, 1), (25, 5), (44, 32)] (by decide +kernel) (by decide +kernel)
set_option maxRecDepth 20000 in
theorem gX9_write_X9_sayNumber : GoodIn wsX9_write (wsV RX9 214 RX9 yX9_sayNumber wsX9_sayNumber) := goodIn_app (goodIn_of _ (by decide +kernel)) ggX9_write_X9_sayNumber
set_option maxRecDepth 20000 in
theorem ggX9_write_X9_sayNode : GoodIn wsX9_write wsX9_sayNode := goodIn_q _ [(37, 7), (21, 3), (18, 1), (24, 1), (1, 1), (14, 1), (25, 9), (15, 3), (19, 2), (34, 3), (44, 32)] (by decide +kernel) (by decide +kernel)
set_option maxRecDepth 20000 in
theorem gX9_write_X9_sayNode : GoodIn wsX9_write (wsV RX9 223 RX9 yX9_sayNode wsX9_sayNode) := goodIn_app (goodIn_of _ (by decide +kernel)) ggX9_write_X9_sayNode
set_option maxRecDepth 20000 in
theorem ggX9_write_X9_say : GoodIn wsX9_write wsX9_say := goodIn_q _ [(24, 1), (1, 1), (14, 1), (25, 5), (44, 32)] (by decide +kernel) (by decide +kernel)
set_option maxRecDepth 20000 in
theorem gX9_write_X9_say : GoodIn wsX9_write (wsV RX9 210 RX9 yX9_say wsX9_say) := goodIn_app (goodIn_of _ (by decide +kernel)) ggX9_write_X9_say
theorem dX9_write_0 : decode cX9_write 0 = .ok (.aload_n 0, 1) := by decide +kernel
theorem dX9_write_1 : decode cX9_write 1 = .ok (.iconst 0, 1) := by decide +kernel
theorem dX9_write_2 : decode cX9_write 2 = .ok (.putfield 205, 3) := by decide +kernel
theorem dX9_write_5 : decode cX9_write 5 = .ok (.iconst 0, 1) := by decide +kernel
theorem dX9_write_6 : decode cX9_write 6 = .ok (.istore_n 2, 1) := by decide +kernel
theorem dX9_write_7 : decode cX9_write 7 = .ok (.iload_n 2, 1) := by decide +kernel
theorem dX9_write_8 : decode cX9_write 8 = .ok (.aload_n 0, 1) := by decide +kernel
theorem dX9_write_9 : decode cX9_write 9 = .ok (.getfield 149, 3) := by decide +kernel
theorem dX9_write_12 : decode cX9_write 12 = .ok (.if_icmp .ge 147, 3) := by decide +kernel
theorem dX9_write_15 : decode cX9_write 15 = .ok (.bipush 40, 2) := by decide +kernel
theorem dX9_write_17 : decode cX9_write 17 = .ok (.aload_n 0, 1) := by decide +kernel
theorem dX9_write_18 : decode cX9_write 18 = .ok (.getfield 101, 3) := by decide +kernel
theorem dX9_write_21 : decode cX9_write 21 = .ok (.imul, 1) := by decide +kernel
theorem dX9_write_22 : decode cX9_write 22 = .ok (.iload_n 2, 1) := by decide +kernel
theorem dX9_write_23 : decode cX9_write 23 = .ok (.iadd, 1) := by decide +kernel
theorem dX9_write_24 : decode cX9_write 24 = .ok (.istore_n 3, 1) := by decide +kernel
theorem dX9_write_25 : decode cX9_write 25 = .ok (.aload_n 0, 1) := by decide +kernel
theorem dX9_write_26 : decode cX9_write 26 = .ok (.ldc2_w 230, 3) := by decide +kernel
theorem dX9_write_29 : decode cX9_write 29 = .ok (.invokevirtual 219, 3) := by decide +kernel
theorem dX9_write_32 : decode cX9_write 32 = .ok (.iconst 0, 1) := by decide +kernel
theorem dX9_write_33 : decode cX9_write 33 = .ok (.istore 4, 2) := by decide +kernel
theorem dX9_write_35 : decode cX9_write 35 = .ok (.iload 4, 2) := by decide +kernel
theorem dX9_write_37 : decode cX9_write 37 = .ok (.aload_n 0, 1) := by decide +kernel
theorem dX9_write_38 : decode cX9_write 38 = .ok (.getfield 32, 3) := by decide +kernel
theorem dX9_write_41 : decode cX9_write 41 = .ok (.iload_n 3, 1) := by decide +kernel
theorem dX9_write_42 : decode cX9_write 42 = .ok (.iaload, 1) := by decide +kernel
theorem dX9_write_43 : decode cX9_write 43 = .ok (.if_icmp .ge 32, 3) := by decide +kernel
theorem dX9_write_46 : decode cX9_write 46 = .ok (.aload_n 0, 1) := by decide +kernel
theorem dX9_write_47 : decode cX9_write 47 = .ok (.ldc2_w 232, 3) := by decide +kernel
theorem dX9_write_50 : decode cX9_write 50 = .ok (.invokevirtual 219, 3) := by decide +kernel
theorem dX9_write_53 : decode cX9_write 53 = .ok (.aload_n 0, 1) := by decide +kernel
theorem dX9_write_54 : decode cX9_write 54 = .ok (.aload_n 0, 1) := by decide +kernel
theorem dX9_write_55 : decode cX9_write 55 = .ok (.getfield 35, 3) := by decide +kernel
theorem dX9_write_58 : decode cX9_write 58 = .ok (.bipush 8, 2) := by decide +kernel
theorem dX9_write_60 : decode cX9_write 60 = .ok (.iload_n 3, 1) := by decide +kernel
theorem dX9_write_61 : decode cX9_write 61 = .ok (.imul, 1) := by decide +kernel
theorem dX9_write_62 : decode cX9_write 62 = .ok (.iload 4, 2) := by decide +kernel
theorem dX9_write_64 : decode cX9_write 64 = .ok (.iadd, 1) := by decide +kernel
theorem dX9_write_65 : decode cX9_write 65 = .ok (.iaload, 1) := by decide +kernel
theorem dX9_write_66 : decode cX9_write 66 = .ok (.invokevirtual 214, 3) := by decide +kernel
theorem dX9_write_69 : decode cX9_write 69 = .ok (.iinc 4 1, 3) := by decide +kernel
theorem dX9_write_72 : decode cX9_write 72 = .ok (.goto (-37), 3) := by decide +kernel
theorem dX9_write_75 : decode cX9_write 75 = .ok (.aload_n 0, 1) := by decide +kernel
theorem dX9_write_76 : decode cX9_write 76 = .ok (.ldc2_w 234, 3) := by decide +kernel
theorem dX9_write_79 : decode cX9_write 79 = .ok (.invokevirtual 219, 3) := by decide +kernel
theorem dX9_write_82 : decode cX9_write 82 = .ok (.aload_n 0, 1) := by decide +kernel
theorem dX9_write_83 : decode cX9_write 83 = .ok (.aload_n 0, 1) := by decide +kernel
theorem dX9_write_84 : decode cX9_write 84 = .ok (.getfield 29, 3) := by decide +kernel
theorem dX9_write_87 : decode cX9_write 87 = .ok (.iload_n 3, 1) := by decide +kernel
theorem dX9_write_88 : decode cX9_write 88 = .ok (.iaload, 1) := by decide +kernel
theorem dX9_write_89 : decode cX9_write 89 = .ok (.iconst 0, 1) := by decide +kernel
theorem dX9_write_90 : decode cX9_write 90 = .ok (.invokevirtual 223, 3) := by decide +kernel
theorem dX9_write_93 : decode cX9_write 93 = .ok (.aload_n 0, 1) := by decide +kernel
theorem dX9_write_94 : decode cX9_write 94 = .ok (.getfield 38, 3) := by decide +kernel
theorem dX9_write_97 : decode cX9_write 97 = .ok (.iload_n 3, 1) := by decide +kernel
theorem dX9_write_98 : decode cX9_write 98 = .ok (.iaload, 1) := by decide +kernel
theorem dX9_write_99 : decode cX9_write 99 = .ok (.ifCond .le 20, 3) := by decide +kernel
theorem dX9_write_102 : decode cX9_write 102 = .ok (.aload_n 0, 1) := by decide +kernel
theorem dX9_write_103 : decode cX9_write 103 = .ok (.ldc2_w 236, 3) := by decide +kernel
theorem dX9_write_106 : decode cX9_write 106 = .ok (.invokevirtual 219, 3) := by decide +kernel
theorem dX9_write_109 : decode cX9_write 109 = .ok (.aload_n 0, 1) := by decide +kernel
theorem dX9_write_110 : decode cX9_write 110 = .ok (.aload_n 0, 1) := by decide +kernel
theorem dX9_write_111 : decode cX9_write 111 = .ok (.getfield 38, 3) := by decide +kernel
theorem dX9_write_114 : decode cX9_write 114 = .ok (.iload_n 3, 1) := by decide +kernel
theorem dX9_write_115 : decode cX9_write 115 = .ok (.iaload, 1) := by decide +kernel
theorem dX9_write_116 : decode cX9_write 116 = .ok (.invokevirtual 214, 3) := by decide +kernel
theorem dX9_write_119 : decode cX9_write 119 = .ok (.aload_n 0, 1) := by decide +kernel
theorem dX9_write_120 : decode cX9_write 120 = .ok (.getfield 41, 3) := by decide +kernel
theorem dX9_write_123 : decode cX9_write 123 = .ok (.iload_n 3, 1) := by decide +kernel
theorem dX9_write_124 : decode cX9_write 124 = .ok (.baload, 1) := by decide +kernel
theorem dX9_write_125 : decode cX9_write 125 = .ok (.ifCond .eq 16, 3) := by decide +kernel
theorem dX9_write_128 : decode cX9_write 128 = .ok (.aload_n 0, 1) := by decide +kernel
theorem dX9_write_129 : decode cX9_write 129 = .ok (.ldc2_w 238, 3) := by decide +kernel
theorem dX9_write_132 : decode cX9_write 132 = .ok (.invokevirtual 219, 3) := by decide +kernel
theorem dX9_write_135 : decode cX9_write 135 = .ok (.aload_n 0, 1) := by decide +kernel
theorem dX9_write_136 : decode cX9_write 136 = .ok (.bipush 100, 2) := by decide +kernel
theorem dX9_write_138 : decode cX9_write 138 = .ok (.invokevirtual 210, 3) := by decide +kernel
theorem dX9_write_141 : decode cX9_write 141 = .ok (.aload_n 0, 1) := by decide +kernel
theorem dX9_write_142 : decode cX9_write 142 = .ok (.bipush 59, 2) := by decide +kernel
theorem dX9_write_144 : decode cX9_write 144 = .ok (.invokevirtual 210, 3) := by decide +kernel
theorem dX9_write_147 : decode cX9_write 147 = .ok (.aload_n 0, 1) := by decide +kernel
theorem dX9_write_148 : decode cX9_write 148 = .ok (.bipush 10, 2) := by decide +kernel
theorem dX9_write_150 : decode cX9_write 150 = .ok (.invokevirtual 210, 3) := by decide +kernel
theorem dX9_write_153 : decode cX9_write 153 = .ok (.iinc 2 1, 3) := by decide +kernel
theorem dX9_write_156 : decode cX9_write 156 = .ok (.goto (-149), 3) := by decide +kernel
theorem dX9_write_159 : decode cX9_write 159 = .ok (.iload_n 1, 1) := by decide +kernel
theorem dX9_write_160 : decode cX9_write 160 = .ok (.ifCond .lt 20, 3) := by decide +kernel
theorem dX9_write_163 : decode cX9_write 163 = .ok (.iload_n 1, 1) := by decide +kernel
theorem dX9_write_164 : decode cX9_write 164 = .ok (.aload_n 0, 1) := by decide +kernel
theorem dX9_write_165 : decode cX9_write 165 = .ok (.getfield 205, 3) := by decide +kernel
theorem dX9_write_168 : decode cX9_write 168 = .ok (.if_icmp .ge 12, 3) := by decide +kernel
theorem dX9_write_171 : decode cX9_write 171 = .ok (.aload_n 0, 1) := by decide +kernel
theorem dX9_write_172 : decode cX9_write 172 = .ok (.getfield 72, 3) := by decide +kernel
theorem dX9_write_175 : decode cX9_write 175 = .ok (.iload_n 1, 1) := by decide +kernel
theorem dX9_write_176 : decode cX9_write 176 = .ok (.baload, 1) := by decide +kernel
theorem dX9_write_177 : decode cX9_write 177 = .ok (.goto 4, 3) := by decide +kernel
theorem dX9_write_180 : decode cX9_write 180 = .ok (.iconst (-1), 1) := by decide +kernel
theorem dX9_write_181 : decode cX9_write 181 = .ok (.ireturn, 1) := by decide +kernel
theorem dX9_clear_0 : decode cX9_clear 0 = .ok (.aload_n 0, 1) := by decide +kernel
theorem dX9_clear_1 : decode cX9_clear 1 = .ok (.iconst 0, 1) := by decide +kernel
theorem dX9_clear_2 : decode cX9_clear 2 = .ok (.putfield 149, 3) := by decide +kernel
theorem dX9_clear_5 : decode cX9_clear 5 = .ok (.aload_n 0, 1) := by decide +kernel
theorem dX9_clear_6 : decode cX9_clear 6 = .ok (.iconst 0, 1) := by decide +kernel
theorem dX9_clear_7 : decode cX9_clear 7 = .ok (.putfield 75, 3) := by decide +kernel
theorem dX9_clear_10 : decode cX9_clear 10 = .ok (.aload_n 0, 1) := by decide +kernel
theorem dX9_clear_11 : decode cX9_clear 11 = .ok (.iconst 0, 1) := by decide +kernel
theorem dX9_clear_12 : decode cX9_clear 12 = .ok (.putfield 152, 3) := by decide +kernel
theorem dX9_clear_15 : decode cX9_clear 15 = .ok (.return_, 1) := by decide +kernel
theorem dJ9_max_7cf53_0 : decode cJ9_max_7cf53 0 = .ok (.iload_n 0, 1) := by decide +kernel
theorem dJ9_max_7cf53_1 : decode cJ9_max_7cf53 1 = .ok (.iload_n 1, 1) := by decide +kernel
theorem dJ9_max_7cf53_2 : decode cJ9_max_7cf53 2 = .ok (.if_icmp .lt 7, 3) := by decide +kernel
theorem dJ9_max_7cf53_5 : decode cJ9_max_7cf53 5 = .ok (.iload_n 0, 1) := by decide +kernel
theorem dJ9_max_7cf53_6 : decode cJ9_max_7cf53 6 = .ok (.goto 4, 3) := by decide +kernel
theorem dJ9_max_7cf53_9 : decode cJ9_max_7cf53 9 = .ok (.iload_n 1, 1) := by decide +kernel
theorem dJ9_max_7cf53_10 : decode cJ9_max_7cf53 10 = .ok (.ireturn, 1) := by decide +kernel
theorem dJ9_min_7cf53_0 : decode cJ9_min_7cf53 0 = .ok (.iload_n 0, 1) := by decide +kernel
theorem dJ9_min_7cf53_1 : decode cJ9_min_7cf53 1 = .ok (.iload_n 1, 1) := by decide +kernel
theorem dJ9_min_7cf53_2 : decode cJ9_min_7cf53 2 = .ok (.if_icmp .gt 7, 3) := by decide +kernel
theorem dJ9_min_7cf53_5 : decode cJ9_min_7cf53 5 = .ok (.iload_n 0, 1) := by decide +kernel
theorem dJ9_min_7cf53_6 : decode cJ9_min_7cf53 6 = .ok (.goto 4, 3) := by decide +kernel
theorem dJ9_min_7cf53_9 : decode cJ9_min_7cf53 9 = .ok (.iload_n 1, 1) := by decide +kernel
theorem dJ9_min_7cf53_10 : decode cJ9_min_7cf53 10 = .ok (.ireturn, 1) := by decide +kernel
set_option maxRecDepth 20000 in
theorem ggJ0_length_8abf5_J0_coder_7d493 : GoodIn wsJ0_length_8abf5 wsJ0_coder_7d493 := goodIn_q _ [(6, 3)] (by decide +kernel) (by decide +kernel)
set_option maxRecDepth 20000 in
theorem gJ0_length_8abf5_J0_coder_7d493 : GoodIn wsJ0_length_8abf5 (wsV RJ0 335 RJ0 yJ0_coder_7d493 wsJ0_coder_7d493) := goodIn_app (goodIn_of _ (by decide +kernel)) ggJ0_length_8abf5_J0_coder_7d493
theorem dJ0_length_8abf5_0 : decode cJ0_length_8abf5 0 = .ok (.aload_n 0, 1) := by decide +kernel
theorem dJ0_length_8abf5_1 : decode cJ0_length_8abf5 1 = .ok (.getfield 9, 3) := by decide +kernel
theorem dJ0_length_8abf5_4 : decode cJ0_length_8abf5 4 = .ok (.arraylength, 1) := by decide +kernel
theorem dJ0_length_8abf5_5 : decode cJ0_length_8abf5 5 = .ok (.aload_n 0, 1) := by decide +kernel
theorem dJ0_length_8abf5_6 : decode cJ0_length_8abf5 6 = .ok (.invokevirtual 335, 3) := by decide +kernel
theorem dJ0_length_8abf5_9 : decode cJ0_length_8abf5 9 = .ok (.ishr, 1) := by decide +kernel
theorem dJ0_length_8abf5_10 : decode cJ0_length_8abf5 10 = .ok (.ireturn, 1) := by decide +kernel
set_option maxRecDepth 20000 in
theorem ggJ0_charAt_5068e_J0_isLatin1_aae02 : GoodIn wsJ0_charAt_5068e wsJ0_isLatin1_aae02 := goodIn_q _ [(6, 3)] (by decide +kernel) (by decide +kernel)
set_option maxRecDepth 20000 in
theorem gJ0_charAt_5068e_J0_isLatin1_aae02 : GoodIn wsJ0_charAt_5068e (wsV RJ0 492 RJ0 yJ0_isLatin1_aae02 wsJ0_isLatin1_aae02) := goodIn_app (goodIn_of _ (by decide +kernel)) ggJ0_charAt_5068e_J0_isLatin1_aae02
set_option maxRecDepth 20000 in
theorem ggJ0_charAt_5068e_J1_charAt_3b067 : GoodIn wsJ0_charAt_5068e wsJ1_charAt_3b067 := goodIn_q _ [(12, 3), (5, 1), (15, 6)] (by decide +kernel) (by decide +kernel)
set_option maxRecDepth 20000 in
theorem gJ0_charAt_5068e_J1_charAt_3b067 : GoodIn wsJ0_charAt_5068e (va_wsS RJ0 495 yJ1_charAt_3b067 wsJ1_charAt_3b067) := goodIn_app (goodIn_of _ (by decide +kernel)) ggJ0_charAt_5068e_J1_charAt_3b067
set_option maxRecDepth 20000 in
theorem ggJ0_charAt_5068e_J2_charAt_3b067 : GoodIn wsJ0_charAt_5068e wsJ2_charAt_3b067 := goodIn_q _ [(24, 3), (23, 1), (27, 5), (14, 1), (5, 1), (15, 6), (32, 6)] (by decide +kernel) (by decide +kernel)
set_option maxRecDepth 20000 in
theorem gJ0_charAt_5068e_J2_charAt_3b067 : GoodIn wsJ0_charAt_5068e (va_wsS RJ0 498 yJ2_charAt_3b067 wsJ2_charAt_3b067) := goodIn_app (goodIn_of _ (by decide +kernel)) ggJ0_charAt_5068e_J2_charAt_3b067
theorem dJ0_charAt_5068e_0 : decode cJ0_charAt_5068e 0 = .ok (.aload_n 0, 1) := by decide +kernel
theorem dJ0_charAt_5068e_1 : decode cJ0_charAt_5068e 1 = .ok (.invokevirtual 492, 3) := by decide +kernel
theorem dJ0_charAt_5068e_4 : decode cJ0_charAt_5068e 4 = .ok (.ifCond .eq 12, 3) := by decide +kernel
theorem dJ0_charAt_5068e_7 : decode cJ0_charAt_5068e 7 = .ok (.aload_n 0, 1) := by decide +kernel
theorem dJ0_charAt_5068e_8 : decode cJ0_charAt_5068e 8 = .ok (.getfield 9, 3) := by decide +kernel
theorem dJ0_charAt_5068e_11 : decode cJ0_charAt_5068e 11 = .ok (.iload_n 1, 1) := by decide +kernel
theorem dJ0_charAt_5068e_12 : decode cJ0_charAt_5068e 12 = .ok (.invokestatic 495, 3) := by decide +kernel
theorem dJ0_charAt_5068e_15 : decode cJ0_charAt_5068e 15 = .ok (.ireturn, 1) := by decide +kernel
theorem dJ0_charAt_5068e_16 : decode cJ0_charAt_5068e 16 = .ok (.aload_n 0, 1) := by decide +kernel
theorem dJ0_charAt_5068e_17 : decode cJ0_charAt_5068e 17 = .ok (.getfield 9, 3) := by decide +kernel
theorem dJ0_charAt_5068e_20 : decode cJ0_charAt_5068e 20 = .ok (.iload_n 1, 1) := by decide +kernel
theorem dJ0_charAt_5068e_21 : decode cJ0_charAt_5068e 21 = .ok (.invokestatic 498, 3) := by decide +kernel
theorem dJ0_charAt_5068e_24 : decode cJ0_charAt_5068e 24 = .ok (.ireturn, 1) := by decide +kernel
theorem dJ0_coder_7d493_0 : decode cJ0_coder_7d493 0 = .ok (.getstatic 38, 3) := by decide +kernel
theorem dJ0_coder_7d493_3 : decode cJ0_coder_7d493 3 = .ok (.ifCond .eq 10, 3) := by decide +kernel
theorem dJ0_coder_7d493_6 : decode cJ0_coder_7d493 6 = .ok (.aload_n 0, 1) := by decide +kernel
theorem dJ0_coder_7d493_7 : decode cJ0_coder_7d493 7 = .ok (.getfield 15, 3) := by decide +kernel
theorem dJ0_coder_7d493_10 : decode cJ0_coder_7d493 10 = .ok (.goto 4, 3) := by decide +kernel
theorem dJ0_coder_7d493_13 : decode cJ0_coder_7d493 13 = .ok (.iconst 1, 1) := by decide +kernel
theorem dJ0_coder_7d493_14 : decode cJ0_coder_7d493 14 = .ok (.ireturn, 1) := by decide +kernel
theorem dJ0_isLatin1_aae02_0 : decode cJ0_isLatin1_aae02 0 = .ok (.getstatic 38, 3) := by decide +kernel
theorem dJ0_isLatin1_aae02_3 : decode cJ0_isLatin1_aae02 3 = .ok (.ifCond .eq 14, 3) := by decide +kernel
theorem dJ0_isLatin1_aae02_6 : decode cJ0_isLatin1_aae02 6 = .ok (.aload_n 0, 1) := by decide +kernel
theorem dJ0_isLatin1_aae02_7 : decode cJ0_isLatin1_aae02 7 = .ok (.getfield 15, 3) := by decide +kernel
theorem dJ0_isLatin1_aae02_10 : decode cJ0_isLatin1_aae02 10 = .ok (.ifCond .ne 7, 3) := by decide +kernel
theorem dJ0_isLatin1_aae02_13 : decode cJ0_isLatin1_aae02 13 = .ok (.iconst 1, 1) := by decide +kernel
theorem dJ0_isLatin1_aae02_14 : decode cJ0_isLatin1_aae02 14 = .ok (.goto 4, 3) := by decide +kernel
theorem dJ0_isLatin1_aae02_17 : decode cJ0_isLatin1_aae02 17 = .ok (.iconst 0, 1) := by decide +kernel
theorem dJ0_isLatin1_aae02_18 : decode cJ0_isLatin1_aae02 18 = .ok (.ireturn, 1) := by decide +kernel
set_option maxRecDepth 20000 in
theorem ggJ0_checkIndex_df160_J3_checkIndex_8e157 : GoodIn wsJ0_checkIndex_df160 wsJ3_checkIndex_8e157 := goodIn_q _ [(5, 1)] (by decide +kernel) (by decide +kernel)
set_option maxRecDepth 20000 in
theorem gJ0_checkIndex_df160_J3_checkIndex_8e157 : GoodIn wsJ0_checkIndex_df160 (va_wsS RJ0 1059 yJ3_checkIndex_8e157 wsJ3_checkIndex_8e157) := goodIn_app (goodIn_of _ (by decide +kernel)) ggJ0_checkIndex_df160_J3_checkIndex_8e157
theorem dJ0_checkIndex_df160_0 : decode cJ0_checkIndex_df160 0 = .ok (.iload_n 0, 1) := by decide +kernel
theorem dJ0_checkIndex_df160_1 : decode cJ0_checkIndex_df160 1 = .ok (.iload_n 1, 1) := by decide +kernel
theorem dJ0_checkIndex_df160_2 : decode cJ0_checkIndex_df160 2 = .ok (.getstatic 1053, 3) := by decide +kernel
theorem dJ0_checkIndex_df160_5 : decode cJ0_checkIndex_df160 5 = .ok (.invokestatic 1059, 3) := by decide +kernel
theorem dJ0_checkIndex_df160_8 : decode cJ0_checkIndex_df160 8 = .ok (.pop, 1) := by decide +kernel
theorem dJ0_checkIndex_df160_9 : decode cJ0_checkIndex_df160 9 = .ok (.return_, 1) := by decide +kernel
set_option maxRecDepth 20000 in
theorem ggJ1_charAt_3b067_J0_checkIndex_df160 : GoodIn wsJ1_charAt_3b067 wsJ0_checkIndex_df160 := goodIn_q _ [(4, 6)] (by decide +kernel) (by decide +kernel)
set_option maxRecDepth 20000 in
theorem gJ1_charAt_3b067_J0_checkIndex_df160 : GoodIn wsJ1_charAt_3b067 (va_wsS RJ1 9 yJ0_checkIndex_df160 wsJ0_checkIndex_df160) := goodIn_app (goodIn_of _ (by decide +kernel)) ggJ1_charAt_3b067_J0_checkIndex_df160
theorem dJ1_charAt_3b067_0 : decode cJ1_charAt_3b067 0 = .ok (.iload_n 1, 1) := by decide +kernel
theorem dJ1_charAt_3b067_1 : decode cJ1_charAt_3b067 1 = .ok (.aload_n 0, 1) := by decide +kernel
theorem dJ1_charAt_3b067_2 : decode cJ1_charAt_3b067 2 = .ok (.arraylength, 1) := by decide +kernel
theorem dJ1_charAt_3b067_3 : decode cJ1_charAt_3b067 3 = .ok (.invokestatic 9, 3) := by decide +kernel
theorem dJ1_charAt_3b067_6 : decode cJ1_charAt_3b067 6 = .ok (.aload_n 0, 1) := by decide +kernel
theorem dJ1_charAt_3b067_7 : decode cJ1_charAt_3b067 7 = .ok (.iload_n 1, 1) := by decide +kernel
theorem dJ1_charAt_3b067_8 : decode cJ1_charAt_3b067 8 = .ok (.baload, 1) := by decide +kernel
theorem dJ1_charAt_3b067_9 : decode cJ1_charAt_3b067 9 = .ok (.sipush 255, 3) := by decide +kernel
theorem dJ1_charAt_3b067_12 : decode cJ1_charAt_3b067 12 = .ok (.iand, 1) := by decide +kernel
theorem dJ1_charAt_3b067_13 : decode cJ1_charAt_3b067 13 = .ok (.i2c, 1) := by decide +kernel
theorem dJ1_charAt_3b067_14 : decode cJ1_charAt_3b067 14 = .ok (.ireturn, 1) := by decide +kernel
set_option maxRecDepth 20000 in
theorem ggJ2_getChar_3b067_J2_length_9d52b : GoodIn wsJ2_getChar_3b067 wsJ2_length_9d52b := goodIn_q _ [(7, 1)] (by decide +kernel) (by decide +kernel)
set_option maxRecDepth 20000 in
theorem gJ2_getChar_3b067_J2_length_9d52b : GoodIn wsJ2_getChar_3b067 (va_wsS RJ2 48 yJ2_length_9d52b wsJ2_length_9d52b) := goodIn_app (goodIn_of _ (by decide +kernel)) ggJ2_getChar_3b067_J2_length_9d52b
theorem dJ2_getChar_3b067_0 : decode cJ2_getChar_3b067 0 = .ok (.getstatic 44, 3) := by decide +kernel
theorem dJ2_getChar_3b067_3 : decode cJ2_getChar_3b067 3 = .ok (.ifCond .ne 25, 3) := by decide +kernel
theorem dJ2_getChar_3b067_6 : decode cJ2_getChar_3b067 6 = .ok (.iload_n 1, 1) := by decide +kernel
theorem dJ2_getChar_3b067_7 : decode cJ2_getChar_3b067 7 = .ok (.ifCond .lt 11, 3) := by decide +kernel
theorem dJ2_getChar_3b067_10 : decode cJ2_getChar_3b067 10 = .ok (.iload_n 1, 1) := by decide +kernel
theorem dJ2_getChar_3b067_11 : decode cJ2_getChar_3b067 11 = .ok (.aload_n 0, 1) := by decide +kernel
theorem dJ2_getChar_3b067_12 : decode cJ2_getChar_3b067 12 = .ok (.invokestatic 48, 3) := by decide +kernel
theorem dJ2_getChar_3b067_15 : decode cJ2_getChar_3b067 15 = .ok (.if_icmp .lt 13, 3) := by decide +kernel
theorem dJ2_getChar_3b067_18 : decode cJ2_getChar_3b067 18 = .ok (.new 52, 3) := by decide +kernel
theorem dJ2_getChar_3b067_21 : decode cJ2_getChar_3b067 21 = .ok (.dup, 1) := by decide +kernel
theorem dJ2_getChar_3b067_22 : decode cJ2_getChar_3b067 22 = .ok (.ldc 54, 2) := by decide +kernel
theorem dJ2_getChar_3b067_24 : decode cJ2_getChar_3b067 24 = .ok (.invokespecial 56, 3) := by decide +kernel
theorem dJ2_getChar_3b067_27 : decode cJ2_getChar_3b067 27 = .ok (.athrow, 1) := by decide +kernel
theorem dJ2_getChar_3b067_28 : decode cJ2_getChar_3b067 28 = .ok (.iload_n 1, 1) := by decide +kernel
theorem dJ2_getChar_3b067_29 : decode cJ2_getChar_3b067 29 = .ok (.iconst 1, 1) := by decide +kernel
theorem dJ2_getChar_3b067_30 : decode cJ2_getChar_3b067 30 = .ok (.ishl, 1) := by decide +kernel
theorem dJ2_getChar_3b067_31 : decode cJ2_getChar_3b067 31 = .ok (.istore_n 1, 1) := by decide +kernel
theorem dJ2_getChar_3b067_32 : decode cJ2_getChar_3b067 32 = .ok (.aload_n 0, 1) := by decide +kernel
theorem dJ2_getChar_3b067_33 : decode cJ2_getChar_3b067 33 = .ok (.iload_n 1, 1) := by decide +kernel
theorem dJ2_getChar_3b067_34 : decode cJ2_getChar_3b067 34 = .ok (.iinc 1 1, 3) := by decide +kernel
theorem dJ2_getChar_3b067_37 : decode cJ2_getChar_3b067 37 = .ok (.baload, 1) := by decide +kernel
theorem dJ2_getChar_3b067_38 : decode cJ2_getChar_3b067 38 = .ok (.sipush 255, 3) := by decide +kernel
theorem dJ2_getChar_3b067_41 : decode cJ2_getChar_3b067 41 = .ok (.iand, 1) := by decide +kernel
theorem dJ2_getChar_3b067_42 : decode cJ2_getChar_3b067 42 = .ok (.getstatic 59, 3) := by decide +kernel
theorem dJ2_getChar_3b067_45 : decode cJ2_getChar_3b067 45 = .ok (.ishl, 1) := by decide +kernel
theorem dJ2_getChar_3b067_46 : decode cJ2_getChar_3b067 46 = .ok (.aload_n 0, 1) := by decide +kernel
theorem dJ2_getChar_3b067_47 : decode cJ2_getChar_3b067 47 = .ok (.iload_n 1, 1) := by decide +kernel
theorem dJ2_getChar_3b067_48 : decode cJ2_getChar_3b067 48 = .ok (.baload, 1) := by decide +kernel
theorem dJ2_getChar_3b067_49 : decode cJ2_getChar_3b067 49 = .ok (.sipush 255, 3) := by decide +kernel
theorem dJ2_getChar_3b067_52 : decode cJ2_getChar_3b067 52 = .ok (.iand, 1) := by decide +kernel
theorem dJ2_getChar_3b067_53 : decode cJ2_getChar_3b067 53 = .ok (.getstatic 63, 3) := by decide +kernel
theorem dJ2_getChar_3b067_56 : decode cJ2_getChar_3b067 56 = .ok (.ishl, 1) := by decide +kernel
theorem dJ2_getChar_3b067_57 : decode cJ2_getChar_3b067 57 = .ok (.ior, 1) := by decide +kernel
theorem dJ2_getChar_3b067_58 : decode cJ2_getChar_3b067 58 = .ok (.i2c, 1) := by decide +kernel
theorem dJ2_getChar_3b067_59 : decode cJ2_getChar_3b067 59 = .ok (.ireturn, 1) := by decide +kernel
theorem dJ2_length_9d52b_0 : decode cJ2_length_9d52b 0 = .ok (.aload_n 0, 1) := by decide +kernel
theorem dJ2_length_9d52b_1 : decode cJ2_length_9d52b 1 = .ok (.arraylength, 1) := by decide +kernel
theorem dJ2_length_9d52b_2 : decode cJ2_length_9d52b 2 = .ok (.iconst 1, 1) := by decide +kernel
theorem dJ2_length_9d52b_3 : decode cJ2_length_9d52b 3 = .ok (.ishr, 1) := by decide +kernel
theorem dJ2_length_9d52b_4 : decode cJ2_length_9d52b 4 = .ok (.ireturn, 1) := by decide +kernel
set_option maxRecDepth 20000 in
theorem ggJ2_charAt_3b067_J2_checkIndex_2214a : GoodIn wsJ2_charAt_3b067 wsJ2_checkIndex_2214a := goodIn_q _ [(4, 3), (3, 1), (7, 10)] (by decide +kernel) (by decide +kernel)
set_option maxRecDepth 20000 in
theorem gJ2_charAt_3b067_J2_checkIndex_2214a : GoodIn wsJ2_charAt_3b067 (va_wsS RJ2 67 yJ2_checkIndex_2214a wsJ2_checkIndex_2214a) := goodIn_app (goodIn_of _ (by decide +kernel)) ggJ2_charAt_3b067_J2_checkIndex_2214a
set_option maxRecDepth 20000 in
theorem ggJ2_charAt_3b067_J2_getChar_3b067 : GoodIn wsJ2_charAt_3b067 wsJ2_getChar_3b067 := goodIn_q _ [(19, 4), (5, 2), (3, 1), (7, 1)] (by decide +kernel) (by decide +kernel)
set_option maxRecDepth 20000 in
theorem gJ2_charAt_3b067_J2_getChar_3b067 : GoodIn wsJ2_charAt_3b067 (va_wsS RJ2 71 yJ2_getChar_3b067 wsJ2_getChar_3b067) := goodIn_app (goodIn_of _ (by decide +kernel)) ggJ2_charAt_3b067_J2_getChar_3b067
theorem dJ2_charAt_3b067_0 : decode cJ2_charAt_3b067 0 = .ok (.iload_n 1, 1) := by decide +kernel
theorem dJ2_charAt_3b067_1 : decode cJ2_charAt_3b067 1 = .ok (.aload_n 0, 1) := by decide +kernel
theorem dJ2_charAt_3b067_2 : decode cJ2_charAt_3b067 2 = .ok (.invokestatic 67, 3) := by decide +kernel
theorem dJ2_charAt_3b067_5 : decode cJ2_charAt_3b067 5 = .ok (.aload_n 0, 1) := by decide +kernel
theorem dJ2_charAt_3b067_6 : decode cJ2_charAt_3b067 6 = .ok (.iload_n 1, 1) := by decide +kernel
theorem dJ2_charAt_3b067_7 : decode cJ2_charAt_3b067 7 = .ok (.invokestatic 71, 3) := by decide +kernel
theorem dJ2_charAt_3b067_10 : decode cJ2_charAt_3b067 10 = .ok (.ireturn, 1) := by decide +kernel
set_option maxRecDepth 20000 in
theorem ggJ2_checkIndex_2214a_J2_length_9d52b : GoodIn wsJ2_checkIndex_2214a wsJ2_length_9d52b := goodIn_q _ [(4, 1)] (by decide +kernel) (by decide +kernel)
set_option maxRecDepth 20000 in
theorem gJ2_checkIndex_2214a_J2_length_9d52b : GoodIn wsJ2_checkIndex_2214a (va_wsS RJ2 48 yJ2_length_9d52b wsJ2_length_9d52b) := goodIn_app (goodIn_of _ (by decide +kernel)) ggJ2_checkIndex_2214a_J2_length_9d52b
set_option maxRecDepth 20000 in
theorem ggJ2_checkIndex_2214a_J0_checkIndex_df160 : GoodIn wsJ2_checkIndex_2214a wsJ0_checkIndex_df160 := goodIn_q _ [(8, 6)] (by decide +kernel) (by decide +kernel)
set_option maxRecDepth 20000 in
theorem gJ2_checkIndex_2214a_J0_checkIndex_df160 : GoodIn wsJ2_checkIndex_2214a (va_wsS RJ2 414 yJ0_checkIndex_df160 wsJ0_checkIndex_df160) := goodIn_app (goodIn_of _ (by decide +kernel)) ggJ2_checkIndex_2214a_J0_checkIndex_df160
theorem dJ2_checkIndex_2214a_0 : decode cJ2_checkIndex_2214a 0 = .ok (.iload_n 0, 1) := by decide +kernel
theorem dJ2_checkIndex_2214a_1 : decode cJ2_checkIndex_2214a 1 = .ok (.aload_n 1, 1) := by decide +kernel
theorem dJ2_checkIndex_2214a_2 : decode cJ2_checkIndex_2214a 2 = .ok (.invokestatic 48, 3) := by decide +kernel
theorem dJ2_checkIndex_2214a_5 : decode cJ2_checkIndex_2214a 5 = .ok (.invokestatic 414, 3) := by decide +kernel
theorem dJ2_checkIndex_2214a_8 : decode cJ2_checkIndex_2214a 8 = .ok (.return_, 1) := by decide +kernel
theorem dJxa1e45_init_da8c8_0 : decode cJxa1e45_init_da8c8 0 = .ok (.aload_n 0, 1) := by decide +kernel
theorem dJxa1e45_init_da8c8_1 : decode cJxa1e45_init_da8c8 1 = .ok (.invokespecial 1, 3) := by decide +kernel
theorem dJxa1e45_init_da8c8_4 : decode cJxa1e45_init_da8c8 4 = .ok (.return_, 1) := by decide +kernel
set_option maxRecDepth 20000 in
theorem ggJxc12de_init_da8c8_Jxa1e45_init_da8c8 : GoodIn wsJxc12de_init_da8c8 wsJxa1e45_init_da8c8 := goodIn_q _ [(5, 4)] (by decide +kernel) (by decide +kernel)
set_option maxRecDepth 20000 in
theorem gJxc12de_init_da8c8_Jxa1e45_init_da8c8 : GoodIn wsJxc12de_init_da8c8 (wsJxa1e45_init_da8c8) := ggJxc12de_init_da8c8_Jxa1e45_init_da8c8
theorem dJxc12de_init_da8c8_0 : decode cJxc12de_init_da8c8 0 = .ok (.aload_n 0, 1) := by decide +kernel
theorem dJxc12de_init_da8c8_1 : decode cJxc12de_init_da8c8 1 = .ok (.invokespecial 1, 3) := by decide +kernel
theorem dJxc12de_init_da8c8_4 : decode cJxc12de_init_da8c8 4 = .ok (.aload_n 0, 1) := by decide +kernel
theorem dJxc12de_init_da8c8_5 : decode cJxc12de_init_da8c8 5 = .ok (.iconst 0, 1) := by decide +kernel
theorem dJxc12de_init_da8c8_6 : decode cJxc12de_init_da8c8 6 = .ok (.putfield 7, 3) := by decide +kernel
theorem dJxc12de_init_da8c8_9 : decode cJxc12de_init_da8c8 9 = .ok (.return_, 1) := by decide +kernel
set_option maxRecDepth 20000 in
theorem ggJx4a65c_init_da8c8_Jxc12de_init_da8c8 : GoodIn wsJx4a65c_init_da8c8 wsJxc12de_init_da8c8 := goodIn_q _ [(6, 12)] (by decide +kernel) (by decide +kernel)
set_option maxRecDepth 20000 in
theorem gJx4a65c_init_da8c8_Jxc12de_init_da8c8 : GoodIn wsJx4a65c_init_da8c8 (wsJxc12de_init_da8c8) := ggJx4a65c_init_da8c8_Jxc12de_init_da8c8
theorem dJx4a65c_init_da8c8_0 : decode cJx4a65c_init_da8c8 0 = .ok (.aload_n 0, 1) := by decide +kernel
theorem dJx4a65c_init_da8c8_1 : decode cJx4a65c_init_da8c8 1 = .ok (.invokespecial 1, 3) := by decide +kernel
theorem dJx4a65c_init_da8c8_4 : decode cJx4a65c_init_da8c8 4 = .ok (.aload_n 0, 1) := by decide +kernel
theorem dJx4a65c_init_da8c8_5 : decode cJx4a65c_init_da8c8 5 = .ok (.getstatic 39, 3) := by decide +kernel
theorem dJx4a65c_init_da8c8_8 : decode cJx4a65c_init_da8c8 8 = .ok (.putfield 9, 3) := by decide +kernel
theorem dJx4a65c_init_da8c8_11 : decode cJx4a65c_init_da8c8 11 = .ok (.return_, 1) := by decide +kernel
set_option maxRecDepth 20000 in
theorem ggJx4a65c_grow_92f84_J8_newLength_cabcc : GoodIn wsJx4a65c_grow_92f84 wsJ8_newLength_cabcc := goodIn_q _ [(11, 2), (4, 3), (13, 3), (10, 1), (16, 1)] (by decide +kernel) (by decide +kernel)
set_option maxRecDepth 20000 in
theorem gJx4a65c_grow_92f84_J8_newLength_cabcc : GoodIn wsJx4a65c_grow_92f84 (va_wsS RJx4a65c 73 yJ8_newLength_cabcc wsJ8_newLength_cabcc) := goodIn_app (goodIn_of _ (by decide +kernel)) ggJx4a65c_grow_92f84_J8_newLength_cabcc
set_option maxRecDepth 20000 in
theorem ggJx4a65c_grow_92f84_J7_copyOf_1904c : GoodIn wsJx4a65c_grow_92f84 wsJ7_copyOf_1904c := goodIn_q _ [(20, 7), (19, 1), (27, 5), (5, 1), (32, 5)] (by decide +kernel) (by decide +kernel)
set_option maxRecDepth 20000 in
theorem gJx4a65c_grow_92f84_J7_copyOf_1904c : GoodIn wsJx4a65c_grow_92f84 (va_wsS RJx4a65c 66 yJ7_copyOf_1904c wsJ7_copyOf_1904c) := goodIn_app (goodIn_of _ (by decide +kernel)) ggJx4a65c_grow_92f84_J7_copyOf_1904c
theorem dJx4a65c_grow_92f84_0 : decode cJx4a65c_grow_92f84 0 = .ok (.aload_n 0, 1) := by decide +kernel
theorem dJx4a65c_grow_92f84_1 : decode cJx4a65c_grow_92f84 1 = .ok (.getfield 9, 3) := by decide +kernel
theorem dJx4a65c_grow_92f84_4 : decode cJx4a65c_grow_92f84 4 = .ok (.arraylength, 1) := by decide +kernel
theorem dJx4a65c_grow_92f84_5 : decode cJx4a65c_grow_92f84 5 = .ok (.istore_n 2, 1) := by decide +kernel
theorem dJx4a65c_grow_92f84_6 : decode cJx4a65c_grow_92f84 6 = .ok (.iload_n 2, 1) := by decide +kernel
theorem dJx4a65c_grow_92f84_7 : decode cJx4a65c_grow_92f84 7 = .ok (.ifCond .gt 13, 3) := by decide +kernel
theorem dJx4a65c_grow_92f84_10 : decode cJx4a65c_grow_92f84 10 = .ok (.aload_n 0, 1) := by decide +kernel
theorem dJx4a65c_grow_92f84_11 : decode cJx4a65c_grow_92f84 11 = .ok (.getfield 9, 3) := by decide +kernel
theorem dJx4a65c_grow_92f84_14 : decode cJx4a65c_grow_92f84 14 = .ok (.getstatic 39, 3) := by decide +kernel
theorem dJx4a65c_grow_92f84_17 : decode cJx4a65c_grow_92f84 17 = .ok (.if_acmp .eq 28, 3) := by decide +kernel
theorem dJx4a65c_grow_92f84_20 : decode cJx4a65c_grow_92f84 20 = .ok (.iload_n 2, 1) := by decide +kernel
theorem dJx4a65c_grow_92f84_21 : decode cJx4a65c_grow_92f84 21 = .ok (.iload_n 1, 1) := by decide +kernel
theorem dJx4a65c_grow_92f84_22 : decode cJx4a65c_grow_92f84 22 = .ok (.iload_n 2, 1) := by decide +kernel
theorem dJx4a65c_grow_92f84_23 : decode cJx4a65c_grow_92f84 23 = .ok (.isub, 1) := by decide +kernel
theorem dJx4a65c_grow_92f84_24 : decode cJx4a65c_grow_92f84 24 = .ok (.iload_n 2, 1) := by decide +kernel
theorem dJx4a65c_grow_92f84_25 : decode cJx4a65c_grow_92f84 25 = .ok (.iconst 1, 1) := by decide +kernel
theorem dJx4a65c_grow_92f84_26 : decode cJx4a65c_grow_92f84 26 = .ok (.ishr, 1) := by decide +kernel
theorem dJx4a65c_grow_92f84_27 : decode cJx4a65c_grow_92f84 27 = .ok (.invokestatic 73, 3) := by decide +kernel
theorem dJx4a65c_grow_92f84_30 : decode cJx4a65c_grow_92f84 30 = .ok (.istore_n 3, 1) := by decide +kernel
theorem dJx4a65c_grow_92f84_31 : decode cJx4a65c_grow_92f84 31 = .ok (.aload_n 0, 1) := by decide +kernel
theorem dJx4a65c_grow_92f84_32 : decode cJx4a65c_grow_92f84 32 = .ok (.aload_n 0, 1) := by decide +kernel
theorem dJx4a65c_grow_92f84_33 : decode cJx4a65c_grow_92f84 33 = .ok (.getfield 9, 3) := by decide +kernel
theorem dJx4a65c_grow_92f84_36 : decode cJx4a65c_grow_92f84 36 = .ok (.iload_n 3, 1) := by decide +kernel
theorem dJx4a65c_grow_92f84_37 : decode cJx4a65c_grow_92f84 37 = .ok (.invokestatic 66, 3) := by decide +kernel
theorem dJx4a65c_grow_92f84_40 : decode cJx4a65c_grow_92f84 40 = .ok (.dup_x1, 1) := by decide +kernel
theorem dJx4a65c_grow_92f84_41 : decode cJx4a65c_grow_92f84 41 = .ok (.putfield 9, 3) := by decide +kernel
theorem dJx4a65c_grow_92f84_44 : decode cJx4a65c_grow_92f84 44 = .ok (.areturn, 1) := by decide +kernel
theorem dJx4a65c_grow_92f84_45 : decode cJx4a65c_grow_92f84 45 = .ok (.aload_n 0, 1) := by decide +kernel
theorem dJx4a65c_grow_92f84_46 : decode cJx4a65c_grow_92f84 46 = .ok (.bipush 10, 2) := by decide +kernel
theorem dJx4a65c_grow_92f84_48 : decode cJx4a65c_grow_92f84 48 = .ok (.iload_n 1, 1) := by decide +kernel
theorem dJx4a65c_grow_92f84_49 : decode cJx4a65c_grow_92f84 49 = .ok (.invokestatic 79, 3) := by decide +kernel
theorem dJx4a65c_grow_92f84_52 : decode cJx4a65c_grow_92f84 52 = .ok (.anewarray 7, 3) := by decide +kernel
theorem dJx4a65c_grow_92f84_55 : decode cJx4a65c_grow_92f84 55 = .ok (.dup_x1, 1) := by decide +kernel
theorem dJx4a65c_grow_92f84_56 : decode cJx4a65c_grow_92f84 56 = .ok (.putfield 9, 3) := by decide +kernel
theorem dJx4a65c_grow_92f84_59 : decode cJx4a65c_grow_92f84 59 = .ok (.areturn, 1) := by decide +kernel
set_option maxRecDepth 20000 in
theorem ggJx4a65c_grow_d5877_Jx4a65c_grow_92f84 : GoodIn wsJx4a65c_grow_d5877 wsJx4a65c_grow_92f84 := goodIn_q _ [(6, 40)] (by decide +kernel) (by decide +kernel)
set_option maxRecDepth 20000 in
theorem gJx4a65c_grow_d5877_Jx4a65c_grow_92f84 : GoodIn wsJx4a65c_grow_d5877 (wsV RJx4a65c 69 RJx4a65c yJx4a65c_grow_92f84 wsJx4a65c_grow_92f84) := goodIn_app (goodIn_of _ (by decide +kernel)) ggJx4a65c_grow_d5877_Jx4a65c_grow_92f84
theorem dJx4a65c_grow_d5877_0 : decode cJx4a65c_grow_d5877 0 = .ok (.aload_n 0, 1) := by decide +kernel
theorem dJx4a65c_grow_d5877_1 : decode cJx4a65c_grow_d5877 1 = .ok (.aload_n 0, 1) := by decide +kernel
theorem dJx4a65c_grow_d5877_2 : decode cJx4a65c_grow_d5877 2 = .ok (.getfield 48, 3) := by decide +kernel
theorem dJx4a65c_grow_d5877_5 : decode cJx4a65c_grow_d5877 5 = .ok (.iconst 1, 1) := by decide +kernel
theorem dJx4a65c_grow_d5877_6 : decode cJx4a65c_grow_d5877 6 = .ok (.iadd, 1) := by decide +kernel
theorem dJx4a65c_grow_d5877_7 : decode cJx4a65c_grow_d5877 7 = .ok (.invokevirtual 69, 3) := by decide +kernel
theorem dJx4a65c_grow_d5877_10 : decode cJx4a65c_grow_d5877 10 = .ok (.areturn, 1) := by decide +kernel
theorem dJx4a65c_size_8abf5_0 : decode cJx4a65c_size_8abf5 0 = .ok (.aload_n 0, 1) := by decide +kernel
theorem dJx4a65c_size_8abf5_1 : decode cJx4a65c_size_8abf5 1 = .ok (.getfield 48, 3) := by decide +kernel
theorem dJx4a65c_size_8abf5_4 : decode cJx4a65c_size_8abf5 4 = .ok (.ireturn, 1) := by decide +kernel
theorem dJx4a65c_elementData_915e3_0 : decode cJx4a65c_elementData_915e3 0 = .ok (.aload_n 0, 1) := by decide +kernel
theorem dJx4a65c_elementData_915e3_1 : decode cJx4a65c_elementData_915e3 1 = .ok (.getfield 9, 3) := by decide +kernel
theorem dJx4a65c_elementData_915e3_4 : decode cJx4a65c_elementData_915e3 4 = .ok (.iload_n 1, 1) := by decide +kernel
theorem dJx4a65c_elementData_915e3_5 : decode cJx4a65c_elementData_915e3 5 = .ok (.aaload, 1) := by decide +kernel
theorem dJx4a65c_elementData_915e3_6 : decode cJx4a65c_elementData_915e3 6 = .ok (.areturn, 1) := by decide +kernel
set_option maxRecDepth 20000 in
theorem ggJx4a65c_get_915e3_J15_checkIndex_7cf53 : GoodIn wsJx4a65c_get_915e3 wsJ15_checkIndex_7cf53 := goodIn_q _ [(5, 5)] (by decide +kernel) (by decide +kernel)
set_option maxRecDepth 20000 in
theorem gJx4a65c_get_915e3_J15_checkIndex_7cf53 : GoodIn wsJx4a65c_get_915e3 (va_wsS RJx4a65c 118 yJ15_checkIndex_7cf53 wsJ15_checkIndex_7cf53) := goodIn_app (goodIn_of _ (by decide +kernel)) ggJx4a65c_get_915e3_J15_checkIndex_7cf53
set_option maxRecDepth 20000 in
theorem ggJx4a65c_get_915e3_Jx4a65c_elementData_915e3 : GoodIn wsJx4a65c_get_915e3 wsJx4a65c_elementData_915e3 := goodIn_q _ [(14, 5)] (by decide +kernel) (by decide +kernel)
set_option maxRecDepth 20000 in
theorem gJx4a65c_get_915e3_Jx4a65c_elementData_915e3 : GoodIn wsJx4a65c_get_915e3 (wsV RJx4a65c 123 RJx4a65c yJx4a65c_elementData_915e3 wsJx4a65c_elementData_915e3) := goodIn_app (goodIn_of _ (by decide +kernel)) ggJx4a65c_get_915e3_Jx4a65c_elementData_915e3
theorem dJx4a65c_get_915e3_0 : decode cJx4a65c_get_915e3 0 = .ok (.iload_n 1, 1) := by decide +kernel
theorem dJx4a65c_get_915e3_1 : decode cJx4a65c_get_915e3 1 = .ok (.aload_n 0, 1) := by decide +kernel
theorem dJx4a65c_get_915e3_2 : decode cJx4a65c_get_915e3 2 = .ok (.getfield 48, 3) := by decide +kernel
theorem dJx4a65c_get_915e3_5 : decode cJx4a65c_get_915e3 5 = .ok (.invokestatic 118, 3) := by decide +kernel
theorem dJx4a65c_get_915e3_8 : decode cJx4a65c_get_915e3 8 = .ok (.pop, 1) := by decide +kernel
theorem dJx4a65c_get_915e3_9 : decode cJx4a65c_get_915e3 9 = .ok (.aload_n 0, 1) := by decide +kernel
theorem dJx4a65c_get_915e3_10 : decode cJx4a65c_get_915e3 10 = .ok (.iload_n 1, 1) := by decide +kernel
theorem dJx4a65c_get_915e3_11 : decode cJx4a65c_get_915e3 11 = .ok (.invokevirtual 123, 3) := by decide +kernel
theorem dJx4a65c_get_915e3_14 : decode cJx4a65c_get_915e3 14 = .ok (.areturn, 1) := by decide +kernel
set_option maxRecDepth 20000 in
theorem ggJx4a65c_add_72be8_Jx4a65c_grow_d5877 : GoodIn wsJx4a65c_add_72be8 wsJx4a65c_grow_d5877 := goodIn_q _ [(6, 1), (1, 1), (7, 3), (5, 1), (10, 40)] (by decide +kernel) (by decide +kernel)
set_option maxRecDepth 20000 in
theorem gJx4a65c_add_72be8_Jx4a65c_grow_d5877 : GoodIn wsJx4a65c_add_72be8 (wsV RJx4a65c 129 RJx4a65c yJx4a65c_grow_d5877 wsJx4a65c_grow_d5877) := goodIn_app (goodIn_of _ (by decide +kernel)) ggJx4a65c_add_72be8_Jx4a65c_grow_d5877
theorem dJx4a65c_add_72be8_0 : decode cJx4a65c_add_72be8 0 = .ok (.iload_n 3, 1) := by decide +kernel
theorem dJx4a65c_add_72be8_1 : decode cJx4a65c_add_72be8 1 = .ok (.aload_n 2, 1) := by decide +kernel
theorem dJx4a65c_add_72be8_2 : decode cJx4a65c_add_72be8 2 = .ok (.arraylength, 1) := by decide +kernel
theorem dJx4a65c_add_72be8_3 : decode cJx4a65c_add_72be8 3 = .ok (.if_icmp .ne 8, 3) := by decide +kernel
theorem dJx4a65c_add_72be8_6 : decode cJx4a65c_add_72be8 6 = .ok (.aload_n 0, 1) := by decide +kernel
theorem dJx4a65c_add_72be8_7 : decode cJx4a65c_add_72be8 7 = .ok (.invokevirtual 129, 3) := by decide +kernel
theorem dJx4a65c_add_72be8_10 : decode cJx4a65c_add_72be8 10 = .ok (.astore_n 2, 1) := by decide +kernel
theorem dJx4a65c_add_72be8_11 : decode cJx4a65c_add_72be8 11 = .ok (.aload_n 2, 1) := by decide +kernel
theorem dJx4a65c_add_72be8_12 : decode cJx4a65c_add_72be8 12 = .ok (.iload_n 3, 1) := by decide +kernel
theorem dJx4a65c_add_72be8_13 : decode cJx4a65c_add_72be8 13 = .ok (.aload_n 1, 1) := by decide +kernel
theorem dJx4a65c_add_72be8_14 : decode cJx4a65c_add_72be8 14 = .ok (.aastore, 1) := by decide +kernel
theorem dJx4a65c_add_72be8_15 : decode cJx4a65c_add_72be8 15 = .ok (.aload_n 0, 1) := by decide +kernel
theorem dJx4a65c_add_72be8_16 : decode cJx4a65c_add_72be8 16 = .ok (.iload_n 3, 1) := by decide +kernel
theorem dJx4a65c_add_72be8_17 : decode cJx4a65c_add_72be8 17 = .ok (.iconst 1, 1) := by decide +kernel
theorem dJx4a65c_add_72be8_18 : decode cJx4a65c_add_72be8 18 = .ok (.iadd, 1) := by decide +kernel
theorem dJx4a65c_add_72be8_19 : decode cJx4a65c_add_72be8 19 = .ok (.putfield 48, 3) := by decide +kernel
theorem dJx4a65c_add_72be8_22 : decode cJx4a65c_add_72be8 22 = .ok (.return_, 1) := by decide +kernel
set_option maxRecDepth 20000 in
theorem ggJx4a65c_add_9ea2d_Jx4a65c_add_72be8 : GoodIn wsJx4a65c_add_9ea2d wsJx4a65c_add_72be8 := goodIn_q _ [(9, 1), (4, 1), (10, 3), (8, 1), (13, 5), (3, 1), (18, 38)] (by decide +kernel) (by decide +kernel)
set_option maxRecDepth 20000 in
theorem gJx4a65c_add_9ea2d_Jx4a65c_add_72be8 : GoodIn wsJx4a65c_add_9ea2d (wsV RJx4a65c 131 RJx4a65c yJx4a65c_add_72be8 wsJx4a65c_add_72be8) := goodIn_app (goodIn_of _ (by decide +kernel)) ggJx4a65c_add_9ea2d_Jx4a65c_add_72be8
theorem dJx4a65c_add_9ea2d_0 : decode cJx4a65c_add_9ea2d 0 = .ok (.aload_n 0, 1) := by decide +kernel
theorem dJx4a65c_add_9ea2d_1 : decode cJx4a65c_add_9ea2d 1 = .ok (.dup, 1) := by decide +kernel
theorem dJx4a65c_add_9ea2d_2 : decode cJx4a65c_add_9ea2d 2 = .ok (.getfield 63, 3) := by decide +kernel
theorem dJx4a65c_add_9ea2d_5 : decode cJx4a65c_add_9ea2d 5 = .ok (.iconst 1, 1) := by decide +kernel
theorem dJx4a65c_add_9ea2d_6 : decode cJx4a65c_add_9ea2d 6 = .ok (.iadd, 1) := by decide +kernel
theorem dJx4a65c_add_9ea2d_7 : decode cJx4a65c_add_9ea2d 7 = .ok (.putfield 63, 3) := by decide +kernel
theorem dJx4a65c_add_9ea2d_10 : decode cJx4a65c_add_9ea2d 10 = .ok (.aload_n 0, 1) := by decide +kernel
theorem dJx4a65c_add_9ea2d_11 : decode cJx4a65c_add_9ea2d 11 = .ok (.aload_n 1, 1) := by decide +kernel
theorem dJx4a65c_add_9ea2d_12 : decode cJx4a65c_add_9ea2d 12 = .ok (.aload_n 0, 1) := by decide +kernel
theorem dJx4a65c_add_9ea2d_13 : decode cJx4a65c_add_9ea2d 13 = .ok (.getfield 9, 3) := by decide +kernel
theorem dJx4a65c_add_9ea2d_16 : decode cJx4a65c_add_9ea2d 16 = .ok (.aload_n 0, 1) := by decide +kernel
theorem dJx4a65c_add_9ea2d_17 : decode cJx4a65c_add_9ea2d 17 = .ok (.getfield 48, 3) := by decide +kernel
theorem dJx4a65c_add_9ea2d_20 : decode cJx4a65c_add_9ea2d 20 = .ok (.invokevirtual 131, 3) := by decide +kernel
theorem dJx4a65c_add_9ea2d_23 : decode cJx4a65c_add_9ea2d 23 = .ok (.iconst 1, 1) := by decide +kernel
theorem dJx4a65c_add_9ea2d_24 : decode cJx4a65c_add_9ea2d 24 = .ok (.ireturn, 1) := by decide +kernel
theorem dJ7_fill_d0a16_0 : decode cJ7_fill_d0a16 0 = .ok (.iconst 0, 1) := by decide +kernel
theorem dJ7_fill_d0a16_1 : decode cJ7_fill_d0a16 1 = .ok (.istore_n 3, 1) := by decide +kernel
theorem dJ7_fill_d0a16_2 : decode cJ7_fill_d0a16 2 = .ok (.aload_n 0, 1) := by decide +kernel
theorem dJ7_fill_d0a16_3 : decode cJ7_fill_d0a16 3 = .ok (.arraylength, 1) := by decide +kernel
theorem dJ7_fill_d0a16_4 : decode cJ7_fill_d0a16 4 = .ok (.istore 4, 2) := by decide +kernel
theorem dJ7_fill_d0a16_6 : decode cJ7_fill_d0a16 6 = .ok (.iload_n 3, 1) := by decide +kernel
theorem dJ7_fill_d0a16_7 : decode cJ7_fill_d0a16 7 = .ok (.iload 4, 2) := by decide +kernel
theorem dJ7_fill_d0a16_9 : decode cJ7_fill_d0a16 9 = .ok (.if_icmp .ge 13, 3) := by decide +kernel
theorem dJ7_fill_d0a16_12 : decode cJ7_fill_d0a16 12 = .ok (.aload_n 0, 1) := by decide +kernel
theorem dJ7_fill_d0a16_13 : decode cJ7_fill_d0a16 13 = .ok (.iload_n 3, 1) := by decide +kernel
theorem dJ7_fill_d0a16_14 : decode cJ7_fill_d0a16 14 = .ok (.lload_n 1, 1) := by decide +kernel
theorem dJ7_fill_d0a16_15 : decode cJ7_fill_d0a16 15 = .ok (.lastore, 1) := by decide +kernel
theorem dJ7_fill_d0a16_16 : decode cJ7_fill_d0a16 16 = .ok (.iinc 3 1, 3) := by decide +kernel
theorem dJ7_fill_d0a16_19 : decode cJ7_fill_d0a16 19 = .ok (.goto (-13), 3) := by decide +kernel
theorem dJ7_fill_d0a16_22 : decode cJ7_fill_d0a16 22 = .ok (.return_, 1) := by decide +kernel
set_option maxRecDepth 20000 in
theorem ggJ7_copyOf_1904c_J7_copyOf_6403c : GoodIn wsJ7_copyOf_1904c wsJ7_copyOf_6403c := goodIn_q _ [(8, 11)] (by decide +kernel) (by decide +kernel)
set_option maxRecDepth 20000 in
theorem gJ7_copyOf_1904c_J7_copyOf_6403c : GoodIn wsJ7_copyOf_1904c (va_wsS RJ7 300 yJ7_copyOf_6403c wsJ7_copyOf_6403c) := goodIn_app (goodIn_of _ (by decide +kernel)) ggJ7_copyOf_1904c_J7_copyOf_6403c
theorem dJ7_copyOf_1904c_0 : decode cJ7_copyOf_1904c 0 = .ok (.aload_n 0, 1) := by decide +kernel
theorem dJ7_copyOf_1904c_1 : decode cJ7_copyOf_1904c 1 = .ok (.iload_n 1, 1) := by decide +kernel
theorem dJ7_copyOf_1904c_2 : decode cJ7_copyOf_1904c 2 = .ok (.aload_n 0, 1) := by decide +kernel
theorem dJ7_copyOf_1904c_3 : decode cJ7_copyOf_1904c 3 = .ok (.invokevirtual 86, 3) := by decide +kernel
theorem dJ7_copyOf_1904c_6 : decode cJ7_copyOf_1904c 6 = .ok (.invokestatic 300, 3) := by decide +kernel
theorem dJ7_copyOf_1904c_9 : decode cJ7_copyOf_1904c 9 = .ok (.areturn, 1) := by decide +kernel
theorem dJ7_copyOf_6403c_0 : decode cJ7_copyOf_6403c 0 = .ok (.aload_n 2, 1) := by decide +kernel
theorem dJ7_copyOf_6403c_1 : decode cJ7_copyOf_6403c 1 = .ok (.ldc 110, 2) := by decide +kernel
theorem dJ7_copyOf_6403c_3 : decode cJ7_copyOf_6403c 3 = .ok (.if_acmp .ne 10, 3) := by decide +kernel
theorem dJ7_copyOf_6403c_6 : decode cJ7_copyOf_6403c 6 = .ok (.iload_n 1, 1) := by decide +kernel
theorem dJ7_copyOf_6403c_7 : decode cJ7_copyOf_6403c 7 = .ok (.anewarray 2, 3) := by decide +kernel
theorem dJ7_copyOf_6403c_10 : decode cJ7_copyOf_6403c 10 = .ok (.goto 14, 3) := by decide +kernel
theorem dJ7_copyOf_6403c_13 : decode cJ7_copyOf_6403c 13 = .ok (.aload_n 2, 1) := by decide +kernel
theorem dJ7_copyOf_6403c_14 : decode cJ7_copyOf_6403c 14 = .ok (.invokevirtual 90, 3) := by decide +kernel
theorem dJ7_copyOf_6403c_17 : decode cJ7_copyOf_6403c 17 = .ok (.iload_n 1, 1) := by decide +kernel
theorem dJ7_copyOf_6403c_18 : decode cJ7_copyOf_6403c 18 = .ok (.invokestatic 95, 3) := by decide +kernel
theorem dJ7_copyOf_6403c_21 : decode cJ7_copyOf_6403c 21 = .ok (.checkcast 110, 3) := by decide +kernel
theorem dJ7_copyOf_6403c_24 : decode cJ7_copyOf_6403c 24 = .ok (.astore_n 3, 1) := by decide +kernel
theorem dJ7_copyOf_6403c_25 : decode cJ7_copyOf_6403c 25 = .ok (.aload_n 0, 1) := by decide +kernel
theorem dJ7_copyOf_6403c_26 : decode cJ7_copyOf_6403c 26 = .ok (.iconst 0, 1) := by decide +kernel
theorem dJ7_copyOf_6403c_27 : decode cJ7_copyOf_6403c 27 = .ok (.aload_n 3, 1) := by decide +kernel
theorem dJ7_copyOf_6403c_28 : decode cJ7_copyOf_6403c 28 = .ok (.iconst 0, 1) := by decide +kernel
theorem dJ7_copyOf_6403c_29 : decode cJ7_copyOf_6403c 29 = .ok (.aload_n 0, 1) := by decide +kernel
theorem dJ7_copyOf_6403c_30 : decode cJ7_copyOf_6403c 30 = .ok (.arraylength, 1) := by decide +kernel
theorem dJ7_copyOf_6403c_31 : decode cJ7_copyOf_6403c 31 = .ok (.iload_n 1, 1) := by decide +kernel
theorem dJ7_copyOf_6403c_32 : decode cJ7_copyOf_6403c 32 = .ok (.invokestatic 304, 3) := by decide +kernel
theorem dJ7_copyOf_6403c_35 : decode cJ7_copyOf_6403c 35 = .ok (.invokestatic 150, 3) := by decide +kernel
theorem dJ7_copyOf_6403c_38 : decode cJ7_copyOf_6403c 38 = .ok (.aload_n 3, 1) := by decide +kernel
theorem dJ7_copyOf_6403c_39 : decode cJ7_copyOf_6403c 39 = .ok (.areturn, 1) := by decide +kernel
theorem dJ7_copyOf_9075b_0 : decode cJ7_copyOf_9075b 0 = .ok (.iload_n 1, 1) := by decide +kernel
theorem dJ7_copyOf_9075b_1 : decode cJ7_copyOf_9075b 1 = .ok (.aload_n 0, 1) := by decide +kernel
theorem dJ7_copyOf_9075b_2 : decode cJ7_copyOf_9075b 2 = .ok (.arraylength, 1) := by decide +kernel
theorem dJ7_copyOf_9075b_3 : decode cJ7_copyOf_9075b 3 = .ok (.if_icmp .ne 11, 3) := by decide +kernel
theorem dJ7_copyOf_9075b_6 : decode cJ7_copyOf_9075b 6 = .ok (.aload_n 0, 1) := by decide +kernel
theorem dJ7_copyOf_9075b_7 : decode cJ7_copyOf_9075b 7 = .ok (.invokevirtual 310, 3) := by decide +kernel
theorem dJ7_copyOf_9075b_10 : decode cJ7_copyOf_9075b 10 = .ok (.checkcast 311, 3) := by decide +kernel
theorem dJ7_copyOf_9075b_13 : decode cJ7_copyOf_9075b 13 = .ok (.areturn, 1) := by decide +kernel
theorem dJ7_copyOf_9075b_14 : decode cJ7_copyOf_9075b 14 = .ok (.iload_n 1, 1) := by decide +kernel
theorem dJ7_copyOf_9075b_15 : decode cJ7_copyOf_9075b 15 = .ok (.newarray .byte, 2) := by decide +kernel
theorem dJ7_copyOf_9075b_17 : decode cJ7_copyOf_9075b 17 = .ok (.astore_n 2, 1) := by decide +kernel
theorem dJ7_copyOf_9075b_18 : decode cJ7_copyOf_9075b 18 = .ok (.aload_n 0, 1) := by decide +kernel
theorem dJ7_copyOf_9075b_19 : decode cJ7_copyOf_9075b 19 = .ok (.iconst 0, 1) := by decide +kernel
theorem dJ7_copyOf_9075b_20 : decode cJ7_copyOf_9075b 20 = .ok (.aload_n 2, 1) := by decide +kernel
theorem dJ7_copyOf_9075b_21 : decode cJ7_copyOf_9075b 21 = .ok (.iconst 0, 1) := by decide +kernel
theorem dJ7_copyOf_9075b_22 : decode cJ7_copyOf_9075b 22 = .ok (.aload_n 0, 1) := by decide +kernel
theorem dJ7_copyOf_9075b_23 : decode cJ7_copyOf_9075b 23 = .ok (.arraylength, 1) := by decide +kernel
theorem dJ7_copyOf_9075b_24 : decode cJ7_copyOf_9075b 24 = .ok (.iload_n 1, 1) := by decide +kernel
theorem dJ7_copyOf_9075b_25 : decode cJ7_copyOf_9075b 25 = .ok (.invokestatic 304, 3) := by decide +kernel
theorem dJ7_copyOf_9075b_28 : decode cJ7_copyOf_9075b 28 = .ok (.invokestatic 150, 3) := by decide +kernel
theorem dJ7_copyOf_9075b_31 : decode cJ7_copyOf_9075b 31 = .ok (.aload_n 2, 1) := by decide +kernel
theorem dJ7_copyOf_9075b_32 : decode cJ7_copyOf_9075b 32 = .ok (.areturn, 1) := by decide +kernel
set_option maxRecDepth 20000 in
theorem ggJ15_checkIndex_7cf53_J3_checkIndex_8e157 : GoodIn wsJ15_checkIndex_7cf53 wsJ3_checkIndex_8e157 := goodIn_q _ [(4, 1)] (by decide +kernel) (by decide +kernel)
set_option maxRecDepth 20000 in
theorem gJ15_checkIndex_7cf53_J3_checkIndex_8e157 : GoodIn wsJ15_checkIndex_7cf53 (va_wsS RJ15 105 yJ3_checkIndex_8e157 wsJ3_checkIndex_8e157) := goodIn_app (goodIn_of _ (by decide +kernel)) ggJ15_checkIndex_7cf53_J3_checkIndex_8e157
theorem dJ15_checkIndex_7cf53_0 : decode cJ15_checkIndex_7cf53 0 = .ok (.iload_n 0, 1) := by decide +kernel
theorem dJ15_checkIndex_7cf53_1 : decode cJ15_checkIndex_7cf53 1 = .ok (.iload_n 1, 1) := by decide +kernel
theorem dJ15_checkIndex_7cf53_2 : decode cJ15_checkIndex_7cf53 2 = .ok (.aconst_null, 1) := by decide +kernel
theorem dJ15_checkIndex_7cf53_3 : decode cJ15_checkIndex_7cf53 3 = .ok (.invokestatic 105, 3) := by decide +kernel
theorem dJ15_checkIndex_7cf53_6 : decode cJ15_checkIndex_7cf53 6 = .ok (.ireturn, 1) := by decide +kernel
set_option maxRecDepth 20000 in
theorem ggJ8_newLength_cabcc_J8_hugeLength_7cf53 : GoodIn wsJ8_newLength_cabcc wsJ8_hugeLength_7cf53 := goodIn_q _ [(9, 1), (5, 1)] (by decide +kernel) (by decide +kernel)
set_option maxRecDepth 20000 in
theorem gJ8_newLength_cabcc_J8_hugeLength_7cf53 : GoodIn wsJ8_newLength_cabcc (va_wsS RJ8 201 yJ8_hugeLength_7cf53 wsJ8_hugeLength_7cf53) := goodIn_app (goodIn_of _ (by decide +kernel)) ggJ8_newLength_cabcc_J8_hugeLength_7cf53
theorem dJ8_newLength_cabcc_0 : decode cJ8_newLength_cabcc 0 = .ok (.iload_n 0, 1) := by decide +kernel
theorem dJ8_newLength_cabcc_1 : decode cJ8_newLength_cabcc 1 = .ok (.iload_n 1, 1) := by decide +kernel
theorem dJ8_newLength_cabcc_2 : decode cJ8_newLength_cabcc 2 = .ok (.iload_n 2, 1) := by decide +kernel
theorem dJ8_newLength_cabcc_3 : decode cJ8_newLength_cabcc 3 = .ok (.invokestatic 194, 3) := by decide +kernel
theorem dJ8_newLength_cabcc_6 : decode cJ8_newLength_cabcc 6 = .ok (.iadd, 1) := by decide +kernel
theorem dJ8_newLength_cabcc_7 : decode cJ8_newLength_cabcc 7 = .ok (.istore_n 3, 1) := by decide +kernel
theorem dJ8_newLength_cabcc_8 : decode cJ8_newLength_cabcc 8 = .ok (.iconst 0, 1) := by decide +kernel
theorem dJ8_newLength_cabcc_9 : decode cJ8_newLength_cabcc 9 = .ok (.iload_n 3, 1) := by decide +kernel
theorem dJ8_newLength_cabcc_10 : decode cJ8_newLength_cabcc 10 = .ok (.if_icmp .ge 11, 3) := by decide +kernel
theorem dJ8_newLength_cabcc_13 : decode cJ8_newLength_cabcc 13 = .ok (.iload_n 3, 1) := by decide +kernel
theorem dJ8_newLength_cabcc_14 : decode cJ8_newLength_cabcc 14 = .ok (.ldc 200, 2) := by decide +kernel
theorem dJ8_newLength_cabcc_16 : decode cJ8_newLength_cabcc 16 = .ok (.if_icmp .gt 5, 3) := by decide +kernel
theorem dJ8_newLength_cabcc_19 : decode cJ8_newLength_cabcc 19 = .ok (.iload_n 3, 1) := by decide +kernel
theorem dJ8_newLength_cabcc_20 : decode cJ8_newLength_cabcc 20 = .ok (.ireturn, 1) := by decide +kernel
theorem dJ8_newLength_cabcc_21 : decode cJ8_newLength_cabcc 21 = .ok (.iload_n 0, 1) := by decide +kernel
theorem dJ8_newLength_cabcc_22 : decode cJ8_newLength_cabcc 22 = .ok (.iload_n 1, 1) := by decide +kernel
theorem dJ8_newLength_cabcc_23 : decode cJ8_newLength_cabcc 23 = .ok (.invokestatic 201, 3) := by decide +kernel
theorem dJ8_newLength_cabcc_26 : decode cJ8_newLength_cabcc 26 = .ok (.ireturn, 1) := by decide +kernel
theorem dJ8_hugeLength_7cf53_0 : decode cJ8_hugeLength_7cf53 0 = .ok (.iload_n 0, 1) := by decide +kernel
theorem dJ8_hugeLength_7cf53_1 : decode cJ8_hugeLength_7cf53 1 = .ok (.iload_n 1, 1) := by decide +kernel
theorem dJ8_hugeLength_7cf53_2 : decode cJ8_hugeLength_7cf53 2 = .ok (.iadd, 1) := by decide +kernel
theorem dJ8_hugeLength_7cf53_3 : decode cJ8_hugeLength_7cf53 3 = .ok (.istore_n 2, 1) := by decide +kernel
theorem dJ8_hugeLength_7cf53_4 : decode cJ8_hugeLength_7cf53 4 = .ok (.iload_n 2, 1) := by decide +kernel
theorem dJ8_hugeLength_7cf53_5 : decode cJ8_hugeLength_7cf53 5 = .ok (.ifCond .ge 44, 3) := by decide +kernel
theorem dJ8_hugeLength_7cf53_8 : decode cJ8_hugeLength_7cf53 8 = .ok (.new 204, 3) := by decide +kernel
theorem dJ8_hugeLength_7cf53_11 : decode cJ8_hugeLength_7cf53 11 = .ok (.dup, 1) := by decide +kernel
theorem dJ8_hugeLength_7cf53_12 : decode cJ8_hugeLength_7cf53 12 = .ok (.new 89, 3) := by decide +kernel
theorem dJ8_hugeLength_7cf53_15 : decode cJ8_hugeLength_7cf53 15 = .ok (.dup, 1) := by decide +kernel
theorem dJ8_hugeLength_7cf53_16 : decode cJ8_hugeLength_7cf53 16 = .ok (.invokespecial 91, 3) := by decide +kernel
theorem dJ8_hugeLength_7cf53_19 : decode cJ8_hugeLength_7cf53 19 = .ok (.ldc 206, 2) := by decide +kernel
theorem dJ8_hugeLength_7cf53_21 : decode cJ8_hugeLength_7cf53 21 = .ok (.invokevirtual 94, 3) := by decide +kernel
theorem dJ8_hugeLength_7cf53_24 : decode cJ8_hugeLength_7cf53 24 = .ok (.iload_n 0, 1) := by decide +kernel
theorem dJ8_hugeLength_7cf53_25 : decode cJ8_hugeLength_7cf53 25 = .ok (.invokevirtual 98, 3) := by decide +kernel
theorem dJ8_hugeLength_7cf53_28 : decode cJ8_hugeLength_7cf53 28 = .ok (.ldc 208, 2) := by decide +kernel
theorem dJ8_hugeLength_7cf53_30 : decode cJ8_hugeLength_7cf53 30 = .ok (.invokevirtual 94, 3) := by decide +kernel
theorem dJ8_hugeLength_7cf53_33 : decode cJ8_hugeLength_7cf53 33 = .ok (.iload_n 1, 1) := by decide +kernel
theorem dJ8_hugeLength_7cf53_34 : decode cJ8_hugeLength_7cf53 34 = .ok (.invokevirtual 98, 3) := by decide +kernel
theorem dJ8_hugeLength_7cf53_37 : decode cJ8_hugeLength_7cf53 37 = .ok (.ldc 210, 2) := by decide +kernel
theorem dJ8_hugeLength_7cf53_39 : decode cJ8_hugeLength_7cf53 39 = .ok (.invokevirtual 94, 3) := by decide +kernel
theorem dJ8_hugeLength_7cf53_42 : decode cJ8_hugeLength_7cf53 42 = .ok (.invokevirtual 101, 3) := by decide +kernel
theorem dJ8_hugeLength_7cf53_45 : decode cJ8_hugeLength_7cf53 45 = .ok (.invokespecial 212, 3) := by decide +kernel
theorem dJ8_hugeLength_7cf53_48 : decode cJ8_hugeLength_7cf53 48 = .ok (.athrow, 1) := by decide +kernel
theorem dJ8_hugeLength_7cf53_49 : decode cJ8_hugeLength_7cf53 49 = .ok (.iload_n 2, 1) := by decide +kernel
theorem dJ8_hugeLength_7cf53_50 : decode cJ8_hugeLength_7cf53 50 = .ok (.ldc 200, 2) := by decide +kernel
theorem dJ8_hugeLength_7cf53_52 : decode cJ8_hugeLength_7cf53 52 = .ok (.if_icmp .gt 6, 3) := by decide +kernel
theorem dJ8_hugeLength_7cf53_55 : decode cJ8_hugeLength_7cf53 55 = .ok (.ldc 200, 2) := by decide +kernel
theorem dJ8_hugeLength_7cf53_57 : decode cJ8_hugeLength_7cf53 57 = .ok (.ireturn, 1) := by decide +kernel
theorem dJ8_hugeLength_7cf53_58 : decode cJ8_hugeLength_7cf53 58 = .ok (.iload_n 2, 1) := by decide +kernel
theorem dJ8_hugeLength_7cf53_59 : decode cJ8_hugeLength_7cf53 59 = .ok (.ireturn, 1) := by decide +kernel
theorem dJ3_checkIndex_8e157_0 : decode cJ3_checkIndex_8e157 0 = .ok (.iload_n 0, 1) := by decide +kernel
theorem dJ3_checkIndex_8e157_1 : decode cJ3_checkIndex_8e157 1 = .ok (.ifCond .lt 8, 3) := by decide +kernel
theorem dJ3_checkIndex_8e157_4 : decode cJ3_checkIndex_8e157 4 = .ok (.iload_n 0, 1) := by decide +kernel
theorem dJ3_checkIndex_8e157_5 : decode cJ3_checkIndex_8e157 5 = .ok (.iload_n 1, 1) := by decide +kernel
theorem dJ3_checkIndex_8e157_6 : decode cJ3_checkIndex_8e157 6 = .ok (.if_icmp .lt 10, 3) := by decide +kernel
theorem dJ3_checkIndex_8e157_9 : decode cJ3_checkIndex_8e157 9 = .ok (.aload_n 2, 1) := by decide +kernel
theorem dJ3_checkIndex_8e157_10 : decode cJ3_checkIndex_8e157 10 = .ok (.iload_n 0, 1) := by decide +kernel
theorem dJ3_checkIndex_8e157_11 : decode cJ3_checkIndex_8e157 11 = .ok (.iload_n 1, 1) := by decide +kernel
theorem dJ3_checkIndex_8e157_12 : decode cJ3_checkIndex_8e157 12 = .ok (.invokestatic 95, 3) := by decide +kernel
theorem dJ3_checkIndex_8e157_15 : decode cJ3_checkIndex_8e157 15 = .ok (.athrow, 1) := by decide +kernel
theorem dJ3_checkIndex_8e157_16 : decode cJ3_checkIndex_8e157 16 = .ok (.iload_n 0, 1) := by decide +kernel
theorem dJ3_checkIndex_8e157_17 : decode cJ3_checkIndex_8e157 17 = .ok (.ireturn, 1) := by decide +kernel
