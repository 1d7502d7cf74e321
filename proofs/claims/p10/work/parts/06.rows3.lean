theorem dX9_unit_0 : decode cX9_unit 0 = .ok (.iload_n 1, 1) := by decide +kernel
theorem dX9_unit_1 : decode cX9_unit 1 = .ok (.iconst 1, 1) := by decide +kernel
theorem dX9_unit_2 : decode cX9_unit 2 = .ok (.if_icmp .lt 19, 3) := by decide +kernel
theorem dX9_unit_5 : decode cX9_unit 5 = .ok (.iload_n 1, 1) := by decide +kernel
theorem dX9_unit_6 : decode cX9_unit 6 = .ok (.bipush 127, 2) := by decide +kernel
theorem dX9_unit_8 : decode cX9_unit 8 = .ok (.if_icmp .gt 13, 3) := by decide +kernel
theorem dX9_unit_11 : decode cX9_unit 11 = .ok (.aload_n 0, 1) := by decide +kernel
theorem dX9_unit_12 : decode cX9_unit 12 = .ok (.getfield 75, 3) := by decide +kernel
theorem dX9_unit_15 : decode cX9_unit 15 = .ok (.sipush 3000, 3) := by decide +kernel
theorem dX9_unit_18 : decode cX9_unit 18 = .ok (.if_icmp .ne 5, 3) := by decide +kernel
theorem dX9_unit_21 : decode cX9_unit 21 = .ok (.iconst 0, 1) := by decide +kernel
theorem dX9_unit_22 : decode cX9_unit 22 = .ok (.ireturn, 1) := by decide +kernel
theorem dX9_unit_23 : decode cX9_unit 23 = .ok (.aload_n 0, 1) := by decide +kernel
theorem dX9_unit_24 : decode cX9_unit 24 = .ok (.getfield 9, 3) := by decide +kernel
theorem dX9_unit_27 : decode cX9_unit 27 = .ok (.aload_n 0, 1) := by decide +kernel
theorem dX9_unit_28 : decode cX9_unit 28 = .ok (.getfield 75, 3) := by decide +kernel
theorem dX9_unit_31 : decode cX9_unit 31 = .ok (.iload_n 1, 1) := by decide +kernel
theorem dX9_unit_32 : decode cX9_unit 32 = .ok (.i2b, 1) := by decide +kernel
theorem dX9_unit_33 : decode cX9_unit 33 = .ok (.bastore, 1) := by decide +kernel
theorem dX9_unit_34 : decode cX9_unit 34 = .ok (.aload_n 0, 1) := by decide +kernel
theorem dX9_unit_35 : decode cX9_unit 35 = .ok (.dup, 1) := by decide +kernel
theorem dX9_unit_36 : decode cX9_unit 36 = .ok (.getfield 75, 3) := by decide +kernel
theorem dX9_unit_39 : decode cX9_unit 39 = .ok (.iconst 1, 1) := by decide +kernel
theorem dX9_unit_40 : decode cX9_unit 40 = .ok (.iadd, 1) := by decide +kernel
theorem dX9_unit_41 : decode cX9_unit 41 = .ok (.putfield 75, 3) := by decide +kernel
theorem dX9_unit_44 : decode cX9_unit 44 = .ok (.iconst 1, 1) := by decide +kernel
theorem dX9_unit_45 : decode cX9_unit 45 = .ok (.ireturn, 1) := by decide +kernel
theorem dX9_isSign_0 : decode cX9_isSign 0 = .ok (.iload_n 0, 1) := by decide +kernel
theorem dX9_isSign_1 : decode cX9_isSign 1 = .ok (.bipush 40, 2) := by decide +kernel
theorem dX9_isSign_3 : decode cX9_isSign 3 = .ok (.if_icmp .eq 15, 3) := by decide +kernel
theorem dX9_isSign_6 : decode cX9_isSign 6 = .ok (.iload_n 0, 1) := by decide +kernel
theorem dX9_isSign_7 : decode cX9_isSign 7 = .ok (.bipush 41, 2) := by decide +kernel
theorem dX9_isSign_9 : decode cX9_isSign 9 = .ok (.if_icmp .eq 9, 3) := by decide +kernel
theorem dX9_isSign_12 : decode cX9_isSign 12 = .ok (.iload_n 0, 1) := by decide +kernel
theorem dX9_isSign_13 : decode cX9_isSign 13 = .ok (.bipush 59, 2) := by decide +kernel
theorem dX9_isSign_15 : decode cX9_isSign 15 = .ok (.if_icmp .ne 7, 3) := by decide +kernel
theorem dX9_isSign_18 : decode cX9_isSign 18 = .ok (.iconst 1, 1) := by decide +kernel
theorem dX9_isSign_19 : decode cX9_isSign 19 = .ok (.goto 4, 3) := by decide +kernel
theorem dX9_isSign_22 : decode cX9_isSign 22 = .ok (.iconst 0, 1) := by decide +kernel
theorem dX9_isSign_23 : decode cX9_isSign 23 = .ok (.ireturn, 1) := by decide +kernel
set_option maxRecDepth 20000 in
theorem ggX9_cut_X9_isSign : GoodIn wsX9_cut wsX9_isSign := goodIn_q _ [(9, 1)] (by decide +kernel) (by decide +kernel)
set_option maxRecDepth 20000 in
theorem gX9_cut_X9_isSign : GoodIn wsX9_cut (va_wsS RX9 82 yX9_isSign wsX9_isSign) := goodIn_app (goodIn_of _ (by decide +kernel)) ggX9_cut_X9_isSign
theorem dX9_cut_0 : decode cX9_cut 0 = .ok (.aload_n 0, 1) := by decide +kernel
theorem dX9_cut_1 : decode cX9_cut 1 = .ok (.iconst 0, 1) := by decide +kernel
theorem dX9_cut_2 : decode cX9_cut 2 = .ok (.putfield 79, 3) := by decide +kernel
theorem dX9_cut_5 : decode cX9_cut 5 = .ok (.iconst 0, 1) := by decide +kernel
theorem dX9_cut_6 : decode cX9_cut 6 = .ok (.istore_n 1, 1) := by decide +kernel
theorem dX9_cut_7 : decode cX9_cut 7 = .ok (.iload_n 1, 1) := by decide +kernel
theorem dX9_cut_8 : decode cX9_cut 8 = .ok (.aload_n 0, 1) := by decide +kernel
theorem dX9_cut_9 : decode cX9_cut 9 = .ok (.getfield 75, 3) := by decide +kernel
theorem dX9_cut_12 : decode cX9_cut 12 = .ok (.if_icmp .ge 119, 3) := by decide +kernel
theorem dX9_cut_15 : decode cX9_cut 15 = .ok (.aload_n 0, 1) := by decide +kernel
theorem dX9_cut_16 : decode cX9_cut 16 = .ok (.getfield 9, 3) := by decide +kernel
theorem dX9_cut_19 : decode cX9_cut 19 = .ok (.iload_n 1, 1) := by decide +kernel
theorem dX9_cut_20 : decode cX9_cut 20 = .ok (.baload, 1) := by decide +kernel
theorem dX9_cut_21 : decode cX9_cut 21 = .ok (.istore_n 2, 1) := by decide +kernel
theorem dX9_cut_22 : decode cX9_cut 22 = .ok (.iload_n 2, 1) := by decide +kernel
theorem dX9_cut_23 : decode cX9_cut 23 = .ok (.bipush 32, 2) := by decide +kernel
theorem dX9_cut_25 : decode cX9_cut 25 = .ok (.if_icmp .eq 9, 3) := by decide +kernel
theorem dX9_cut_28 : decode cX9_cut 28 = .ok (.iload_n 2, 1) := by decide +kernel
theorem dX9_cut_29 : decode cX9_cut 29 = .ok (.bipush 10, 2) := by decide +kernel
theorem dX9_cut_31 : decode cX9_cut 31 = .ok (.if_icmp .ne 9, 3) := by decide +kernel
theorem dX9_cut_34 : decode cX9_cut 34 = .ok (.iinc 1 1, 3) := by decide +kernel
theorem dX9_cut_37 : decode cX9_cut 37 = .ok (.goto 91, 3) := by decide +kernel
theorem dX9_cut_40 : decode cX9_cut 40 = .ok (.aload_n 0, 1) := by decide +kernel
theorem dX9_cut_41 : decode cX9_cut 41 = .ok (.getfield 13, 3) := by decide +kernel
theorem dX9_cut_44 : decode cX9_cut 44 = .ok (.aload_n 0, 1) := by decide +kernel
theorem dX9_cut_45 : decode cX9_cut 45 = .ok (.getfield 79, 3) := by decide +kernel
theorem dX9_cut_48 : decode cX9_cut 48 = .ok (.iload_n 1, 1) := by decide +kernel
theorem dX9_cut_49 : decode cX9_cut 49 = .ok (.iastore, 1) := by decide +kernel
theorem dX9_cut_50 : decode cX9_cut 50 = .ok (.iinc 1 1, 3) := by decide +kernel
theorem dX9_cut_53 : decode cX9_cut 53 = .ok (.iload_n 2, 1) := by decide +kernel
theorem dX9_cut_54 : decode cX9_cut 54 = .ok (.invokestatic 82, 3) := by decide +kernel
theorem dX9_cut_57 : decode cX9_cut 57 = .ok (.ifCond .ne 51, 3) := by decide +kernel
theorem dX9_cut_60 : decode cX9_cut 60 = .ok (.iload_n 1, 1) := by decide +kernel
theorem dX9_cut_61 : decode cX9_cut 61 = .ok (.aload_n 0, 1) := by decide +kernel
theorem dX9_cut_62 : decode cX9_cut 62 = .ok (.getfield 75, 3) := by decide +kernel
theorem dX9_cut_65 : decode cX9_cut 65 = .ok (.if_icmp .ge 43, 3) := by decide +kernel
theorem dX9_cut_68 : decode cX9_cut 68 = .ok (.aload_n 0, 1) := by decide +kernel
theorem dX9_cut_69 : decode cX9_cut 69 = .ok (.getfield 9, 3) := by decide +kernel
theorem dX9_cut_72 : decode cX9_cut 72 = .ok (.iload_n 1, 1) := by decide +kernel
theorem dX9_cut_73 : decode cX9_cut 73 = .ok (.baload, 1) := by decide +kernel
theorem dX9_cut_74 : decode cX9_cut 74 = .ok (.bipush 32, 2) := by decide +kernel
theorem dX9_cut_76 : decode cX9_cut 76 = .ok (.if_icmp .eq 32, 3) := by decide +kernel
theorem dX9_cut_79 : decode cX9_cut 79 = .ok (.aload_n 0, 1) := by decide +kernel
theorem dX9_cut_80 : decode cX9_cut 80 = .ok (.getfield 9, 3) := by decide +kernel
theorem dX9_cut_83 : decode cX9_cut 83 = .ok (.iload_n 1, 1) := by decide +kernel
theorem dX9_cut_84 : decode cX9_cut 84 = .ok (.baload, 1) := by decide +kernel
theorem dX9_cut_85 : decode cX9_cut 85 = .ok (.bipush 10, 2) := by decide +kernel
theorem dX9_cut_87 : decode cX9_cut 87 = .ok (.if_icmp .eq 21, 3) := by decide +kernel
theorem dX9_cut_90 : decode cX9_cut 90 = .ok (.aload_n 0, 1) := by decide +kernel
theorem dX9_cut_91 : decode cX9_cut 91 = .ok (.getfield 9, 3) := by decide +kernel
theorem dX9_cut_94 : decode cX9_cut 94 = .ok (.iload_n 1, 1) := by decide +kernel
theorem dX9_cut_95 : decode cX9_cut 95 = .ok (.baload, 1) := by decide +kernel
theorem dX9_cut_96 : decode cX9_cut 96 = .ok (.invokestatic 82, 3) := by decide +kernel
theorem dX9_cut_99 : decode cX9_cut 99 = .ok (.ifCond .ne 9, 3) := by decide +kernel
theorem dX9_cut_102 : decode cX9_cut 102 = .ok (.iinc 1 1, 3) := by decide +kernel
theorem dX9_cut_105 : decode cX9_cut 105 = .ok (.goto (-52), 3) := by decide +kernel
theorem dX9_cut_108 : decode cX9_cut 108 = .ok (.aload_n 0, 1) := by decide +kernel
theorem dX9_cut_109 : decode cX9_cut 109 = .ok (.getfield 17, 3) := by decide +kernel
theorem dX9_cut_112 : decode cX9_cut 112 = .ok (.aload_n 0, 1) := by decide +kernel
theorem dX9_cut_113 : decode cX9_cut 113 = .ok (.getfield 79, 3) := by decide +kernel
theorem dX9_cut_116 : decode cX9_cut 116 = .ok (.iload_n 1, 1) := by decide +kernel
theorem dX9_cut_117 : decode cX9_cut 117 = .ok (.iastore, 1) := by decide +kernel
theorem dX9_cut_118 : decode cX9_cut 118 = .ok (.aload_n 0, 1) := by decide +kernel
theorem dX9_cut_119 : decode cX9_cut 119 = .ok (.dup, 1) := by decide +kernel
theorem dX9_cut_120 : decode cX9_cut 120 = .ok (.getfield 79, 3) := by decide +kernel
theorem dX9_cut_123 : decode cX9_cut 123 = .ok (.iconst 1, 1) := by decide +kernel
theorem dX9_cut_124 : decode cX9_cut 124 = .ok (.iadd, 1) := by decide +kernel
theorem dX9_cut_125 : decode cX9_cut 125 = .ok (.putfield 79, 3) := by decide +kernel
theorem dX9_cut_128 : decode cX9_cut 128 = .ok (.goto (-121), 3) := by decide +kernel
theorem dX9_cut_131 : decode cX9_cut 131 = .ok (.return_, 1) := by decide +kernel
theorem dX9_at_0 : decode cX9_at 0 = .ok (.aload_n 0, 1) := by decide +kernel
theorem dX9_at_1 : decode cX9_at 1 = .ok (.getfield 86, 3) := by decide +kernel
theorem dX9_at_4 : decode cX9_at 4 = .ok (.aload_n 0, 1) := by decide +kernel
theorem dX9_at_5 : decode cX9_at 5 = .ok (.getfield 79, 3) := by decide +kernel
theorem dX9_at_8 : decode cX9_at 8 = .ok (.if_icmp .ge 17, 3) := by decide +kernel
theorem dX9_at_11 : decode cX9_at 11 = .ok (.aload_n 0, 1) := by decide +kernel
theorem dX9_at_12 : decode cX9_at 12 = .ok (.getfield 13, 3) := by decide +kernel
theorem dX9_at_15 : decode cX9_at 15 = .ok (.aload_n 0, 1) := by decide +kernel
theorem dX9_at_16 : decode cX9_at 16 = .ok (.getfield 86, 3) := by decide +kernel
theorem dX9_at_19 : decode cX9_at 19 = .ok (.iaload, 1) := by decide +kernel
theorem dX9_at_20 : decode cX9_at 20 = .ok (.iload_n 1, 1) := by decide +kernel
theorem dX9_at_21 : decode cX9_at 21 = .ok (.iadd, 1) := by decide +kernel
theorem dX9_at_22 : decode cX9_at 22 = .ok (.goto 6, 3) := by decide +kernel
theorem dX9_at_25 : decode cX9_at 25 = .ok (.sipush 3000, 3) := by decide +kernel
theorem dX9_at_28 : decode cX9_at 28 = .ok (.istore_n 2, 1) := by decide +kernel
theorem dX9_at_29 : decode cX9_at 29 = .ok (.aload_n 0, 1) := by decide +kernel
theorem dX9_at_30 : decode cX9_at 30 = .ok (.getfield 86, 3) := by decide +kernel
theorem dX9_at_33 : decode cX9_at 33 = .ok (.aload_n 0, 1) := by decide +kernel
theorem dX9_at_34 : decode cX9_at 34 = .ok (.getfield 79, 3) := by decide +kernel
theorem dX9_at_37 : decode cX9_at 37 = .ok (.if_icmp .ge 25, 3) := by decide +kernel
theorem dX9_at_40 : decode cX9_at 40 = .ok (.iload_n 2, 1) := by decide +kernel
theorem dX9_at_41 : decode cX9_at 41 = .ok (.aload_n 0, 1) := by decide +kernel
theorem dX9_at_42 : decode cX9_at 42 = .ok (.getfield 17, 3) := by decide +kernel
theorem dX9_at_45 : decode cX9_at 45 = .ok (.aload_n 0, 1) := by decide +kernel
theorem dX9_at_46 : decode cX9_at 46 = .ok (.getfield 86, 3) := by decide +kernel
theorem dX9_at_49 : decode cX9_at 49 = .ok (.iaload, 1) := by decide +kernel
theorem dX9_at_50 : decode cX9_at 50 = .ok (.if_icmp .ge 12, 3) := by decide +kernel
theorem dX9_at_53 : decode cX9_at 53 = .ok (.aload_n 0, 1) := by decide +kernel
theorem dX9_at_54 : decode cX9_at 54 = .ok (.getfield 9, 3) := by decide +kernel
theorem dX9_at_57 : decode cX9_at 57 = .ok (.iload_n 2, 1) := by decide +kernel
theorem dX9_at_58 : decode cX9_at 58 = .ok (.baload, 1) := by decide +kernel
theorem dX9_at_59 : decode cX9_at 59 = .ok (.goto 4, 3) := by decide +kernel
theorem dX9_at_62 : decode cX9_at 62 = .ok (.iconst 0, 1) := by decide +kernel
theorem dX9_at_63 : decode cX9_at 63 = .ok (.ireturn, 1) := by decide +kernel
theorem dX9_wide_0 : decode cX9_wide 0 = .ok (.aload_n 0, 1) := by decide +kernel
theorem dX9_wide_1 : decode cX9_wide 1 = .ok (.getfield 86, 3) := by decide +kernel
theorem dX9_wide_4 : decode cX9_wide 4 = .ok (.aload_n 0, 1) := by decide +kernel
theorem dX9_wide_5 : decode cX9_wide 5 = .ok (.getfield 79, 3) := by decide +kernel
theorem dX9_wide_8 : decode cX9_wide 8 = .ok (.if_icmp .ge 25, 3) := by decide +kernel
theorem dX9_wide_11 : decode cX9_wide 11 = .ok (.aload_n 0, 1) := by decide +kernel
theorem dX9_wide_12 : decode cX9_wide 12 = .ok (.getfield 17, 3) := by decide +kernel
theorem dX9_wide_15 : decode cX9_wide 15 = .ok (.aload_n 0, 1) := by decide +kernel
theorem dX9_wide_16 : decode cX9_wide 16 = .ok (.getfield 86, 3) := by decide +kernel
theorem dX9_wide_19 : decode cX9_wide 19 = .ok (.iaload, 1) := by decide +kernel
theorem dX9_wide_20 : decode cX9_wide 20 = .ok (.aload_n 0, 1) := by decide +kernel
theorem dX9_wide_21 : decode cX9_wide 21 = .ok (.getfield 13, 3) := by decide +kernel
theorem dX9_wide_24 : decode cX9_wide 24 = .ok (.aload_n 0, 1) := by decide +kernel
theorem dX9_wide_25 : decode cX9_wide 25 = .ok (.getfield 86, 3) := by decide +kernel
theorem dX9_wide_28 : decode cX9_wide 28 = .ok (.iaload, 1) := by decide +kernel
theorem dX9_wide_29 : decode cX9_wide 29 = .ok (.isub, 1) := by decide +kernel
theorem dX9_wide_30 : decode cX9_wide 30 = .ok (.goto 4, 3) := by decide +kernel
theorem dX9_wide_33 : decode cX9_wide 33 = .ok (.iconst 0, 1) := by decide +kernel
theorem dX9_wide_34 : decode cX9_wide 34 = .ok (.ireturn, 1) := by decide +kernel
set_option maxRecDepth 20000 in
theorem ggX9_is_X9_wide : GoodIn wsX9_is wsX9_wide := goodIn_q _ [(5, 5), (15, 32)] (by decide +kernel) (by decide +kernel)
set_option maxRecDepth 20000 in
theorem gX9_is_X9_wide : GoodIn wsX9_is (wsV RX9 89 RX9 yX9_wide wsX9_wide) := goodIn_app (goodIn_of _ (by decide +kernel)) ggX9_is_X9_wide
set_option maxRecDepth 20000 in
theorem ggX9_is_X9_at : GoodIn wsX9_is wsX9_at := goodIn_q _ [(13, 1), (6, 2), (9, 1), (8, 1), (14, 33)] (by decide +kernel) (by decide +kernel)
set_option maxRecDepth 20000 in
theorem gX9_is_X9_at : GoodIn wsX9_is (wsV RX9 93 RX9 yX9_at wsX9_at) := goodIn_app (goodIn_of _ (by decide +kernel)) ggX9_is_X9_at
theorem dX9_is_0 : decode cX9_is 0 = .ok (.aload_n 0, 1) := by decide +kernel
theorem dX9_is_1 : decode cX9_is 1 = .ok (.invokevirtual 89, 3) := by decide +kernel
theorem dX9_is_4 : decode cX9_is 4 = .ok (.iload 8, 2) := by decide +kernel
theorem dX9_is_6 : decode cX9_is 6 = .ok (.if_icmp .ne 107, 3) := by decide +kernel
theorem dX9_is_9 : decode cX9_is 9 = .ok (.aload_n 0, 1) := by decide +kernel
theorem dX9_is_10 : decode cX9_is 10 = .ok (.iconst 0, 1) := by decide +kernel
theorem dX9_is_11 : decode cX9_is 11 = .ok (.invokevirtual 93, 3) := by decide +kernel
theorem dX9_is_14 : decode cX9_is 14 = .ok (.iload_n 1, 1) := by decide +kernel
theorem dX9_is_15 : decode cX9_is 15 = .ok (.if_icmp .ne 98, 3) := by decide +kernel
theorem dX9_is_18 : decode cX9_is 18 = .ok (.aload_n 0, 1) := by decide +kernel
theorem dX9_is_19 : decode cX9_is 19 = .ok (.iconst 1, 1) := by decide +kernel
theorem dX9_is_20 : decode cX9_is 20 = .ok (.invokevirtual 93, 3) := by decide +kernel
theorem dX9_is_23 : decode cX9_is 23 = .ok (.iload_n 2, 1) := by decide +kernel
theorem dX9_is_24 : decode cX9_is 24 = .ok (.if_icmp .ne 89, 3) := by decide +kernel
theorem dX9_is_27 : decode cX9_is 27 = .ok (.iload 8, 2) := by decide +kernel
theorem dX9_is_29 : decode cX9_is 29 = .ok (.iconst 3, 1) := by decide +kernel
theorem dX9_is_30 : decode cX9_is 30 = .ok (.if_icmp .lt 12, 3) := by decide +kernel
theorem dX9_is_33 : decode cX9_is 33 = .ok (.aload_n 0, 1) := by decide +kernel
theorem dX9_is_34 : decode cX9_is 34 = .ok (.iconst 2, 1) := by decide +kernel
theorem dX9_is_35 : decode cX9_is 35 = .ok (.invokevirtual 93, 3) := by decide +kernel
theorem dX9_is_38 : decode cX9_is 38 = .ok (.iload_n 3, 1) := by decide +kernel
theorem dX9_is_39 : decode cX9_is 39 = .ok (.if_icmp .ne 74, 3) := by decide +kernel
theorem dX9_is_42 : decode cX9_is 42 = .ok (.iload 8, 2) := by decide +kernel
theorem dX9_is_44 : decode cX9_is 44 = .ok (.iconst 4, 1) := by decide +kernel
theorem dX9_is_45 : decode cX9_is 45 = .ok (.if_icmp .lt 13, 3) := by decide +kernel
theorem dX9_is_48 : decode cX9_is 48 = .ok (.aload_n 0, 1) := by decide +kernel
theorem dX9_is_49 : decode cX9_is 49 = .ok (.iconst 3, 1) := by decide +kernel
theorem dX9_is_50 : decode cX9_is 50 = .ok (.invokevirtual 93, 3) := by decide +kernel
theorem dX9_is_53 : decode cX9_is 53 = .ok (.iload 4, 2) := by decide +kernel
theorem dX9_is_55 : decode cX9_is 55 = .ok (.if_icmp .ne 58, 3) := by decide +kernel
theorem dX9_is_58 : decode cX9_is 58 = .ok (.iload 8, 2) := by decide +kernel
theorem dX9_is_60 : decode cX9_is 60 = .ok (.iconst 5, 1) := by decide +kernel
theorem dX9_is_61 : decode cX9_is 61 = .ok (.if_icmp .lt 13, 3) := by decide +kernel
theorem dX9_is_64 : decode cX9_is 64 = .ok (.aload_n 0, 1) := by decide +kernel
theorem dX9_is_65 : decode cX9_is 65 = .ok (.iconst 4, 1) := by decide +kernel
theorem dX9_is_66 : decode cX9_is 66 = .ok (.invokevirtual 93, 3) := by decide +kernel
theorem dX9_is_69 : decode cX9_is 69 = .ok (.iload 5, 2) := by decide +kernel
theorem dX9_is_71 : decode cX9_is 71 = .ok (.if_icmp .ne 42, 3) := by decide +kernel
theorem dX9_is_74 : decode cX9_is 74 = .ok (.iload 8, 2) := by decide +kernel
theorem dX9_is_76 : decode cX9_is 76 = .ok (.bipush 6, 2) := by decide +kernel
theorem dX9_is_78 : decode cX9_is 78 = .ok (.if_icmp .lt 13, 3) := by decide +kernel
theorem dX9_is_81 : decode cX9_is 81 = .ok (.aload_n 0, 1) := by decide +kernel
theorem dX9_is_82 : decode cX9_is 82 = .ok (.iconst 5, 1) := by decide +kernel
theorem dX9_is_83 : decode cX9_is 83 = .ok (.invokevirtual 93, 3) := by decide +kernel
theorem dX9_is_86 : decode cX9_is 86 = .ok (.iload 6, 2) := by decide +kernel
theorem dX9_is_88 : decode cX9_is 88 = .ok (.if_icmp .ne 25, 3) := by decide +kernel
theorem dX9_is_91 : decode cX9_is 91 = .ok (.iload 8, 2) := by decide +kernel
theorem dX9_is_93 : decode cX9_is 93 = .ok (.bipush 7, 2) := by decide +kernel
theorem dX9_is_95 : decode cX9_is 95 = .ok (.if_icmp .lt 14, 3) := by decide +kernel
theorem dX9_is_98 : decode cX9_is 98 = .ok (.aload_n 0, 1) := by decide +kernel
theorem dX9_is_99 : decode cX9_is 99 = .ok (.bipush 6, 2) := by decide +kernel
theorem dX9_is_101 : decode cX9_is 101 = .ok (.invokevirtual 93, 3) := by decide +kernel
theorem dX9_is_104 : decode cX9_is 104 = .ok (.iload 7, 2) := by decide +kernel
theorem dX9_is_106 : decode cX9_is 106 = .ok (.if_icmp .ne 7, 3) := by decide +kernel
theorem dX9_is_109 : decode cX9_is 109 = .ok (.iconst 1, 1) := by decide +kernel
theorem dX9_is_110 : decode cX9_is 110 = .ok (.goto 4, 3) := by decide +kernel
theorem dX9_is_113 : decode cX9_is 113 = .ok (.iconst 0, 1) := by decide +kernel
theorem dX9_is_114 : decode cX9_is 114 = .ok (.ireturn, 1) := by decide +kernel
set_option maxRecDepth 20000 in
theorem ggX9_isOne_X9_wide : GoodIn wsX9_isOne wsX9_wide := goodIn_q _ [(5, 5), (15, 32)] (by decide +kernel) (by decide +kernel)
set_option maxRecDepth 20000 in
theorem gX9_isOne_X9_wide : GoodIn wsX9_isOne (wsV RX9 89 RX9 yX9_wide wsX9_wide) := goodIn_app (goodIn_of _ (by decide +kernel)) ggX9_isOne_X9_wide
set_option maxRecDepth 20000 in
theorem ggX9_isOne_X9_at : GoodIn wsX9_isOne wsX9_at := goodIn_q _ [(13, 1), (6, 2), (9, 1), (8, 1), (14, 33)] (by decide +kernel) (by decide +kernel)
set_option maxRecDepth 20000 in
theorem gX9_isOne_X9_at : GoodIn wsX9_isOne (wsV RX9 93 RX9 yX9_at wsX9_at) := goodIn_app (goodIn_of _ (by decide +kernel)) ggX9_isOne_X9_at
theorem dX9_isOne_0 : decode cX9_isOne 0 = .ok (.aload_n 0, 1) := by decide +kernel
theorem dX9_isOne_1 : decode cX9_isOne 1 = .ok (.invokevirtual 89, 3) := by decide +kernel
theorem dX9_isOne_4 : decode cX9_isOne 4 = .ok (.iconst 1, 1) := by decide +kernel
theorem dX9_isOne_5 : decode cX9_isOne 5 = .ok (.if_icmp .ne 16, 3) := by decide +kernel
theorem dX9_isOne_8 : decode cX9_isOne 8 = .ok (.aload_n 0, 1) := by decide +kernel
theorem dX9_isOne_9 : decode cX9_isOne 9 = .ok (.iconst 0, 1) := by decide +kernel
theorem dX9_isOne_10 : decode cX9_isOne 10 = .ok (.invokevirtual 93, 3) := by decide +kernel
theorem dX9_isOne_13 : decode cX9_isOne 13 = .ok (.iload_n 1, 1) := by decide +kernel
theorem dX9_isOne_14 : decode cX9_isOne 14 = .ok (.if_icmp .ne 7, 3) := by decide +kernel
theorem dX9_isOne_17 : decode cX9_isOne 17 = .ok (.iconst 1, 1) := by decide +kernel
theorem dX9_isOne_18 : decode cX9_isOne 18 = .ok (.goto 4, 3) := by decide +kernel
theorem dX9_isOne_21 : decode cX9_isOne 21 = .ok (.iconst 0, 1) := by decide +kernel
theorem dX9_isOne_22 : decode cX9_isOne 22 = .ok (.ireturn, 1) := by decide +kernel
set_option maxRecDepth 20000 in
theorem ggX9_number_X9_wide : GoodIn wsX9_number wsX9_wide := goodIn_q _ [(5, 5), (15, 32)] (by decide +kernel) (by decide +kernel)
set_option maxRecDepth 20000 in
theorem gX9_number_X9_wide : GoodIn wsX9_number (wsV RX9 89 RX9 yX9_wide wsX9_wide) := goodIn_app (goodIn_of _ (by decide +kernel)) ggX9_number_X9_wide
set_option maxRecDepth 20000 in
theorem ggX9_number_X9_at : GoodIn wsX9_number wsX9_at := goodIn_q _ [(13, 1), (6, 2), (9, 1), (8, 1), (14, 33)] (by decide +kernel) (by decide +kernel)
set_option maxRecDepth 20000 in
theorem gX9_number_X9_at : GoodIn wsX9_number (wsV RX9 93 RX9 yX9_at wsX9_at) := goodIn_app (goodIn_of _ (by decide +kernel)) ggX9_number_X9_at
theorem dX9_number_0 : decode cX9_number 0 = .ok (.aload_n 0, 1) := by decide +kernel
theorem dX9_number_1 : decode cX9_number 1 = .ok (.invokevirtual 89, 3) := by decide +kernel
theorem dX9_number_4 : decode cX9_number 4 = .ok (.istore_n 3, 1) := by decide +kernel
theorem dX9_number_5 : decode cX9_number 5 = .ok (.iload_n 3, 1) := by decide +kernel
theorem dX9_number_6 : decode cX9_number 6 = .ok (.iload_n 1, 1) := by decide +kernel
theorem dX9_number_7 : decode cX9_number 7 = .ok (.if_icmp .le 27, 3) := by decide +kernel
theorem dX9_number_10 : decode cX9_number 10 = .ok (.aload_n 0, 1) := by decide +kernel
theorem dX9_number_11 : decode cX9_number 11 = .ok (.iload_n 1, 1) := by decide +kernel
theorem dX9_number_12 : decode cX9_number 12 = .ok (.invokevirtual 93, 3) := by decide +kernel
theorem dX9_number_15 : decode cX9_number 15 = .ok (.bipush 48, 2) := by decide +kernel
theorem dX9_number_17 : decode cX9_number 17 = .ok (.if_icmp .ne 10, 3) := by decide +kernel
theorem dX9_number_20 : decode cX9_number 20 = .ok (.iload_n 3, 1) := by decide +kernel
theorem dX9_number_21 : decode cX9_number 21 = .ok (.iload_n 1, 1) := by decide +kernel
theorem dX9_number_22 : decode cX9_number 22 = .ok (.iconst 1, 1) := by decide +kernel
theorem dX9_number_23 : decode cX9_number 23 = .ok (.iadd, 1) := by decide +kernel
theorem dX9_number_24 : decode cX9_number 24 = .ok (.if_icmp .gt 10, 3) := by decide +kernel
theorem dX9_number_27 : decode cX9_number 27 = .ok (.iload_n 3, 1) := by decide +kernel
theorem dX9_number_28 : decode cX9_number 28 = .ok (.iload_n 1, 1) := by decide +kernel
theorem dX9_number_29 : decode cX9_number 29 = .ok (.iconst 4, 1) := by decide +kernel
theorem dX9_number_30 : decode cX9_number 30 = .ok (.iadd, 1) := by decide +kernel
theorem dX9_number_31 : decode cX9_number 31 = .ok (.if_icmp .le 5, 3) := by decide +kernel
theorem dX9_number_34 : decode cX9_number 34 = .ok (.iconst (-1), 1) := by decide +kernel
theorem dX9_number_35 : decode cX9_number 35 = .ok (.ireturn, 1) := by decide +kernel
theorem dX9_number_36 : decode cX9_number 36 = .ok (.iconst 0, 1) := by decide +kernel
theorem dX9_number_37 : decode cX9_number 37 = .ok (.istore 4, 2) := by decide +kernel
theorem dX9_number_39 : decode cX9_number 39 = .ok (.iload_n 1, 1) := by decide +kernel
theorem dX9_number_40 : decode cX9_number 40 = .ok (.istore 5, 2) := by decide +kernel
theorem dX9_number_42 : decode cX9_number 42 = .ok (.iload 5, 2) := by decide +kernel
theorem dX9_number_44 : decode cX9_number 44 = .ok (.iload_n 3, 1) := by decide +kernel
theorem dX9_number_45 : decode cX9_number 45 = .ok (.if_icmp .ge 46, 3) := by decide +kernel
theorem dX9_number_48 : decode cX9_number 48 = .ok (.aload_n 0, 1) := by decide +kernel
theorem dX9_number_49 : decode cX9_number 49 = .ok (.iload 5, 2) := by decide +kernel
theorem dX9_number_51 : decode cX9_number 51 = .ok (.invokevirtual 93, 3) := by decide +kernel
theorem dX9_number_54 : decode cX9_number 54 = .ok (.istore 6, 2) := by decide +kernel
theorem dX9_number_56 : decode cX9_number 56 = .ok (.iload 6, 2) := by decide +kernel
theorem dX9_number_58 : decode cX9_number 58 = .ok (.bipush 48, 2) := by decide +kernel
theorem dX9_number_60 : decode cX9_number 60 = .ok (.if_icmp .lt 10, 3) := by decide +kernel
theorem dX9_number_63 : decode cX9_number 63 = .ok (.iload 6, 2) := by decide +kernel
theorem dX9_number_65 : decode cX9_number 65 = .ok (.bipush 57, 2) := by decide +kernel
theorem dX9_number_67 : decode cX9_number 67 = .ok (.if_icmp .le 5, 3) := by decide +kernel
theorem dX9_number_70 : decode cX9_number 70 = .ok (.iconst (-1), 1) := by decide +kernel
theorem dX9_number_71 : decode cX9_number 71 = .ok (.ireturn, 1) := by decide +kernel
theorem dX9_number_72 : decode cX9_number 72 = .ok (.bipush 10, 2) := by decide +kernel
theorem dX9_number_74 : decode cX9_number 74 = .ok (.iload 4, 2) := by decide +kernel
theorem dX9_number_76 : decode cX9_number 76 = .ok (.imul, 1) := by decide +kernel
theorem dX9_number_77 : decode cX9_number 77 = .ok (.iload 6, 2) := by decide +kernel
theorem dX9_number_79 : decode cX9_number 79 = .ok (.iadd, 1) := by decide +kernel
theorem dX9_number_80 : decode cX9_number 80 = .ok (.bipush 48, 2) := by decide +kernel
theorem dX9_number_82 : decode cX9_number 82 = .ok (.isub, 1) := by decide +kernel
theorem dX9_number_83 : decode cX9_number 83 = .ok (.istore 4, 2) := by decide +kernel
theorem dX9_number_85 : decode cX9_number 85 = .ok (.iinc 5 1, 3) := by decide +kernel
theorem dX9_number_88 : decode cX9_number 88 = .ok (.goto (-46), 3) := by decide +kernel
theorem dX9_number_91 : decode cX9_number 91 = .ok (.iload 4, 2) := by decide +kernel
theorem dX9_number_93 : decode cX9_number 93 = .ok (.iload_n 2, 1) := by decide +kernel
theorem dX9_number_94 : decode cX9_number 94 = .ok (.if_icmp .gt 8, 3) := by decide +kernel
theorem dX9_number_97 : decode cX9_number 97 = .ok (.iload 4, 2) := by decide +kernel
theorem dX9_number_99 : decode cX9_number 99 = .ok (.goto 4, 3) := by decide +kernel
theorem dX9_number_102 : decode cX9_number 102 = .ok (.iconst (-1), 1) := by decide +kernel
theorem dX9_number_103 : decode cX9_number 103 = .ok (.ireturn, 1) := by decide +kernel
set_option maxRecDepth 20000 in
theorem ggX9_act_X9_at : GoodIn wsX9_act wsX9_at := goodIn_q _ [(5, 6), (19, 32)] (by decide +kernel) (by decide +kernel)
set_option maxRecDepth 20000 in
theorem gX9_act_X9_at : GoodIn wsX9_act (wsV RX9 93 RX9 yX9_at wsX9_at) := goodIn_app (goodIn_of _ (by decide +kernel)) ggX9_act_X9_at
set_option maxRecDepth 20000 in
theorem ggX9_act_X9_number : GoodIn wsX9_act wsX9_number := goodIn_q _ [(14, 4), (4, 1), (18, 1), (6, 2), (9, 1), (8, 1), (1, 3), (5, 1), (10, 1), (19, 32)] (by decide +kernel) (by decide +kernel)
set_option maxRecDepth 20000 in
theorem gX9_act_X9_number : GoodIn wsX9_act (wsV RX9 97 RX9 yX9_number wsX9_number) := goodIn_app (goodIn_of _ (by decide +kernel)) ggX9_act_X9_number
theorem dX9_act_0 : decode cX9_act 0 = .ok (.aload_n 0, 1) := by decide +kernel
theorem dX9_act_1 : decode cX9_act 1 = .ok (.iconst 0, 1) := by decide +kernel
theorem dX9_act_2 : decode cX9_act 2 = .ok (.invokevirtual 93, 3) := by decide +kernel
theorem dX9_act_5 : decode cX9_act 5 = .ok (.bipush 97, 2) := by decide +kernel
theorem dX9_act_7 : decode cX9_act 7 = .ok (.if_icmp .ne 13, 3) := by decide +kernel
theorem dX9_act_10 : decode cX9_act 10 = .ok (.aload_n 0, 1) := by decide +kernel
theorem dX9_act_11 : decode cX9_act 11 = .ok (.iconst 1, 1) := by decide +kernel
theorem dX9_act_12 : decode cX9_act 12 = .ok (.bipush 31, 2) := by decide +kernel
theorem dX9_act_14 : decode cX9_act 14 = .ok (.invokevirtual 97, 3) := by decide +kernel
theorem dX9_act_17 : decode cX9_act 17 = .ok (.goto 4, 3) := by decide +kernel
theorem dX9_act_20 : decode cX9_act 20 = .ok (.iconst (-1), 1) := by decide +kernel
theorem dX9_act_21 : decode cX9_act 21 = .ok (.ireturn, 1) := by decide +kernel
set_option maxRecDepth 20000 in
theorem ggX9_conditionWord_X9_at : GoodIn wsX9_conditionWord wsX9_at := goodIn_q _ [(5, 6), (19, 32)] (by decide +kernel) (by decide +kernel)
set_option maxRecDepth 20000 in
theorem gX9_conditionWord_X9_at : GoodIn wsX9_conditionWord (wsV RX9 93 RX9 yX9_at wsX9_at) := goodIn_app (goodIn_of _ (by decide +kernel)) ggX9_conditionWord_X9_at
set_option maxRecDepth 20000 in
theorem ggX9_conditionWord_X9_number : GoodIn wsX9_conditionWord wsX9_number := goodIn_q _ [(14, 4), (4, 1), (18, 1), (6, 2), (9, 1), (8, 1), (1, 3), (5, 1), (10, 1), (19, 32)] (by decide +kernel) (by decide +kernel)
set_option maxRecDepth 20000 in
theorem gX9_conditionWord_X9_number : GoodIn wsX9_conditionWord (wsV RX9 97 RX9 yX9_number wsX9_number) := goodIn_app (goodIn_of _ (by decide +kernel)) ggX9_conditionWord_X9_number
theorem dX9_conditionWord_0 : decode cX9_conditionWord 0 = .ok (.aload_n 0, 1) := by decide +kernel
theorem dX9_conditionWord_1 : decode cX9_conditionWord 1 = .ok (.iconst 0, 1) := by decide +kernel
theorem dX9_conditionWord_2 : decode cX9_conditionWord 2 = .ok (.invokevirtual 93, 3) := by decide +kernel
theorem dX9_conditionWord_5 : decode cX9_conditionWord 5 = .ok (.bipush 99, 2) := by decide +kernel
theorem dX9_conditionWord_7 : decode cX9_conditionWord 7 = .ok (.if_icmp .ne 13, 3) := by decide +kernel
theorem dX9_conditionWord_10 : decode cX9_conditionWord 10 = .ok (.aload_n 0, 1) := by decide +kernel
theorem dX9_conditionWord_11 : decode cX9_conditionWord 11 = .ok (.iconst 1, 1) := by decide +kernel
theorem dX9_conditionWord_12 : decode cX9_conditionWord 12 = .ok (.bipush 15, 2) := by decide +kernel
theorem dX9_conditionWord_14 : decode cX9_conditionWord 14 = .ok (.invokevirtual 97, 3) := by decide +kernel
theorem dX9_conditionWord_17 : decode cX9_conditionWord 17 = .ok (.goto 4, 3) := by decide +kernel
theorem dX9_conditionWord_20 : decode cX9_conditionWord 20 = .ok (.iconst (-1), 1) := by decide +kernel
theorem dX9_conditionWord_21 : decode cX9_conditionWord 21 = .ok (.ireturn, 1) := by decide +kernel
theorem dX9_node_0 : decode cX9_node 0 = .ok (.sipush 3000, 3) := by decide +kernel
theorem dX9_node_3 : decode cX9_node 3 = .ok (.iconst 1, 1) := by decide +kernel
theorem dX9_node_4 : decode cX9_node 4 = .ok (.aload_n 0, 1) := by decide +kernel
theorem dX9_node_5 : decode cX9_node 5 = .ok (.getfield 101, 3) := by decide +kernel
theorem dX9_node_8 : decode cX9_node 8 = .ok (.isub, 1) := by decide +kernel
theorem dX9_node_9 : decode cX9_node 9 = .ok (.imul, 1) := by decide +kernel
theorem dX9_node_10 : decode cX9_node 10 = .ok (.aload_n 0, 1) := by decide +kernel
theorem dX9_node_11 : decode cX9_node 11 = .ok (.getfield 104, 3) := by decide +kernel
theorem dX9_node_14 : decode cX9_node 14 = .ok (.iadd, 1) := by decide +kernel
theorem dX9_node_15 : decode cX9_node 15 = .ok (.istore 4, 2) := by decide +kernel
theorem dX9_node_17 : decode cX9_node 17 = .ok (.aload_n 0, 1) := by decide +kernel
theorem dX9_node_18 : decode cX9_node 18 = .ok (.getfield 20, 3) := by decide +kernel
theorem dX9_node_21 : decode cX9_node 21 = .ok (.iload 4, 2) := by decide +kernel
theorem dX9_node_23 : decode cX9_node 23 = .ok (.iload_n 1, 1) := by decide +kernel
theorem dX9_node_24 : decode cX9_node 24 = .ok (.iastore, 1) := by decide +kernel
theorem dX9_node_25 : decode cX9_node 25 = .ok (.aload_n 0, 1) := by decide +kernel
theorem dX9_node_26 : decode cX9_node 26 = .ok (.getfield 23, 3) := by decide +kernel
theorem dX9_node_29 : decode cX9_node 29 = .ok (.iload 4, 2) := by decide +kernel
theorem dX9_node_31 : decode cX9_node 31 = .ok (.iload_n 2, 1) := by decide +kernel
theorem dX9_node_32 : decode cX9_node 32 = .ok (.iastore, 1) := by decide +kernel
theorem dX9_node_33 : decode cX9_node 33 = .ok (.aload_n 0, 1) := by decide +kernel
theorem dX9_node_34 : decode cX9_node 34 = .ok (.getfield 26, 3) := by decide +kernel
theorem dX9_node_37 : decode cX9_node 37 = .ok (.iload 4, 2) := by decide +kernel
theorem dX9_node_39 : decode cX9_node 39 = .ok (.iload_n 3, 1) := by decide +kernel
theorem dX9_node_40 : decode cX9_node 40 = .ok (.iastore, 1) := by decide +kernel
theorem dX9_node_41 : decode cX9_node 41 = .ok (.aload_n 0, 1) := by decide +kernel
theorem dX9_node_42 : decode cX9_node 42 = .ok (.dup, 1) := by decide +kernel
theorem dX9_node_43 : decode cX9_node 43 = .ok (.getfield 104, 3) := by decide +kernel
theorem dX9_node_46 : decode cX9_node 46 = .ok (.iconst 1, 1) := by decide +kernel
theorem dX9_node_47 : decode cX9_node 47 = .ok (.iadd, 1) := by decide +kernel
theorem dX9_node_48 : decode cX9_node 48 = .ok (.putfield 104, 3) := by decide +kernel
theorem dX9_node_51 : decode cX9_node 51 = .ok (.iload 4, 2) := by decide +kernel
theorem dX9_node_53 : decode cX9_node 53 = .ok (.ireturn, 1) := by decide +kernel
set_option maxRecDepth 20000 in
theorem ggX9_or_X9_and : GoodIn wsX9_or wsX9_and := goodIn_q _ [(31, 1), (1, 1), (32, 3), (5, 26), (0, 1), (2, 3), (35, 50)] (by decide +kernel) (by decide +kernel)
set_option maxRecDepth 20000 in
theorem gX9_or_X9_and : GoodIn wsX9_or (wsV RX9 107 RX9 yX9_and wsX9_and) := goodIn_app (goodIn_of _ (by decide +kernel)) ggX9_or_X9_and
set_option maxRecDepth 20000 in
theorem ggX9_or_X9_is : GoodIn wsX9_or wsX9_is := goodIn_q _ [(9, 4), (5, 1), (13, 1), (1, 1), (14, 8), (53, 32)] (by decide +kernel) (by decide +kernel)
set_option maxRecDepth 20000 in
theorem gX9_or_X9_is : GoodIn wsX9_or (wsV RX9 110 RX9 yX9_is wsX9_is) := goodIn_app (goodIn_of _ (by decide +kernel)) ggX9_or_X9_is
set_option maxRecDepth 20000 in
theorem ggX9_or_X9_node : GoodIn wsX9_or wsX9_node := goodIn_q _ [(25, 6), (53, 32)] (by decide +kernel) (by decide +kernel)
set_option maxRecDepth 20000 in
theorem gX9_or_X9_node : GoodIn wsX9_or (wsV RX9 114 RX9 yX9_node wsX9_node) := goodIn_app (goodIn_of _ (by decide +kernel)) ggX9_or_X9_node
theorem dX9_or_0 : decode cX9_or 0 = .ok (.aload_n 0, 1) := by decide +kernel
theorem dX9_or_1 : decode cX9_or 1 = .ok (.invokevirtual 107, 3) := by decide +kernel
theorem dX9_or_4 : decode cX9_or 4 = .ok (.istore_n 1, 1) := by decide +kernel
theorem dX9_or_5 : decode cX9_or 5 = .ok (.iload_n 1, 1) := by decide +kernel
theorem dX9_or_6 : decode cX9_or 6 = .ok (.ifCond .lt 55, 3) := by decide +kernel
theorem dX9_or_9 : decode cX9_or 9 = .ok (.aload_n 0, 1) := by decide +kernel
theorem dX9_or_10 : decode cX9_or 10 = .ok (.bipush 111, 2) := by decide +kernel
theorem dX9_or_12 : decode cX9_or 12 = .ok (.bipush 114, 2) := by decide +kernel
theorem dX9_or_14 : decode cX9_or 14 = .ok (.iconst 0, 1) := by decide +kernel
theorem dX9_or_15 : decode cX9_or 15 = .ok (.iconst 0, 1) := by decide +kernel
theorem dX9_or_16 : decode cX9_or 16 = .ok (.iconst 0, 1) := by decide +kernel
theorem dX9_or_17 : decode cX9_or 17 = .ok (.iconst 0, 1) := by decide +kernel
theorem dX9_or_18 : decode cX9_or 18 = .ok (.iconst 0, 1) := by decide +kernel
theorem dX9_or_19 : decode cX9_or 19 = .ok (.iconst 2, 1) := by decide +kernel
theorem dX9_or_20 : decode cX9_or 20 = .ok (.invokevirtual 110, 3) := by decide +kernel
theorem dX9_or_23 : decode cX9_or 23 = .ok (.ifCond .eq 38, 3) := by decide +kernel
theorem dX9_or_26 : decode cX9_or 26 = .ok (.aload_n 0, 1) := by decide +kernel
theorem dX9_or_27 : decode cX9_or 27 = .ok (.dup, 1) := by decide +kernel
theorem dX9_or_28 : decode cX9_or 28 = .ok (.getfield 86, 3) := by decide +kernel
theorem dX9_or_31 : decode cX9_or 31 = .ok (.iconst 1, 1) := by decide +kernel
theorem dX9_or_32 : decode cX9_or 32 = .ok (.iadd, 1) := by decide +kernel
theorem dX9_or_33 : decode cX9_or 33 = .ok (.putfield 86, 3) := by decide +kernel
theorem dX9_or_36 : decode cX9_or 36 = .ok (.aload_n 0, 1) := by decide +kernel
theorem dX9_or_37 : decode cX9_or 37 = .ok (.invokevirtual 107, 3) := by decide +kernel
theorem dX9_or_40 : decode cX9_or 40 = .ok (.istore_n 2, 1) := by decide +kernel
theorem dX9_or_41 : decode cX9_or 41 = .ok (.iload_n 2, 1) := by decide +kernel
theorem dX9_or_42 : decode cX9_or 42 = .ok (.ifCond .ge 7, 3) := by decide +kernel
theorem dX9_or_45 : decode cX9_or 45 = .ok (.iconst (-1), 1) := by decide +kernel
theorem dX9_or_46 : decode cX9_or 46 = .ok (.goto 11, 3) := by decide +kernel
theorem dX9_or_49 : decode cX9_or 49 = .ok (.aload_n 0, 1) := by decide +kernel
theorem dX9_or_50 : decode cX9_or 50 = .ok (.bipush 18, 2) := by decide +kernel
theorem dX9_or_52 : decode cX9_or 52 = .ok (.iload_n 1, 1) := by decide +kernel
theorem dX9_or_53 : decode cX9_or 53 = .ok (.iload_n 2, 1) := by decide +kernel
theorem dX9_or_54 : decode cX9_or 54 = .ok (.invokevirtual 114, 3) := by decide +kernel
theorem dX9_or_57 : decode cX9_or 57 = .ok (.istore_n 1, 1) := by decide +kernel
theorem dX9_or_58 : decode cX9_or 58 = .ok (.goto (-53), 3) := by decide +kernel
theorem dX9_or_61 : decode cX9_or 61 = .ok (.iload_n 1, 1) := by decide +kernel
theorem dX9_or_62 : decode cX9_or 62 = .ok (.ireturn, 1) := by decide +kernel
set_option maxRecDepth 20000 in
theorem ggX9_and_X9_part : GoodIn wsX9_and wsX9_part := goodIn_q _ [(35, 2), (1, 1), (37, 1), (6, 3), (5, 1), (9, 13), (38, 4), (2, 3), (42, 3), (22, 9), (45, 8), (0, 1), (31, 4), (53, 32)] (by decide +kernel) (by decide +kernel)
set_option maxRecDepth 20000 in
theorem gX9_and_X9_part : GoodIn wsX9_and (wsV RX9 118 RX9 yX9_part wsX9_part) := goodIn_app (goodIn_of _ (by decide +kernel)) ggX9_and_X9_part
set_option maxRecDepth 20000 in
theorem ggX9_and_X9_is : GoodIn wsX9_and wsX9_is := goodIn_q _ [(9, 4), (5, 1), (13, 1), (1, 1), (14, 8), (53, 32)] (by decide +kernel) (by decide +kernel)
set_option maxRecDepth 20000 in
theorem gX9_and_X9_is : GoodIn wsX9_and (wsV RX9 110 RX9 yX9_is wsX9_is) := goodIn_app (goodIn_of _ (by decide +kernel)) ggX9_and_X9_is
set_option maxRecDepth 20000 in
theorem ggX9_and_X9_node : GoodIn wsX9_and wsX9_node := goodIn_q _ [(25, 6), (53, 32)] (by decide +kernel) (by decide +kernel)
set_option maxRecDepth 20000 in
theorem gX9_and_X9_node : GoodIn wsX9_and (wsV RX9 114 RX9 yX9_node wsX9_node) := goodIn_app (goodIn_of _ (by decide +kernel)) ggX9_and_X9_node
theorem dX9_and_0 : decode cX9_and 0 = .ok (.aload_n 0, 1) := by decide +kernel
theorem dX9_and_1 : decode cX9_and 1 = .ok (.invokevirtual 118, 3) := by decide +kernel
theorem dX9_and_4 : decode cX9_and 4 = .ok (.istore_n 1, 1) := by decide +kernel
theorem dX9_and_5 : decode cX9_and 5 = .ok (.iload_n 1, 1) := by decide +kernel
theorem dX9_and_6 : decode cX9_and 6 = .ok (.ifCond .lt 56, 3) := by decide +kernel
theorem dX9_and_9 : decode cX9_and 9 = .ok (.aload_n 0, 1) := by decide +kernel
theorem dX9_and_10 : decode cX9_and 10 = .ok (.bipush 97, 2) := by decide +kernel
theorem dX9_and_12 : decode cX9_and 12 = .ok (.bipush 110, 2) := by decide +kernel
theorem dX9_and_14 : decode cX9_and 14 = .ok (.bipush 100, 2) := by decide +kernel
theorem dX9_and_16 : decode cX9_and 16 = .ok (.iconst 0, 1) := by decide +kernel
theorem dX9_and_17 : decode cX9_and 17 = .ok (.iconst 0, 1) := by decide +kernel
theorem dX9_and_18 : decode cX9_and 18 = .ok (.iconst 0, 1) := by decide +kernel
theorem dX9_and_19 : decode cX9_and 19 = .ok (.iconst 0, 1) := by decide +kernel
theorem dX9_and_20 : decode cX9_and 20 = .ok (.iconst 3, 1) := by decide +kernel
theorem dX9_and_21 : decode cX9_and 21 = .ok (.invokevirtual 110, 3) := by decide +kernel
theorem dX9_and_24 : decode cX9_and 24 = .ok (.ifCond .eq 38, 3) := by decide +kernel
theorem dX9_and_27 : decode cX9_and 27 = .ok (.aload_n 0, 1) := by decide +kernel
theorem dX9_and_28 : decode cX9_and 28 = .ok (.dup, 1) := by decide +kernel
theorem dX9_and_29 : decode cX9_and 29 = .ok (.getfield 86, 3) := by decide +kernel
theorem dX9_and_32 : decode cX9_and 32 = .ok (.iconst 1, 1) := by decide +kernel
theorem dX9_and_33 : decode cX9_and 33 = .ok (.iadd, 1) := by decide +kernel
theorem dX9_and_34 : decode cX9_and 34 = .ok (.putfield 86, 3) := by decide +kernel
theorem dX9_and_37 : decode cX9_and 37 = .ok (.aload_n 0, 1) := by decide +kernel
theorem dX9_and_38 : decode cX9_and 38 = .ok (.invokevirtual 118, 3) := by decide +kernel
theorem dX9_and_41 : decode cX9_and 41 = .ok (.istore_n 2, 1) := by decide +kernel
theorem dX9_and_42 : decode cX9_and 42 = .ok (.iload_n 2, 1) := by decide +kernel
theorem dX9_and_43 : decode cX9_and 43 = .ok (.ifCond .ge 7, 3) := by decide +kernel
theorem dX9_and_46 : decode cX9_and 46 = .ok (.iconst (-1), 1) := by decide +kernel
theorem dX9_and_47 : decode cX9_and 47 = .ok (.goto 11, 3) := by decide +kernel
theorem dX9_and_50 : decode cX9_and 50 = .ok (.aload_n 0, 1) := by decide +kernel
theorem dX9_and_51 : decode cX9_and 51 = .ok (.bipush 17, 2) := by decide +kernel
theorem dX9_and_53 : decode cX9_and 53 = .ok (.iload_n 1, 1) := by decide +kernel
theorem dX9_and_54 : decode cX9_and 54 = .ok (.iload_n 2, 1) := by decide +kernel
theorem dX9_and_55 : decode cX9_and 55 = .ok (.invokevirtual 114, 3) := by decide +kernel
theorem dX9_and_58 : decode cX9_and 58 = .ok (.istore_n 1, 1) := by decide +kernel
theorem dX9_and_59 : decode cX9_and 59 = .ok (.goto (-54), 3) := by decide +kernel
theorem dX9_and_62 : decode cX9_and 62 = .ok (.iload_n 1, 1) := by decide +kernel
theorem dX9_and_63 : decode cX9_and 63 = .ok (.ireturn, 1) := by decide +kernel
set_option maxRecDepth 20000 in
theorem ggX9_part_X9_is : GoodIn wsX9_part wsX9_is := goodIn_q _ [(8, 4), (7, 1), (12, 1), (2, 1), (13, 8), (53, 32)] (by decide +kernel) (by decide +kernel)
set_option maxRecDepth 20000 in
theorem gX9_part_X9_is : GoodIn wsX9_part (wsV RX9 110 RX9 yX9_is wsX9_is) := goodIn_app (goodIn_of _ (by decide +kernel)) ggX9_part_X9_is
set_option maxRecDepth 20000 in
theorem ggX9_part_X9_isOne : GoodIn wsX9_part wsX9_isOne := goodIn_q _ [(24, 1), (9, 3), (7, 1), (12, 1), (2, 1), (13, 8), (53, 32)] (by decide +kernel) (by decide +kernel)
set_option maxRecDepth 20000 in
theorem gX9_part_X9_isOne : GoodIn wsX9_part (wsV RX9 121 RX9 yX9_isOne wsX9_isOne) := goodIn_app (goodIn_of _ (by decide +kernel)) ggX9_part_X9_isOne
set_option maxRecDepth 20000 in
theorem ggX9_part_X9_part : GoodIn wsX9_part wsX9_part := goodIn_q _ [(0, 85)] (by decide +kernel) (by decide +kernel)
set_option maxRecDepth 20000 in
theorem gX9_part_X9_part : GoodIn wsX9_part (wsV RX9 118 RX9 yX9_part wsX9_part) := goodIn_app (goodIn_of _ (by decide +kernel)) ggX9_part_X9_part
set_option maxRecDepth 20000 in
theorem ggX9_part_X9_or : GoodIn wsX9_part wsX9_or := goodIn_q _ [(49, 1), (2, 1), (50, 3), (7, 1), (4, 3), (8, 13), (31, 9), (48, 1), (25, 3), (0, 2), (3, 1), (21, 4), (28, 3), (40, 8), (53, 32)] (by decide +kernel) (by decide +kernel)
set_option maxRecDepth 20000 in
theorem gX9_part_X9_or : GoodIn wsX9_part (wsV RX9 127 RX9 yX9_or wsX9_or) := goodIn_app (goodIn_of _ (by decide +kernel)) ggX9_part_X9_or
set_option maxRecDepth 20000 in
theorem ggX9_part_X9_node : GoodIn wsX9_part wsX9_node := goodIn_q _ [(34, 6), (53, 32)] (by decide +kernel) (by decide +kernel)
set_option maxRecDepth 20000 in
theorem gX9_part_X9_node : GoodIn wsX9_part (wsV RX9 114 RX9 yX9_node wsX9_node) := goodIn_app (goodIn_of _ (by decide +kernel)) ggX9_part_X9_node
set_option maxRecDepth 20000 in
theorem ggX9_part_X9_conditionWord : GoodIn wsX9_part wsX9_conditionWord := goodIn_q _ [(43, 1), (16, 3), (7, 1), (19, 1), (2, 1), (13, 1), (15, 1), (14, 1), (20, 1), (44, 4), (9, 4), (53, 32)] (by decide +kernel) (by decide +kernel)
set_option maxRecDepth 20000 in
theorem gX9_part_X9_conditionWord : GoodIn wsX9_part (wsV RX9 130 RX9 yX9_conditionWord wsX9_conditionWord) := goodIn_app (goodIn_of _ (by decide +kernel)) ggX9_part_X9_conditionWord
theorem dX9_part_0 : decode cX9_part 0 = .ok (.aload_n 0, 1) := by decide +kernel
theorem dX9_part_1 : decode cX9_part 1 = .ok (.bipush 110, 2) := by decide +kernel
theorem dX9_part_3 : decode cX9_part 3 = .ok (.bipush 111, 2) := by decide +kernel
theorem dX9_part_5 : decode cX9_part 5 = .ok (.bipush 116, 2) := by decide +kernel
theorem dX9_part_7 : decode cX9_part 7 = .ok (.iconst 0, 1) := by decide +kernel
theorem dX9_part_8 : decode cX9_part 8 = .ok (.iconst 0, 1) := by decide +kernel
theorem dX9_part_9 : decode cX9_part 9 = .ok (.iconst 0, 1) := by decide +kernel
theorem dX9_part_10 : decode cX9_part 10 = .ok (.iconst 0, 1) := by decide +kernel
theorem dX9_part_11 : decode cX9_part 11 = .ok (.iconst 3, 1) := by decide +kernel
theorem dX9_part_12 : decode cX9_part 12 = .ok (.invokevirtual 110, 3) := by decide +kernel
theorem dX9_part_15 : decode cX9_part 15 = .ok (.istore_n 1, 1) := by decide +kernel
theorem dX9_part_16 : decode cX9_part 16 = .ok (.iload_n 1, 1) := by decide +kernel
theorem dX9_part_17 : decode cX9_part 17 = .ok (.ifCond .ne 12, 3) := by decide +kernel
theorem dX9_part_20 : decode cX9_part 20 = .ok (.aload_n 0, 1) := by decide +kernel
theorem dX9_part_21 : decode cX9_part 21 = .ok (.bipush 40, 2) := by decide +kernel
theorem dX9_part_23 : decode cX9_part 23 = .ok (.invokevirtual 121, 3) := by decide +kernel
theorem dX9_part_26 : decode cX9_part 26 = .ok (.ifCond .eq 114, 3) := by decide +kernel
theorem dX9_part_29 : decode cX9_part 29 = .ok (.aload_n 0, 1) := by decide +kernel
theorem dX9_part_30 : decode cX9_part 30 = .ok (.getfield 124, 3) := by decide +kernel
theorem dX9_part_33 : decode cX9_part 33 = .ok (.bipush 20, 2) := by decide +kernel
theorem dX9_part_35 : decode cX9_part 35 = .ok (.if_icmp .ne 5, 3) := by decide +kernel
theorem dX9_part_38 : decode cX9_part 38 = .ok (.iconst (-1), 1) := by decide +kernel
theorem dX9_part_39 : decode cX9_part 39 = .ok (.ireturn, 1) := by decide +kernel
theorem dX9_part_40 : decode cX9_part 40 = .ok (.aload_n 0, 1) := by decide +kernel
theorem dX9_part_41 : decode cX9_part 41 = .ok (.dup, 1) := by decide +kernel
theorem dX9_part_42 : decode cX9_part 42 = .ok (.getfield 86, 3) := by decide +kernel
theorem dX9_part_45 : decode cX9_part 45 = .ok (.iconst 1, 1) := by decide +kernel
theorem dX9_part_46 : decode cX9_part 46 = .ok (.iadd, 1) := by decide +kernel
theorem dX9_part_47 : decode cX9_part 47 = .ok (.putfield 86, 3) := by decide +kernel
theorem dX9_part_50 : decode cX9_part 50 = .ok (.aload_n 0, 1) := by decide +kernel
theorem dX9_part_51 : decode cX9_part 51 = .ok (.dup, 1) := by decide +kernel
theorem dX9_part_52 : decode cX9_part 52 = .ok (.getfield 124, 3) := by decide +kernel
theorem dX9_part_55 : decode cX9_part 55 = .ok (.iconst 1, 1) := by decide +kernel
theorem dX9_part_56 : decode cX9_part 56 = .ok (.iadd, 1) := by decide +kernel
theorem dX9_part_57 : decode cX9_part 57 = .ok (.putfield 124, 3) := by decide +kernel
theorem dX9_part_60 : decode cX9_part 60 = .ok (.iload_n 1, 1) := by decide +kernel
theorem dX9_part_61 : decode cX9_part 61 = .ok (.ifCond .eq 10, 3) := by decide +kernel
theorem dX9_part_64 : decode cX9_part 64 = .ok (.aload_n 0, 1) := by decide +kernel
theorem dX9_part_65 : decode cX9_part 65 = .ok (.invokevirtual 118, 3) := by decide +kernel
theorem dX9_part_68 : decode cX9_part 68 = .ok (.goto 7, 3) := by decide +kernel
theorem dX9_part_71 : decode cX9_part 71 = .ok (.aload_n 0, 1) := by decide +kernel
theorem dX9_part_72 : decode cX9_part 72 = .ok (.invokevirtual 127, 3) := by decide +kernel
theorem dX9_part_75 : decode cX9_part 75 = .ok (.istore_n 2, 1) := by decide +kernel
theorem dX9_part_76 : decode cX9_part 76 = .ok (.iload_n 2, 1) := by decide +kernel
theorem dX9_part_77 : decode cX9_part 77 = .ok (.ifCond .lt 16, 3) := by decide +kernel
theorem dX9_part_80 : decode cX9_part 80 = .ok (.iload_n 1, 1) := by decide +kernel
theorem dX9_part_81 : decode cX9_part 81 = .ok (.ifCond .ne 14, 3) := by decide +kernel
theorem dX9_part_84 : decode cX9_part 84 = .ok (.aload_n 0, 1) := by decide +kernel
theorem dX9_part_85 : decode cX9_part 85 = .ok (.bipush 41, 2) := by decide +kernel
theorem dX9_part_87 : decode cX9_part 87 = .ok (.invokevirtual 121, 3) := by decide +kernel
theorem dX9_part_90 : decode cX9_part 90 = .ok (.ifCond .ne 5, 3) := by decide +kernel
theorem dX9_part_93 : decode cX9_part 93 = .ok (.iconst (-1), 1) := by decide +kernel
theorem dX9_part_94 : decode cX9_part 94 = .ok (.ireturn, 1) := by decide +kernel
theorem dX9_part_95 : decode cX9_part 95 = .ok (.aload_n 0, 1) := by decide +kernel
theorem dX9_part_96 : decode cX9_part 96 = .ok (.dup, 1) := by decide +kernel
theorem dX9_part_97 : decode cX9_part 97 = .ok (.getfield 86, 3) := by decide +kernel
theorem dX9_part_100 : decode cX9_part 100 = .ok (.iload_n 1, 1) := by decide +kernel
theorem dX9_part_101 : decode cX9_part 101 = .ok (.ifCond .eq 7, 3) := by decide +kernel
theorem dX9_part_104 : decode cX9_part 104 = .ok (.iconst 0, 1) := by decide +kernel
theorem dX9_part_105 : decode cX9_part 105 = .ok (.goto 4, 3) := by decide +kernel
theorem dX9_part_108 : decode cX9_part 108 = .ok (.iconst 1, 1) := by decide +kernel
theorem dX9_part_109 : decode cX9_part 109 = .ok (.iadd, 1) := by decide +kernel
theorem dX9_part_110 : decode cX9_part 110 = .ok (.putfield 86, 3) := by decide +kernel
theorem dX9_part_113 : decode cX9_part 113 = .ok (.aload_n 0, 1) := by decide +kernel
theorem dX9_part_114 : decode cX9_part 114 = .ok (.dup, 1) := by decide +kernel
theorem dX9_part_115 : decode cX9_part 115 = .ok (.getfield 124, 3) := by decide +kernel
theorem dX9_part_118 : decode cX9_part 118 = .ok (.iconst 1, 1) := by decide +kernel
theorem dX9_part_119 : decode cX9_part 119 = .ok (.isub, 1) := by decide +kernel
theorem dX9_part_120 : decode cX9_part 120 = .ok (.putfield 124, 3) := by decide +kernel
theorem dX9_part_123 : decode cX9_part 123 = .ok (.iload_n 1, 1) := by decide +kernel
theorem dX9_part_124 : decode cX9_part 124 = .ok (.ifCond .eq 14, 3) := by decide +kernel
theorem dX9_part_127 : decode cX9_part 127 = .ok (.aload_n 0, 1) := by decide +kernel
theorem dX9_part_128 : decode cX9_part 128 = .ok (.bipush 16, 2) := by decide +kernel
theorem dX9_part_130 : decode cX9_part 130 = .ok (.iload_n 2, 1) := by decide +kernel
theorem dX9_part_131 : decode cX9_part 131 = .ok (.iconst (-1), 1) := by decide +kernel
theorem dX9_part_132 : decode cX9_part 132 = .ok (.invokevirtual 114, 3) := by decide +kernel
theorem dX9_part_135 : decode cX9_part 135 = .ok (.goto 4, 3) := by decide +kernel
theorem dX9_part_138 : decode cX9_part 138 = .ok (.iload_n 2, 1) := by decide +kernel
theorem dX9_part_139 : decode cX9_part 139 = .ok (.ireturn, 1) := by decide +kernel
theorem dX9_part_140 : decode cX9_part 140 = .ok (.aload_n 0, 1) := by decide +kernel
theorem dX9_part_141 : decode cX9_part 141 = .ok (.invokevirtual 130, 3) := by decide +kernel
theorem dX9_part_144 : decode cX9_part 144 = .ok (.istore_n 2, 1) := by decide +kernel
theorem dX9_part_145 : decode cX9_part 145 = .ok (.iload_n 2, 1) := by decide +kernel
theorem dX9_part_146 : decode cX9_part 146 = .ok (.ifCond .lt 12, 3) := by decide +kernel
theorem dX9_part_149 : decode cX9_part 149 = .ok (.aload_n 0, 1) := by decide +kernel
theorem dX9_part_150 : decode cX9_part 150 = .ok (.getfield 133, 3) := by decide +kernel
theorem dX9_part_153 : decode cX9_part 153 = .ok (.bipush 32, 2) := by decide +kernel
theorem dX9_part_155 : decode cX9_part 155 = .ok (.if_icmp .ne 5, 3) := by decide +kernel
theorem dX9_part_158 : decode cX9_part 158 = .ok (.iconst (-1), 1) := by decide +kernel
theorem dX9_part_159 : decode cX9_part 159 = .ok (.ireturn, 1) := by decide +kernel
theorem dX9_part_160 : decode cX9_part 160 = .ok (.aload_n 0, 1) := by decide +kernel
theorem dX9_part_161 : decode cX9_part 161 = .ok (.dup, 1) := by decide +kernel
theorem dX9_part_162 : decode cX9_part 162 = .ok (.getfield 133, 3) := by decide +kernel
theorem dX9_part_165 : decode cX9_part 165 = .ok (.iconst 1, 1) := by decide +kernel
theorem dX9_part_166 : decode cX9_part 166 = .ok (.iadd, 1) := by decide +kernel
theorem dX9_part_167 : decode cX9_part 167 = .ok (.putfield 133, 3) := by decide +kernel
theorem dX9_part_170 : decode cX9_part 170 = .ok (.aload_n 0, 1) := by decide +kernel
theorem dX9_part_171 : decode cX9_part 171 = .ok (.dup, 1) := by decide +kernel
theorem dX9_part_172 : decode cX9_part 172 = .ok (.getfield 86, 3) := by decide +kernel
theorem dX9_part_175 : decode cX9_part 175 = .ok (.iconst 1, 1) := by decide +kernel
theorem dX9_part_176 : decode cX9_part 176 = .ok (.iadd, 1) := by decide +kernel
theorem dX9_part_177 : decode cX9_part 177 = .ok (.putfield 86, 3) := by decide +kernel
theorem dX9_part_180 : decode cX9_part 180 = .ok (.aload_n 0, 1) := by decide +kernel
theorem dX9_part_181 : decode cX9_part 181 = .ok (.iload_n 2, 1) := by decide +kernel
theorem dX9_part_182 : decode cX9_part 182 = .ok (.iconst (-1), 1) := by decide +kernel
theorem dX9_part_183 : decode cX9_part 183 = .ok (.iconst (-1), 1) := by decide +kernel
theorem dX9_part_184 : decode cX9_part 184 = .ok (.invokevirtual 114, 3) := by decide +kernel
theorem dX9_part_187 : decode cX9_part 187 = .ok (.ireturn, 1) := by decide +kernel
set_option maxRecDepth 20000 in
theorem ggX9_readRow_X9_act : GoodIn wsX9_readRow wsX9_act := goodIn_q _ [(16, 4), (15, 1), (20, 1), (3, 1), (21, 12), (65, 32)] (by decide +kernel) (by decide +kernel)
set_option maxRecDepth 20000 in
theorem gX9_readRow_X9_act : GoodIn wsX9_readRow (wsV RX9 139 RX9 yX9_act wsX9_act) := goodIn_app (goodIn_of _ (by decide +kernel)) ggX9_readRow_X9_act
set_option maxRecDepth 20000 in
theorem ggX9_readRow_X9_is : GoodIn wsX9_readRow wsX9_is := goodIn_q _ [(36, 1), (29, 3), (15, 1), (32, 1), (3, 1), (21, 1), (23, 1), (22, 1), (17, 4), (24, 1), (65, 32)] (by decide +kernel) (by decide +kernel)
set_option maxRecDepth 20000 in
theorem gX9_readRow_X9_is : GoodIn wsX9_readRow (wsV RX9 110 RX9 yX9_is wsX9_is) := goodIn_app (goodIn_of _ (by decide +kernel)) ggX9_readRow_X9_is
set_option maxRecDepth 20000 in
theorem ggX9_readRow_X9_or : GoodIn wsX9_readRow wsX9_or := goodIn_q _ [(40, 1), (3, 1), (41, 3), (15, 1), (33, 4), (29, 4), (21, 1), (23, 1), (22, 1), (17, 4), (24, 1), (44, 4), (1, 1), (48, 9), (6, 2), (57, 4), (37, 3), (61, 4), (25, 4), (65, 32)] (by decide +kernel) (by decide +kernel)
set_option maxRecDepth 20000 in
theorem gX9_readRow_X9_or : GoodIn wsX9_readRow (wsV RX9 127 RX9 yX9_or wsX9_or) := goodIn_app (goodIn_of _ (by decide +kernel)) ggX9_readRow_X9_or
set_option maxRecDepth 20000 in
theorem ggX9_readRow_X9_number : GoodIn wsX9_readRow wsX9_number := goodIn_q _ [(28, 4), (15, 1), (32, 1), (3, 1), (21, 1), (23, 1), (22, 1), (17, 4), (24, 1), (65, 32)] (by decide +kernel) (by decide +kernel)
set_option maxRecDepth 20000 in
theorem gX9_readRow_X9_number : GoodIn wsX9_readRow (wsV RX9 97 RX9 yX9_number wsX9_number) := goodIn_app (goodIn_of _ (by decide +kernel)) ggX9_readRow_X9_number
set_option maxRecDepth 20000 in
theorem ggX9_readRow_X9_isOne : GoodIn wsX9_readRow wsX9_isOne := goodIn_q _ [(60, 1), (29, 3), (15, 1), (32, 1), (3, 1), (21, 1), (23, 1), (22, 1), (17, 4), (24, 1), (65, 32)] (by decide +kernel) (by decide +kernel)
set_option maxRecDepth 20000 in
theorem gX9_readRow_X9_isOne : GoodIn wsX9_readRow (wsV RX9 121 RX9 yX9_isOne wsX9_isOne) := goodIn_app (goodIn_of _ (by decide +kernel)) ggX9_readRow_X9_isOne
theorem dX9_readRow_0 : decode cX9_readRow 0 = .ok (.bipush 40, 2) := by decide +kernel
theorem dX9_readRow_2 : decode cX9_readRow 2 = .ok (.iconst 1, 1) := by decide +kernel
theorem dX9_readRow_3 : decode cX9_readRow 3 = .ok (.aload_n 0, 1) := by decide +kernel
theorem dX9_readRow_4 : decode cX9_readRow 4 = .ok (.getfield 101, 3) := by decide +kernel
theorem dX9_readRow_7 : decode cX9_readRow 7 = .ok (.isub, 1) := by decide +kernel
theorem dX9_readRow_8 : decode cX9_readRow 8 = .ok (.imul, 1) := by decide +kernel
theorem dX9_readRow_9 : decode cX9_readRow 9 = .ok (.aload_n 0, 1) := by decide +kernel
theorem dX9_readRow_10 : decode cX9_readRow 10 = .ok (.getfield 136, 3) := by decide +kernel
theorem dX9_readRow_13 : decode cX9_readRow 13 = .ok (.iadd, 1) := by decide +kernel
theorem dX9_readRow_14 : decode cX9_readRow 14 = .ok (.istore_n 1, 1) := by decide +kernel
theorem dX9_readRow_15 : decode cX9_readRow 15 = .ok (.aload_n 0, 1) := by decide +kernel
theorem dX9_readRow_16 : decode cX9_readRow 16 = .ok (.dup, 1) := by decide +kernel
theorem dX9_readRow_17 : decode cX9_readRow 17 = .ok (.getfield 86, 3) := by decide +kernel
theorem dX9_readRow_20 : decode cX9_readRow 20 = .ok (.iconst 1, 1) := by decide +kernel
theorem dX9_readRow_21 : decode cX9_readRow 21 = .ok (.iadd, 1) := by decide +kernel
theorem dX9_readRow_22 : decode cX9_readRow 22 = .ok (.putfield 86, 3) := by decide +kernel
theorem dX9_readRow_25 : decode cX9_readRow 25 = .ok (.iconst 0, 1) := by decide +kernel
theorem dX9_readRow_26 : decode cX9_readRow 26 = .ok (.istore_n 2, 1) := by decide +kernel
theorem dX9_readRow_27 : decode cX9_readRow 27 = .ok (.iconst 1, 1) := by decide +kernel
theorem dX9_readRow_28 : decode cX9_readRow 28 = .ok (.istore_n 3, 1) := by decide +kernel
theorem dX9_readRow_29 : decode cX9_readRow 29 = .ok (.iload_n 3, 1) := by decide +kernel
theorem dX9_readRow_30 : decode cX9_readRow 30 = .ok (.ifCond .eq 94, 3) := by decide +kernel
theorem dX9_readRow_33 : decode cX9_readRow 33 = .ok (.aload_n 0, 1) := by decide +kernel
theorem dX9_readRow_34 : decode cX9_readRow 34 = .ok (.invokevirtual 139, 3) := by decide +kernel
theorem dX9_readRow_37 : decode cX9_readRow 37 = .ok (.istore 4, 2) := by decide +kernel
theorem dX9_readRow_39 : decode cX9_readRow 39 = .ok (.iconst 0, 1) := by decide +kernel
theorem dX9_readRow_40 : decode cX9_readRow 40 = .ok (.istore 5, 2) := by decide +kernel
theorem dX9_readRow_42 : decode cX9_readRow 42 = .ok (.iload 5, 2) := by decide +kernel
theorem dX9_readRow_44 : decode cX9_readRow 44 = .ok (.iload_n 2, 1) := by decide +kernel
theorem dX9_readRow_45 : decode cX9_readRow 45 = .ok (.if_icmp .ge 34, 3) := by decide +kernel
theorem dX9_readRow_48 : decode cX9_readRow 48 = .ok (.aload_n 0, 1) := by decide +kernel
theorem dX9_readRow_49 : decode cX9_readRow 49 = .ok (.getfield 35, 3) := by decide +kernel
theorem dX9_readRow_52 : decode cX9_readRow 52 = .ok (.bipush 8, 2) := by decide +kernel
theorem dX9_readRow_54 : decode cX9_readRow 54 = .ok (.iload_n 1, 1) := by decide +kernel
theorem dX9_readRow_55 : decode cX9_readRow 55 = .ok (.imul, 1) := by decide +kernel
theorem dX9_readRow_56 : decode cX9_readRow 56 = .ok (.iload 5, 2) := by decide +kernel
theorem dX9_readRow_58 : decode cX9_readRow 58 = .ok (.iadd, 1) := by decide +kernel
theorem dX9_readRow_59 : decode cX9_readRow 59 = .ok (.iaload, 1) := by decide +kernel
theorem dX9_readRow_60 : decode cX9_readRow 60 = .ok (.iload 4, 2) := by decide +kernel
theorem dX9_readRow_62 : decode cX9_readRow 62 = .ok (.if_icmp .ne 7, 3) := by decide +kernel
theorem dX9_readRow_65 : decode cX9_readRow 65 = .ok (.iconst (-1), 1) := by decide +kernel
theorem dX9_readRow_66 : decode cX9_readRow 66 = .ok (.goto 5, 3) := by decide +kernel
theorem dX9_readRow_69 : decode cX9_readRow 69 = .ok (.iload 4, 2) := by decide +kernel
theorem dX9_readRow_71 : decode cX9_readRow 71 = .ok (.istore 4, 2) := by decide +kernel
theorem dX9_readRow_73 : decode cX9_readRow 73 = .ok (.iinc 5 1, 3) := by decide +kernel
theorem dX9_readRow_76 : decode cX9_readRow 76 = .ok (.goto (-34), 3) := by decide +kernel
theorem dX9_readRow_79 : decode cX9_readRow 79 = .ok (.iload 4, 2) := by decide +kernel
theorem dX9_readRow_81 : decode cX9_readRow 81 = .ok (.ifCond .lt 9, 3) := by decide +kernel
theorem dX9_readRow_84 : decode cX9_readRow 84 = .ok (.iload_n 2, 1) := by decide +kernel
theorem dX9_readRow_85 : decode cX9_readRow 85 = .ok (.bipush 8, 2) := by decide +kernel
theorem dX9_readRow_87 : decode cX9_readRow 87 = .ok (.if_icmp .ne 8, 3) := by decide +kernel
theorem dX9_readRow_90 : decode cX9_readRow 90 = .ok (.iconst 0, 1) := by decide +kernel
theorem dX9_readRow_91 : decode cX9_readRow 91 = .ok (.istore_n 3, 1) := by decide +kernel
theorem dX9_readRow_92 : decode cX9_readRow 92 = .ok (.goto 29, 3) := by decide +kernel
theorem dX9_readRow_95 : decode cX9_readRow 95 = .ok (.aload_n 0, 1) := by decide +kernel
theorem dX9_readRow_96 : decode cX9_readRow 96 = .ok (.getfield 35, 3) := by decide +kernel
theorem dX9_readRow_99 : decode cX9_readRow 99 = .ok (.bipush 8, 2) := by decide +kernel
theorem dX9_readRow_101 : decode cX9_readRow 101 = .ok (.iload_n 1, 1) := by decide +kernel
theorem dX9_readRow_102 : decode cX9_readRow 102 = .ok (.imul, 1) := by decide +kernel
theorem dX9_readRow_103 : decode cX9_readRow 103 = .ok (.iload_n 2, 1) := by decide +kernel
theorem dX9_readRow_104 : decode cX9_readRow 104 = .ok (.iadd, 1) := by decide +kernel
theorem dX9_readRow_105 : decode cX9_readRow 105 = .ok (.iload 4, 2) := by decide +kernel
theorem dX9_readRow_107 : decode cX9_readRow 107 = .ok (.iastore, 1) := by decide +kernel
theorem dX9_readRow_108 : decode cX9_readRow 108 = .ok (.iinc 2 1, 3) := by decide +kernel
theorem dX9_readRow_111 : decode cX9_readRow 111 = .ok (.aload_n 0, 1) := by decide +kernel
theorem dX9_readRow_112 : decode cX9_readRow 112 = .ok (.dup, 1) := by decide +kernel
theorem dX9_readRow_113 : decode cX9_readRow 113 = .ok (.getfield 86, 3) := by decide +kernel
theorem dX9_readRow_116 : decode cX9_readRow 116 = .ok (.iconst 1, 1) := by decide +kernel
theorem dX9_readRow_117 : decode cX9_readRow 117 = .ok (.iadd, 1) := by decide +kernel
theorem dX9_readRow_118 : decode cX9_readRow 118 = .ok (.putfield 86, 3) := by decide +kernel
theorem dX9_readRow_121 : decode cX9_readRow 121 = .ok (.goto (-92), 3) := by decide +kernel
theorem dX9_readRow_124 : decode cX9_readRow 124 = .ok (.iload_n 2, 1) := by decide +kernel
theorem dX9_readRow_125 : decode cX9_readRow 125 = .ok (.ifCond .eq 22, 3) := by decide +kernel
theorem dX9_readRow_128 : decode cX9_readRow 128 = .ok (.aload_n 0, 1) := by decide +kernel
theorem dX9_readRow_129 : decode cX9_readRow 129 = .ok (.bipush 119, 2) := by decide +kernel
theorem dX9_readRow_131 : decode cX9_readRow 131 = .ok (.bipush 104, 2) := by decide +kernel
theorem dX9_readRow_133 : decode cX9_readRow 133 = .ok (.bipush 101, 2) := by decide +kernel
theorem dX9_readRow_135 : decode cX9_readRow 135 = .ok (.bipush 110, 2) := by decide +kernel
theorem dX9_readRow_137 : decode cX9_readRow 137 = .ok (.iconst 0, 1) := by decide +kernel
theorem dX9_readRow_138 : decode cX9_readRow 138 = .ok (.iconst 0, 1) := by decide +kernel
theorem dX9_readRow_139 : decode cX9_readRow 139 = .ok (.iconst 0, 1) := by decide +kernel
theorem dX9_readRow_140 : decode cX9_readRow 140 = .ok (.iconst 4, 1) := by decide +kernel
theorem dX9_readRow_141 : decode cX9_readRow 141 = .ok (.invokevirtual 110, 3) := by decide +kernel
theorem dX9_readRow_144 : decode cX9_readRow 144 = .ok (.ifCond .ne 5, 3) := by decide +kernel
theorem dX9_readRow_147 : decode cX9_readRow 147 = .ok (.iconst 0, 1) := by decide +kernel
theorem dX9_readRow_148 : decode cX9_readRow 148 = .ok (.ireturn, 1) := by decide +kernel
theorem dX9_readRow_149 : decode cX9_readRow 149 = .ok (.aload_n 0, 1) := by decide +kernel
theorem dX9_readRow_150 : decode cX9_readRow 150 = .ok (.getfield 32, 3) := by decide +kernel
theorem dX9_readRow_153 : decode cX9_readRow 153 = .ok (.iload_n 1, 1) := by decide +kernel
theorem dX9_readRow_154 : decode cX9_readRow 154 = .ok (.iload_n 2, 1) := by decide +kernel
theorem dX9_readRow_155 : decode cX9_readRow 155 = .ok (.iastore, 1) := by decide +kernel
theorem dX9_readRow_156 : decode cX9_readRow 156 = .ok (.aload_n 0, 1) := by decide +kernel
theorem dX9_readRow_157 : decode cX9_readRow 157 = .ok (.dup, 1) := by decide +kernel
theorem dX9_readRow_158 : decode cX9_readRow 158 = .ok (.getfield 86, 3) := by decide +kernel
theorem dX9_readRow_161 : decode cX9_readRow 161 = .ok (.iconst 1, 1) := by decide +kernel
theorem dX9_readRow_162 : decode cX9_readRow 162 = .ok (.iadd, 1) := by decide +kernel
theorem dX9_readRow_163 : decode cX9_readRow 163 = .ok (.putfield 86, 3) := by decide +kernel
theorem dX9_readRow_166 : decode cX9_readRow 166 = .ok (.aload_n 0, 1) := by decide +kernel
theorem dX9_readRow_167 : decode cX9_readRow 167 = .ok (.iconst 0, 1) := by decide +kernel
theorem dX9_readRow_168 : decode cX9_readRow 168 = .ok (.putfield 124, 3) := by decide +kernel
theorem dX9_readRow_171 : decode cX9_readRow 171 = .ok (.aload_n 0, 1) := by decide +kernel
theorem dX9_readRow_172 : decode cX9_readRow 172 = .ok (.iconst 0, 1) := by decide +kernel
theorem dX9_readRow_173 : decode cX9_readRow 173 = .ok (.putfield 133, 3) := by decide +kernel
theorem dX9_readRow_176 : decode cX9_readRow 176 = .ok (.aload_n 0, 1) := by decide +kernel
theorem dX9_readRow_177 : decode cX9_readRow 177 = .ok (.getfield 29, 3) := by decide +kernel
theorem dX9_readRow_180 : decode cX9_readRow 180 = .ok (.iload_n 1, 1) := by decide +kernel
theorem dX9_readRow_181 : decode cX9_readRow 181 = .ok (.aload_n 0, 1) := by decide +kernel
theorem dX9_readRow_182 : decode cX9_readRow 182 = .ok (.invokevirtual 127, 3) := by decide +kernel
theorem dX9_readRow_185 : decode cX9_readRow 185 = .ok (.iastore, 1) := by decide +kernel
theorem dX9_readRow_186 : decode cX9_readRow 186 = .ok (.aload_n 0, 1) := by decide +kernel
theorem dX9_readRow_187 : decode cX9_readRow 187 = .ok (.getfield 29, 3) := by decide +kernel
theorem dX9_readRow_190 : decode cX9_readRow 190 = .ok (.iload_n 1, 1) := by decide +kernel
theorem dX9_readRow_191 : decode cX9_readRow 191 = .ok (.iaload, 1) := by decide +kernel
theorem dX9_readRow_192 : decode cX9_readRow 192 = .ok (.ifCond .ge 5, 3) := by decide +kernel
theorem dX9_readRow_195 : decode cX9_readRow 195 = .ok (.iconst 0, 1) := by decide +kernel
theorem dX9_readRow_196 : decode cX9_readRow 196 = .ok (.ireturn, 1) := by decide +kernel
theorem dX9_readRow_197 : decode cX9_readRow 197 = .ok (.aload_n 0, 1) := by decide +kernel
theorem dX9_readRow_198 : decode cX9_readRow 198 = .ok (.getfield 45, 3) := by decide +kernel
theorem dX9_readRow_201 : decode cX9_readRow 201 = .ok (.iload_n 1, 1) := by decide +kernel
theorem dX9_readRow_202 : decode cX9_readRow 202 = .ok (.aload_n 0, 1) := by decide +kernel
theorem dX9_readRow_203 : decode cX9_readRow 203 = .ok (.getfield 133, 3) := by decide +kernel
theorem dX9_readRow_206 : decode cX9_readRow 206 = .ok (.iastore, 1) := by decide +kernel
theorem dX9_readRow_207 : decode cX9_readRow 207 = .ok (.aload_n 0, 1) := by decide +kernel
theorem dX9_readRow_208 : decode cX9_readRow 208 = .ok (.getfield 38, 3) := by decide +kernel
theorem dX9_readRow_211 : decode cX9_readRow 211 = .ok (.iload_n 1, 1) := by decide +kernel
theorem dX9_readRow_212 : decode cX9_readRow 212 = .ok (.iconst 0, 1) := by decide +kernel
theorem dX9_readRow_213 : decode cX9_readRow 213 = .ok (.iastore, 1) := by decide +kernel
theorem dX9_readRow_214 : decode cX9_readRow 214 = .ok (.aload_n 0, 1) := by decide +kernel
theorem dX9_readRow_215 : decode cX9_readRow 215 = .ok (.bipush 102, 2) := by decide +kernel
theorem dX9_readRow_217 : decode cX9_readRow 217 = .ok (.bipush 111, 2) := by decide +kernel
theorem dX9_readRow_219 : decode cX9_readRow 219 = .ok (.bipush 114, 2) := by decide +kernel
theorem dX9_readRow_221 : decode cX9_readRow 221 = .ok (.iconst 0, 1) := by decide +kernel
theorem dX9_readRow_222 : decode cX9_readRow 222 = .ok (.iconst 0, 1) := by decide +kernel
theorem dX9_readRow_223 : decode cX9_readRow 223 = .ok (.iconst 0, 1) := by decide +kernel
theorem dX9_readRow_224 : decode cX9_readRow 224 = .ok (.iconst 0, 1) := by decide +kernel
theorem dX9_readRow_225 : decode cX9_readRow 225 = .ok (.iconst 3, 1) := by decide +kernel
theorem dX9_readRow_226 : decode cX9_readRow 226 = .ok (.invokevirtual 110, 3) := by decide +kernel
theorem dX9_readRow_229 : decode cX9_readRow 229 = .ok (.ifCond .eq 48, 3) := by decide +kernel
theorem dX9_readRow_232 : decode cX9_readRow 232 = .ok (.aload_n 0, 1) := by decide +kernel
theorem dX9_readRow_233 : decode cX9_readRow 233 = .ok (.dup, 1) := by decide +kernel
theorem dX9_readRow_234 : decode cX9_readRow 234 = .ok (.getfield 86, 3) := by decide +kernel
theorem dX9_readRow_237 : decode cX9_readRow 237 = .ok (.iconst 1, 1) := by decide +kernel
theorem dX9_readRow_238 : decode cX9_readRow 238 = .ok (.iadd, 1) := by decide +kernel
theorem dX9_readRow_239 : decode cX9_readRow 239 = .ok (.putfield 86, 3) := by decide +kernel
theorem dX9_readRow_242 : decode cX9_readRow 242 = .ok (.aload_n 0, 1) := by decide +kernel
theorem dX9_readRow_243 : decode cX9_readRow 243 = .ok (.iconst 0, 1) := by decide +kernel
theorem dX9_readRow_244 : decode cX9_readRow 244 = .ok (.sipush 3600, 3) := by decide +kernel
theorem dX9_readRow_247 : decode cX9_readRow 247 = .ok (.invokevirtual 97, 3) := by decide +kernel
theorem dX9_readRow_250 : decode cX9_readRow 250 = .ok (.istore 4, 2) := by decide +kernel
theorem dX9_readRow_252 : decode cX9_readRow 252 = .ok (.iload 4, 2) := by decide +kernel
theorem dX9_readRow_254 : decode cX9_readRow 254 = .ok (.ifCond .ge 5, 3) := by decide +kernel
theorem dX9_readRow_257 : decode cX9_readRow 257 = .ok (.iconst 0, 1) := by decide +kernel
theorem dX9_readRow_258 : decode cX9_readRow 258 = .ok (.ireturn, 1) := by decide +kernel
theorem dX9_readRow_259 : decode cX9_readRow 259 = .ok (.aload_n 0, 1) := by decide +kernel
theorem dX9_readRow_260 : decode cX9_readRow 260 = .ok (.getfield 38, 3) := by decide +kernel
theorem dX9_readRow_263 : decode cX9_readRow 263 = .ok (.iload_n 1, 1) := by decide +kernel
theorem dX9_readRow_264 : decode cX9_readRow 264 = .ok (.iload 4, 2) := by decide +kernel
theorem dX9_readRow_266 : decode cX9_readRow 266 = .ok (.iastore, 1) := by decide +kernel
theorem dX9_readRow_267 : decode cX9_readRow 267 = .ok (.aload_n 0, 1) := by decide +kernel
theorem dX9_readRow_268 : decode cX9_readRow 268 = .ok (.dup, 1) := by decide +kernel
theorem dX9_readRow_269 : decode cX9_readRow 269 = .ok (.getfield 86, 3) := by decide +kernel
theorem dX9_readRow_272 : decode cX9_readRow 272 = .ok (.iconst 1, 1) := by decide +kernel
theorem dX9_readRow_273 : decode cX9_readRow 273 = .ok (.iadd, 1) := by decide +kernel
theorem dX9_readRow_274 : decode cX9_readRow 274 = .ok (.putfield 86, 3) := by decide +kernel
theorem dX9_readRow_277 : decode cX9_readRow 277 = .ok (.aload_n 0, 1) := by decide +kernel
theorem dX9_readRow_278 : decode cX9_readRow 278 = .ok (.getfield 41, 3) := by decide +kernel
theorem dX9_readRow_281 : decode cX9_readRow 281 = .ok (.iload_n 1, 1) := by decide +kernel
theorem dX9_readRow_282 : decode cX9_readRow 282 = .ok (.aload_n 0, 1) := by decide +kernel
theorem dX9_readRow_283 : decode cX9_readRow 283 = .ok (.bipush 108, 2) := by decide +kernel
theorem dX9_readRow_285 : decode cX9_readRow 285 = .ok (.bipush 97, 2) := by decide +kernel
theorem dX9_readRow_287 : decode cX9_readRow 287 = .ok (.bipush 116, 2) := by decide +kernel
theorem dX9_readRow_289 : decode cX9_readRow 289 = .ok (.bipush 99, 2) := by decide +kernel
theorem dX9_readRow_291 : decode cX9_readRow 291 = .ok (.bipush 104, 2) := by decide +kernel
theorem dX9_readRow_293 : decode cX9_readRow 293 = .ok (.bipush 101, 2) := by decide +kernel
theorem dX9_readRow_295 : decode cX9_readRow 295 = .ok (.bipush 100, 2) := by decide +kernel
theorem dX9_readRow_297 : decode cX9_readRow 297 = .ok (.bipush 7, 2) := by decide +kernel
theorem dX9_readRow_299 : decode cX9_readRow 299 = .ok (.invokevirtual 110, 3) := by decide +kernel
theorem dX9_readRow_302 : decode cX9_readRow 302 = .ok (.bastore, 1) := by decide +kernel
theorem dX9_readRow_303 : decode cX9_readRow 303 = .ok (.aload_n 0, 1) := by decide +kernel
theorem dX9_readRow_304 : decode cX9_readRow 304 = .ok (.dup, 1) := by decide +kernel
theorem dX9_readRow_305 : decode cX9_readRow 305 = .ok (.getfield 86, 3) := by decide +kernel
theorem dX9_readRow_308 : decode cX9_readRow 308 = .ok (.aload_n 0, 1) := by decide +kernel
theorem dX9_readRow_309 : decode cX9_readRow 309 = .ok (.getfield 41, 3) := by decide +kernel
theorem dX9_readRow_312 : decode cX9_readRow 312 = .ok (.iload_n 1, 1) := by decide +kernel
theorem dX9_readRow_313 : decode cX9_readRow 313 = .ok (.baload, 1) := by decide +kernel
theorem dX9_readRow_314 : decode cX9_readRow 314 = .ok (.ifCond .eq 7, 3) := by decide +kernel
theorem dX9_readRow_317 : decode cX9_readRow 317 = .ok (.iconst 1, 1) := by decide +kernel
theorem dX9_readRow_318 : decode cX9_readRow 318 = .ok (.goto 4, 3) := by decide +kernel
theorem dX9_readRow_321 : decode cX9_readRow 321 = .ok (.iconst 0, 1) := by decide +kernel
theorem dX9_readRow_322 : decode cX9_readRow 322 = .ok (.iadd, 1) := by decide +kernel
theorem dX9_readRow_323 : decode cX9_readRow 323 = .ok (.putfield 86, 3) := by decide +kernel
theorem dX9_readRow_326 : decode cX9_readRow 326 = .ok (.aload_n 0, 1) := by decide +kernel
theorem dX9_readRow_327 : decode cX9_readRow 327 = .ok (.bipush 59, 2) := by decide +kernel
theorem dX9_readRow_329 : decode cX9_readRow 329 = .ok (.invokevirtual 121, 3) := by decide +kernel
theorem dX9_readRow_332 : decode cX9_readRow 332 = .ok (.ifCond .ne 5, 3) := by decide +kernel
theorem dX9_readRow_335 : decode cX9_readRow 335 = .ok (.iconst 0, 1) := by decide +kernel
theorem dX9_readRow_336 : decode cX9_readRow 336 = .ok (.ireturn, 1) := by decide +kernel
theorem dX9_readRow_337 : decode cX9_readRow 337 = .ok (.aload_n 0, 1) := by decide +kernel
theorem dX9_readRow_338 : decode cX9_readRow 338 = .ok (.dup, 1) := by decide +kernel
theorem dX9_readRow_339 : decode cX9_readRow 339 = .ok (.getfield 86, 3) := by decide +kernel
theorem dX9_readRow_342 : decode cX9_readRow 342 = .ok (.iconst 1, 1) := by decide +kernel
theorem dX9_readRow_343 : decode cX9_readRow 343 = .ok (.iadd, 1) := by decide +kernel
theorem dX9_readRow_344 : decode cX9_readRow 344 = .ok (.putfield 86, 3) := by decide +kernel
theorem dX9_readRow_347 : decode cX9_readRow 347 = .ok (.aload_n 0, 1) := by decide +kernel
theorem dX9_readRow_348 : decode cX9_readRow 348 = .ok (.dup, 1) := by decide +kernel
theorem dX9_readRow_349 : decode cX9_readRow 349 = .ok (.getfield 136, 3) := by decide +kernel
theorem dX9_readRow_352 : decode cX9_readRow 352 = .ok (.iconst 1, 1) := by decide +kernel
theorem dX9_readRow_353 : decode cX9_readRow 353 = .ok (.iadd, 1) := by decide +kernel
theorem dX9_readRow_354 : decode cX9_readRow 354 = .ok (.putfield 136, 3) := by decide +kernel
theorem dX9_readRow_357 : decode cX9_readRow 357 = .ok (.iconst 1, 1) := by decide +kernel
theorem dX9_readRow_358 : decode cX9_readRow 358 = .ok (.ireturn, 1) := by decide +kernel
set_option maxRecDepth 20000 in
theorem ggX9_read_X9_cut : GoodIn wsX9_read wsX9_cut := goodIn_q _ [(16, 1), (5, 1), (1, 1), (17, 5), (15, 1), (22, 1), (82, 32)] (by decide +kernel) (by decide +kernel)
set_option maxRecDepth 20000 in
theorem gX9_read_X9_cut : GoodIn wsX9_read (wsV RX9 142 RX9 yX9_cut wsX9_cut) := goodIn_app (goodIn_of _ (by decide +kernel)) ggX9_read_X9_cut
set_option maxRecDepth 20000 in
theorem ggX9_read_X9_is : GoodIn wsX9_read wsX9_is := goodIn_q _ [(26, 4), (15, 1), (30, 1), (2, 1), (5, 1), (19, 1), (18, 1), (31, 4), (17, 1), (82, 32)] (by decide +kernel) (by decide +kernel)
set_option maxRecDepth 20000 in
theorem gX9_read_X9_is : GoodIn wsX9_read (wsV RX9 110 RX9 yX9_is wsX9_is) := goodIn_app (goodIn_of _ (by decide +kernel)) ggX9_read_X9_is
set_option maxRecDepth 20000 in
theorem ggX9_read_X9_readRow : GoodIn wsX9_read wsX9_readRow := goodIn_q _ [(38, 1), (6, 1), (4, 1), (2, 1), (39, 11), (15, 1), (50, 1), (31, 4), (5, 1), (18, 2), (17, 1), (51, 4), (27, 4), (23, 4), (55, 11), (3, 1), (66, 48)] (by decide +kernel) (by decide +kernel)
set_option maxRecDepth 20000 in
theorem gX9_read_X9_readRow : GoodIn wsX9_read (wsV RX9 145 RX9 yX9_readRow wsX9_readRow) := goodIn_app (goodIn_of _ (by decide +kernel)) ggX9_read_X9_readRow
theorem dX9_read_0 : decode cX9_read 0 = .ok (.aload_n 0, 1) := by decide +kernel
theorem dX9_read_1 : decode cX9_read 1 = .ok (.invokevirtual 142, 3) := by decide +kernel
theorem dX9_read_4 : decode cX9_read 4 = .ok (.aload_n 0, 1) := by decide +kernel
theorem dX9_read_5 : decode cX9_read 5 = .ok (.iconst 0, 1) := by decide +kernel
theorem dX9_read_6 : decode cX9_read 6 = .ok (.putfield 75, 3) := by decide +kernel
theorem dX9_read_9 : decode cX9_read 9 = .ok (.aload_n 0, 1) := by decide +kernel
theorem dX9_read_10 : decode cX9_read 10 = .ok (.iconst 0, 1) := by decide +kernel
theorem dX9_read_11 : decode cX9_read 11 = .ok (.putfield 86, 3) := by decide +kernel
theorem dX9_read_14 : decode cX9_read 14 = .ok (.aload_n 0, 1) := by decide +kernel
theorem dX9_read_15 : decode cX9_read 15 = .ok (.iconst 0, 1) := by decide +kernel
theorem dX9_read_16 : decode cX9_read 16 = .ok (.putfield 104, 3) := by decide +kernel
theorem dX9_read_19 : decode cX9_read 19 = .ok (.aload_n 0, 1) := by decide +kernel
theorem dX9_read_20 : decode cX9_read 20 = .ok (.iconst 0, 1) := by decide +kernel
theorem dX9_read_21 : decode cX9_read 21 = .ok (.putfield 136, 3) := by decide +kernel
theorem dX9_read_24 : decode cX9_read 24 = .ok (.iconst 1, 1) := by decide +kernel
theorem dX9_read_25 : decode cX9_read 25 = .ok (.istore_n 1, 1) := by decide +kernel
theorem dX9_read_26 : decode cX9_read 26 = .ok (.iload_n 1, 1) := by decide +kernel
theorem dX9_read_27 : decode cX9_read 27 = .ok (.ifCond .eq 57, 3) := by decide +kernel
theorem dX9_read_30 : decode cX9_read 30 = .ok (.aload_n 0, 1) := by decide +kernel
theorem dX9_read_31 : decode cX9_read 31 = .ok (.getfield 86, 3) := by decide +kernel
theorem dX9_read_34 : decode cX9_read 34 = .ok (.aload_n 0, 1) := by decide +kernel
theorem dX9_read_35 : decode cX9_read 35 = .ok (.getfield 79, 3) := by decide +kernel
theorem dX9_read_38 : decode cX9_read 38 = .ok (.if_icmp .ge 46, 3) := by decide +kernel
theorem dX9_read_41 : decode cX9_read 41 = .ok (.aload_n 0, 1) := by decide +kernel
theorem dX9_read_42 : decode cX9_read 42 = .ok (.bipush 98, 2) := by decide +kernel
theorem dX9_read_44 : decode cX9_read 44 = .ok (.bipush 97, 2) := by decide +kernel
theorem dX9_read_46 : decode cX9_read 46 = .ok (.bipush 114, 2) := by decide +kernel
theorem dX9_read_48 : decode cX9_read 48 = .ok (.iconst 0, 1) := by decide +kernel
theorem dX9_read_49 : decode cX9_read 49 = .ok (.iconst 0, 1) := by decide +kernel
theorem dX9_read_50 : decode cX9_read 50 = .ok (.iconst 0, 1) := by decide +kernel
theorem dX9_read_51 : decode cX9_read 51 = .ok (.iconst 0, 1) := by decide +kernel
theorem dX9_read_52 : decode cX9_read 52 = .ok (.iconst 3, 1) := by decide +kernel
theorem dX9_read_53 : decode cX9_read 53 = .ok (.invokevirtual 110, 3) := by decide +kernel
theorem dX9_read_56 : decode cX9_read 56 = .ok (.ifCond .eq 23, 3) := by decide +kernel
theorem dX9_read_59 : decode cX9_read 59 = .ok (.aload_n 0, 1) := by decide +kernel
theorem dX9_read_60 : decode cX9_read 60 = .ok (.getfield 136, 3) := by decide +kernel
theorem dX9_read_63 : decode cX9_read 63 = .ok (.bipush 40, 2) := by decide +kernel
theorem dX9_read_65 : decode cX9_read 65 = .ok (.if_icmp .ge 14, 3) := by decide +kernel
theorem dX9_read_68 : decode cX9_read 68 = .ok (.aload_n 0, 1) := by decide +kernel
theorem dX9_read_69 : decode cX9_read 69 = .ok (.invokevirtual 145, 3) := by decide +kernel
theorem dX9_read_72 : decode cX9_read 72 = .ok (.ifCond .eq 7, 3) := by decide +kernel
theorem dX9_read_75 : decode cX9_read 75 = .ok (.iconst 1, 1) := by decide +kernel
theorem dX9_read_76 : decode cX9_read 76 = .ok (.goto 4, 3) := by decide +kernel
theorem dX9_read_79 : decode cX9_read 79 = .ok (.iconst 0, 1) := by decide +kernel
theorem dX9_read_80 : decode cX9_read 80 = .ok (.istore_n 1, 1) := by decide +kernel
theorem dX9_read_81 : decode cX9_read 81 = .ok (.goto (-55), 3) := by decide +kernel
theorem dX9_read_84 : decode cX9_read 84 = .ok (.iload_n 1, 1) := by decide +kernel
theorem dX9_read_85 : decode cX9_read 85 = .ok (.ifCond .ne 10, 3) := by decide +kernel
theorem dX9_read_88 : decode cX9_read 88 = .ok (.iconst (-1), 1) := by decide +kernel
theorem dX9_read_89 : decode cX9_read 89 = .ok (.aload_n 0, 1) := by decide +kernel
theorem dX9_read_90 : decode cX9_read 90 = .ok (.getfield 86, 3) := by decide +kernel
theorem dX9_read_93 : decode cX9_read 93 = .ok (.isub, 1) := by decide +kernel
theorem dX9_read_94 : decode cX9_read 94 = .ok (.ireturn, 1) := by decide +kernel
theorem dX9_read_95 : decode cX9_read 95 = .ok (.aload_n 0, 1) := by decide +kernel
theorem dX9_read_96 : decode cX9_read 96 = .ok (.iconst 1, 1) := by decide +kernel
theorem dX9_read_97 : decode cX9_read 97 = .ok (.aload_n 0, 1) := by decide +kernel
theorem dX9_read_98 : decode cX9_read 98 = .ok (.getfield 101, 3) := by decide +kernel
theorem dX9_read_101 : decode cX9_read 101 = .ok (.isub, 1) := by decide +kernel
theorem dX9_read_102 : decode cX9_read 102 = .ok (.putfield 101, 3) := by decide +kernel
theorem dX9_read_105 : decode cX9_read 105 = .ok (.aload_n 0, 1) := by decide +kernel
theorem dX9_read_106 : decode cX9_read 106 = .ok (.aload_n 0, 1) := by decide +kernel
theorem dX9_read_107 : decode cX9_read 107 = .ok (.getfield 136, 3) := by decide +kernel
theorem dX9_read_110 : decode cX9_read 110 = .ok (.putfield 149, 3) := by decide +kernel
theorem dX9_read_113 : decode cX9_read 113 = .ok (.aload_n 0, 1) := by decide +kernel
theorem dX9_read_114 : decode cX9_read 114 = .ok (.iconst 0, 1) := by decide +kernel
theorem dX9_read_115 : decode cX9_read 115 = .ok (.putfield 152, 3) := by decide +kernel
theorem dX9_read_118 : decode cX9_read 118 = .ok (.iconst 0, 1) := by decide +kernel
theorem dX9_read_119 : decode cX9_read 119 = .ok (.istore_n 2, 1) := by decide +kernel
theorem dX9_read_120 : decode cX9_read 120 = .ok (.iload_n 2, 1) := by decide +kernel
theorem dX9_read_121 : decode cX9_read 121 = .ok (.aload_n 0, 1) := by decide +kernel
theorem dX9_read_122 : decode cX9_read 122 = .ok (.getfield 149, 3) := by decide +kernel
theorem dX9_read_125 : decode cX9_read 125 = .ok (.if_icmp .ge 30, 3) := by decide +kernel
theorem dX9_read_128 : decode cX9_read 128 = .ok (.aload_n 0, 1) := by decide +kernel
theorem dX9_read_129 : decode cX9_read 129 = .ok (.getfield 48, 3) := by decide +kernel
theorem dX9_read_132 : decode cX9_read 132 = .ok (.iload_n 2, 1) := by decide +kernel
theorem dX9_read_133 : decode cX9_read 133 = .ok (.iconst 0, 1) := by decide +kernel
theorem dX9_read_134 : decode cX9_read 134 = .ok (.iastore, 1) := by decide +kernel
theorem dX9_read_135 : decode cX9_read 135 = .ok (.aload_n 0, 1) := by decide +kernel
theorem dX9_read_136 : decode cX9_read 136 = .ok (.getfield 51, 3) := by decide +kernel
theorem dX9_read_139 : decode cX9_read 139 = .ok (.iload_n 2, 1) := by decide +kernel
theorem dX9_read_140 : decode cX9_read 140 = .ok (.iconst 0, 1) := by decide +kernel
theorem dX9_read_141 : decode cX9_read 141 = .ok (.bastore, 1) := by decide +kernel
theorem dX9_read_142 : decode cX9_read 142 = .ok (.aload_n 0, 1) := by decide +kernel
theorem dX9_read_143 : decode cX9_read 143 = .ok (.getfield 54, 3) := by decide +kernel
theorem dX9_read_146 : decode cX9_read 146 = .ok (.iload_n 2, 1) := by decide +kernel
theorem dX9_read_147 : decode cX9_read 147 = .ok (.iconst 0, 1) := by decide +kernel
theorem dX9_read_148 : decode cX9_read 148 = .ok (.iastore, 1) := by decide +kernel
theorem dX9_read_149 : decode cX9_read 149 = .ok (.iinc 2 1, 3) := by decide +kernel
theorem dX9_read_152 : decode cX9_read 152 = .ok (.goto (-32), 3) := by decide +kernel
theorem dX9_read_155 : decode cX9_read 155 = .ok (.aload_n 0, 1) := by decide +kernel
theorem dX9_read_156 : decode cX9_read 156 = .ok (.getfield 149, 3) := by decide +kernel
theorem dX9_read_159 : decode cX9_read 159 = .ok (.ireturn, 1) := by decide +kernel
theorem dX9_condition_0 : decode cX9_condition 0 = .ok (.iload_n 1, 1) := by decide +kernel
theorem dX9_condition_1 : decode cX9_condition 1 = .ok (.ifCond .lt 30, 3) := by decide +kernel
theorem dX9_condition_4 : decode cX9_condition 4 = .ok (.iload_n 1, 1) := by decide +kernel
theorem dX9_condition_5 : decode cX9_condition 5 = .ok (.bipush 15, 2) := by decide +kernel
theorem dX9_condition_7 : decode cX9_condition 7 = .ok (.if_icmp .gt 24, 3) := by decide +kernel
theorem dX9_condition_10 : decode cX9_condition 10 = .ok (.aload_n 0, 1) := by decide +kernel
theorem dX9_condition_11 : decode cX9_condition 11 = .ok (.getfield 156, 3) := by decide +kernel
theorem dX9_condition_14 : decode cX9_condition 14 = .ok (.iload_n 1, 1) := by decide +kernel
theorem dX9_condition_15 : decode cX9_condition 15 = .ok (.ishr, 1) := by decide +kernel
theorem dX9_condition_16 : decode cX9_condition 16 = .ok (.iconst 1, 1) := by decide +kernel
theorem dX9_condition_17 : decode cX9_condition 17 = .ok (.iand, 1) := by decide +kernel
theorem dX9_condition_18 : decode cX9_condition 18 = .ok (.iconst 1, 1) := by decide +kernel
theorem dX9_condition_19 : decode cX9_condition 19 = .ok (.if_icmp .ne 7, 3) := by decide +kernel
theorem dX9_condition_22 : decode cX9_condition 22 = .ok (.iconst 1, 1) := by decide +kernel
theorem dX9_condition_23 : decode cX9_condition 23 = .ok (.goto 4, 3) := by decide +kernel
theorem dX9_condition_26 : decode cX9_condition 26 = .ok (.iconst 0, 1) := by decide +kernel
theorem dX9_condition_27 : decode cX9_condition 27 = .ok (.iload_n 2, 1) := by decide +kernel
theorem dX9_condition_28 : decode cX9_condition 28 = .ok (.if_icmp .ne 5, 3) := by decide +kernel
theorem dX9_condition_31 : decode cX9_condition 31 = .ok (.iconst 0, 1) := by decide +kernel
theorem dX9_condition_32 : decode cX9_condition 32 = .ok (.ireturn, 1) := by decide +kernel
theorem dX9_condition_33 : decode cX9_condition 33 = .ok (.aload_n 0, 1) := by decide +kernel
theorem dX9_condition_34 : decode cX9_condition 34 = .ok (.dup, 1) := by decide +kernel
theorem dX9_condition_35 : decode cX9_condition 35 = .ok (.getfield 156, 3) := by decide +kernel
theorem dX9_condition_38 : decode cX9_condition 38 = .ok (.iconst 1, 1) := by decide +kernel
theorem dX9_condition_39 : decode cX9_condition 39 = .ok (.iload_n 1, 1) := by decide +kernel
theorem dX9_condition_40 : decode cX9_condition 40 = .ok (.ishl, 1) := by decide +kernel
theorem dX9_condition_41 : decode cX9_condition 41 = .ok (.ixor, 1) := by decide +kernel
theorem dX9_condition_42 : decode cX9_condition 42 = .ok (.putfield 156, 3) := by decide +kernel
theorem dX9_condition_45 : decode cX9_condition 45 = .ok (.iconst 1, 1) := by decide +kernel
theorem dX9_condition_46 : decode cX9_condition 46 = .ok (.ireturn, 1) := by decide +kernel
set_option maxRecDepth 20000 in
theorem ggX9_value_X9_value : GoodIn wsX9_value wsX9_value := goodIn_q _ [(0, 41)] (by decide +kernel) (by decide +kernel)
set_option maxRecDepth 20000 in
theorem gX9_value_X9_value : GoodIn wsX9_value (wsV RX9 159 RX9 yX9_value wsX9_value) := goodIn_app (goodIn_of _ (by decide +kernel)) ggX9_value_X9_value
theorem dX9_value_0 : decode cX9_value 0 = .ok (.aload_n 0, 1) := by decide +kernel
theorem dX9_value_1 : decode cX9_value 1 = .ok (.getfield 20, 3) := by decide +kernel
theorem dX9_value_4 : decode cX9_value 4 = .ok (.iload_n 1, 1) := by decide +kernel
theorem dX9_value_5 : decode cX9_value 5 = .ok (.iaload, 1) := by decide +kernel
theorem dX9_value_6 : decode cX9_value 6 = .ok (.tableswitch 109 16 18 #[26, 45, 77], 26) := by decide +kernel
theorem dX9_value_32 : decode cX9_value 32 = .ok (.aload_n 0, 1) := by decide +kernel
theorem dX9_value_33 : decode cX9_value 33 = .ok (.aload_n 0, 1) := by decide +kernel
theorem dX9_value_34 : decode cX9_value 34 = .ok (.getfield 23, 3) := by decide +kernel
theorem dX9_value_37 : decode cX9_value 37 = .ok (.iload_n 1, 1) := by decide +kernel
theorem dX9_value_38 : decode cX9_value 38 = .ok (.iaload, 1) := by decide +kernel
theorem dX9_value_39 : decode cX9_value 39 = .ok (.invokevirtual 159, 3) := by decide +kernel
theorem dX9_value_42 : decode cX9_value 42 = .ok (.ifCond .ne 7, 3) := by decide +kernel
theorem dX9_value_45 : decode cX9_value 45 = .ok (.iconst 1, 1) := by decide +kernel
theorem dX9_value_46 : decode cX9_value 46 = .ok (.goto 4, 3) := by decide +kernel
theorem dX9_value_49 : decode cX9_value 49 = .ok (.iconst 0, 1) := by decide +kernel
theorem dX9_value_50 : decode cX9_value 50 = .ok (.ireturn, 1) := by decide +kernel
theorem dX9_value_51 : decode cX9_value 51 = .ok (.aload_n 0, 1) := by decide +kernel
theorem dX9_value_52 : decode cX9_value 52 = .ok (.aload_n 0, 1) := by decide +kernel
theorem dX9_value_53 : decode cX9_value 53 = .ok (.getfield 23, 3) := by decide +kernel
theorem dX9_value_56 : decode cX9_value 56 = .ok (.iload_n 1, 1) := by decide +kernel
theorem dX9_value_57 : decode cX9_value 57 = .ok (.iaload, 1) := by decide +kernel
theorem dX9_value_58 : decode cX9_value 58 = .ok (.invokevirtual 159, 3) := by decide +kernel
theorem dX9_value_61 : decode cX9_value 61 = .ok (.ifCond .eq 20, 3) := by decide +kernel
theorem dX9_value_64 : decode cX9_value 64 = .ok (.aload_n 0, 1) := by decide +kernel
theorem dX9_value_65 : decode cX9_value 65 = .ok (.aload_n 0, 1) := by decide +kernel
theorem dX9_value_66 : decode cX9_value 66 = .ok (.getfield 26, 3) := by decide +kernel
theorem dX9_value_69 : decode cX9_value 69 = .ok (.iload_n 1, 1) := by decide +kernel
theorem dX9_value_70 : decode cX9_value 70 = .ok (.iaload, 1) := by decide +kernel
theorem dX9_value_71 : decode cX9_value 71 = .ok (.invokevirtual 159, 3) := by decide +kernel
theorem dX9_value_74 : decode cX9_value 74 = .ok (.ifCond .eq 7, 3) := by decide +kernel
theorem dX9_value_77 : decode cX9_value 77 = .ok (.iconst 1, 1) := by decide +kernel
theorem dX9_value_78 : decode cX9_value 78 = .ok (.goto 4, 3) := by decide +kernel
theorem dX9_value_81 : decode cX9_value 81 = .ok (.iconst 0, 1) := by decide +kernel
theorem dX9_value_82 : decode cX9_value 82 = .ok (.ireturn, 1) := by decide +kernel
theorem dX9_value_83 : decode cX9_value 83 = .ok (.aload_n 0, 1) := by decide +kernel
theorem dX9_value_84 : decode cX9_value 84 = .ok (.aload_n 0, 1) := by decide +kernel
theorem dX9_value_85 : decode cX9_value 85 = .ok (.getfield 23, 3) := by decide +kernel
theorem dX9_value_88 : decode cX9_value 88 = .ok (.iload_n 1, 1) := by decide +kernel
theorem dX9_value_89 : decode cX9_value 89 = .ok (.iaload, 1) := by decide +kernel
theorem dX9_value_90 : decode cX9_value 90 = .ok (.invokevirtual 159, 3) := by decide +kernel
theorem dX9_value_93 : decode cX9_value 93 = .ok (.ifCond .ne 16, 3) := by decide +kernel
theorem dX9_value_96 : decode cX9_value 96 = .ok (.aload_n 0, 1) := by decide +kernel
theorem dX9_value_97 : decode cX9_value 97 = .ok (.aload_n 0, 1) := by decide +kernel
theorem dX9_value_98 : decode cX9_value 98 = .ok (.getfield 26, 3) := by decide +kernel
theorem dX9_value_101 : decode cX9_value 101 = .ok (.iload_n 1, 1) := by decide +kernel
theorem dX9_value_102 : decode cX9_value 102 = .ok (.iaload, 1) := by decide +kernel
theorem dX9_value_103 : decode cX9_value 103 = .ok (.invokevirtual 159, 3) := by decide +kernel
theorem dX9_value_106 : decode cX9_value 106 = .ok (.ifCond .eq 7, 3) := by decide +kernel
theorem dX9_value_109 : decode cX9_value 109 = .ok (.iconst 1, 1) := by decide +kernel
theorem dX9_value_110 : decode cX9_value 110 = .ok (.goto 4, 3) := by decide +kernel
theorem dX9_value_113 : decode cX9_value 113 = .ok (.iconst 0, 1) := by decide +kernel
theorem dX9_value_114 : decode cX9_value 114 = .ok (.ireturn, 1) := by decide +kernel
theorem dX9_value_115 : decode cX9_value 115 = .ok (.aload_n 0, 1) := by decide +kernel
theorem dX9_value_116 : decode cX9_value 116 = .ok (.getfield 156, 3) := by decide +kernel
theorem dX9_value_119 : decode cX9_value 119 = .ok (.aload_n 0, 1) := by decide +kernel
theorem dX9_value_120 : decode cX9_value 120 = .ok (.getfield 20, 3) := by decide +kernel
theorem dX9_value_123 : decode cX9_value 123 = .ok (.iload_n 1, 1) := by decide +kernel
theorem dX9_value_124 : decode cX9_value 124 = .ok (.iaload, 1) := by decide +kernel
theorem dX9_value_125 : decode cX9_value 125 = .ok (.ishr, 1) := by decide +kernel
theorem dX9_value_126 : decode cX9_value 126 = .ok (.iconst 1, 1) := by decide +kernel
theorem dX9_value_127 : decode cX9_value 127 = .ok (.iand, 1) := by decide +kernel
theorem dX9_value_128 : decode cX9_value 128 = .ok (.iconst 1, 1) := by decide +kernel
theorem dX9_value_129 : decode cX9_value 129 = .ok (.if_icmp .ne 7, 3) := by decide +kernel
theorem dX9_value_132 : decode cX9_value 132 = .ok (.iconst 1, 1) := by decide +kernel
theorem dX9_value_133 : decode cX9_value 133 = .ok (.goto 4, 3) := by decide +kernel
theorem dX9_value_136 : decode cX9_value 136 = .ok (.iconst 0, 1) := by decide +kernel
theorem dX9_value_137 : decode cX9_value 137 = .ok (.ireturn, 1) := by decide +kernel
set_option maxRecDepth 20000 in
theorem ggX9_isOn_X9_value : GoodIn wsX9_isOn wsX9_value := goodIn_q _ [(7, 5), (3, 4), (12, 32)] (by decide +kernel) (by decide +kernel)
set_option maxRecDepth 20000 in
theorem gX9_isOn_X9_value : GoodIn wsX9_isOn (wsV RX9 159 RX9 yX9_value wsX9_value) := goodIn_app (goodIn_of _ (by decide +kernel)) ggX9_isOn_X9_value
theorem dX9_isOn_0 : decode cX9_isOn 0 = .ok (.aload_n 0, 1) := by decide +kernel
theorem dX9_isOn_1 : decode cX9_isOn 1 = .ok (.aload_n 0, 1) := by decide +kernel
theorem dX9_isOn_2 : decode cX9_isOn 2 = .ok (.getfield 29, 3) := by decide +kernel
theorem dX9_isOn_5 : decode cX9_isOn 5 = .ok (.bipush 40, 2) := by decide +kernel
theorem dX9_isOn_7 : decode cX9_isOn 7 = .ok (.aload_n 0, 1) := by decide +kernel
theorem dX9_isOn_8 : decode cX9_isOn 8 = .ok (.getfield 101, 3) := by decide +kernel
theorem dX9_isOn_11 : decode cX9_isOn 11 = .ok (.imul, 1) := by decide +kernel
theorem dX9_isOn_12 : decode cX9_isOn 12 = .ok (.iload_n 1, 1) := by decide +kernel
theorem dX9_isOn_13 : decode cX9_isOn 13 = .ok (.iadd, 1) := by decide +kernel
theorem dX9_isOn_14 : decode cX9_isOn 14 = .ok (.iaload, 1) := by decide +kernel
theorem dX9_isOn_15 : decode cX9_isOn 15 = .ok (.invokevirtual 159, 3) := by decide +kernel
theorem dX9_isOn_18 : decode cX9_isOn 18 = .ok (.ireturn, 1) := by decide +kernel
set_option maxRecDepth 20000 in
theorem ggX9_tick_X9_isOn : GoodIn wsX9_tick wsX9_isOn := goodIn_q _ [(14, 2), (7, 1), (16, 3), (13, 1), (19, 37)] (by decide +kernel) (by decide +kernel)
set_option maxRecDepth 20000 in
theorem gX9_tick_X9_isOn : GoodIn wsX9_tick (wsV RX9 163 RX9 yX9_isOn wsX9_isOn) := goodIn_app (goodIn_of _ (by decide +kernel)) ggX9_tick_X9_isOn
theorem dX9_tick_0 : decode cX9_tick 0 = .ok (.iload_n 1, 1) := by decide +kernel
theorem dX9_tick_1 : decode cX9_tick 1 = .ok (.ifCond .lt 9, 3) := by decide +kernel
theorem dX9_tick_4 : decode cX9_tick 4 = .ok (.iload_n 1, 1) := by decide +kernel
theorem dX9_tick_5 : decode cX9_tick 5 = .ok (.ldc 162, 2) := by decide +kernel
theorem dX9_tick_7 : decode cX9_tick 7 = .ok (.if_icmp .le 5, 3) := by decide +kernel
theorem dX9_tick_10 : decode cX9_tick 10 = .ok (.iconst 0, 1) := by decide +kernel
theorem dX9_tick_11 : decode cX9_tick 11 = .ok (.ireturn, 1) := by decide +kernel
theorem dX9_tick_12 : decode cX9_tick 12 = .ok (.iconst 0, 1) := by decide +kernel
theorem dX9_tick_13 : decode cX9_tick 13 = .ok (.istore_n 2, 1) := by decide +kernel
theorem dX9_tick_14 : decode cX9_tick 14 = .ok (.iload_n 2, 1) := by decide +kernel
theorem dX9_tick_15 : decode cX9_tick 15 = .ok (.aload_n 0, 1) := by decide +kernel
theorem dX9_tick_16 : decode cX9_tick 16 = .ok (.getfield 149, 3) := by decide +kernel
theorem dX9_tick_19 : decode cX9_tick 19 = .ok (.if_icmp .ge 145, 3) := by decide +kernel
theorem dX9_tick_22 : decode cX9_tick 22 = .ok (.iload_n 1, 1) := by decide +kernel
theorem dX9_tick_23 : decode cX9_tick 23 = .ok (.ifCond .le 141, 3) := by decide +kernel
theorem dX9_tick_26 : decode cX9_tick 26 = .ok (.aload_n 0, 1) := by decide +kernel
theorem dX9_tick_27 : decode cX9_tick 27 = .ok (.iload_n 2, 1) := by decide +kernel
theorem dX9_tick_28 : decode cX9_tick 28 = .ok (.invokevirtual 163, 3) := by decide +kernel
theorem dX9_tick_31 : decode cX9_tick 31 = .ok (.istore_n 3, 1) := by decide +kernel
theorem dX9_tick_32 : decode cX9_tick 32 = .ok (.aload_n 0, 1) := by decide +kernel
theorem dX9_tick_33 : decode cX9_tick 33 = .ok (.getfield 48, 3) := by decide +kernel
theorem dX9_tick_36 : decode cX9_tick 36 = .ok (.iload_n 2, 1) := by decide +kernel
theorem dX9_tick_37 : decode cX9_tick 37 = .ok (.iload_n 3, 1) := by decide +kernel
theorem dX9_tick_38 : decode cX9_tick 38 = .ok (.ifCond .ne 7, 3) := by decide +kernel
theorem dX9_tick_41 : decode cX9_tick 41 = .ok (.iconst 0, 1) := by decide +kernel
theorem dX9_tick_42 : decode cX9_tick 42 = .ok (.goto 29, 3) := by decide +kernel
theorem dX9_tick_45 : decode cX9_tick 45 = .ok (.aload_n 0, 1) := by decide +kernel
theorem dX9_tick_46 : decode cX9_tick 46 = .ok (.getfield 48, 3) := by decide +kernel
theorem dX9_tick_49 : decode cX9_tick 49 = .ok (.iload_n 2, 1) := by decide +kernel
theorem dX9_tick_50 : decode cX9_tick 50 = .ok (.iaload, 1) := by decide +kernel
theorem dX9_tick_51 : decode cX9_tick 51 = .ok (.iload_n 1, 1) := by decide +kernel
theorem dX9_tick_52 : decode cX9_tick 52 = .ok (.iadd, 1) := by decide +kernel
theorem dX9_tick_53 : decode cX9_tick 53 = .ok (.ldc 166, 2) := by decide +kernel
theorem dX9_tick_55 : decode cX9_tick 55 = .ok (.if_icmp .le 8, 3) := by decide +kernel
theorem dX9_tick_58 : decode cX9_tick 58 = .ok (.ldc 166, 2) := by decide +kernel
theorem dX9_tick_60 : decode cX9_tick 60 = .ok (.goto 11, 3) := by decide +kernel
theorem dX9_tick_63 : decode cX9_tick 63 = .ok (.aload_n 0, 1) := by decide +kernel
theorem dX9_tick_64 : decode cX9_tick 64 = .ok (.getfield 48, 3) := by decide +kernel
theorem dX9_tick_67 : decode cX9_tick 67 = .ok (.iload_n 2, 1) := by decide +kernel
theorem dX9_tick_68 : decode cX9_tick 68 = .ok (.iaload, 1) := by decide +kernel
theorem dX9_tick_69 : decode cX9_tick 69 = .ok (.iload_n 1, 1) := by decide +kernel
theorem dX9_tick_70 : decode cX9_tick 70 = .ok (.iadd, 1) := by decide +kernel
theorem dX9_tick_71 : decode cX9_tick 71 = .ok (.iastore, 1) := by decide +kernel
theorem dX9_tick_72 : decode cX9_tick 72 = .ok (.aload_n 0, 1) := by decide +kernel
theorem dX9_tick_73 : decode cX9_tick 73 = .ok (.getfield 51, 3) := by decide +kernel
theorem dX9_tick_76 : decode cX9_tick 76 = .ok (.iload_n 2, 1) := by decide +kernel
theorem dX9_tick_77 : decode cX9_tick 77 = .ok (.dup2, 1) := by decide +kernel
theorem dX9_tick_78 : decode cX9_tick 78 = .ok (.baload, 1) := by decide +kernel
theorem dX9_tick_79 : decode cX9_tick 79 = .ok (.iload_n 3, 1) := by decide +kernel
theorem dX9_tick_80 : decode cX9_tick 80 = .ok (.ifCond .eq 47, 3) := by decide +kernel
theorem dX9_tick_83 : decode cX9_tick 83 = .ok (.aload_n 0, 1) := by decide +kernel
theorem dX9_tick_84 : decode cX9_tick 84 = .ok (.getfield 41, 3) := by decide +kernel
theorem dX9_tick_87 : decode cX9_tick 87 = .ok (.bipush 40, 2) := by decide +kernel
theorem dX9_tick_89 : decode cX9_tick 89 = .ok (.aload_n 0, 1) := by decide +kernel
theorem dX9_tick_90 : decode cX9_tick 90 = .ok (.getfield 101, 3) := by decide +kernel
theorem dX9_tick_93 : decode cX9_tick 93 = .ok (.imul, 1) := by decide +kernel
theorem dX9_tick_94 : decode cX9_tick 94 = .ok (.iload_n 2, 1) := by decide +kernel
theorem dX9_tick_95 : decode cX9_tick 95 = .ok (.iadd, 1) := by decide +kernel
theorem dX9_tick_96 : decode cX9_tick 96 = .ok (.baload, 1) := by decide +kernel
theorem dX9_tick_97 : decode cX9_tick 97 = .ok (.ifCond .eq 30, 3) := by decide +kernel
theorem dX9_tick_100 : decode cX9_tick 100 = .ok (.aload_n 0, 1) := by decide +kernel
theorem dX9_tick_101 : decode cX9_tick 101 = .ok (.getfield 48, 3) := by decide +kernel
theorem dX9_tick_104 : decode cX9_tick 104 = .ok (.iload_n 2, 1) := by decide +kernel
theorem dX9_tick_105 : decode cX9_tick 105 = .ok (.iaload, 1) := by decide +kernel
theorem dX9_tick_106 : decode cX9_tick 106 = .ok (.aload_n 0, 1) := by decide +kernel
theorem dX9_tick_107 : decode cX9_tick 107 = .ok (.getfield 38, 3) := by decide +kernel
theorem dX9_tick_110 : decode cX9_tick 110 = .ok (.bipush 40, 2) := by decide +kernel
theorem dX9_tick_112 : decode cX9_tick 112 = .ok (.aload_n 0, 1) := by decide +kernel
theorem dX9_tick_113 : decode cX9_tick 113 = .ok (.getfield 101, 3) := by decide +kernel
theorem dX9_tick_116 : decode cX9_tick 116 = .ok (.imul, 1) := by decide +kernel
theorem dX9_tick_117 : decode cX9_tick 117 = .ok (.iload_n 2, 1) := by decide +kernel
theorem dX9_tick_118 : decode cX9_tick 118 = .ok (.iadd, 1) := by decide +kernel
theorem dX9_tick_119 : decode cX9_tick 119 = .ok (.iaload, 1) := by decide +kernel
theorem dX9_tick_120 : decode cX9_tick 120 = .ok (.if_icmp .lt 7, 3) := by decide +kernel
theorem dX9_tick_123 : decode cX9_tick 123 = .ok (.iconst 1, 1) := by decide +kernel
theorem dX9_tick_124 : decode cX9_tick 124 = .ok (.goto 4, 3) := by decide +kernel
theorem dX9_tick_127 : decode cX9_tick 127 = .ok (.iconst 0, 1) := by decide +kernel
theorem dX9_tick_128 : decode cX9_tick 128 = .ok (.ior, 1) := by decide +kernel
theorem dX9_tick_129 : decode cX9_tick 129 = .ok (.bastore, 1) := by decide +kernel
theorem dX9_tick_130 : decode cX9_tick 130 = .ok (.aload_n 0, 1) := by decide +kernel
theorem dX9_tick_131 : decode cX9_tick 131 = .ok (.getfield 54, 3) := by decide +kernel
theorem dX9_tick_134 : decode cX9_tick 134 = .ok (.iload_n 2, 1) := by decide +kernel
theorem dX9_tick_135 : decode cX9_tick 135 = .ok (.aload_n 0, 1) := by decide +kernel
theorem dX9_tick_136 : decode cX9_tick 136 = .ok (.getfield 54, 3) := by decide +kernel
theorem dX9_tick_139 : decode cX9_tick 139 = .ok (.iload_n 2, 1) := by decide +kernel
theorem dX9_tick_140 : decode cX9_tick 140 = .ok (.iaload, 1) := by decide +kernel
theorem dX9_tick_141 : decode cX9_tick 141 = .ok (.iload_n 1, 1) := by decide +kernel
theorem dX9_tick_142 : decode cX9_tick 142 = .ok (.if_icmp .le 14, 3) := by decide +kernel
theorem dX9_tick_145 : decode cX9_tick 145 = .ok (.aload_n 0, 1) := by decide +kernel
theorem dX9_tick_146 : decode cX9_tick 146 = .ok (.getfield 54, 3) := by decide +kernel
theorem dX9_tick_149 : decode cX9_tick 149 = .ok (.iload_n 2, 1) := by decide +kernel
theorem dX9_tick_150 : decode cX9_tick 150 = .ok (.iaload, 1) := by decide +kernel
theorem dX9_tick_151 : decode cX9_tick 151 = .ok (.iload_n 1, 1) := by decide +kernel
theorem dX9_tick_152 : decode cX9_tick 152 = .ok (.isub, 1) := by decide +kernel
theorem dX9_tick_153 : decode cX9_tick 153 = .ok (.goto 4, 3) := by decide +kernel
theorem dX9_tick_156 : decode cX9_tick 156 = .ok (.iconst 0, 1) := by decide +kernel
theorem dX9_tick_157 : decode cX9_tick 157 = .ok (.iastore, 1) := by decide +kernel
theorem dX9_tick_158 : decode cX9_tick 158 = .ok (.iinc 2 1, 3) := by decide +kernel
theorem dX9_tick_161 : decode cX9_tick 161 = .ok (.goto (-147), 3) := by decide +kernel
theorem dX9_tick_164 : decode cX9_tick 164 = .ok (.iconst 1, 1) := by decide +kernel
theorem dX9_tick_165 : decode cX9_tick 165 = .ok (.ireturn, 1) := by decide +kernel
set_option maxRecDepth 20000 in
theorem ggX9_act__X9_isOn : GoodIn wsX9_act_ wsX9_isOn := goodIn_q _ [(11, 2), (6, 1), (13, 3), (10, 1), (16, 5), (27, 32)] (by decide +kernel) (by decide +kernel)
set_option maxRecDepth 20000 in
theorem gX9_act__X9_isOn : GoodIn wsX9_act_ (wsV RX9 163 RX9 yX9_isOn wsX9_isOn) := goodIn_app (goodIn_of _ (by decide +kernel)) ggX9_act__X9_isOn
set_option maxRecDepth 20000 in
theorem ggX9_act__X9_hasAct : GoodIn wsX9_act_ wsX9_hasAct := goodIn_q _ [(24, 1), (6, 1), (25, 34)] (by decide +kernel) (by decide +kernel)
set_option maxRecDepth 20000 in
theorem gX9_act__X9_hasAct : GoodIn wsX9_act_ (wsV RX9 167 RX9 yX9_hasAct wsX9_hasAct) := goodIn_app (goodIn_of _ (by decide +kernel)) ggX9_act__X9_hasAct
theorem dX9_act__0 : decode cX9_act_ 0 = .ok (.iload_n 1, 1) := by decide +kernel
theorem dX9_act__1 : decode cX9_act_ 1 = .ok (.ifCond .lt 9, 3) := by decide +kernel
theorem dX9_act__4 : decode cX9_act_ 4 = .ok (.iload_n 1, 1) := by decide +kernel
theorem dX9_act__5 : decode cX9_act_ 5 = .ok (.bipush 31, 2) := by decide +kernel
theorem dX9_act__7 : decode cX9_act_ 7 = .ok (.if_icmp .le 5, 3) := by decide +kernel
theorem dX9_act__10 : decode cX9_act_ 10 = .ok (.iconst (-1), 1) := by decide +kernel
theorem dX9_act__11 : decode cX9_act_ 11 = .ok (.ireturn, 1) := by decide +kernel
theorem dX9_act__12 : decode cX9_act_ 12 = .ok (.iconst 0, 1) := by decide +kernel
theorem dX9_act__13 : decode cX9_act_ 13 = .ok (.istore_n 2, 1) := by decide +kernel
theorem dX9_act__14 : decode cX9_act_ 14 = .ok (.iload_n 2, 1) := by decide +kernel
theorem dX9_act__15 : decode cX9_act_ 15 = .ok (.aload_n 0, 1) := by decide +kernel
theorem dX9_act__16 : decode cX9_act_ 16 = .ok (.getfield 149, 3) := by decide +kernel
theorem dX9_act__19 : decode cX9_act_ 19 = .ok (.if_icmp .ge 81, 3) := by decide +kernel
theorem dX9_act__22 : decode cX9_act_ 22 = .ok (.aload_n 0, 1) := by decide +kernel
theorem dX9_act__23 : decode cX9_act_ 23 = .ok (.getfield 54, 3) := by decide +kernel
theorem dX9_act__26 : decode cX9_act_ 26 = .ok (.iload_n 2, 1) := by decide +kernel
theorem dX9_act__27 : decode cX9_act_ 27 = .ok (.iaload, 1) := by decide +kernel
theorem dX9_act__28 : decode cX9_act_ 28 = .ok (.ifCond .ne 47, 3) := by decide +kernel
theorem dX9_act__31 : decode cX9_act_ 31 = .ok (.aload_n 0, 1) := by decide +kernel
theorem dX9_act__32 : decode cX9_act_ 32 = .ok (.getfield 51, 3) := by decide +kernel
theorem dX9_act__35 : decode cX9_act_ 35 = .ok (.iload_n 2, 1) := by decide +kernel
theorem dX9_act__36 : decode cX9_act_ 36 = .ok (.baload, 1) := by decide +kernel
theorem dX9_act__37 : decode cX9_act_ 37 = .ok (.ifCond .ne 34, 3) := by decide +kernel
theorem dX9_act__40 : decode cX9_act_ 40 = .ok (.aload_n 0, 1) := by decide +kernel
theorem dX9_act__41 : decode cX9_act_ 41 = .ok (.iload_n 2, 1) := by decide +kernel
theorem dX9_act__42 : decode cX9_act_ 42 = .ok (.invokevirtual 163, 3) := by decide +kernel
theorem dX9_act__45 : decode cX9_act_ 45 = .ok (.ifCond .eq 30, 3) := by decide +kernel
theorem dX9_act__48 : decode cX9_act_ 48 = .ok (.aload_n 0, 1) := by decide +kernel
theorem dX9_act__49 : decode cX9_act_ 49 = .ok (.getfield 48, 3) := by decide +kernel
theorem dX9_act__52 : decode cX9_act_ 52 = .ok (.iload_n 2, 1) := by decide +kernel
theorem dX9_act__53 : decode cX9_act_ 53 = .ok (.iaload, 1) := by decide +kernel
theorem dX9_act__54 : decode cX9_act_ 54 = .ok (.aload_n 0, 1) := by decide +kernel
theorem dX9_act__55 : decode cX9_act_ 55 = .ok (.getfield 38, 3) := by decide +kernel
theorem dX9_act__58 : decode cX9_act_ 58 = .ok (.bipush 40, 2) := by decide +kernel
theorem dX9_act__60 : decode cX9_act_ 60 = .ok (.aload_n 0, 1) := by decide +kernel
theorem dX9_act__61 : decode cX9_act_ 61 = .ok (.getfield 101, 3) := by decide +kernel
theorem dX9_act__64 : decode cX9_act_ 64 = .ok (.imul, 1) := by decide +kernel
theorem dX9_act__65 : decode cX9_act_ 65 = .ok (.iload_n 2, 1) := by decide +kernel
theorem dX9_act__66 : decode cX9_act_ 66 = .ok (.iadd, 1) := by decide +kernel
theorem dX9_act__67 : decode cX9_act_ 67 = .ok (.iaload, 1) := by decide +kernel
theorem dX9_act__68 : decode cX9_act_ 68 = .ok (.if_icmp .lt 7, 3) := by decide +kernel
theorem dX9_act__71 : decode cX9_act_ 71 = .ok (.iconst 1, 1) := by decide +kernel
theorem dX9_act__72 : decode cX9_act_ 72 = .ok (.goto 4, 3) := by decide +kernel
theorem dX9_act__75 : decode cX9_act_ 75 = .ok (.iconst 0, 1) := by decide +kernel
theorem dX9_act__76 : decode cX9_act_ 76 = .ok (.istore_n 3, 1) := by decide +kernel
theorem dX9_act__77 : decode cX9_act_ 77 = .ok (.iload_n 3, 1) := by decide +kernel
theorem dX9_act__78 : decode cX9_act_ 78 = .ok (.ifCond .eq 16, 3) := by decide +kernel
theorem dX9_act__81 : decode cX9_act_ 81 = .ok (.aload_n 0, 1) := by decide +kernel
theorem dX9_act__82 : decode cX9_act_ 82 = .ok (.iload_n 2, 1) := by decide +kernel
theorem dX9_act__83 : decode cX9_act_ 83 = .ok (.iload_n 1, 1) := by decide +kernel
theorem dX9_act__84 : decode cX9_act_ 84 = .ok (.invokevirtual 167, 3) := by decide +kernel
theorem dX9_act__87 : decode cX9_act_ 87 = .ok (.ifCond .eq 7, 3) := by decide +kernel
theorem dX9_act__90 : decode cX9_act_ 90 = .ok (.iload_n 2, 1) := by decide +kernel
theorem dX9_act__91 : decode cX9_act_ 91 = .ok (.iconst 1, 1) := by decide +kernel
theorem dX9_act__92 : decode cX9_act_ 92 = .ok (.iadd, 1) := by decide +kernel
theorem dX9_act__93 : decode cX9_act_ 93 = .ok (.ireturn, 1) := by decide +kernel
theorem dX9_act__94 : decode cX9_act_ 94 = .ok (.iinc 2 1, 3) := by decide +kernel
theorem dX9_act__97 : decode cX9_act_ 97 = .ok (.goto (-83), 3) := by decide +kernel
theorem dX9_act__100 : decode cX9_act_ 100 = .ok (.iconst 0, 1) := by decide +kernel
theorem dX9_act__101 : decode cX9_act_ 101 = .ok (.ireturn, 1) := by decide +kernel
theorem dX9_hasAct_0 : decode cX9_hasAct 0 = .ok (.bipush 40, 2) := by decide +kernel
theorem dX9_hasAct_2 : decode cX9_hasAct 2 = .ok (.aload_n 0, 1) := by decide +kernel
theorem dX9_hasAct_3 : decode cX9_hasAct 3 = .ok (.getfield 101, 3) := by decide +kernel
theorem dX9_hasAct_6 : decode cX9_hasAct 6 = .ok (.imul, 1) := by decide +kernel
theorem dX9_hasAct_7 : decode cX9_hasAct 7 = .ok (.iload_n 1, 1) := by decide +kernel
theorem dX9_hasAct_8 : decode cX9_hasAct 8 = .ok (.iadd, 1) := by decide +kernel
theorem dX9_hasAct_9 : decode cX9_hasAct 9 = .ok (.istore_n 3, 1) := by decide +kernel
theorem dX9_hasAct_10 : decode cX9_hasAct 10 = .ok (.iconst 0, 1) := by decide +kernel
theorem dX9_hasAct_11 : decode cX9_hasAct 11 = .ok (.istore 4, 2) := by decide +kernel
theorem dX9_hasAct_13 : decode cX9_hasAct 13 = .ok (.iconst 0, 1) := by decide +kernel
theorem dX9_hasAct_14 : decode cX9_hasAct 14 = .ok (.istore 5, 2) := by decide +kernel
theorem dX9_hasAct_16 : decode cX9_hasAct 16 = .ok (.iload 5, 2) := by decide +kernel
theorem dX9_hasAct_18 : decode cX9_hasAct 18 = .ok (.aload_n 0, 1) := by decide +kernel
theorem dX9_hasAct_19 : decode cX9_hasAct 19 = .ok (.getfield 32, 3) := by decide +kernel
theorem dX9_hasAct_22 : decode cX9_hasAct 22 = .ok (.iload_n 3, 1) := by decide +kernel
theorem dX9_hasAct_23 : decode cX9_hasAct 23 = .ok (.iaload, 1) := by decide +kernel
theorem dX9_hasAct_24 : decode cX9_hasAct 24 = .ok (.if_icmp .ge 37, 3) := by decide +kernel
theorem dX9_hasAct_27 : decode cX9_hasAct 27 = .ok (.iload 4, 2) := by decide +kernel
theorem dX9_hasAct_29 : decode cX9_hasAct 29 = .ok (.ifCond .ne 19, 3) := by decide +kernel
theorem dX9_hasAct_32 : decode cX9_hasAct 32 = .ok (.aload_n 0, 1) := by decide +kernel
theorem dX9_hasAct_33 : decode cX9_hasAct 33 = .ok (.getfield 35, 3) := by decide +kernel
theorem dX9_hasAct_36 : decode cX9_hasAct 36 = .ok (.bipush 8, 2) := by decide +kernel
theorem dX9_hasAct_38 : decode cX9_hasAct 38 = .ok (.iload_n 3, 1) := by decide +kernel
theorem dX9_hasAct_39 : decode cX9_hasAct 39 = .ok (.imul, 1) := by decide +kernel
theorem dX9_hasAct_40 : decode cX9_hasAct 40 = .ok (.iload 5, 2) := by decide +kernel
theorem dX9_hasAct_42 : decode cX9_hasAct 42 = .ok (.iadd, 1) := by decide +kernel
theorem dX9_hasAct_43 : decode cX9_hasAct 43 = .ok (.iaload, 1) := by decide +kernel
theorem dX9_hasAct_44 : decode cX9_hasAct 44 = .ok (.iload_n 2, 1) := by decide +kernel
theorem dX9_hasAct_45 : decode cX9_hasAct 45 = .ok (.if_icmp .ne 7, 3) := by decide +kernel
theorem dX9_hasAct_48 : decode cX9_hasAct 48 = .ok (.iconst 1, 1) := by decide +kernel
theorem dX9_hasAct_49 : decode cX9_hasAct 49 = .ok (.goto 4, 3) := by decide +kernel
theorem dX9_hasAct_52 : decode cX9_hasAct 52 = .ok (.iconst 0, 1) := by decide +kernel
theorem dX9_hasAct_53 : decode cX9_hasAct 53 = .ok (.istore 4, 2) := by decide +kernel
theorem dX9_hasAct_55 : decode cX9_hasAct 55 = .ok (.iinc 5 1, 3) := by decide +kernel
theorem dX9_hasAct_58 : decode cX9_hasAct 58 = .ok (.goto (-42), 3) := by decide +kernel
theorem dX9_hasAct_61 : decode cX9_hasAct 61 = .ok (.iload 4, 2) := by decide +kernel
theorem dX9_hasAct_63 : decode cX9_hasAct 63 = .ok (.ireturn, 1) := by decide +kernel
theorem dX9_isRow_0 : decode cX9_isRow 0 = .ok (.iload_n 1, 1) := by decide +kernel
theorem dX9_isRow_1 : decode cX9_isRow 1 = .ok (.iconst 1, 1) := by decide +kernel
theorem dX9_isRow_2 : decode cX9_isRow 2 = .ok (.if_icmp .lt 15, 3) := by decide +kernel
theorem dX9_isRow_5 : decode cX9_isRow 5 = .ok (.iload_n 1, 1) := by decide +kernel
theorem dX9_isRow_6 : decode cX9_isRow 6 = .ok (.aload_n 0, 1) := by decide +kernel
theorem dX9_isRow_7 : decode cX9_isRow 7 = .ok (.getfield 149, 3) := by decide +kernel
theorem dX9_isRow_10 : decode cX9_isRow 10 = .ok (.if_icmp .gt 7, 3) := by decide +kernel
theorem dX9_isRow_13 : decode cX9_isRow 13 = .ok (.iconst 1, 1) := by decide +kernel
theorem dX9_isRow_14 : decode cX9_isRow 14 = .ok (.goto 4, 3) := by decide +kernel
theorem dX9_isRow_17 : decode cX9_isRow 17 = .ok (.iconst 0, 1) := by decide +kernel
theorem dX9_isRow_18 : decode cX9_isRow 18 = .ok (.ireturn, 1) := by decide +kernel
set_option maxRecDepth 20000 in
theorem ggX9_pass_X9_isRow : GoodIn wsX9_pass wsX9_isRow := goodIn_q _ [(6, 34)] (by decide +kernel) (by decide +kernel)
set_option maxRecDepth 20000 in
theorem gX9_pass_X9_isRow : GoodIn wsX9_pass (wsV RX9 171 RX9 yX9_isRow wsX9_isRow) := goodIn_app (goodIn_of _ (by decide +kernel)) ggX9_pass_X9_isRow
theorem dX9_pass_0 : decode cX9_pass 0 = .ok (.aload_n 0, 1) := by decide +kernel
theorem dX9_pass_1 : decode cX9_pass 1 = .ok (.iload_n 1, 1) := by decide +kernel
theorem dX9_pass_2 : decode cX9_pass 2 = .ok (.invokevirtual 171, 3) := by decide +kernel
theorem dX9_pass_5 : decode cX9_pass 5 = .ok (.ifCond .ne 5, 3) := by decide +kernel
theorem dX9_pass_8 : decode cX9_pass 8 = .ok (.iconst (-1), 1) := by decide +kernel
theorem dX9_pass_9 : decode cX9_pass 9 = .ok (.ireturn, 1) := by decide +kernel
