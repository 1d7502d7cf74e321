set_option maxRecDepth 20000 in
theorem ggX8_read_X2_takeText : GoodIn wsX8_read wsX2_takeText := goodIn_r _ [173, 167, 174, 175, 176, 3, 177, 178, 119, 29, 179, 180, 181, 10, 182, 183, 184, 185, 169, 168, 186, 187, 188, 22, 23, 189, 190, 191, 192, 193, 194, 195, 196, 197, 198, 199, 200, 201, 202, 203, 204, 205, 206, 31, 207, 208, 209, 210, 211, 212, 213, 214, 215, 216, 217, 218, 219, 138, 220, 221, 222, 223, 224, 225, 226, 227, 228, 229, 230, 231, 232, 162, 233, 234, 235, 236, 237, 238, 239, 240, 241, 242, 243, 244, 245, 246, 247, 248, 249, 250, 251, 252, 134, 253, 254, 255, 144, 256, 257, 258, 259, 260, 261, 262, 263, 264, 265, 266, 267, 268, 143, 269, 25, 26, 27, 270, 271, 272, 273, 274, 275, 276, 277, 278, 279, 280, 281, 282, 283, 284, 285, 286, 287, 288, 289, 290, 291, 292, 293, 294, 295, 296, 297, 298, 299, 324, 325, 326, 312, 313, 314, 315, 316, 336, 337, 338, 339, 340, 341, 342, 343, 344, 345, 346, 347, 348, 320, 321, 322, 323, 333, 334, 335, 330, 331, 332] (by decide +kernel) (by decide +kernel)
set_option maxRecDepth 20000 in
theorem gX8_read_X2_takeText : GoodIn wsX8_read (wsV RX8 55 RX2 yX2_takeText wsX2_takeText) := goodIn_app (goodIn_of _ (by decide +kernel)) ggX8_read_X2_takeText
set_option maxRecDepth 20000 in
theorem ggX8_read_X6_index : GoodIn wsX8_read wsX6_index := goodIn_r _ [303, 178, 312, 313, 314, 315, 316] (by decide +kernel) (by decide +kernel)
set_option maxRecDepth 20000 in
theorem gX8_read_X6_index : GoodIn wsX8_read (wsV RX8 59 RX6 yX6_index wsX6_index) := goodIn_app (goodIn_of _ (by decide +kernel)) ggX8_read_X6_index
set_option maxRecDepth 20000 in
theorem ggX8_read_X5_size : GoodIn wsX8_read wsX5_size := goodIn_r _ [307, 135, 308, 309, 310, 134, 311, 256, 320, 321, 322, 323, 330, 331, 332] (by decide +kernel) (by decide +kernel)
set_option maxRecDepth 20000 in
theorem gX8_read_X5_size : GoodIn wsX8_read (wsV RX8 62 RX5 yX5_size wsX5_size) := goodIn_app (goodIn_of _ (by decide +kernel)) ggX8_read_X5_size
theorem dX8_read_0 : decode cX8_read 0 = .ok (.new 33, 3) := by decide +kernel
theorem dX8_read_3 : decode cX8_read 3 = .ok (.dup, 1) := by decide +kernel
theorem dX8_read_4 : decode cX8_read 4 = .ok (.aload_n 0, 1) := by decide +kernel
theorem dX8_read_5 : decode cX8_read 5 = .ok (.getfield 14, 3) := by decide +kernel
theorem dX8_read_8 : decode cX8_read 8 = .ok (.invokevirtual 35, 3) := by decide +kernel
theorem dX8_read_11 : decode cX8_read 11 = .ok (.invokespecial 39, 3) := by decide +kernel
theorem dX8_read_14 : decode cX8_read 14 = .ok (.astore_n 1, 1) := by decide +kernel
theorem dX8_read_15 : decode cX8_read 15 = .ok (.aload_n 1, 1) := by decide +kernel
theorem dX8_read_16 : decode cX8_read 16 = .ok (.aload_n 0, 1) := by decide +kernel
theorem dX8_read_17 : decode cX8_read 17 = .ok (.getfield 14, 3) := by decide +kernel
theorem dX8_read_20 : decode cX8_read 20 = .ok (.invokevirtual 40, 3) := by decide +kernel
theorem dX8_read_23 : decode cX8_read 23 = .ok (.aload_n 0, 1) := by decide +kernel
theorem dX8_read_24 : decode cX8_read 24 = .ok (.getfield 14, 3) := by decide +kernel
theorem dX8_read_27 : decode cX8_read 27 = .ok (.invokevirtual 44, 3) := by decide +kernel
theorem dX8_read_30 : decode cX8_read 30 = .ok (.new 22, 3) := by decide +kernel
theorem dX8_read_33 : decode cX8_read 33 = .ok (.dup, 1) := by decide +kernel
theorem dX8_read_34 : decode cX8_read 34 = .ok (.aload_n 1, 1) := by decide +kernel
theorem dX8_read_35 : decode cX8_read 35 = .ok (.invokevirtual 47, 3) := by decide +kernel
theorem dX8_read_38 : decode cX8_read 38 = .ok (.invokespecial 24, 3) := by decide +kernel
theorem dX8_read_41 : decode cX8_read 41 = .ok (.astore_n 2, 1) := by decide +kernel
theorem dX8_read_42 : decode cX8_read 42 = .ok (.new 50, 3) := by decide +kernel
theorem dX8_read_45 : decode cX8_read 45 = .ok (.dup, 1) := by decide +kernel
theorem dX8_read_46 : decode cX8_read 46 = .ok (.aload_n 1, 1) := by decide +kernel
theorem dX8_read_47 : decode cX8_read 47 = .ok (.aload_n 2, 1) := by decide +kernel
theorem dX8_read_48 : decode cX8_read 48 = .ok (.invokespecial 52, 3) := by decide +kernel
theorem dX8_read_51 : decode cX8_read 51 = .ok (.invokevirtual 55, 3) := by decide +kernel
theorem dX8_read_54 : decode cX8_read 54 = .ok (.ifCond .ne 10, 3) := by decide +kernel
theorem dX8_read_57 : decode cX8_read 57 = .ok (.iconst (-1), 1) := by decide +kernel
theorem dX8_read_58 : decode cX8_read 58 = .ok (.aload_n 1, 1) := by decide +kernel
theorem dX8_read_59 : decode cX8_read 59 = .ok (.invokevirtual 59, 3) := by decide +kernel
theorem dX8_read_62 : decode cX8_read 62 = .ok (.isub, 1) := by decide +kernel
theorem dX8_read_63 : decode cX8_read 63 = .ok (.ireturn, 1) := by decide +kernel
theorem dX8_read_64 : decode cX8_read 64 = .ok (.aload_n 0, 1) := by decide +kernel
theorem dX8_read_65 : decode cX8_read 65 = .ok (.aload_n 2, 1) := by decide +kernel
theorem dX8_read_66 : decode cX8_read 66 = .ok (.putfield 25, 3) := by decide +kernel
theorem dX8_read_69 : decode cX8_read 69 = .ok (.aload_n 0, 1) := by decide +kernel
theorem dX8_read_70 : decode cX8_read 70 = .ok (.getfield 25, 3) := by decide +kernel
theorem dX8_read_73 : decode cX8_read 73 = .ok (.invokevirtual 62, 3) := by decide +kernel
theorem dX8_read_76 : decode cX8_read 76 = .ok (.ireturn, 1) := by decide +kernel
theorem dX8_condition_0 : decode cX8_condition 0 = .ok (.iload_n 1, 1) := by decide +kernel
theorem dX8_condition_1 : decode cX8_condition 1 = .ok (.ifCond .lt 9, 3) := by decide +kernel
theorem dX8_condition_4 : decode cX8_condition 4 = .ok (.iload_n 1, 1) := by decide +kernel
theorem dX8_condition_5 : decode cX8_condition 5 = .ok (.bipush 16, 2) := by decide +kernel
theorem dX8_condition_7 : decode cX8_condition 7 = .ok (.if_icmp .lt 5, 3) := by decide +kernel
theorem dX8_condition_10 : decode cX8_condition 10 = .ok (.iconst 0, 1) := by decide +kernel
theorem dX8_condition_11 : decode cX8_condition 11 = .ok (.ireturn, 1) := by decide +kernel
theorem dX8_condition_12 : decode cX8_condition 12 = .ok (.iload_n 2, 1) := by decide +kernel
theorem dX8_condition_13 : decode cX8_condition 13 = .ok (.ifCond .eq 9, 3) := by decide +kernel
theorem dX8_condition_16 : decode cX8_condition 16 = .ok (.ldc2_w 65, 3) := by decide +kernel
theorem dX8_condition_19 : decode cX8_condition 19 = .ok (.goto 4, 3) := by decide +kernel
theorem dX8_condition_22 : decode cX8_condition 22 = .ok (.lconst 0, 1) := by decide +kernel
theorem dX8_condition_23 : decode cX8_condition 23 = .ok (.lstore_n 3, 1) := by decide +kernel
theorem dX8_condition_24 : decode cX8_condition 24 = .ok (.aload_n 0, 1) := by decide +kernel
theorem dX8_condition_25 : decode cX8_condition 25 = .ok (.getfield 18, 3) := by decide +kernel
theorem dX8_condition_28 : decode cX8_condition 28 = .ok (.iload_n 1, 1) := by decide +kernel
theorem dX8_condition_29 : decode cX8_condition 29 = .ok (.laload, 1) := by decide +kernel
theorem dX8_condition_30 : decode cX8_condition 30 = .ok (.lload_n 3, 1) := by decide +kernel
theorem dX8_condition_31 : decode cX8_condition 31 = .ok (.lcmp, 1) := by decide +kernel
theorem dX8_condition_32 : decode cX8_condition 32 = .ok (.ifCond .eq 7, 3) := by decide +kernel
theorem dX8_condition_35 : decode cX8_condition 35 = .ok (.iconst 1, 1) := by decide +kernel
theorem dX8_condition_36 : decode cX8_condition 36 = .ok (.goto 4, 3) := by decide +kernel
theorem dX8_condition_39 : decode cX8_condition 39 = .ok (.iconst 0, 1) := by decide +kernel
theorem dX8_condition_40 : decode cX8_condition 40 = .ok (.istore 5, 2) := by decide +kernel
theorem dX8_condition_42 : decode cX8_condition 42 = .ok (.aload_n 0, 1) := by decide +kernel
theorem dX8_condition_43 : decode cX8_condition 43 = .ok (.getfield 18, 3) := by decide +kernel
theorem dX8_condition_46 : decode cX8_condition 46 = .ok (.iload_n 1, 1) := by decide +kernel
theorem dX8_condition_47 : decode cX8_condition 47 = .ok (.lload_n 3, 1) := by decide +kernel
theorem dX8_condition_48 : decode cX8_condition 48 = .ok (.lastore, 1) := by decide +kernel
theorem dX8_condition_49 : decode cX8_condition 49 = .ok (.iload 5, 2) := by decide +kernel
theorem dX8_condition_51 : decode cX8_condition 51 = .ok (.ireturn, 1) := by decide +kernel
set_option maxRecDepth 20000 in
theorem ggX8_tick_X5_letGoBy : GoodIn wsX8_tick wsX5_letGoBy := goodIn_r _ [8, 9, 10, 11, 12, 13, 14, 15, 16, 17, 18, 19, 20, 21, 22, 23, 24, 25, 26, 27, 28, 29, 30, 31, 32, 33, 34, 35, 36, 7, 37, 38, 39, 40, 41, 42, 43, 44, 45, 46, 47, 48, 49, 50, 51, 52, 53, 54, 55, 56, 57, 58, 59, 60, 61, 62, 63, 64, 65, 66, 67, 68, 69, 70, 71, 72, 73, 74, 75, 76, 77, 78, 79, 80, 81, 82, 83, 87, 88, 89, 90, 91, 92, 93, 94, 95, 96, 97, 98, 99, 100, 101, 102, 103, 104, 105, 106, 107, 108, 109] (by decide +kernel) (by decide +kernel)
set_option maxRecDepth 20000 in
theorem gX8_tick_X5_letGoBy : GoodIn wsX8_tick (wsV RX8 68 RX5 yX5_letGoBy wsX5_letGoBy) := goodIn_app (goodIn_of _ (by decide +kernel)) ggX8_tick_X5_letGoBy
theorem dX8_tick_0 : decode cX8_tick 0 = .ok (.iload_n 1, 1) := by decide +kernel
theorem dX8_tick_1 : decode cX8_tick 1 = .ok (.ifCond .lt 9, 3) := by decide +kernel
theorem dX8_tick_4 : decode cX8_tick 4 = .ok (.iload_n 1, 1) := by decide +kernel
theorem dX8_tick_5 : decode cX8_tick 5 = .ok (.ldc 67, 2) := by decide +kernel
theorem dX8_tick_7 : decode cX8_tick 7 = .ok (.if_icmp .le 5, 3) := by decide +kernel
theorem dX8_tick_10 : decode cX8_tick 10 = .ok (.iconst 0, 1) := by decide +kernel
theorem dX8_tick_11 : decode cX8_tick 11 = .ok (.ireturn, 1) := by decide +kernel
theorem dX8_tick_12 : decode cX8_tick 12 = .ok (.aload_n 0, 1) := by decide +kernel
theorem dX8_tick_13 : decode cX8_tick 13 = .ok (.getfield 25, 3) := by decide +kernel
theorem dX8_tick_16 : decode cX8_tick 16 = .ok (.iload_n 1, 1) := by decide +kernel
theorem dX8_tick_17 : decode cX8_tick 17 = .ok (.aload_n 0, 1) := by decide +kernel
theorem dX8_tick_18 : decode cX8_tick 18 = .ok (.getfield 18, 3) := by decide +kernel
theorem dX8_tick_21 : decode cX8_tick 21 = .ok (.invokevirtual 68, 3) := by decide +kernel
theorem dX8_tick_24 : decode cX8_tick 24 = .ok (.iconst 1, 1) := by decide +kernel
theorem dX8_tick_25 : decode cX8_tick 25 = .ok (.ireturn, 1) := by decide +kernel
set_option maxRecDepth 20000 in
theorem ggX8_act_X5_firstToBar : GoodIn wsX8_act wsX5_firstToBar := goodIn_r _ [7, 8, 9, 10, 11, 12, 13, 14, 15, 16, 17, 18, 19, 20, 21, 22, 23, 24, 25, 26, 27, 28, 29, 30, 31, 32, 33, 34, 35, 36, 37, 38, 39, 40, 41, 6, 42, 43, 44, 45, 46, 47, 48, 49, 50, 51, 52, 53, 54, 55, 56, 57, 58, 59, 60, 61, 62, 63, 64, 65, 66, 67, 68, 69, 70, 71, 72, 73, 74, 75, 76, 77, 78, 82, 83, 84, 85, 86, 87, 88, 89, 90, 91, 92, 93, 94, 95, 96, 97, 98, 99, 100, 101, 102, 103, 104] (by decide +kernel) (by decide +kernel)
set_option maxRecDepth 20000 in
theorem gX8_act_X5_firstToBar : GoodIn wsX8_act (wsV RX8 72 RX5 yX5_firstToBar wsX5_firstToBar) := goodIn_app (goodIn_of _ (by decide +kernel)) ggX8_act_X5_firstToBar
theorem dX8_act_0 : decode cX8_act 0 = .ok (.iload_n 1, 1) := by decide +kernel
theorem dX8_act_1 : decode cX8_act 1 = .ok (.ifCond .lt 9, 3) := by decide +kernel
theorem dX8_act_4 : decode cX8_act 4 = .ok (.iload_n 1, 1) := by decide +kernel
theorem dX8_act_5 : decode cX8_act 5 = .ok (.bipush 32, 2) := by decide +kernel
theorem dX8_act_7 : decode cX8_act 7 = .ok (.if_icmp .lt 5, 3) := by decide +kernel
theorem dX8_act_10 : decode cX8_act 10 = .ok (.iconst (-1), 1) := by decide +kernel
theorem dX8_act_11 : decode cX8_act 11 = .ok (.ireturn, 1) := by decide +kernel
theorem dX8_act_12 : decode cX8_act 12 = .ok (.aload_n 0, 1) := by decide +kernel
theorem dX8_act_13 : decode cX8_act 13 = .ok (.getfield 25, 3) := by decide +kernel
theorem dX8_act_16 : decode cX8_act 16 = .ok (.iload_n 1, 1) := by decide +kernel
theorem dX8_act_17 : decode cX8_act 17 = .ok (.aload_n 0, 1) := by decide +kernel
theorem dX8_act_18 : decode cX8_act 18 = .ok (.getfield 18, 3) := by decide +kernel
theorem dX8_act_21 : decode cX8_act 21 = .ok (.invokevirtual 72, 3) := by decide +kernel
theorem dX8_act_24 : decode cX8_act 24 = .ok (.ireturn, 1) := by decide +kernel
set_option maxRecDepth 20000 in
theorem ggX8_pass_X5_find : GoodIn wsX8_pass wsX5_find := goodIn_r _ [6, 7, 8, 9, 10, 11, 12, 13, 14, 15, 16, 17, 18, 19, 20, 21, 22, 23, 24, 25, 26, 27, 28, 29, 30, 31, 52, 53, 54, 55, 56, 57, 58] (by decide +kernel) (by decide +kernel)
set_option maxRecDepth 20000 in
theorem gX8_pass_X5_find : GoodIn wsX8_pass (wsV RX8 76 RX5 yX5_find wsX5_find) := goodIn_app (goodIn_of _ (by decide +kernel)) ggX8_pass_X5_find
set_option maxRecDepth 20000 in
theorem ggX8_pass_X8_isPerson : GoodIn wsX8_pass wsX8_isPerson := goodIn_r _ [35] (by decide +kernel) (by decide +kernel)
set_option maxRecDepth 20000 in
theorem gX8_pass_X8_isPerson : GoodIn wsX8_pass (va_wsS RX8 80 yX8_isPerson wsX8_isPerson) := goodIn_app (goodIn_of _ (by decide +kernel)) ggX8_pass_X8_isPerson
theorem dX8_pass_0 : decode cX8_pass 0 = .ok (.aload_n 0, 1) := by decide +kernel
theorem dX8_pass_1 : decode cX8_pass 1 = .ok (.getfield 25, 3) := by decide +kernel
theorem dX8_pass_4 : decode cX8_pass 4 = .ok (.iload_n 1, 1) := by decide +kernel
theorem dX8_pass_5 : decode cX8_pass 5 = .ok (.invokevirtual 76, 3) := by decide +kernel
theorem dX8_pass_8 : decode cX8_pass 8 = .ok (.astore 5, 2) := by decide +kernel
theorem dX8_pass_10 : decode cX8_pass 10 = .ok (.aload 5, 2) := by decide +kernel
theorem dX8_pass_12 : decode cX8_pass 12 = .ok (.ifnonnull 5, 3) := by decide +kernel
theorem dX8_pass_15 : decode cX8_pass 15 = .ok (.iconst (-1), 1) := by decide +kernel
theorem dX8_pass_16 : decode cX8_pass 16 = .ok (.ireturn, 1) := by decide +kernel
theorem dX8_pass_17 : decode cX8_pass 17 = .ok (.iload_n 2, 1) := by decide +kernel
theorem dX8_pass_18 : decode cX8_pass 18 = .ok (.invokestatic 80, 3) := by decide +kernel
theorem dX8_pass_21 : decode cX8_pass 21 = .ok (.ifCond .eq 15, 3) := by decide +kernel
theorem dX8_pass_24 : decode cX8_pass 24 = .ok (.iload_n 3, 1) := by decide +kernel
theorem dX8_pass_25 : decode cX8_pass 25 = .ok (.invokestatic 80, 3) := by decide +kernel
theorem dX8_pass_28 : decode cX8_pass 28 = .ok (.ifCond .eq 8, 3) := by decide +kernel
theorem dX8_pass_31 : decode cX8_pass 31 = .ok (.iload_n 2, 1) := by decide +kernel
theorem dX8_pass_32 : decode cX8_pass 32 = .ok (.iload_n 3, 1) := by decide +kernel
theorem dX8_pass_33 : decode cX8_pass 33 = .ok (.if_icmp .ne 6, 3) := by decide +kernel
theorem dX8_pass_36 : decode cX8_pass 36 = .ok (.bipush (-2), 2) := by decide +kernel
theorem dX8_pass_38 : decode cX8_pass 38 = .ok (.ireturn, 1) := by decide +kernel
theorem dX8_pass_39 : decode cX8_pass 39 = .ok (.iload 4, 2) := by decide +kernel
theorem dX8_pass_41 : decode cX8_pass 41 = .ok (.iconst 1, 1) := by decide +kernel
theorem dX8_pass_42 : decode cX8_pass 42 = .ok (.if_icmp .lt 11, 3) := by decide +kernel
theorem dX8_pass_45 : decode cX8_pass 45 = .ok (.iload 4, 2) := by decide +kernel
theorem dX8_pass_47 : decode cX8_pass 47 = .ok (.sipush 3600, 3) := by decide +kernel
theorem dX8_pass_50 : decode cX8_pass 50 = .ok (.if_icmp .le 6, 3) := by decide +kernel
theorem dX8_pass_53 : decode cX8_pass 53 = .ok (.bipush (-3), 2) := by decide +kernel
theorem dX8_pass_55 : decode cX8_pass 55 = .ok (.ireturn, 1) := by decide +kernel
theorem dX8_pass_56 : decode cX8_pass 56 = .ok (.aload 5, 2) := by decide +kernel
theorem dX8_pass_58 : decode cX8_pass 58 = .ok (.getfield 83, 3) := by decide +kernel
theorem dX8_pass_61 : decode cX8_pass 61 = .ok (.ifCond .le 6, 3) := by decide +kernel
theorem dX8_pass_64 : decode cX8_pass 64 = .ok (.bipush (-4), 2) := by decide +kernel
theorem dX8_pass_66 : decode cX8_pass 66 = .ok (.ireturn, 1) := by decide +kernel
theorem dX8_pass_67 : decode cX8_pass 67 = .ok (.aload 5, 2) := by decide +kernel
theorem dX8_pass_69 : decode cX8_pass 69 = .ok (.iload 4, 2) := by decide +kernel
theorem dX8_pass_71 : decode cX8_pass 71 = .ok (.putfield 83, 3) := by decide +kernel
theorem dX8_pass_74 : decode cX8_pass 74 = .ok (.iconst 0, 1) := by decide +kernel
theorem dX8_pass_75 : decode cX8_pass 75 = .ok (.ireturn, 1) := by decide +kernel
set_option maxRecDepth 20000 in
theorem ggX8_listed_X5_passedRow : GoodIn wsX8_listed wsX5_passedRow := goodIn_r _ [6, 7, 8, 9, 5, 10, 11, 12, 13, 14, 15, 16, 17, 18, 19, 20, 21, 22, 23, 24, 25, 26, 27, 28, 29, 30, 31, 32, 33, 34, 35, 39, 40, 41, 42, 43, 44, 45, 46, 47, 48, 49, 50, 51, 52, 53, 54, 55, 56, 57, 58] (by decide +kernel) (by decide +kernel)
set_option maxRecDepth 20000 in
theorem gX8_listed_X5_passedRow : GoodIn wsX8_listed (wsV RX8 89 RX5 yX5_passedRow wsX5_passedRow) := goodIn_app (goodIn_of _ (by decide +kernel)) ggX8_listed_X5_passedRow
theorem dX8_listed_0 : decode cX8_listed 0 = .ok (.aload_n 0, 1) := by decide +kernel
theorem dX8_listed_1 : decode cX8_listed 1 = .ok (.getfield 25, 3) := by decide +kernel
theorem dX8_listed_4 : decode cX8_listed 4 = .ok (.iload_n 1, 1) := by decide +kernel
theorem dX8_listed_5 : decode cX8_listed 5 = .ok (.invokevirtual 89, 3) := by decide +kernel
theorem dX8_listed_8 : decode cX8_listed 8 = .ok (.ireturn, 1) := by decide +kernel
set_option maxRecDepth 20000 in
theorem ggX8_reset_X5_find : GoodIn wsX8_reset wsX5_find := goodIn_r _ [7, 8, 9, 10, 11, 12, 13, 14, 15, 16, 17, 18, 19, 20, 21, 22, 23, 24, 25, 26, 27, 28, 29, 30, 31, 32, 77, 78, 79, 80, 81, 82, 83] (by decide +kernel) (by decide +kernel)
set_option maxRecDepth 20000 in
theorem gX8_reset_X5_find : GoodIn wsX8_reset (wsV RX8 76 RX5 yX5_find wsX5_find) := goodIn_app (goodIn_of _ (by decide +kernel)) ggX8_reset_X5_find
set_option maxRecDepth 20000 in
theorem ggX8_reset_X5_isOn : GoodIn wsX8_reset wsX5_isOn := goodIn_r _ [36, 37, 38, 39, 6, 40, 41, 42, 43, 44, 45, 46, 47, 48, 49, 50, 51, 52, 53, 54, 55, 56, 57, 58, 59, 60, 77, 78, 79, 80, 64, 65, 66, 67, 68, 69, 70, 71, 72, 73, 74, 75, 76, 84, 85, 86] (by decide +kernel) (by decide +kernel)
set_option maxRecDepth 20000 in
theorem gX8_reset_X5_isOn : GoodIn wsX8_reset (wsV RX8 97 RX5 yX5_isOn wsX5_isOn) := goodIn_app (goodIn_of _ (by decide +kernel)) ggX8_reset_X5_isOn
theorem dX8_reset_0 : decode cX8_reset 0 = .ok (.aload_n 0, 1) := by decide +kernel
theorem dX8_reset_1 : decode cX8_reset 1 = .ok (.getfield 25, 3) := by decide +kernel
theorem dX8_reset_4 : decode cX8_reset 4 = .ok (.iload_n 1, 1) := by decide +kernel
theorem dX8_reset_5 : decode cX8_reset 5 = .ok (.invokevirtual 76, 3) := by decide +kernel
theorem dX8_reset_8 : decode cX8_reset 8 = .ok (.astore_n 2, 1) := by decide +kernel
theorem dX8_reset_9 : decode cX8_reset 9 = .ok (.aload_n 2, 1) := by decide +kernel
theorem dX8_reset_10 : decode cX8_reset 10 = .ok (.ifnull 25, 3) := by decide +kernel
theorem dX8_reset_13 : decode cX8_reset 13 = .ok (.aload_n 2, 1) := by decide +kernel
theorem dX8_reset_14 : decode cX8_reset 14 = .ok (.getfield 93, 3) := by decide +kernel
theorem dX8_reset_17 : decode cX8_reset 17 = .ok (.ifCond .eq 18, 3) := by decide +kernel
theorem dX8_reset_20 : decode cX8_reset 20 = .ok (.aload_n 0, 1) := by decide +kernel
theorem dX8_reset_21 : decode cX8_reset 21 = .ok (.getfield 25, 3) := by decide +kernel
theorem dX8_reset_24 : decode cX8_reset 24 = .ok (.aload_n 2, 1) := by decide +kernel
theorem dX8_reset_25 : decode cX8_reset 25 = .ok (.aload_n 0, 1) := by decide +kernel
theorem dX8_reset_26 : decode cX8_reset 26 = .ok (.getfield 18, 3) := by decide +kernel
theorem dX8_reset_29 : decode cX8_reset 29 = .ok (.invokevirtual 97, 3) := by decide +kernel
theorem dX8_reset_32 : decode cX8_reset 32 = .ok (.ifCond .eq 5, 3) := by decide +kernel
theorem dX8_reset_35 : decode cX8_reset 35 = .ok (.iconst 0, 1) := by decide +kernel
theorem dX8_reset_36 : decode cX8_reset 36 = .ok (.ireturn, 1) := by decide +kernel
theorem dX8_reset_37 : decode cX8_reset 37 = .ok (.aload_n 2, 1) := by decide +kernel
theorem dX8_reset_38 : decode cX8_reset 38 = .ok (.iconst 0, 1) := by decide +kernel
theorem dX8_reset_39 : decode cX8_reset 39 = .ok (.putfield 93, 3) := by decide +kernel
theorem dX8_reset_42 : decode cX8_reset 42 = .ok (.iconst 1, 1) := by decide +kernel
theorem dX8_reset_43 : decode cX8_reset 43 = .ok (.ireturn, 1) := by decide +kernel
set_option maxRecDepth 20000 in
theorem ggX8_test_X5_idleRow : GoodIn wsX8_test wsX5_idleRow := goodIn_r _ [6, 7, 8, 9, 10, 11, 12, 13, 14, 15, 16, 17, 18, 19, 20, 21, 22, 23, 24, 25, 26, 27, 28, 29, 30, 31, 32, 33, 34, 35, 36, 37, 38, 39, 40, 41, 42, 43, 44, 45, 46, 47, 48, 49, 50, 51, 52, 5, 53, 54, 55, 56, 57, 58, 59, 60, 61, 62, 63, 64, 65, 66, 67, 68, 69, 70, 71, 72, 73, 74, 75, 76, 77, 78, 79, 80, 81, 82, 83, 84, 85, 86, 87, 88, 89, 90, 91, 92, 93, 94, 95, 96, 97, 98, 99, 100, 101, 102, 103, 104, 105, 106, 107, 108, 109, 110, 111, 112, 113, 114, 115, 116, 117, 118, 119, 120, 121, 122, 123, 124, 128, 129, 130, 131, 132, 133, 134, 135, 136, 137, 138, 139, 140, 141, 142, 143, 144, 145, 146, 147, 148, 149, 150, 151, 152, 153, 154, 155] (by decide +kernel) (by decide +kernel)
set_option maxRecDepth 20000 in
theorem gX8_test_X5_idleRow : GoodIn wsX8_test (wsV RX8 101 RX5 yX5_idleRow wsX5_idleRow) := goodIn_app (goodIn_of _ (by decide +kernel)) ggX8_test_X5_idleRow
theorem dX8_test_0 : decode cX8_test 0 = .ok (.aload_n 0, 1) := by decide +kernel
theorem dX8_test_1 : decode cX8_test 1 = .ok (.getfield 25, 3) := by decide +kernel
theorem dX8_test_4 : decode cX8_test 4 = .ok (.iload_n 1, 1) := by decide +kernel
theorem dX8_test_5 : decode cX8_test 5 = .ok (.invokevirtual 101, 3) := by decide +kernel
theorem dX8_test_8 : decode cX8_test 8 = .ok (.ireturn, 1) := by decide +kernel
set_option maxRecDepth 20000 in
theorem ggX8_row_X5_find : GoodIn wsX8_row wsX5_find := goodIn_r _ [7, 8, 9, 10, 11, 12, 13, 14, 15, 16, 17, 18, 19, 20, 21, 22, 23, 24, 25, 26, 27, 28, 29, 30, 31, 32, 81, 82, 83, 84, 85, 86, 87] (by decide +kernel) (by decide +kernel)
set_option maxRecDepth 20000 in
theorem gX8_row_X5_find : GoodIn wsX8_row (wsV RX8 76 RX5 yX5_find wsX5_find) := goodIn_app (goodIn_of _ (by decide +kernel)) ggX8_row_X5_find
set_option maxRecDepth 20000 in
theorem ggX8_row_X8_oneIf : GoodIn wsX8_row wsX8_oneIf := goodIn_r _ [36] (by decide +kernel) (by decide +kernel)
set_option maxRecDepth 20000 in
theorem gX8_row_X8_oneIf : GoodIn wsX8_row (va_wsS RX8 113 yX8_oneIf wsX8_oneIf) := goodIn_app (goodIn_of _ (by decide +kernel)) ggX8_row_X8_oneIf
set_option maxRecDepth 20000 in
theorem ggX8_row_X5_isOn : GoodIn wsX8_row wsX5_isOn := goodIn_r _ [40, 41, 42, 43, 6, 44, 45, 46, 47, 48, 49, 50, 51, 52, 53, 54, 55, 56, 57, 58, 59, 60, 61, 62, 63, 64, 81, 82, 83, 84, 68, 69, 70, 71, 72, 73, 74, 75, 76, 77, 78, 79, 80, 88, 89, 90] (by decide +kernel) (by decide +kernel)
set_option maxRecDepth 20000 in
theorem gX8_row_X5_isOn : GoodIn wsX8_row (wsV RX8 97 RX5 yX5_isOn wsX5_isOn) := goodIn_app (goodIn_of _ (by decide +kernel)) ggX8_row_X5_isOn
theorem dX8_row_0 : decode cX8_row 0 = .ok (.aload_n 0, 1) := by decide +kernel
theorem dX8_row_1 : decode cX8_row 1 = .ok (.getfield 25, 3) := by decide +kernel
theorem dX8_row_4 : decode cX8_row 4 = .ok (.iload_n 1, 1) := by decide +kernel
theorem dX8_row_5 : decode cX8_row 5 = .ok (.invokevirtual 76, 3) := by decide +kernel
theorem dX8_row_8 : decode cX8_row 8 = .ok (.astore_n 3, 1) := by decide +kernel
theorem dX8_row_9 : decode cX8_row 9 = .ok (.aload_n 3, 1) := by decide +kernel
theorem dX8_row_10 : decode cX8_row 10 = .ok (.ifnonnull 5, 3) := by decide +kernel
theorem dX8_row_13 : decode cX8_row 13 = .ok (.iconst (-1), 1) := by decide +kernel
theorem dX8_row_14 : decode cX8_row 14 = .ok (.ireturn, 1) := by decide +kernel
theorem dX8_row_15 : decode cX8_row 15 = .ok (.iload_n 2, 1) := by decide +kernel
theorem dX8_row_16 : decode cX8_row 16 = .ok (.tableswitch 105 0 7 #[48, 53, 58, 66, 71, 79, 84, 89], 48) := by decide +kernel
theorem dX8_row_64 : decode cX8_row 64 = .ok (.aload_n 3, 1) := by decide +kernel
theorem dX8_row_65 : decode cX8_row 65 = .ok (.getfield 104, 3) := by decide +kernel
theorem dX8_row_68 : decode cX8_row 68 = .ok (.ireturn, 1) := by decide +kernel
theorem dX8_row_69 : decode cX8_row 69 = .ok (.aload_n 3, 1) := by decide +kernel
theorem dX8_row_70 : decode cX8_row 70 = .ok (.getfield 107, 3) := by decide +kernel
theorem dX8_row_73 : decode cX8_row 73 = .ok (.ireturn, 1) := by decide +kernel
theorem dX8_row_74 : decode cX8_row 74 = .ok (.aload_n 3, 1) := by decide +kernel
theorem dX8_row_75 : decode cX8_row 75 = .ok (.getfield 110, 3) := by decide +kernel
theorem dX8_row_78 : decode cX8_row 78 = .ok (.invokestatic 113, 3) := by decide +kernel
theorem dX8_row_81 : decode cX8_row 81 = .ok (.ireturn, 1) := by decide +kernel
theorem dX8_row_82 : decode cX8_row 82 = .ok (.aload_n 3, 1) := by decide +kernel
theorem dX8_row_83 : decode cX8_row 83 = .ok (.getfield 117, 3) := by decide +kernel
theorem dX8_row_86 : decode cX8_row 86 = .ok (.ireturn, 1) := by decide +kernel
theorem dX8_row_87 : decode cX8_row 87 = .ok (.aload_n 3, 1) := by decide +kernel
theorem dX8_row_88 : decode cX8_row 88 = .ok (.getfield 93, 3) := by decide +kernel
theorem dX8_row_91 : decode cX8_row 91 = .ok (.invokestatic 113, 3) := by decide +kernel
theorem dX8_row_94 : decode cX8_row 94 = .ok (.ireturn, 1) := by decide +kernel
theorem dX8_row_95 : decode cX8_row 95 = .ok (.aload_n 3, 1) := by decide +kernel
theorem dX8_row_96 : decode cX8_row 96 = .ok (.getfield 83, 3) := by decide +kernel
theorem dX8_row_99 : decode cX8_row 99 = .ok (.ireturn, 1) := by decide +kernel
theorem dX8_row_100 : decode cX8_row 100 = .ok (.aload_n 3, 1) := by decide +kernel
theorem dX8_row_101 : decode cX8_row 101 = .ok (.getfield 119, 3) := by decide +kernel
theorem dX8_row_104 : decode cX8_row 104 = .ok (.ireturn, 1) := by decide +kernel
theorem dX8_row_105 : decode cX8_row 105 = .ok (.aload_n 0, 1) := by decide +kernel
theorem dX8_row_106 : decode cX8_row 106 = .ok (.getfield 25, 3) := by decide +kernel
theorem dX8_row_109 : decode cX8_row 109 = .ok (.aload_n 3, 1) := by decide +kernel
theorem dX8_row_110 : decode cX8_row 110 = .ok (.aload_n 0, 1) := by decide +kernel
theorem dX8_row_111 : decode cX8_row 111 = .ok (.getfield 18, 3) := by decide +kernel
theorem dX8_row_114 : decode cX8_row 114 = .ok (.invokevirtual 97, 3) := by decide +kernel
theorem dX8_row_117 : decode cX8_row 117 = .ok (.invokestatic 113, 3) := by decide +kernel
theorem dX8_row_120 : decode cX8_row 120 = .ok (.ireturn, 1) := by decide +kernel
theorem dX8_row_121 : decode cX8_row 121 = .ok (.iconst (-1), 1) := by decide +kernel
theorem dX8_row_122 : decode cX8_row 122 = .ok (.ireturn, 1) := by decide +kernel
set_option maxRecDepth 20000 in
theorem ggX8_write_X5_written : GoodIn wsX8_write wsX5_written := goodIn_r _ [6, 7, 8, 9, 10, 11, 12, 13, 14, 15, 16, 17, 18, 19, 20, 21, 22, 23, 24, 25, 26, 27, 28, 29, 30, 31, 32, 33, 34, 35, 36, 37, 38, 39, 40, 41, 42, 43, 44, 45, 46, 47, 48, 49, 50, 51, 52, 53, 54, 55, 56, 57, 58, 59, 60, 61, 62, 63, 64, 65, 66, 67, 68, 69, 70, 71, 72, 73, 74, 75, 76, 77, 78, 79, 80, 81, 82, 83, 84, 85, 86, 87, 88, 89, 90, 91, 92, 93, 94, 95, 96, 97, 98, 99, 100, 101, 102, 103, 104, 105, 106, 107, 108, 109, 110, 111, 112, 113, 114, 115, 116, 117, 118, 119, 120, 121, 122, 123, 124, 125, 126, 127, 128, 129, 130, 131, 132, 133, 134, 135, 136, 137, 138, 139, 140, 141, 142, 143, 144, 145, 146, 147, 148, 149, 150, 151, 152, 153, 154, 155, 156, 157, 158, 159, 160, 161, 162, 163, 164, 165, 166, 167, 168, 169, 170, 178, 179, 180, 181, 182, 183, 184, 185, 186, 187, 188, 189, 190, 191, 192, 193, 194, 195, 196, 197, 198, 199, 200, 201, 202, 203, 204, 205, 206] (by decide +kernel) (by decide +kernel)
set_option maxRecDepth 20000 in
theorem gX8_write_X5_written : GoodIn wsX8_write (wsV RX8 122 RX5 yX5_written wsX5_written) := goodIn_app (goodIn_of _ (by decide +kernel)) ggX8_write_X5_written
set_option maxRecDepth 20000 in
theorem ggX8_write_X0_at : GoodIn wsX8_write wsX0_at := goodIn_r _ [174, 32, 31, 185, 186, 187] (by decide +kernel) (by decide +kernel)
set_option maxRecDepth 20000 in
theorem gX8_write_X0_at : GoodIn wsX8_write (wsV RX8 126 RX0 yX0_at wsX0_at) := goodIn_app (goodIn_of _ (by decide +kernel)) ggX8_write_X0_at
theorem dX8_write_0 : decode cX8_write 0 = .ok (.aload_n 0, 1) := by decide +kernel
theorem dX8_write_1 : decode cX8_write 1 = .ok (.getfield 25, 3) := by decide +kernel
theorem dX8_write_4 : decode cX8_write 4 = .ok (.invokevirtual 122, 3) := by decide +kernel
theorem dX8_write_7 : decode cX8_write 7 = .ok (.iload_n 1, 1) := by decide +kernel
theorem dX8_write_8 : decode cX8_write 8 = .ok (.invokevirtual 126, 3) := by decide +kernel
theorem dX8_write_11 : decode cX8_write 11 = .ok (.ireturn, 1) := by decide +kernel
set_option maxRecDepth 20000 in
theorem ggX8_clear_X5_init : GoodIn wsX8_clear wsX5_init := goodIn_r _ [8, 9, 10, 11, 12, 13, 14, 15, 16, 17, 18, 19, 20, 21, 22, 23, 24, 25, 26, 27, 28, 29, 30, 31, 32, 33, 34, 35, 36, 37, 38, 39, 40, 41, 42, 43, 44, 45, 46, 60, 61, 62, 53, 54, 55, 56, 63, 64, 65] (by decide +kernel) (by decide +kernel)
set_option maxRecDepth 20000 in
theorem gX8_clear_X5_init : GoodIn wsX8_clear (wsX5_init) := ggX8_clear_X5_init
set_option maxRecDepth 20000 in
theorem ggX8_clear_X0_empty : GoodIn wsX8_clear wsX0_empty := goodIn_r _ [51, 52, 66, 67, 68] (by decide +kernel) (by decide +kernel)
set_option maxRecDepth 20000 in
theorem gX8_clear_X0_empty : GoodIn wsX8_clear (wsV RX8 44 RX0 yX0_empty wsX0_empty) := goodIn_app (goodIn_of _ (by decide +kernel)) ggX8_clear_X0_empty
theorem dX8_clear_0 : decode cX8_clear 0 = .ok (.aload_n 0, 1) := by decide +kernel
theorem dX8_clear_1 : decode cX8_clear 1 = .ok (.new 22, 3) := by decide +kernel
theorem dX8_clear_4 : decode cX8_clear 4 = .ok (.dup, 1) := by decide +kernel
theorem dX8_clear_5 : decode cX8_clear 5 = .ok (.iconst 0, 1) := by decide +kernel
theorem dX8_clear_6 : decode cX8_clear 6 = .ok (.invokespecial 24, 3) := by decide +kernel
theorem dX8_clear_9 : decode cX8_clear 9 = .ok (.putfield 25, 3) := by decide +kernel
theorem dX8_clear_12 : decode cX8_clear 12 = .ok (.aload_n 0, 1) := by decide +kernel
theorem dX8_clear_13 : decode cX8_clear 13 = .ok (.getfield 14, 3) := by decide +kernel
theorem dX8_clear_16 : decode cX8_clear 16 = .ok (.invokevirtual 44, 3) := by decide +kernel
theorem dX8_clear_19 : decode cX8_clear 19 = .ok (.return_, 1) := by decide +kernel
theorem dX8_isPerson_0 : decode cX8_isPerson 0 = .ok (.iload_n 0, 1) := by decide +kernel
theorem dX8_isPerson_1 : decode cX8_isPerson 1 = .ok (.iconst 1, 1) := by decide +kernel
theorem dX8_isPerson_2 : decode cX8_isPerson 2 = .ok (.if_icmp .lt 14, 3) := by decide +kernel
theorem dX8_isPerson_5 : decode cX8_isPerson 5 = .ok (.iload_n 0, 1) := by decide +kernel
theorem dX8_isPerson_6 : decode cX8_isPerson 6 = .ok (.sipush 999, 3) := by decide +kernel
theorem dX8_isPerson_9 : decode cX8_isPerson 9 = .ok (.if_icmp .gt 7, 3) := by decide +kernel
theorem dX8_isPerson_12 : decode cX8_isPerson 12 = .ok (.iconst 1, 1) := by decide +kernel
theorem dX8_isPerson_13 : decode cX8_isPerson 13 = .ok (.goto 4, 3) := by decide +kernel
theorem dX8_isPerson_16 : decode cX8_isPerson 16 = .ok (.iconst 0, 1) := by decide +kernel
theorem dX8_isPerson_17 : decode cX8_isPerson 17 = .ok (.ireturn, 1) := by decide +kernel
theorem dX8_oneIf_0 : decode cX8_oneIf 0 = .ok (.iload_n 0, 1) := by decide +kernel
theorem dX8_oneIf_1 : decode cX8_oneIf 1 = .ok (.ifCond .eq 7, 3) := by decide +kernel
theorem dX8_oneIf_4 : decode cX8_oneIf 4 = .ok (.iconst 1, 1) := by decide +kernel
theorem dX8_oneIf_5 : decode cX8_oneIf 5 = .ok (.goto 4, 3) := by decide +kernel
theorem dX8_oneIf_8 : decode cX8_oneIf 8 = .ok (.iconst 0, 1) := by decide +kernel
theorem dX8_oneIf_9 : decode cX8_oneIf 9 = .ok (.ireturn, 1) := by decide +kernel
theorem dX9_init_0 : decode cX9_init 0 = .ok (.aload_n 0, 1) := by decide +kernel
theorem dX9_init_1 : decode cX9_init 1 = .ok (.invokespecial 1, 3) := by decide +kernel
theorem dX9_init_4 : decode cX9_init 4 = .ok (.aload_n 0, 1) := by decide +kernel
theorem dX9_init_5 : decode cX9_init 5 = .ok (.sipush 3000, 3) := by decide +kernel
theorem dX9_init_8 : decode cX9_init 8 = .ok (.newarray .byte, 2) := by decide +kernel
theorem dX9_init_10 : decode cX9_init 10 = .ok (.putfield 9, 3) := by decide +kernel
theorem dX9_init_13 : decode cX9_init 13 = .ok (.aload_n 0, 1) := by decide +kernel
theorem dX9_init_14 : decode cX9_init 14 = .ok (.sipush 3001, 3) := by decide +kernel
theorem dX9_init_17 : decode cX9_init 17 = .ok (.newarray .int, 2) := by decide +kernel
theorem dX9_init_19 : decode cX9_init 19 = .ok (.putfield 13, 3) := by decide +kernel
theorem dX9_init_22 : decode cX9_init 22 = .ok (.aload_n 0, 1) := by decide +kernel
theorem dX9_init_23 : decode cX9_init 23 = .ok (.sipush 3001, 3) := by decide +kernel
theorem dX9_init_26 : decode cX9_init 26 = .ok (.newarray .int, 2) := by decide +kernel
theorem dX9_init_28 : decode cX9_init 28 = .ok (.putfield 17, 3) := by decide +kernel
theorem dX9_init_31 : decode cX9_init 31 = .ok (.aload_n 0, 1) := by decide +kernel
theorem dX9_init_32 : decode cX9_init 32 = .ok (.sipush 6000, 3) := by decide +kernel
theorem dX9_init_35 : decode cX9_init 35 = .ok (.newarray .int, 2) := by decide +kernel
theorem dX9_init_37 : decode cX9_init 37 = .ok (.putfield 20, 3) := by decide +kernel
theorem dX9_init_40 : decode cX9_init 40 = .ok (.aload_n 0, 1) := by decide +kernel
theorem dX9_init_41 : decode cX9_init 41 = .ok (.sipush 6000, 3) := by decide +kernel
theorem dX9_init_44 : decode cX9_init 44 = .ok (.newarray .int, 2) := by decide +kernel
theorem dX9_init_46 : decode cX9_init 46 = .ok (.putfield 23, 3) := by decide +kernel
theorem dX9_init_49 : decode cX9_init 49 = .ok (.aload_n 0, 1) := by decide +kernel
theorem dX9_init_50 : decode cX9_init 50 = .ok (.sipush 6000, 3) := by decide +kernel
theorem dX9_init_53 : decode cX9_init 53 = .ok (.newarray .int, 2) := by decide +kernel
theorem dX9_init_55 : decode cX9_init 55 = .ok (.putfield 26, 3) := by decide +kernel
theorem dX9_init_58 : decode cX9_init 58 = .ok (.aload_n 0, 1) := by decide +kernel
theorem dX9_init_59 : decode cX9_init 59 = .ok (.bipush 80, 2) := by decide +kernel
theorem dX9_init_61 : decode cX9_init 61 = .ok (.newarray .int, 2) := by decide +kernel
theorem dX9_init_63 : decode cX9_init 63 = .ok (.putfield 29, 3) := by decide +kernel
theorem dX9_init_66 : decode cX9_init 66 = .ok (.aload_n 0, 1) := by decide +kernel
theorem dX9_init_67 : decode cX9_init 67 = .ok (.bipush 80, 2) := by decide +kernel
theorem dX9_init_69 : decode cX9_init 69 = .ok (.newarray .int, 2) := by decide +kernel
theorem dX9_init_71 : decode cX9_init 71 = .ok (.putfield 32, 3) := by decide +kernel
theorem dX9_init_74 : decode cX9_init 74 = .ok (.aload_n 0, 1) := by decide +kernel
theorem dX9_init_75 : decode cX9_init 75 = .ok (.sipush 640, 3) := by decide +kernel
theorem dX9_init_78 : decode cX9_init 78 = .ok (.newarray .int, 2) := by decide +kernel
theorem dX9_init_80 : decode cX9_init 80 = .ok (.putfield 35, 3) := by decide +kernel
theorem dX9_init_83 : decode cX9_init 83 = .ok (.aload_n 0, 1) := by decide +kernel
theorem dX9_init_84 : decode cX9_init 84 = .ok (.bipush 80, 2) := by decide +kernel
theorem dX9_init_86 : decode cX9_init 86 = .ok (.newarray .int, 2) := by decide +kernel
theorem dX9_init_88 : decode cX9_init 88 = .ok (.putfield 38, 3) := by decide +kernel
theorem dX9_init_91 : decode cX9_init 91 = .ok (.aload_n 0, 1) := by decide +kernel
theorem dX9_init_92 : decode cX9_init 92 = .ok (.bipush 80, 2) := by decide +kernel
theorem dX9_init_94 : decode cX9_init 94 = .ok (.newarray .boolean, 2) := by decide +kernel
theorem dX9_init_96 : decode cX9_init 96 = .ok (.putfield 41, 3) := by decide +kernel
theorem dX9_init_99 : decode cX9_init 99 = .ok (.aload_n 0, 1) := by decide +kernel
theorem dX9_init_100 : decode cX9_init 100 = .ok (.bipush 80, 2) := by decide +kernel
theorem dX9_init_102 : decode cX9_init 102 = .ok (.newarray .int, 2) := by decide +kernel
theorem dX9_init_104 : decode cX9_init 104 = .ok (.putfield 45, 3) := by decide +kernel
theorem dX9_init_107 : decode cX9_init 107 = .ok (.aload_n 0, 1) := by decide +kernel
theorem dX9_init_108 : decode cX9_init 108 = .ok (.bipush 40, 2) := by decide +kernel
theorem dX9_init_110 : decode cX9_init 110 = .ok (.newarray .int, 2) := by decide +kernel
theorem dX9_init_112 : decode cX9_init 112 = .ok (.putfield 48, 3) := by decide +kernel
theorem dX9_init_115 : decode cX9_init 115 = .ok (.aload_n 0, 1) := by decide +kernel
theorem dX9_init_116 : decode cX9_init 116 = .ok (.bipush 40, 2) := by decide +kernel
theorem dX9_init_118 : decode cX9_init 118 = .ok (.newarray .boolean, 2) := by decide +kernel
theorem dX9_init_120 : decode cX9_init 120 = .ok (.putfield 51, 3) := by decide +kernel
theorem dX9_init_123 : decode cX9_init 123 = .ok (.aload_n 0, 1) := by decide +kernel
theorem dX9_init_124 : decode cX9_init 124 = .ok (.bipush 40, 2) := by decide +kernel
theorem dX9_init_126 : decode cX9_init 126 = .ok (.newarray .int, 2) := by decide +kernel
theorem dX9_init_128 : decode cX9_init 128 = .ok (.putfield 54, 3) := by decide +kernel
theorem dX9_init_131 : decode cX9_init 131 = .ok (.aload_n 0, 1) := by decide +kernel
theorem dX9_init_132 : decode cX9_init 132 = .ok (.ldc 57, 2) := by decide +kernel
theorem dX9_init_134 : decode cX9_init 134 = .ok (.newarray .long, 2) := by decide +kernel
theorem dX9_init_136 : decode cX9_init 136 = .ok (.putfield 58, 3) := by decide +kernel
theorem dX9_init_139 : decode cX9_init 139 = .ok (.aload_n 0, 1) := by decide +kernel
theorem dX9_init_140 : decode cX9_init 140 = .ok (.ldc 62, 2) := by decide +kernel
theorem dX9_init_142 : decode cX9_init 142 = .ok (.newarray .long, 2) := by decide +kernel
theorem dX9_init_144 : decode cX9_init 144 = .ok (.putfield 63, 3) := by decide +kernel
theorem dX9_init_147 : decode cX9_init 147 = .ok (.aload_n 0, 1) := by decide +kernel
theorem dX9_init_148 : decode cX9_init 148 = .ok (.sipush 1024, 3) := by decide +kernel
theorem dX9_init_151 : decode cX9_init 151 = .ok (.newarray .long, 2) := by decide +kernel
theorem dX9_init_153 : decode cX9_init 153 = .ok (.putfield 66, 3) := by decide +kernel
theorem dX9_init_156 : decode cX9_init 156 = .ok (.aload_n 0, 1) := by decide +kernel
theorem dX9_init_157 : decode cX9_init 157 = .ok (.bipush 40, 2) := by decide +kernel
theorem dX9_init_159 : decode cX9_init 159 = .ok (.newarray .boolean, 2) := by decide +kernel
theorem dX9_init_161 : decode cX9_init 161 = .ok (.putfield 69, 3) := by decide +kernel
theorem dX9_init_164 : decode cX9_init 164 = .ok (.aload_n 0, 1) := by decide +kernel
theorem dX9_init_165 : decode cX9_init 165 = .ok (.sipush 256, 3) := by decide +kernel
theorem dX9_init_168 : decode cX9_init 168 = .ok (.newarray .byte, 2) := by decide +kernel
theorem dX9_init_170 : decode cX9_init 170 = .ok (.putfield 72, 3) := by decide +kernel
theorem dX9_init_173 : decode cX9_init 173 = .ok (.return_, 1) := by decide +kernel
theorem dX9_unit_0 : decode cX9_unit 0 = .ok (.iload_n 1, 1) := by decide +kernel
theorem dX9_unit_1 : decode cX9_unit 1 = .ok (.iconst 1, 1) := by decide +kernel
theorem dX9_unit_2 : decode cX9_unit 2 = .ok (.if_icmp .lt 19, 3) := by decide +kernel
theorem dX9_unit_5 : decode cX9_unit 5 = .ok (.iload_n 1, 1) := by decide +kernel
theorem dX9_unit_6 : decode cX9_unit 6 = .ok (.bipush 127, 2) := by decide +kernel
theorem dX9_unit_8 : decode cX9_unit 8 = .ok (.if_icmp .gt 13, 3) := by decide +kernel
theorem dX9_unit_11 : decode cX9_unit 11 = .ok (.aload_n 0, 1) := by decide +kernel
theorem dX9_unit_12 : decode cX9_unit 12 = .ok (.getfield 75, 3) := by decide +kernel
theorem dX9_unit_15 : decode cX9_unit 15 = .ok (.sipush 3000, 3) := by decide +kernel
theorem dX9_unit_18 : decode cX9_unit 18 = .ok (.if_icmp .ne 5, 3) := by decide +kernel
theorem dX9_unit_21 : decode cX9_unit 21 = .ok (.iconst 0, 1) := by decide +kernel
theorem dX9_unit_22 : decode cX9_unit 22 = .ok (.ireturn, 1) := by decide +kernel
theorem dX9_unit_23 : decode cX9_unit 23 = .ok (.aload_n 0, 1) := by decide +kernel
theorem dX9_unit_24 : decode cX9_unit 24 = .ok (.getfield 9, 3) := by decide +kernel
theorem dX9_unit_27 : decode cX9_unit 27 = .ok (.aload_n 0, 1) := by decide +kernel
theorem dX9_unit_28 : decode cX9_unit 28 = .ok (.getfield 75, 3) := by decide +kernel
theorem dX9_unit_31 : decode cX9_unit 31 = .ok (.iload_n 1, 1) := by decide +kernel
theorem dX9_unit_32 : decode cX9_unit 32 = .ok (.i2b, 1) := by decide +kernel
theorem dX9_unit_33 : decode cX9_unit 33 = .ok (.bastore, 1) := by decide +kernel
theorem dX9_unit_34 : decode cX9_unit 34 = .ok (.aload_n 0, 1) := by decide +kernel
theorem dX9_unit_35 : decode cX9_unit 35 = .ok (.dup, 1) := by decide +kernel
theorem dX9_unit_36 : decode cX9_unit 36 = .ok (.getfield 75, 3) := by decide +kernel
theorem dX9_unit_39 : decode cX9_unit 39 = .ok (.iconst 1, 1) := by decide +kernel
theorem dX9_unit_40 : decode cX9_unit 40 = .ok (.iadd, 1) := by decide +kernel
theorem dX9_unit_41 : decode cX9_unit 41 = .ok (.putfield 75, 3) := by decide +kernel
theorem dX9_unit_44 : decode cX9_unit 44 = .ok (.iconst 1, 1) := by decide +kernel
theorem dX9_unit_45 : decode cX9_unit 45 = .ok (.ireturn, 1) := by decide +kernel
theorem dX9_isSign_0 : decode cX9_isSign 0 = .ok (.iload_n 0, 1) := by decide +kernel
theorem dX9_isSign_1 : decode cX9_isSign 1 = .ok (.bipush 40, 2) := by decide +kernel
theorem dX9_isSign_3 : decode cX9_isSign 3 = .ok (.if_icmp .eq 15, 3) := by decide +kernel
theorem dX9_isSign_6 : decode cX9_isSign 6 = .ok (.iload_n 0, 1) := by decide +kernel
theorem dX9_isSign_7 : decode cX9_isSign 7 = .ok (.bipush 41, 2) := by decide +kernel
theorem dX9_isSign_9 : decode cX9_isSign 9 = .ok (.if_icmp .eq 9, 3) := by decide +kernel
theorem dX9_isSign_12 : decode cX9_isSign 12 = .ok (.iload_n 0, 1) := by decide +kernel
theorem dX9_isSign_13 : decode cX9_isSign 13 = .ok (.bipush 59, 2) := by decide +kernel
theorem dX9_isSign_15 : decode cX9_isSign 15 = .ok (.if_icmp .ne 7, 3) := by decide +kernel
theorem dX9_isSign_18 : decode cX9_isSign 18 = .ok (.iconst 1, 1) := by decide +kernel
theorem dX9_isSign_19 : decode cX9_isSign 19 = .ok (.goto 4, 3) := by decide +kernel
theorem dX9_isSign_22 : decode cX9_isSign 22 = .ok (.iconst 0, 1) := by decide +kernel
theorem dX9_isSign_23 : decode cX9_isSign 23 = .ok (.ireturn, 1) := by decide +kernel
set_option maxRecDepth 20000 in
theorem ggX9_cut_X9_isSign : GoodIn wsX9_cut wsX9_isSign := goodIn_r _ [9] (by decide +kernel) (by decide +kernel)
set_option maxRecDepth 20000 in
theorem gX9_cut_X9_isSign : GoodIn wsX9_cut (va_wsS RX9 82 yX9_isSign wsX9_isSign) := goodIn_app (goodIn_of _ (by decide +kernel)) ggX9_cut_X9_isSign
theorem dX9_cut_0 : decode cX9_cut 0 = .ok (.aload_n 0, 1) := by decide +kernel
theorem dX9_cut_1 : decode cX9_cut 1 = .ok (.iconst 0, 1) := by decide +kernel
theorem dX9_cut_2 : decode cX9_cut 2 = .ok (.putfield 79, 3) := by decide +kernel
theorem dX9_cut_5 : decode cX9_cut 5 = .ok (.iconst 0, 1) := by decide +kernel
theorem dX9_cut_6 : decode cX9_cut 6 = .ok (.istore_n 1, 1) := by decide +kernel
theorem dX9_cut_7 : decode cX9_cut 7 = .ok (.iload_n 1, 1) := by decide +kernel
theorem dX9_cut_8 : decode cX9_cut 8 = .ok (.aload_n 0, 1) := by decide +kernel
theorem dX9_cut_9 : decode cX9_cut 9 = .ok (.getfield 75, 3) := by decide +kernel
theorem dX9_cut_12 : decode cX9_cut 12 = .ok (.if_icmp .ge 119, 3) := by decide +kernel
theorem dX9_cut_15 : decode cX9_cut 15 = .ok (.aload_n 0, 1) := by decide +kernel
theorem dX9_cut_16 : decode cX9_cut 16 = .ok (.getfield 9, 3) := by decide +kernel
theorem dX9_cut_19 : decode cX9_cut 19 = .ok (.iload_n 1, 1) := by decide +kernel
theorem dX9_cut_20 : decode cX9_cut 20 = .ok (.baload, 1) := by decide +kernel
theorem dX9_cut_21 : decode cX9_cut 21 = .ok (.istore_n 2, 1) := by decide +kernel
theorem dX9_cut_22 : decode cX9_cut 22 = .ok (.iload_n 2, 1) := by decide +kernel
theorem dX9_cut_23 : decode cX9_cut 23 = .ok (.bipush 32, 2) := by decide +kernel
theorem dX9_cut_25 : decode cX9_cut 25 = .ok (.if_icmp .eq 9, 3) := by decide +kernel
theorem dX9_cut_28 : decode cX9_cut 28 = .ok (.iload_n 2, 1) := by decide +kernel
theorem dX9_cut_29 : decode cX9_cut 29 = .ok (.bipush 10, 2) := by decide +kernel
theorem dX9_cut_31 : decode cX9_cut 31 = .ok (.if_icmp .ne 9, 3) := by decide +kernel
theorem dX9_cut_34 : decode cX9_cut 34 = .ok (.iinc 1 1, 3) := by decide +kernel
theorem dX9_cut_37 : decode cX9_cut 37 = .ok (.goto 91, 3) := by decide +kernel
theorem dX9_cut_40 : decode cX9_cut 40 = .ok (.aload_n 0, 1) := by decide +kernel
theorem dX9_cut_41 : decode cX9_cut 41 = .ok (.getfield 13, 3) := by decide +kernel
theorem dX9_cut_44 : decode cX9_cut 44 = .ok (.aload_n 0, 1) := by decide +kernel
theorem dX9_cut_45 : decode cX9_cut 45 = .ok (.getfield 79, 3) := by decide +kernel
theorem dX9_cut_48 : decode cX9_cut 48 = .ok (.iload_n 1, 1) := by decide +kernel
theorem dX9_cut_49 : decode cX9_cut 49 = .ok (.iastore, 1) := by decide +kernel
theorem dX9_cut_50 : decode cX9_cut 50 = .ok (.iinc 1 1, 3) := by decide +kernel
theorem dX9_cut_53 : decode cX9_cut 53 = .ok (.iload_n 2, 1) := by decide +kernel
theorem dX9_cut_54 : decode cX9_cut 54 = .ok (.invokestatic 82, 3) := by decide +kernel
theorem dX9_cut_57 : decode cX9_cut 57 = .ok (.ifCond .ne 51, 3) := by decide +kernel
theorem dX9_cut_60 : decode cX9_cut 60 = .ok (.iload_n 1, 1) := by decide +kernel
theorem dX9_cut_61 : decode cX9_cut 61 = .ok (.aload_n 0, 1) := by decide +kernel
theorem dX9_cut_62 : decode cX9_cut 62 = .ok (.getfield 75, 3) := by decide +kernel
theorem dX9_cut_65 : decode cX9_cut 65 = .ok (.if_icmp .ge 43, 3) := by decide +kernel
theorem dX9_cut_68 : decode cX9_cut 68 = .ok (.aload_n 0, 1) := by decide +kernel
theorem dX9_cut_69 : decode cX9_cut 69 = .ok (.getfield 9, 3) := by decide +kernel
theorem dX9_cut_72 : decode cX9_cut 72 = .ok (.iload_n 1, 1) := by decide +kernel
theorem dX9_cut_73 : decode cX9_cut 73 = .ok (.baload, 1) := by decide +kernel
theorem dX9_cut_74 : decode cX9_cut 74 = .ok (.bipush 32, 2) := by decide +kernel
theorem dX9_cut_76 : decode cX9_cut 76 = .ok (.if_icmp .eq 32, 3) := by decide +kernel
theorem dX9_cut_79 : decode cX9_cut 79 = .ok (.aload_n 0, 1) := by decide +kernel
theorem dX9_cut_80 : decode cX9_cut 80 = .ok (.getfield 9, 3) := by decide +kernel
theorem dX9_cut_83 : decode cX9_cut 83 = .ok (.iload_n 1, 1) := by decide +kernel
theorem dX9_cut_84 : decode cX9_cut 84 = .ok (.baload, 1) := by decide +kernel
theorem dX9_cut_85 : decode cX9_cut 85 = .ok (.bipush 10, 2) := by decide +kernel
theorem dX9_cut_87 : decode cX9_cut 87 = .ok (.if_icmp .eq 21, 3) := by decide +kernel
theorem dX9_cut_90 : decode cX9_cut 90 = .ok (.aload_n 0, 1) := by decide +kernel
theorem dX9_cut_91 : decode cX9_cut 91 = .ok (.getfield 9, 3) := by decide +kernel
theorem dX9_cut_94 : decode cX9_cut 94 = .ok (.iload_n 1, 1) := by decide +kernel
theorem dX9_cut_95 : decode cX9_cut 95 = .ok (.baload, 1) := by decide +kernel
theorem dX9_cut_96 : decode cX9_cut 96 = .ok (.invokestatic 82, 3) := by decide +kernel
theorem dX9_cut_99 : decode cX9_cut 99 = .ok (.ifCond .ne 9, 3) := by decide +kernel
theorem dX9_cut_102 : decode cX9_cut 102 = .ok (.iinc 1 1, 3) := by decide +kernel
theorem dX9_cut_105 : decode cX9_cut 105 = .ok (.goto (-52), 3) := by decide +kernel
theorem dX9_cut_108 : decode cX9_cut 108 = .ok (.aload_n 0, 1) := by decide +kernel
theorem dX9_cut_109 : decode cX9_cut 109 = .ok (.getfield 17, 3) := by decide +kernel
theorem dX9_cut_112 : decode cX9_cut 112 = .ok (.aload_n 0, 1) := by decide +kernel
theorem dX9_cut_113 : decode cX9_cut 113 = .ok (.getfield 79, 3) := by decide +kernel
theorem dX9_cut_116 : decode cX9_cut 116 = .ok (.iload_n 1, 1) := by decide +kernel
theorem dX9_cut_117 : decode cX9_cut 117 = .ok (.iastore, 1) := by decide +kernel
theorem dX9_cut_118 : decode cX9_cut 118 = .ok (.aload_n 0, 1) := by decide +kernel
theorem dX9_cut_119 : decode cX9_cut 119 = .ok (.dup, 1) := by decide +kernel
theorem dX9_cut_120 : decode cX9_cut 120 = .ok (.getfield 79, 3) := by decide +kernel
theorem dX9_cut_123 : decode cX9_cut 123 = .ok (.iconst 1, 1) := by decide +kernel
theorem dX9_cut_124 : decode cX9_cut 124 = .ok (.iadd, 1) := by decide +kernel
theorem dX9_cut_125 : decode cX9_cut 125 = .ok (.putfield 79, 3) := by decide +kernel
theorem dX9_cut_128 : decode cX9_cut 128 = .ok (.goto (-121), 3) := by decide +kernel
theorem dX9_cut_131 : decode cX9_cut 131 = .ok (.return_, 1) := by decide +kernel
theorem dX9_at_0 : decode cX9_at 0 = .ok (.aload_n 0, 1) := by decide +kernel
theorem dX9_at_1 : decode cX9_at 1 = .ok (.getfield 86, 3) := by decide +kernel
theorem dX9_at_4 : decode cX9_at 4 = .ok (.aload_n 0, 1) := by decide +kernel
theorem dX9_at_5 : decode cX9_at 5 = .ok (.getfield 79, 3) := by decide +kernel
theorem dX9_at_8 : decode cX9_at 8 = .ok (.if_icmp .ge 17, 3) := by decide +kernel
theorem dX9_at_11 : decode cX9_at 11 = .ok (.aload_n 0, 1) := by decide +kernel
theorem dX9_at_12 : decode cX9_at 12 = .ok (.getfield 13, 3) := by decide +kernel
theorem dX9_at_15 : decode cX9_at 15 = .ok (.aload_n 0, 1) := by decide +kernel
theorem dX9_at_16 : decode cX9_at 16 = .ok (.getfield 86, 3) := by decide +kernel
theorem dX9_at_19 : decode cX9_at 19 = .ok (.iaload, 1) := by decide +kernel
theorem dX9_at_20 : decode cX9_at 20 = .ok (.iload_n 1, 1) := by decide +kernel
theorem dX9_at_21 : decode cX9_at 21 = .ok (.iadd, 1) := by decide +kernel
theorem dX9_at_22 : decode cX9_at 22 = .ok (.goto 6, 3) := by decide +kernel
theorem dX9_at_25 : decode cX9_at 25 = .ok (.sipush 3000, 3) := by decide +kernel
theorem dX9_at_28 : decode cX9_at 28 = .ok (.istore_n 2, 1) := by decide +kernel
theorem dX9_at_29 : decode cX9_at 29 = .ok (.aload_n 0, 1) := by decide +kernel
theorem dX9_at_30 : decode cX9_at 30 = .ok (.getfield 86, 3) := by decide +kernel
theorem dX9_at_33 : decode cX9_at 33 = .ok (.aload_n 0, 1) := by decide +kernel
theorem dX9_at_34 : decode cX9_at 34 = .ok (.getfield 79, 3) := by decide +kernel
theorem dX9_at_37 : decode cX9_at 37 = .ok (.if_icmp .ge 25, 3) := by decide +kernel
theorem dX9_at_40 : decode cX9_at 40 = .ok (.iload_n 2, 1) := by decide +kernel
theorem dX9_at_41 : decode cX9_at 41 = .ok (.aload_n 0, 1) := by decide +kernel
theorem dX9_at_42 : decode cX9_at 42 = .ok (.getfield 17, 3) := by decide +kernel
theorem dX9_at_45 : decode cX9_at 45 = .ok (.aload_n 0, 1) := by decide +kernel
theorem dX9_at_46 : decode cX9_at 46 = .ok (.getfield 86, 3) := by decide +kernel
theorem dX9_at_49 : decode cX9_at 49 = .ok (.iaload, 1) := by decide +kernel
theorem dX9_at_50 : decode cX9_at 50 = .ok (.if_icmp .ge 12, 3) := by decide +kernel
theorem dX9_at_53 : decode cX9_at 53 = .ok (.aload_n 0, 1) := by decide +kernel
theorem dX9_at_54 : decode cX9_at 54 = .ok (.getfield 9, 3) := by decide +kernel
theorem dX9_at_57 : decode cX9_at 57 = .ok (.iload_n 2, 1) := by decide +kernel
theorem dX9_at_58 : decode cX9_at 58 = .ok (.baload, 1) := by decide +kernel
theorem dX9_at_59 : decode cX9_at 59 = .ok (.goto 4, 3) := by decide +kernel
theorem dX9_at_62 : decode cX9_at 62 = .ok (.iconst 0, 1) := by decide +kernel
theorem dX9_at_63 : decode cX9_at 63 = .ok (.ireturn, 1) := by decide +kernel
theorem dX9_wide_0 : decode cX9_wide 0 = .ok (.aload_n 0, 1) := by decide +kernel
theorem dX9_wide_1 : decode cX9_wide 1 = .ok (.getfield 86, 3) := by decide +kernel
theorem dX9_wide_4 : decode cX9_wide 4 = .ok (.aload_n 0, 1) := by decide +kernel
theorem dX9_wide_5 : decode cX9_wide 5 = .ok (.getfield 79, 3) := by decide +kernel
theorem dX9_wide_8 : decode cX9_wide 8 = .ok (.if_icmp .ge 25, 3) := by decide +kernel
theorem dX9_wide_11 : decode cX9_wide 11 = .ok (.aload_n 0, 1) := by decide +kernel
theorem dX9_wide_12 : decode cX9_wide 12 = .ok (.getfield 17, 3) := by decide +kernel
theorem dX9_wide_15 : decode cX9_wide 15 = .ok (.aload_n 0, 1) := by decide +kernel
theorem dX9_wide_16 : decode cX9_wide 16 = .ok (.getfield 86, 3) := by decide +kernel
theorem dX9_wide_19 : decode cX9_wide 19 = .ok (.iaload, 1) := by decide +kernel
theorem dX9_wide_20 : decode cX9_wide 20 = .ok (.aload_n 0, 1) := by decide +kernel
theorem dX9_wide_21 : decode cX9_wide 21 = .ok (.getfield 13, 3) := by decide +kernel
theorem dX9_wide_24 : decode cX9_wide 24 = .ok (.aload_n 0, 1) := by decide +kernel
theorem dX9_wide_25 : decode cX9_wide 25 = .ok (.getfield 86, 3) := by decide +kernel
theorem dX9_wide_28 : decode cX9_wide 28 = .ok (.iaload, 1) := by decide +kernel
theorem dX9_wide_29 : decode cX9_wide 29 = .ok (.isub, 1) := by decide +kernel
theorem dX9_wide_30 : decode cX9_wide 30 = .ok (.goto 4, 3) := by decide +kernel
theorem dX9_wide_33 : decode cX9_wide 33 = .ok (.iconst 0, 1) := by decide +kernel
theorem dX9_wide_34 : decode cX9_wide 34 = .ok (.ireturn, 1) := by decide +kernel
set_option maxRecDepth 20000 in
theorem ggX9_is_X9_wide : GoodIn wsX9_is wsX9_wide := goodIn_r _ [5, 6, 7, 8, 9, 15, 16, 17, 18, 19, 20, 21, 22, 23, 24, 25, 26, 27, 28, 29, 30, 31, 32, 33, 34, 35, 36, 37, 38, 39, 40, 41, 42, 43, 44, 45, 46] (by decide +kernel) (by decide +kernel)
set_option maxRecDepth 20000 in
theorem gX9_is_X9_wide : GoodIn wsX9_is (wsV RX9 89 RX9 yX9_wide wsX9_wide) := goodIn_app (goodIn_of _ (by decide +kernel)) ggX9_is_X9_wide
set_option maxRecDepth 20000 in
theorem ggX9_is_X9_at : GoodIn wsX9_is wsX9_at := goodIn_r _ [13, 6, 7, 9, 8, 14, 15, 16, 17, 18, 19, 20, 21, 22, 23, 24, 25, 26, 27, 28, 29, 30, 31, 32, 33, 34, 35, 36, 37, 38, 39, 40, 41, 42, 43, 44, 45, 46] (by decide +kernel) (by decide +kernel)
set_option maxRecDepth 20000 in
theorem gX9_is_X9_at : GoodIn wsX9_is (wsV RX9 93 RX9 yX9_at wsX9_at) := goodIn_app (goodIn_of _ (by decide +kernel)) ggX9_is_X9_at
theorem dX9_is_0 : decode cX9_is 0 = .ok (.aload_n 0, 1) := by decide +kernel
theorem dX9_is_1 : decode cX9_is 1 = .ok (.invokevirtual 89, 3) := by decide +kernel
theorem dX9_is_4 : decode cX9_is 4 = .ok (.iload 8, 2) := by decide +kernel
theorem dX9_is_6 : decode cX9_is 6 = .ok (.if_icmp .ne 107, 3) := by decide +kernel
theorem dX9_is_9 : decode cX9_is 9 = .ok (.aload_n 0, 1) := by decide +kernel
theorem dX9_is_10 : decode cX9_is 10 = .ok (.iconst 0, 1) := by decide +kernel
theorem dX9_is_11 : decode cX9_is 11 = .ok (.invokevirtual 93, 3) := by decide +kernel
theorem dX9_is_14 : decode cX9_is 14 = .ok (.iload_n 1, 1) := by decide +kernel
theorem dX9_is_15 : decode cX9_is 15 = .ok (.if_icmp .ne 98, 3) := by decide +kernel
theorem dX9_is_18 : decode cX9_is 18 = .ok (.aload_n 0, 1) := by decide +kernel
theorem dX9_is_19 : decode cX9_is 19 = .ok (.iconst 1, 1) := by decide +kernel
theorem dX9_is_20 : decode cX9_is 20 = .ok (.invokevirtual 93, 3) := by decide +kernel
theorem dX9_is_23 : decode cX9_is 23 = .ok (.iload_n 2, 1) := by decide +kernel
theorem dX9_is_24 : decode cX9_is 24 = .ok (.if_icmp .ne 89, 3) := by decide +kernel
theorem dX9_is_27 : decode cX9_is 27 = .ok (.iload 8, 2) := by decide +kernel
theorem dX9_is_29 : decode cX9_is 29 = .ok (.iconst 3, 1) := by decide +kernel
theorem dX9_is_30 : decode cX9_is 30 = .ok (.if_icmp .lt 12, 3) := by decide +kernel
theorem dX9_is_33 : decode cX9_is 33 = .ok (.aload_n 0, 1) := by decide +kernel
theorem dX9_is_34 : decode cX9_is 34 = .ok (.iconst 2, 1) := by decide +kernel
theorem dX9_is_35 : decode cX9_is 35 = .ok (.invokevirtual 93, 3) := by decide +kernel
theorem dX9_is_38 : decode cX9_is 38 = .ok (.iload_n 3, 1) := by decide +kernel
theorem dX9_is_39 : decode cX9_is 39 = .ok (.if_icmp .ne 74, 3) := by decide +kernel
theorem dX9_is_42 : decode cX9_is 42 = .ok (.iload 8, 2) := by decide +kernel
theorem dX9_is_44 : decode cX9_is 44 = .ok (.iconst 4, 1) := by decide +kernel
theorem dX9_is_45 : decode cX9_is 45 = .ok (.if_icmp .lt 13, 3) := by decide +kernel
theorem dX9_is_48 : decode cX9_is 48 = .ok (.aload_n 0, 1) := by decide +kernel
theorem dX9_is_49 : decode cX9_is 49 = .ok (.iconst 3, 1) := by decide +kernel
theorem dX9_is_50 : decode cX9_is 50 = .ok (.invokevirtual 93, 3) := by decide +kernel
theorem dX9_is_53 : decode cX9_is 53 = .ok (.iload 4, 2) := by decide +kernel
theorem dX9_is_55 : decode cX9_is 55 = .ok (.if_icmp .ne 58, 3) := by decide +kernel
theorem dX9_is_58 : decode cX9_is 58 = .ok (.iload 8, 2) := by decide +kernel
theorem dX9_is_60 : decode cX9_is 60 = .ok (.iconst 5, 1) := by decide +kernel
theorem dX9_is_61 : decode cX9_is 61 = .ok (.if_icmp .lt 13, 3) := by decide +kernel
theorem dX9_is_64 : decode cX9_is 64 = .ok (.aload_n 0, 1) := by decide +kernel
theorem dX9_is_65 : decode cX9_is 65 = .ok (.iconst 4, 1) := by decide +kernel
theorem dX9_is_66 : decode cX9_is 66 = .ok (.invokevirtual 93, 3) := by decide +kernel
theorem dX9_is_69 : decode cX9_is 69 = .ok (.iload 5, 2) := by decide +kernel
theorem dX9_is_71 : decode cX9_is 71 = .ok (.if_icmp .ne 42, 3) := by decide +kernel
theorem dX9_is_74 : decode cX9_is 74 = .ok (.iload 8, 2) := by decide +kernel
theorem dX9_is_76 : decode cX9_is 76 = .ok (.bipush 6, 2) := by decide +kernel
theorem dX9_is_78 : decode cX9_is 78 = .ok (.if_icmp .lt 13, 3) := by decide +kernel
theorem dX9_is_81 : decode cX9_is 81 = .ok (.aload_n 0, 1) := by decide +kernel
theorem dX9_is_82 : decode cX9_is 82 = .ok (.iconst 5, 1) := by decide +kernel
theorem dX9_is_83 : decode cX9_is 83 = .ok (.invokevirtual 93, 3) := by decide +kernel
theorem dX9_is_86 : decode cX9_is 86 = .ok (.iload 6, 2) := by decide +kernel
theorem dX9_is_88 : decode cX9_is 88 = .ok (.if_icmp .ne 25, 3) := by decide +kernel
theorem dX9_is_91 : decode cX9_is 91 = .ok (.iload 8, 2) := by decide +kernel
theorem dX9_is_93 : decode cX9_is 93 = .ok (.bipush 7, 2) := by decide +kernel
theorem dX9_is_95 : decode cX9_is 95 = .ok (.if_icmp .lt 14, 3) := by decide +kernel
theorem dX9_is_98 : decode cX9_is 98 = .ok (.aload_n 0, 1) := by decide +kernel
theorem dX9_is_99 : decode cX9_is 99 = .ok (.bipush 6, 2) := by decide +kernel
theorem dX9_is_101 : decode cX9_is 101 = .ok (.invokevirtual 93, 3) := by decide +kernel
theorem dX9_is_104 : decode cX9_is 104 = .ok (.iload 7, 2) := by decide +kernel
theorem dX9_is_106 : decode cX9_is 106 = .ok (.if_icmp .ne 7, 3) := by decide +kernel
theorem dX9_is_109 : decode cX9_is 109 = .ok (.iconst 1, 1) := by decide +kernel
theorem dX9_is_110 : decode cX9_is 110 = .ok (.goto 4, 3) := by decide +kernel
theorem dX9_is_113 : decode cX9_is 113 = .ok (.iconst 0, 1) := by decide +kernel
theorem dX9_is_114 : decode cX9_is 114 = .ok (.ireturn, 1) := by decide +kernel
set_option maxRecDepth 20000 in
theorem ggX9_isOne_X9_wide : GoodIn wsX9_isOne wsX9_wide := goodIn_r _ [5, 6, 7, 8, 9, 15, 16, 17, 18, 19, 20, 21, 22, 23, 24, 25, 26, 27, 28, 29, 30, 31, 32, 33, 34, 35, 36, 37, 38, 39, 40, 41, 42, 43, 44, 45, 46] (by decide +kernel) (by decide +kernel)
set_option maxRecDepth 20000 in
theorem gX9_isOne_X9_wide : GoodIn wsX9_isOne (wsV RX9 89 RX9 yX9_wide wsX9_wide) := goodIn_app (goodIn_of _ (by decide +kernel)) ggX9_isOne_X9_wide
set_option maxRecDepth 20000 in
theorem ggX9_isOne_X9_at : GoodIn wsX9_isOne wsX9_at := goodIn_r _ [13, 6, 7, 9, 8, 14, 15, 16, 17, 18, 19, 20, 21, 22, 23, 24, 25, 26, 27, 28, 29, 30, 31, 32, 33, 34, 35, 36, 37, 38, 39, 40, 41, 42, 43, 44, 45, 46] (by decide +kernel) (by decide +kernel)
set_option maxRecDepth 20000 in
theorem gX9_isOne_X9_at : GoodIn wsX9_isOne (wsV RX9 93 RX9 yX9_at wsX9_at) := goodIn_app (goodIn_of _ (by decide +kernel)) ggX9_isOne_X9_at
theorem dX9_isOne_0 : decode cX9_isOne 0 = .ok (.aload_n 0, 1) := by decide +kernel
theorem dX9_isOne_1 : decode cX9_isOne 1 = .ok (.invokevirtual 89, 3) := by decide +kernel
theorem dX9_isOne_4 : decode cX9_isOne 4 = .ok (.iconst 1, 1) := by decide +kernel
theorem dX9_isOne_5 : decode cX9_isOne 5 = .ok (.if_icmp .ne 16, 3) := by decide +kernel
theorem dX9_isOne_8 : decode cX9_isOne 8 = .ok (.aload_n 0, 1) := by decide +kernel
theorem dX9_isOne_9 : decode cX9_isOne 9 = .ok (.iconst 0, 1) := by decide +kernel
theorem dX9_isOne_10 : decode cX9_isOne 10 = .ok (.invokevirtual 93, 3) := by decide +kernel
theorem dX9_isOne_13 : decode cX9_isOne 13 = .ok (.iload_n 1, 1) := by decide +kernel
theorem dX9_isOne_14 : decode cX9_isOne 14 = .ok (.if_icmp .ne 7, 3) := by decide +kernel
theorem dX9_isOne_17 : decode cX9_isOne 17 = .ok (.iconst 1, 1) := by decide +kernel
theorem dX9_isOne_18 : decode cX9_isOne 18 = .ok (.goto 4, 3) := by decide +kernel
theorem dX9_isOne_21 : decode cX9_isOne 21 = .ok (.iconst 0, 1) := by decide +kernel
theorem dX9_isOne_22 : decode cX9_isOne 22 = .ok (.ireturn, 1) := by decide +kernel
set_option maxRecDepth 20000 in
theorem ggX9_number_X9_wide : GoodIn wsX9_number wsX9_wide := goodIn_r _ [5, 6, 7, 8, 9, 15, 16, 17, 18, 19, 20, 21, 22, 23, 24, 25, 26, 27, 28, 29, 30, 31, 32, 33, 34, 35, 36, 37, 38, 39, 40, 41, 42, 43, 44, 45, 46] (by decide +kernel) (by decide +kernel)
set_option maxRecDepth 20000 in
theorem gX9_number_X9_wide : GoodIn wsX9_number (wsV RX9 89 RX9 yX9_wide wsX9_wide) := goodIn_app (goodIn_of _ (by decide +kernel)) ggX9_number_X9_wide
set_option maxRecDepth 20000 in
theorem ggX9_number_X9_at : GoodIn wsX9_number wsX9_at := goodIn_r _ [13, 6, 7, 9, 8, 14, 15, 16, 17, 18, 19, 20, 21, 22, 23, 24, 25, 26, 27, 28, 29, 30, 31, 32, 33, 34, 35, 36, 37, 38, 39, 40, 41, 42, 43, 44, 45, 46] (by decide +kernel) (by decide +kernel)
set_option maxRecDepth 20000 in
theorem gX9_number_X9_at : GoodIn wsX9_number (wsV RX9 93 RX9 yX9_at wsX9_at) := goodIn_app (goodIn_of _ (by decide +kernel)) ggX9_number_X9_at
theorem dX9_number_0 : decode cX9_number 0 = .ok (.aload_n 0, 1) := by decide +kernel
theorem dX9_number_1 : decode cX9_number 1 = .ok (.invokevirtual 89, 3) := by decide +kernel
theorem dX9_number_4 : decode cX9_number 4 = .ok (.istore_n 3, 1) := by decide +kernel
theorem dX9_number_5 : decode cX9_number 5 = .ok (.iload_n 3, 1) := by decide +kernel
theorem dX9_number_6 : decode cX9_number 6 = .ok (.iload_n 1, 1) := by decide +kernel
theorem dX9_number_7 : decode cX9_number 7 = .ok (.if_icmp .le 27, 3) := by decide +kernel
theorem dX9_number_10 : decode cX9_number 10 = .ok (.aload_n 0, 1) := by decide +kernel
theorem dX9_number_11 : decode cX9_number 11 = .ok (.iload_n 1, 1) := by decide +kernel
theorem dX9_number_12 : decode cX9_number 12 = .ok (.invokevirtual 93, 3) := by decide +kernel
theorem dX9_number_15 : decode cX9_number 15 = .ok (.bipush 48, 2) := by decide +kernel
theorem dX9_number_17 : decode cX9_number 17 = .ok (.if_icmp .ne 10, 3) := by decide +kernel
theorem dX9_number_20 : decode cX9_number 20 = .ok (.iload_n 3, 1) := by decide +kernel
theorem dX9_number_21 : decode cX9_number 21 = .ok (.iload_n 1, 1) := by decide +kernel
theorem dX9_number_22 : decode cX9_number 22 = .ok (.iconst 1, 1) := by decide +kernel
theorem dX9_number_23 : decode cX9_number 23 = .ok (.iadd, 1) := by decide +kernel
theorem dX9_number_24 : decode cX9_number 24 = .ok (.if_icmp .gt 10, 3) := by decide +kernel
theorem dX9_number_27 : decode cX9_number 27 = .ok (.iload_n 3, 1) := by decide +kernel
theorem dX9_number_28 : decode cX9_number 28 = .ok (.iload_n 1, 1) := by decide +kernel
theorem dX9_number_29 : decode cX9_number 29 = .ok (.iconst 4, 1) := by decide +kernel
theorem dX9_number_30 : decode cX9_number 30 = .ok (.iadd, 1) := by decide +kernel
theorem dX9_number_31 : decode cX9_number 31 = .ok (.if_icmp .le 5, 3) := by decide +kernel
theorem dX9_number_34 : decode cX9_number 34 = .ok (.iconst (-1), 1) := by decide +kernel
theorem dX9_number_35 : decode cX9_number 35 = .ok (.ireturn, 1) := by decide +kernel
theorem dX9_number_36 : decode cX9_number 36 = .ok (.iconst 0, 1) := by decide +kernel
theorem dX9_number_37 : decode cX9_number 37 = .ok (.istore 4, 2) := by decide +kernel
theorem dX9_number_39 : decode cX9_number 39 = .ok (.iload_n 1, 1) := by decide +kernel
theorem dX9_number_40 : decode cX9_number 40 = .ok (.istore 5, 2) := by decide +kernel
theorem dX9_number_42 : decode cX9_number 42 = .ok (.iload 5, 2) := by decide +kernel
theorem dX9_number_44 : decode cX9_number 44 = .ok (.iload_n 3, 1) := by decide +kernel
theorem dX9_number_45 : decode cX9_number 45 = .ok (.if_icmp .ge 46, 3) := by decide +kernel
theorem dX9_number_48 : decode cX9_number 48 = .ok (.aload_n 0, 1) := by decide +kernel
theorem dX9_number_49 : decode cX9_number 49 = .ok (.iload 5, 2) := by decide +kernel
theorem dX9_number_51 : decode cX9_number 51 = .ok (.invokevirtual 93, 3) := by decide +kernel
theorem dX9_number_54 : decode cX9_number 54 = .ok (.istore 6, 2) := by decide +kernel
theorem dX9_number_56 : decode cX9_number 56 = .ok (.iload 6, 2) := by decide +kernel
theorem dX9_number_58 : decode cX9_number 58 = .ok (.bipush 48, 2) := by decide +kernel
theorem dX9_number_60 : decode cX9_number 60 = .ok (.if_icmp .lt 10, 3) := by decide +kernel
theorem dX9_number_63 : decode cX9_number 63 = .ok (.iload 6, 2) := by decide +kernel
theorem dX9_number_65 : decode cX9_number 65 = .ok (.bipush 57, 2) := by decide +kernel
theorem dX9_number_67 : decode cX9_number 67 = .ok (.if_icmp .le 5, 3) := by decide +kernel
theorem dX9_number_70 : decode cX9_number 70 = .ok (.iconst (-1), 1) := by decide +kernel
theorem dX9_number_71 : decode cX9_number 71 = .ok (.ireturn, 1) := by decide +kernel
theorem dX9_number_72 : decode cX9_number 72 = .ok (.bipush 10, 2) := by decide +kernel
theorem dX9_number_74 : decode cX9_number 74 = .ok (.iload 4, 2) := by decide +kernel
theorem dX9_number_76 : decode cX9_number 76 = .ok (.imul, 1) := by decide +kernel
theorem dX9_number_77 : decode cX9_number 77 = .ok (.iload 6, 2) := by decide +kernel
theorem dX9_number_79 : decode cX9_number 79 = .ok (.iadd, 1) := by decide +kernel
theorem dX9_number_80 : decode cX9_number 80 = .ok (.bipush 48, 2) := by decide +kernel
theorem dX9_number_82 : decode cX9_number 82 = .ok (.isub, 1) := by decide +kernel
theorem dX9_number_83 : decode cX9_number 83 = .ok (.istore 4, 2) := by decide +kernel
theorem dX9_number_85 : decode cX9_number 85 = .ok (.iinc 5 1, 3) := by decide +kernel
theorem dX9_number_88 : decode cX9_number 88 = .ok (.goto (-46), 3) := by decide +kernel
theorem dX9_number_91 : decode cX9_number 91 = .ok (.iload 4, 2) := by decide +kernel
theorem dX9_number_93 : decode cX9_number 93 = .ok (.iload_n 2, 1) := by decide +kernel
theorem dX9_number_94 : decode cX9_number 94 = .ok (.if_icmp .gt 8, 3) := by decide +kernel
theorem dX9_number_97 : decode cX9_number 97 = .ok (.iload 4, 2) := by decide +kernel
theorem dX9_number_99 : decode cX9_number 99 = .ok (.goto 4, 3) := by decide +kernel
theorem dX9_number_102 : decode cX9_number 102 = .ok (.iconst (-1), 1) := by decide +kernel
theorem dX9_number_103 : decode cX9_number 103 = .ok (.ireturn, 1) := by decide +kernel
set_option maxRecDepth 20000 in
theorem ggX9_act_X9_at : GoodIn wsX9_act wsX9_at := goodIn_r _ [5, 6, 7, 8, 9, 10, 19, 20, 21, 22, 23, 24, 25, 26, 27, 28, 29, 30, 31, 32, 33, 34, 35, 36, 37, 38, 39, 40, 41, 42, 43, 44, 45, 46, 47, 48, 49, 50] (by decide +kernel) (by decide +kernel)
set_option maxRecDepth 20000 in
theorem gX9_act_X9_at : GoodIn wsX9_act (wsV RX9 93 RX9 yX9_at wsX9_at) := goodIn_app (goodIn_of _ (by decide +kernel)) ggX9_act_X9_at
set_option maxRecDepth 20000 in
theorem ggX9_act_X9_number : GoodIn wsX9_act wsX9_number := goodIn_r _ [14, 15, 16, 17, 4, 18, 6, 7, 9, 8, 1, 2, 3, 5, 10, 19, 20, 21, 22, 23, 24, 25, 26, 27, 28, 29, 30, 31, 32, 33, 34, 35, 36, 37, 38, 39, 40, 41, 42, 43, 44, 45, 46, 47, 48, 49, 50] (by decide +kernel) (by decide +kernel)
set_option maxRecDepth 20000 in
theorem gX9_act_X9_number : GoodIn wsX9_act (wsV RX9 97 RX9 yX9_number wsX9_number) := goodIn_app (goodIn_of _ (by decide +kernel)) ggX9_act_X9_number
theorem dX9_act_0 : decode cX9_act 0 = .ok (.aload_n 0, 1) := by decide +kernel
theorem dX9_act_1 : decode cX9_act 1 = .ok (.iconst 0, 1) := by decide +kernel
theorem dX9_act_2 : decode cX9_act 2 = .ok (.invokevirtual 93, 3) := by decide +kernel
theorem dX9_act_5 : decode cX9_act 5 = .ok (.bipush 97, 2) := by decide +kernel
theorem dX9_act_7 : decode cX9_act 7 = .ok (.if_icmp .ne 13, 3) := by decide +kernel
theorem dX9_act_10 : decode cX9_act 10 = .ok (.aload_n 0, 1) := by decide +kernel
theorem dX9_act_11 : decode cX9_act 11 = .ok (.iconst 1, 1) := by decide +kernel
theorem dX9_act_12 : decode cX9_act 12 = .ok (.bipush 31, 2) := by decide +kernel
theorem dX9_act_14 : decode cX9_act 14 = .ok (.invokevirtual 97, 3) := by decide +kernel
theorem dX9_act_17 : decode cX9_act 17 = .ok (.goto 4, 3) := by decide +kernel
theorem dX9_act_20 : decode cX9_act 20 = .ok (.iconst (-1), 1) := by decide +kernel
theorem dX9_act_21 : decode cX9_act 21 = .ok (.ireturn, 1) := by decide +kernel
set_option maxRecDepth 20000 in
theorem ggX9_conditionWord_X9_at : GoodIn wsX9_conditionWord wsX9_at := goodIn_r _ [5, 6, 7, 8, 9, 10, 19, 20, 21, 22, 23, 24, 25, 26, 27, 28, 29, 30, 31, 32, 33, 34, 35, 36, 37, 38, 39, 40, 41, 42, 43, 44, 45, 46, 47, 48, 49, 50] (by decide +kernel) (by decide +kernel)
set_option maxRecDepth 20000 in
theorem gX9_conditionWord_X9_at : GoodIn wsX9_conditionWord (wsV RX9 93 RX9 yX9_at wsX9_at) := goodIn_app (goodIn_of _ (by decide +kernel)) ggX9_conditionWord_X9_at
set_option maxRecDepth 20000 in
theorem ggX9_conditionWord_X9_number : GoodIn wsX9_conditionWord wsX9_number := goodIn_r _ [14, 15, 16, 17, 4, 18, 6, 7, 9, 8, 1, 2, 3, 5, 10, 19, 20, 21, 22, 23, 24, 25, 26, 27, 28, 29, 30, 31, 32, 33, 34, 35, 36, 37, 38, 39, 40, 41, 42, 43, 44, 45, 46, 47, 48, 49, 50] (by decide +kernel) (by decide +kernel)
set_option maxRecDepth 20000 in
theorem gX9_conditionWord_X9_number : GoodIn wsX9_conditionWord (wsV RX9 97 RX9 yX9_number wsX9_number) := goodIn_app (goodIn_of _ (by decide +kernel)) ggX9_conditionWord_X9_number
theorem dX9_conditionWord_0 : decode cX9_conditionWord 0 = .ok (.aload_n 0, 1) := by decide +kernel
theorem dX9_conditionWord_1 : decode cX9_conditionWord 1 = .ok (.iconst 0, 1) := by decide +kernel
theorem dX9_conditionWord_2 : decode cX9_conditionWord 2 = .ok (.invokevirtual 93, 3) := by decide +kernel
theorem dX9_conditionWord_5 : decode cX9_conditionWord 5 = .ok (.bipush 99, 2) := by decide +kernel
theorem dX9_conditionWord_7 : decode cX9_conditionWord 7 = .ok (.if_icmp .ne 13, 3) := by decide +kernel
theorem dX9_conditionWord_10 : decode cX9_conditionWord 10 = .ok (.aload_n 0, 1) := by decide +kernel
theorem dX9_conditionWord_11 : decode cX9_conditionWord 11 = .ok (.iconst 1, 1) := by decide +kernel
theorem dX9_conditionWord_12 : decode cX9_conditionWord 12 = .ok (.bipush 15, 2) := by decide +kernel
theorem dX9_conditionWord_14 : decode cX9_conditionWord 14 = .ok (.invokevirtual 97, 3) := by decide +kernel
theorem dX9_conditionWord_17 : decode cX9_conditionWord 17 = .ok (.goto 4, 3) := by decide +kernel
theorem dX9_conditionWord_20 : decode cX9_conditionWord 20 = .ok (.iconst (-1), 1) := by decide +kernel
theorem dX9_conditionWord_21 : decode cX9_conditionWord 21 = .ok (.ireturn, 1) := by decide +kernel
theorem dX9_node_0 : decode cX9_node 0 = .ok (.sipush 3000, 3) := by decide +kernel
theorem dX9_node_3 : decode cX9_node 3 = .ok (.iconst 1, 1) := by decide +kernel
theorem dX9_node_4 : decode cX9_node 4 = .ok (.aload_n 0, 1) := by decide +kernel
theorem dX9_node_5 : decode cX9_node 5 = .ok (.getfield 101, 3) := by decide +kernel
theorem dX9_node_8 : decode cX9_node 8 = .ok (.isub, 1) := by decide +kernel
theorem dX9_node_9 : decode cX9_node 9 = .ok (.imul, 1) := by decide +kernel
theorem dX9_node_10 : decode cX9_node 10 = .ok (.aload_n 0, 1) := by decide +kernel
theorem dX9_node_11 : decode cX9_node 11 = .ok (.getfield 104, 3) := by decide +kernel
theorem dX9_node_14 : decode cX9_node 14 = .ok (.iadd, 1) := by decide +kernel
theorem dX9_node_15 : decode cX9_node 15 = .ok (.istore 4, 2) := by decide +kernel
theorem dX9_node_17 : decode cX9_node 17 = .ok (.aload_n 0, 1) := by decide +kernel
theorem dX9_node_18 : decode cX9_node 18 = .ok (.getfield 20, 3) := by decide +kernel
theorem dX9_node_21 : decode cX9_node 21 = .ok (.iload 4, 2) := by decide +kernel
theorem dX9_node_23 : decode cX9_node 23 = .ok (.iload_n 1, 1) := by decide +kernel
theorem dX9_node_24 : decode cX9_node 24 = .ok (.iastore, 1) := by decide +kernel
theorem dX9_node_25 : decode cX9_node 25 = .ok (.aload_n 0, 1) := by decide +kernel
theorem dX9_node_26 : decode cX9_node 26 = .ok (.getfield 23, 3) := by decide +kernel
theorem dX9_node_29 : decode cX9_node 29 = .ok (.iload 4, 2) := by decide +kernel
theorem dX9_node_31 : decode cX9_node 31 = .ok (.iload_n 2, 1) := by decide +kernel
theorem dX9_node_32 : decode cX9_node 32 = .ok (.iastore, 1) := by decide +kernel
theorem dX9_node_33 : decode cX9_node 33 = .ok (.aload_n 0, 1) := by decide +kernel
theorem dX9_node_34 : decode cX9_node 34 = .ok (.getfield 26, 3) := by decide +kernel
theorem dX9_node_37 : decode cX9_node 37 = .ok (.iload 4, 2) := by decide +kernel
theorem dX9_node_39 : decode cX9_node 39 = .ok (.iload_n 3, 1) := by decide +kernel
theorem dX9_node_40 : decode cX9_node 40 = .ok (.iastore, 1) := by decide +kernel
theorem dX9_node_41 : decode cX9_node 41 = .ok (.aload_n 0, 1) := by decide +kernel
theorem dX9_node_42 : decode cX9_node 42 = .ok (.dup, 1) := by decide +kernel
theorem dX9_node_43 : decode cX9_node 43 = .ok (.getfield 104, 3) := by decide +kernel
theorem dX9_node_46 : decode cX9_node 46 = .ok (.iconst 1, 1) := by decide +kernel
theorem dX9_node_47 : decode cX9_node 47 = .ok (.iadd, 1) := by decide +kernel
theorem dX9_node_48 : decode cX9_node 48 = .ok (.putfield 104, 3) := by decide +kernel
theorem dX9_node_51 : decode cX9_node 51 = .ok (.iload 4, 2) := by decide +kernel
theorem dX9_node_53 : decode cX9_node 53 = .ok (.ireturn, 1) := by decide +kernel
set_option maxRecDepth 20000 in
theorem ggX9_or_X9_and : GoodIn wsX9_or wsX9_and := goodIn_r _ [31, 1, 32, 33, 34, 5, 6, 7, 8, 9, 10, 11, 12, 13, 14, 15, 16, 17, 18, 19, 20, 21, 22, 23, 24, 25, 26, 27, 28, 29, 30, 0, 2, 3, 4, 35, 36, 37, 38, 39, 40, 41, 42, 43, 44, 45, 46, 47, 48, 49, 50, 51, 52, 53, 54, 55, 56, 57, 58, 59, 60, 61, 62, 63, 64, 65, 66, 67, 68, 69, 70, 71, 72, 73, 74, 75, 76, 77, 78, 79, 80, 81, 82, 83, 84] (by decide +kernel) (by decide +kernel)
set_option maxRecDepth 20000 in
theorem gX9_or_X9_and : GoodIn wsX9_or (wsV RX9 107 RX9 yX9_and wsX9_and) := goodIn_app (goodIn_of _ (by decide +kernel)) ggX9_or_X9_and
set_option maxRecDepth 20000 in
theorem ggX9_or_X9_is : GoodIn wsX9_or wsX9_is := goodIn_r _ [9, 10, 11, 12, 5, 13, 1, 14, 15, 16, 17, 18, 19, 20, 21, 53, 54, 55, 56, 57, 58, 59, 60, 61, 62, 63, 64, 65, 66, 67, 68, 69, 70, 71, 72, 73, 74, 75, 76, 77, 78, 79, 80, 81, 82, 83, 84] (by decide +kernel) (by decide +kernel)
set_option maxRecDepth 20000 in
theorem gX9_or_X9_is : GoodIn wsX9_or (wsV RX9 110 RX9 yX9_is wsX9_is) := goodIn_app (goodIn_of _ (by decide +kernel)) ggX9_or_X9_is
set_option maxRecDepth 20000 in
theorem ggX9_or_X9_node : GoodIn wsX9_or wsX9_node := goodIn_r _ [25, 26, 27, 28, 29, 30, 53, 54, 55, 56, 57, 58, 59, 60, 61, 62, 63, 64, 65, 66, 67, 68, 69, 70, 71, 72, 73, 74, 75, 76, 77, 78, 79, 80, 81, 82, 83, 84] (by decide +kernel) (by decide +kernel)
set_option maxRecDepth 20000 in
theorem gX9_or_X9_node : GoodIn wsX9_or (wsV RX9 114 RX9 yX9_node wsX9_node) := goodIn_app (goodIn_of _ (by decide +kernel)) ggX9_or_X9_node
theorem dX9_or_0 : decode cX9_or 0 = .ok (.aload_n 0, 1) := by decide +kernel
theorem dX9_or_1 : decode cX9_or 1 = .ok (.invokevirtual 107, 3) := by decide +kernel
theorem dX9_or_4 : decode cX9_or 4 = .ok (.istore_n 1, 1) := by decide +kernel
theorem dX9_or_5 : decode cX9_or 5 = .ok (.iload_n 1, 1) := by decide +kernel
theorem dX9_or_6 : decode cX9_or 6 = .ok (.ifCond .lt 55, 3) := by decide +kernel
theorem dX9_or_9 : decode cX9_or 9 = .ok (.aload_n 0, 1) := by decide +kernel
theorem dX9_or_10 : decode cX9_or 10 = .ok (.bipush 111, 2) := by decide +kernel
theorem dX9_or_12 : decode cX9_or 12 = .ok (.bipush 114, 2) := by decide +kernel
theorem dX9_or_14 : decode cX9_or 14 = .ok (.iconst 0, 1) := by decide +kernel
theorem dX9_or_15 : decode cX9_or 15 = .ok (.iconst 0, 1) := by decide +kernel
theorem dX9_or_16 : decode cX9_or 16 = .ok (.iconst 0, 1) := by decide +kernel
theorem dX9_or_17 : decode cX9_or 17 = .ok (.iconst 0, 1) := by decide +kernel
theorem dX9_or_18 : decode cX9_or 18 = .ok (.iconst 0, 1) := by decide +kernel
theorem dX9_or_19 : decode cX9_or 19 = .ok (.iconst 2, 1) := by decide +kernel
theorem dX9_or_20 : decode cX9_or 20 = .ok (.invokevirtual 110, 3) := by decide +kernel
theorem dX9_or_23 : decode cX9_or 23 = .ok (.ifCond .eq 38, 3) := by decide +kernel
theorem dX9_or_26 : decode cX9_or 26 = .ok (.aload_n 0, 1) := by decide +kernel
theorem dX9_or_27 : decode cX9_or 27 = .ok (.dup, 1) := by decide +kernel
theorem dX9_or_28 : decode cX9_or 28 = .ok (.getfield 86, 3) := by decide +kernel
theorem dX9_or_31 : decode cX9_or 31 = .ok (.iconst 1, 1) := by decide +kernel
theorem dX9_or_32 : decode cX9_or 32 = .ok (.iadd, 1) := by decide +kernel
theorem dX9_or_33 : decode cX9_or 33 = .ok (.putfield 86, 3) := by decide +kernel
theorem dX9_or_36 : decode cX9_or 36 = .ok (.aload_n 0, 1) := by decide +kernel
theorem dX9_or_37 : decode cX9_or 37 = .ok (.invokevirtual 107, 3) := by decide +kernel
theorem dX9_or_40 : decode cX9_or 40 = .ok (.istore_n 2, 1) := by decide +kernel
theorem dX9_or_41 : decode cX9_or 41 = .ok (.iload_n 2, 1) := by decide +kernel
theorem dX9_or_42 : decode cX9_or 42 = .ok (.ifCond .ge 7, 3) := by decide +kernel
theorem dX9_or_45 : decode cX9_or 45 = .ok (.iconst (-1), 1) := by decide +kernel
theorem dX9_or_46 : decode cX9_or 46 = .ok (.goto 11, 3) := by decide +kernel
theorem dX9_or_49 : decode cX9_or 49 = .ok (.aload_n 0, 1) := by decide +kernel
theorem dX9_or_50 : decode cX9_or 50 = .ok (.bipush 18, 2) := by decide +kernel
theorem dX9_or_52 : decode cX9_or 52 = .ok (.iload_n 1, 1) := by decide +kernel
theorem dX9_or_53 : decode cX9_or 53 = .ok (.iload_n 2, 1) := by decide +kernel
theorem dX9_or_54 : decode cX9_or 54 = .ok (.invokevirtual 114, 3) := by decide +kernel
theorem dX9_or_57 : decode cX9_or 57 = .ok (.istore_n 1, 1) := by decide +kernel
theorem dX9_or_58 : decode cX9_or 58 = .ok (.goto (-53), 3) := by decide +kernel
theorem dX9_or_61 : decode cX9_or 61 = .ok (.iload_n 1, 1) := by decide +kernel
theorem dX9_or_62 : decode cX9_or 62 = .ok (.ireturn, 1) := by decide +kernel
set_option maxRecDepth 20000 in
theorem ggX9_and_X9_part : GoodIn wsX9_and wsX9_part := goodIn_r _ [35, 36, 1, 37, 6, 7, 8, 5, 9, 10, 11, 12, 13, 14, 15, 16, 17, 18, 19, 20, 21, 38, 39, 40, 41, 2, 3, 4, 42, 43, 44, 22, 23, 24, 25, 26, 27, 28, 29, 30, 45, 46, 47, 48, 49, 50, 51, 52, 0, 31, 32, 33, 34, 53, 54, 55, 56, 57, 58, 59, 60, 61, 62, 63, 64, 65, 66, 67, 68, 69, 70, 71, 72, 73, 74, 75, 76, 77, 78, 79, 80, 81, 82, 83, 84] (by decide +kernel) (by decide +kernel)
set_option maxRecDepth 20000 in
theorem gX9_and_X9_part : GoodIn wsX9_and (wsV RX9 118 RX9 yX9_part wsX9_part) := goodIn_app (goodIn_of _ (by decide +kernel)) ggX9_and_X9_part
set_option maxRecDepth 20000 in
theorem ggX9_and_X9_is : GoodIn wsX9_and wsX9_is := goodIn_r _ [9, 10, 11, 12, 5, 13, 1, 14, 15, 16, 17, 18, 19, 20, 21, 53, 54, 55, 56, 57, 58, 59, 60, 61, 62, 63, 64, 65, 66, 67, 68, 69, 70, 71, 72, 73, 74, 75, 76, 77, 78, 79, 80, 81, 82, 83, 84] (by decide +kernel) (by decide +kernel)
set_option maxRecDepth 20000 in
theorem gX9_and_X9_is : GoodIn wsX9_and (wsV RX9 110 RX9 yX9_is wsX9_is) := goodIn_app (goodIn_of _ (by decide +kernel)) ggX9_and_X9_is
set_option maxRecDepth 20000 in
theorem ggX9_and_X9_node : GoodIn wsX9_and wsX9_node := goodIn_r _ [25, 26, 27, 28, 29, 30, 53, 54, 55, 56, 57, 58, 59, 60, 61, 62, 63, 64, 65, 66, 67, 68, 69, 70, 71, 72, 73, 74, 75, 76, 77, 78, 79, 80, 81, 82, 83, 84] (by decide +kernel) (by decide +kernel)
set_option maxRecDepth 20000 in
theorem gX9_and_X9_node : GoodIn wsX9_and (wsV RX9 114 RX9 yX9_node wsX9_node) := goodIn_app (goodIn_of _ (by decide +kernel)) ggX9_and_X9_node
theorem dX9_and_0 : decode cX9_and 0 = .ok (.aload_n 0, 1) := by decide +kernel
theorem dX9_and_1 : decode cX9_and 1 = .ok (.invokevirtual 118, 3) := by decide +kernel
theorem dX9_and_4 : decode cX9_and 4 = .ok (.istore_n 1, 1) := by decide +kernel
theorem dX9_and_5 : decode cX9_and 5 = .ok (.iload_n 1, 1) := by decide +kernel
theorem dX9_and_6 : decode cX9_and 6 = .ok (.ifCond .lt 56, 3) := by decide +kernel
theorem dX9_and_9 : decode cX9_and 9 = .ok (.aload_n 0, 1) := by decide +kernel
theorem dX9_and_10 : decode cX9_and 10 = .ok (.bipush 97, 2) := by decide +kernel
theorem dX9_and_12 : decode cX9_and 12 = .ok (.bipush 110, 2) := by decide +kernel
theorem dX9_and_14 : decode cX9_and 14 = .ok (.bipush 100, 2) := by decide +kernel
theorem dX9_and_16 : decode cX9_and 16 = .ok (.iconst 0, 1) := by decide +kernel
theorem dX9_and_17 : decode cX9_and 17 = .ok (.iconst 0, 1) := by decide +kernel
theorem dX9_and_18 : decode cX9_and 18 = .ok (.iconst 0, 1) := by decide +kernel
theorem dX9_and_19 : decode cX9_and 19 = .ok (.iconst 0, 1) := by decide +kernel
theorem dX9_and_20 : decode cX9_and 20 = .ok (.iconst 3, 1) := by decide +kernel
theorem dX9_and_21 : decode cX9_and 21 = .ok (.invokevirtual 110, 3) := by decide +kernel
theorem dX9_and_24 : decode cX9_and 24 = .ok (.ifCond .eq 38, 3) := by decide +kernel
theorem dX9_and_27 : decode cX9_and 27 = .ok (.aload_n 0, 1) := by decide +kernel
theorem dX9_and_28 : decode cX9_and 28 = .ok (.dup, 1) := by decide +kernel
theorem dX9_and_29 : decode cX9_and 29 = .ok (.getfield 86, 3) := by decide +kernel
theorem dX9_and_32 : decode cX9_and 32 = .ok (.iconst 1, 1) := by decide +kernel
theorem dX9_and_33 : decode cX9_and 33 = .ok (.iadd, 1) := by decide +kernel
theorem dX9_and_34 : decode cX9_and 34 = .ok (.putfield 86, 3) := by decide +kernel
theorem dX9_and_37 : decode cX9_and 37 = .ok (.aload_n 0, 1) := by decide +kernel
theorem dX9_and_38 : decode cX9_and 38 = .ok (.invokevirtual 118, 3) := by decide +kernel
theorem dX9_and_41 : decode cX9_and 41 = .ok (.istore_n 2, 1) := by decide +kernel
theorem dX9_and_42 : decode cX9_and 42 = .ok (.iload_n 2, 1) := by decide +kernel
theorem dX9_and_43 : decode cX9_and 43 = .ok (.ifCond .ge 7, 3) := by decide +kernel
theorem dX9_and_46 : decode cX9_and 46 = .ok (.iconst (-1), 1) := by decide +kernel
theorem dX9_and_47 : decode cX9_and 47 = .ok (.goto 11, 3) := by decide +kernel
theorem dX9_and_50 : decode cX9_and 50 = .ok (.aload_n 0, 1) := by decide +kernel
theorem dX9_and_51 : decode cX9_and 51 = .ok (.bipush 17, 2) := by decide +kernel
theorem dX9_and_53 : decode cX9_and 53 = .ok (.iload_n 1, 1) := by decide +kernel
theorem dX9_and_54 : decode cX9_and 54 = .ok (.iload_n 2, 1) := by decide +kernel
theorem dX9_and_55 : decode cX9_and 55 = .ok (.invokevirtual 114, 3) := by decide +kernel
theorem dX9_and_58 : decode cX9_and 58 = .ok (.istore_n 1, 1) := by decide +kernel
theorem dX9_and_59 : decode cX9_and 59 = .ok (.goto (-54), 3) := by decide +kernel
theorem dX9_and_62 : decode cX9_and 62 = .ok (.iload_n 1, 1) := by decide +kernel
theorem dX9_and_63 : decode cX9_and 63 = .ok (.ireturn, 1) := by decide +kernel
set_option maxRecDepth 20000 in
theorem ggX9_part_X9_is : GoodIn wsX9_part wsX9_is := goodIn_r _ [8, 9, 10, 11, 7, 12, 2, 13, 14, 15, 16, 17, 18, 19, 20, 53, 54, 55, 56, 57, 58, 59, 60, 61, 62, 63, 64, 65, 66, 67, 68, 69, 70, 71, 72, 73, 74, 75, 76, 77, 78, 79, 80, 81, 82, 83, 84] (by decide +kernel) (by decide +kernel)
set_option maxRecDepth 20000 in
theorem gX9_part_X9_is : GoodIn wsX9_part (wsV RX9 110 RX9 yX9_is wsX9_is) := goodIn_app (goodIn_of _ (by decide +kernel)) ggX9_part_X9_is
set_option maxRecDepth 20000 in
theorem ggX9_part_X9_isOne : GoodIn wsX9_part wsX9_isOne := goodIn_r _ [24, 9, 10, 11, 7, 12, 2, 13, 14, 15, 16, 17, 18, 19, 20, 53, 54, 55, 56, 57, 58, 59, 60, 61, 62, 63, 64, 65, 66, 67, 68, 69, 70, 71, 72, 73, 74, 75, 76, 77, 78, 79, 80, 81, 82, 83, 84] (by decide +kernel) (by decide +kernel)
set_option maxRecDepth 20000 in
theorem gX9_part_X9_isOne : GoodIn wsX9_part (wsV RX9 121 RX9 yX9_isOne wsX9_isOne) := goodIn_app (goodIn_of _ (by decide +kernel)) ggX9_part_X9_isOne
set_option maxRecDepth 20000 in
theorem ggX9_part_X9_part : GoodIn wsX9_part wsX9_part := goodIn_r _ [0, 1, 2, 3, 4, 5, 6, 7, 8, 9, 10, 11, 12, 13, 14, 15, 16, 17, 18, 19, 20, 21, 22, 23, 24, 25, 26, 27, 28, 29, 30, 31, 32, 33, 34, 35, 36, 37, 38, 39, 40, 41, 42, 43, 44, 45, 46, 47, 48, 49, 50, 51, 52, 53, 54, 55, 56, 57, 58, 59, 60, 61, 62, 63, 64, 65, 66, 67, 68, 69, 70, 71, 72, 73, 74, 75, 76, 77, 78, 79, 80, 81, 82, 83, 84] (by decide +kernel) (by decide +kernel)
set_option maxRecDepth 20000 in
theorem gX9_part_X9_part : GoodIn wsX9_part (wsV RX9 118 RX9 yX9_part wsX9_part) := goodIn_app (goodIn_of _ (by decide +kernel)) ggX9_part_X9_part
set_option maxRecDepth 20000 in
theorem ggX9_part_X9_or : GoodIn wsX9_part wsX9_or := goodIn_r _ [49, 2, 50, 51, 52, 7, 4, 5, 6, 8, 9, 10, 11, 12, 13, 14, 15, 16, 17, 18, 19, 20, 31, 32, 33, 34, 35, 36, 37, 38, 39, 48, 25, 26, 27, 0, 1, 3, 21, 22, 23, 24, 28, 29, 30, 40, 41, 42, 43, 44, 45, 46, 47, 53, 54, 55, 56, 57, 58, 59, 60, 61, 62, 63, 64, 65, 66, 67, 68, 69, 70, 71, 72, 73, 74, 75, 76, 77, 78, 79, 80, 81, 82, 83, 84] (by decide +kernel) (by decide +kernel)
set_option maxRecDepth 20000 in
theorem gX9_part_X9_or : GoodIn wsX9_part (wsV RX9 127 RX9 yX9_or wsX9_or) := goodIn_app (goodIn_of _ (by decide +kernel)) ggX9_part_X9_or
set_option maxRecDepth 20000 in
theorem ggX9_part_X9_node : GoodIn wsX9_part wsX9_node := goodIn_r _ [34, 35, 36, 37, 38, 39, 53, 54, 55, 56, 57, 58, 59, 60, 61, 62, 63, 64, 65, 66, 67, 68, 69, 70, 71, 72, 73, 74, 75, 76, 77, 78, 79, 80, 81, 82, 83, 84] (by decide +kernel) (by decide +kernel)
set_option maxRecDepth 20000 in
theorem gX9_part_X9_node : GoodIn wsX9_part (wsV RX9 114 RX9 yX9_node wsX9_node) := goodIn_app (goodIn_of _ (by decide +kernel)) ggX9_part_X9_node
set_option maxRecDepth 20000 in
theorem ggX9_part_X9_conditionWord : GoodIn wsX9_part wsX9_conditionWord := goodIn_r _ [43, 16, 17, 18, 7, 19, 2, 13, 15, 14, 20, 44, 45, 46, 47, 9, 10, 11, 12, 53, 54, 55, 56, 57, 58, 59, 60, 61, 62, 63, 64, 65, 66, 67, 68, 69, 70, 71, 72, 73, 74, 75, 76, 77, 78, 79, 80, 81, 82, 83, 84] (by decide +kernel) (by decide +kernel)
set_option maxRecDepth 20000 in
theorem gX9_part_X9_conditionWord : GoodIn wsX9_part (wsV RX9 130 RX9 yX9_conditionWord wsX9_conditionWord) := goodIn_app (goodIn_of _ (by decide +kernel)) ggX9_part_X9_conditionWord
theorem dX9_part_0 : decode cX9_part 0 = .ok (.aload_n 0, 1) := by decide +kernel
theorem dX9_part_1 : decode cX9_part 1 = .ok (.bipush 110, 2) := by decide +kernel
theorem dX9_part_3 : decode cX9_part 3 = .ok (.bipush 111, 2) := by decide +kernel
theorem dX9_part_5 : decode cX9_part 5 = .ok (.bipush 116, 2) := by decide +kernel
theorem dX9_part_7 : decode cX9_part 7 = .ok (.iconst 0, 1) := by decide +kernel
theorem dX9_part_8 : decode cX9_part 8 = .ok (.iconst 0, 1) := by decide +kernel
theorem dX9_part_9 : decode cX9_part 9 = .ok (.iconst 0, 1) := by decide +kernel
theorem dX9_part_10 : decode cX9_part 10 = .ok (.iconst 0, 1) := by decide +kernel
theorem dX9_part_11 : decode cX9_part 11 = .ok (.iconst 3, 1) := by decide +kernel
theorem dX9_part_12 : decode cX9_part 12 = .ok (.invokevirtual 110, 3) := by decide +kernel
theorem dX9_part_15 : decode cX9_part 15 = .ok (.istore_n 1, 1) := by decide +kernel
theorem dX9_part_16 : decode cX9_part 16 = .ok (.iload_n 1, 1) := by decide +kernel
theorem dX9_part_17 : decode cX9_part 17 = .ok (.ifCond .ne 12, 3) := by decide +kernel
theorem dX9_part_20 : decode cX9_part 20 = .ok (.aload_n 0, 1) := by decide +kernel
theorem dX9_part_21 : decode cX9_part 21 = .ok (.bipush 40, 2) := by decide +kernel
theorem dX9_part_23 : decode cX9_part 23 = .ok (.invokevirtual 121, 3) := by decide +kernel
theorem dX9_part_26 : decode cX9_part 26 = .ok (.ifCond .eq 114, 3) := by decide +kernel
theorem dX9_part_29 : decode cX9_part 29 = .ok (.aload_n 0, 1) := by decide +kernel
theorem dX9_part_30 : decode cX9_part 30 = .ok (.getfield 124, 3) := by decide +kernel
theorem dX9_part_33 : decode cX9_part 33 = .ok (.bipush 20, 2) := by decide +kernel
theorem dX9_part_35 : decode cX9_part 35 = .ok (.if_icmp .ne 5, 3) := by decide +kernel
theorem dX9_part_38 : decode cX9_part 38 = .ok (.iconst (-1), 1) := by decide +kernel
theorem dX9_part_39 : decode cX9_part 39 = .ok (.ireturn, 1) := by decide +kernel
theorem dX9_part_40 : decode cX9_part 40 = .ok (.aload_n 0, 1) := by decide +kernel
theorem dX9_part_41 : decode cX9_part 41 = .ok (.dup, 1) := by decide +kernel
theorem dX9_part_42 : decode cX9_part 42 = .ok (.getfield 86, 3) := by decide +kernel
theorem dX9_part_45 : decode cX9_part 45 = .ok (.iconst 1, 1) := by decide +kernel
theorem dX9_part_46 : decode cX9_part 46 = .ok (.iadd, 1) := by decide +kernel
theorem dX9_part_47 : decode cX9_part 47 = .ok (.putfield 86, 3) := by decide +kernel
theorem dX9_part_50 : decode cX9_part 50 = .ok (.aload_n 0, 1) := by decide +kernel
theorem dX9_part_51 : decode cX9_part 51 = .ok (.dup, 1) := by decide +kernel
theorem dX9_part_52 : decode cX9_part 52 = .ok (.getfield 124, 3) := by decide +kernel
theorem dX9_part_55 : decode cX9_part 55 = .ok (.iconst 1, 1) := by decide +kernel
theorem dX9_part_56 : decode cX9_part 56 = .ok (.iadd, 1) := by decide +kernel
theorem dX9_part_57 : decode cX9_part 57 = .ok (.putfield 124, 3) := by decide +kernel
theorem dX9_part_60 : decode cX9_part 60 = .ok (.iload_n 1, 1) := by decide +kernel
theorem dX9_part_61 : decode cX9_part 61 = .ok (.ifCond .eq 10, 3) := by decide +kernel
theorem dX9_part_64 : decode cX9_part 64 = .ok (.aload_n 0, 1) := by decide +kernel
theorem dX9_part_65 : decode cX9_part 65 = .ok (.invokevirtual 118, 3) := by decide +kernel
theorem dX9_part_68 : decode cX9_part 68 = .ok (.goto 7, 3) := by decide +kernel
theorem dX9_part_71 : decode cX9_part 71 = .ok (.aload_n 0, 1) := by decide +kernel
theorem dX9_part_72 : decode cX9_part 72 = .ok (.invokevirtual 127, 3) := by decide +kernel
theorem dX9_part_75 : decode cX9_part 75 = .ok (.istore_n 2, 1) := by decide +kernel
theorem dX9_part_76 : decode cX9_part 76 = .ok (.iload_n 2, 1) := by decide +kernel
theorem dX9_part_77 : decode cX9_part 77 = .ok (.ifCond .lt 16, 3) := by decide +kernel
theorem dX9_part_80 : decode cX9_part 80 = .ok (.iload_n 1, 1) := by decide +kernel
theorem dX9_part_81 : decode cX9_part 81 = .ok (.ifCond .ne 14, 3) := by decide +kernel
theorem dX9_part_84 : decode cX9_part 84 = .ok (.aload_n 0, 1) := by decide +kernel
theorem dX9_part_85 : decode cX9_part 85 = .ok (.bipush 41, 2) := by decide +kernel
theorem dX9_part_87 : decode cX9_part 87 = .ok (.invokevirtual 121, 3) := by decide +kernel
theorem dX9_part_90 : decode cX9_part 90 = .ok (.ifCond .ne 5, 3) := by decide +kernel
theorem dX9_part_93 : decode cX9_part 93 = .ok (.iconst (-1), 1) := by decide +kernel
theorem dX9_part_94 : decode cX9_part 94 = .ok (.ireturn, 1) := by decide +kernel
theorem dX9_part_95 : decode cX9_part 95 = .ok (.aload_n 0, 1) := by decide +kernel
theorem dX9_part_96 : decode cX9_part 96 = .ok (.dup, 1) := by decide +kernel
theorem dX9_part_97 : decode cX9_part 97 = .ok (.getfield 86, 3) := by decide +kernel
theorem dX9_part_100 : decode cX9_part 100 = .ok (.iload_n 1, 1) := by decide +kernel
theorem dX9_part_101 : decode cX9_part 101 = .ok (.ifCond .eq 7, 3) := by decide +kernel
theorem dX9_part_104 : decode cX9_part 104 = .ok (.iconst 0, 1) := by decide +kernel
theorem dX9_part_105 : decode cX9_part 105 = .ok (.goto 4, 3) := by decide +kernel
theorem dX9_part_108 : decode cX9_part 108 = .ok (.iconst 1, 1) := by decide +kernel
theorem dX9_part_109 : decode cX9_part 109 = .ok (.iadd, 1) := by decide +kernel
theorem dX9_part_110 : decode cX9_part 110 = .ok (.putfield 86, 3) := by decide +kernel
theorem dX9_part_113 : decode cX9_part 113 = .ok (.aload_n 0, 1) := by decide +kernel
theorem dX9_part_114 : decode cX9_part 114 = .ok (.dup, 1) := by decide +kernel
theorem dX9_part_115 : decode cX9_part 115 = .ok (.getfield 124, 3) := by decide +kernel
theorem dX9_part_118 : decode cX9_part 118 = .ok (.iconst 1, 1) := by decide +kernel
theorem dX9_part_119 : decode cX9_part 119 = .ok (.isub, 1) := by decide +kernel
theorem dX9_part_120 : decode cX9_part 120 = .ok (.putfield 124, 3) := by decide +kernel
theorem dX9_part_123 : decode cX9_part 123 = .ok (.iload_n 1, 1) := by decide +kernel
theorem dX9_part_124 : decode cX9_part 124 = .ok (.ifCond .eq 14, 3) := by decide +kernel
theorem dX9_part_127 : decode cX9_part 127 = .ok (.aload_n 0, 1) := by decide +kernel
theorem dX9_part_128 : decode cX9_part 128 = .ok (.bipush 16, 2) := by decide +kernel
theorem dX9_part_130 : decode cX9_part 130 = .ok (.iload_n 2, 1) := by decide +kernel
theorem dX9_part_131 : decode cX9_part 131 = .ok (.iconst (-1), 1) := by decide +kernel
theorem dX9_part_132 : decode cX9_part 132 = .ok (.invokevirtual 114, 3) := by decide +kernel
theorem dX9_part_135 : decode cX9_part 135 = .ok (.goto 4, 3) := by decide +kernel
theorem dX9_part_138 : decode cX9_part 138 = .ok (.iload_n 2, 1) := by decide +kernel
theorem dX9_part_139 : decode cX9_part 139 = .ok (.ireturn, 1) := by decide +kernel
theorem dX9_part_140 : decode cX9_part 140 = .ok (.aload_n 0, 1) := by decide +kernel
theorem dX9_part_141 : decode cX9_part 141 = .ok (.invokevirtual 130, 3) := by decide +kernel
theorem dX9_part_144 : decode cX9_part 144 = .ok (.istore_n 2, 1) := by decide +kernel
theorem dX9_part_145 : decode cX9_part 145 = .ok (.iload_n 2, 1) := by decide +kernel
theorem dX9_part_146 : decode cX9_part 146 = .ok (.ifCond .lt 12, 3) := by decide +kernel
theorem dX9_part_149 : decode cX9_part 149 = .ok (.aload_n 0, 1) := by decide +kernel
theorem dX9_part_150 : decode cX9_part 150 = .ok (.getfield 133, 3) := by decide +kernel
theorem dX9_part_153 : decode cX9_part 153 = .ok (.bipush 32, 2) := by decide +kernel
theorem dX9_part_155 : decode cX9_part 155 = .ok (.if_icmp .ne 5, 3) := by decide +kernel
theorem dX9_part_158 : decode cX9_part 158 = .ok (.iconst (-1), 1) := by decide +kernel
theorem dX9_part_159 : decode cX9_part 159 = .ok (.ireturn, 1) := by decide +kernel
theorem dX9_part_160 : decode cX9_part 160 = .ok (.aload_n 0, 1) := by decide +kernel
theorem dX9_part_161 : decode cX9_part 161 = .ok (.dup, 1) := by decide +kernel
theorem dX9_part_162 : decode cX9_part 162 = .ok (.getfield 133, 3) := by decide +kernel
theorem dX9_part_165 : decode cX9_part 165 = .ok (.iconst 1, 1) := by decide +kernel
theorem dX9_part_166 : decode cX9_part 166 = .ok (.iadd, 1) := by decide +kernel
theorem dX9_part_167 : decode cX9_part 167 = .ok (.putfield 133, 3) := by decide +kernel
theorem dX9_part_170 : decode cX9_part 170 = .ok (.aload_n 0, 1) := by decide +kernel
theorem dX9_part_171 : decode cX9_part 171 = .ok (.dup, 1) := by decide +kernel
theorem dX9_part_172 : decode cX9_part 172 = .ok (.getfield 86, 3) := by decide +kernel
theorem dX9_part_175 : decode cX9_part 175 = .ok (.iconst 1, 1) := by decide +kernel
theorem dX9_part_176 : decode cX9_part 176 = .ok (.iadd, 1) := by decide +kernel
theorem dX9_part_177 : decode cX9_part 177 = .ok (.putfield 86, 3) := by decide +kernel
theorem dX9_part_180 : decode cX9_part 180 = .ok (.aload_n 0, 1) := by decide +kernel
theorem dX9_part_181 : decode cX9_part 181 = .ok (.iload_n 2, 1) := by decide +kernel
theorem dX9_part_182 : decode cX9_part 182 = .ok (.iconst (-1), 1) := by decide +kernel
theorem dX9_part_183 : decode cX9_part 183 = .ok (.iconst (-1), 1) := by decide +kernel
theorem dX9_part_184 : decode cX9_part 184 = .ok (.invokevirtual 114, 3) := by decide +kernel
theorem dX9_part_187 : decode cX9_part 187 = .ok (.ireturn, 1) := by decide +kernel
set_option maxRecDepth 20000 in
theorem ggX9_readRow_X9_act : GoodIn wsX9_readRow wsX9_act := goodIn_r _ [16, 17, 18, 19, 15, 20, 3, 21, 22, 23, 24, 25, 26, 27, 28, 29, 30, 31, 32, 65, 66, 67, 68, 69, 70, 71, 72, 73, 74, 75, 76, 77, 78, 79, 80, 81, 82, 83, 84, 85, 86, 87, 88, 89, 90, 91, 92, 93, 94, 95, 96] (by decide +kernel) (by decide +kernel)
set_option maxRecDepth 20000 in
theorem gX9_readRow_X9_act : GoodIn wsX9_readRow (wsV RX9 139 RX9 yX9_act wsX9_act) := goodIn_app (goodIn_of _ (by decide +kernel)) ggX9_readRow_X9_act
set_option maxRecDepth 20000 in
theorem ggX9_readRow_X9_is : GoodIn wsX9_readRow wsX9_is := goodIn_r _ [36, 29, 30, 31, 15, 32, 3, 21, 23, 22, 17, 18, 19, 20, 24, 65, 66, 67, 68, 69, 70, 71, 72, 73, 74, 75, 76, 77, 78, 79, 80, 81, 82, 83, 84, 85, 86, 87, 88, 89, 90, 91, 92, 93, 94, 95, 96] (by decide +kernel) (by decide +kernel)
set_option maxRecDepth 20000 in
theorem gX9_readRow_X9_is : GoodIn wsX9_readRow (wsV RX9 110 RX9 yX9_is wsX9_is) := goodIn_app (goodIn_of _ (by decide +kernel)) ggX9_readRow_X9_is
set_option maxRecDepth 20000 in
theorem ggX9_readRow_X9_or : GoodIn wsX9_readRow wsX9_or := goodIn_r _ [40, 3, 41, 42, 43, 15, 33, 34, 35, 36, 29, 30, 31, 32, 21, 23, 22, 17, 18, 19, 20, 24, 44, 45, 46, 47, 1, 48, 49, 50, 51, 52, 53, 54, 55, 56, 6, 7, 57, 58, 59, 60, 37, 38, 39, 61, 62, 63, 64, 25, 26, 27, 28, 65, 66, 67, 68, 69, 70, 71, 72, 73, 74, 75, 76, 77, 78, 79, 80, 81, 82, 83, 84, 85, 86, 87, 88, 89, 90, 91, 92, 93, 94, 95, 96] (by decide +kernel) (by decide +kernel)
set_option maxRecDepth 20000 in
theorem gX9_readRow_X9_or : GoodIn wsX9_readRow (wsV RX9 127 RX9 yX9_or wsX9_or) := goodIn_app (goodIn_of _ (by decide +kernel)) ggX9_readRow_X9_or
set_option maxRecDepth 20000 in
theorem ggX9_readRow_X9_number : GoodIn wsX9_readRow wsX9_number := goodIn_r _ [28, 29, 30, 31, 15, 32, 3, 21, 23, 22, 17, 18, 19, 20, 24, 65, 66, 67, 68, 69, 70, 71, 72, 73, 74, 75, 76, 77, 78, 79, 80, 81, 82, 83, 84, 85, 86, 87, 88, 89, 90, 91, 92, 93, 94, 95, 96] (by decide +kernel) (by decide +kernel)
set_option maxRecDepth 20000 in
theorem gX9_readRow_X9_number : GoodIn wsX9_readRow (wsV RX9 97 RX9 yX9_number wsX9_number) := goodIn_app (goodIn_of _ (by decide +kernel)) ggX9_readRow_X9_number
set_option maxRecDepth 20000 in
theorem ggX9_readRow_X9_isOne : GoodIn wsX9_readRow wsX9_isOne := goodIn_r _ [60, 29, 30, 31, 15, 32, 3, 21, 23, 22, 17, 18, 19, 20, 24, 65, 66, 67, 68, 69, 70, 71, 72, 73, 74, 75, 76, 77, 78, 79, 80, 81, 82, 83, 84, 85, 86, 87, 88, 89, 90, 91, 92, 93, 94, 95, 96] (by decide +kernel) (by decide +kernel)
set_option maxRecDepth 20000 in
theorem gX9_readRow_X9_isOne : GoodIn wsX9_readRow (wsV RX9 121 RX9 yX9_isOne wsX9_isOne) := goodIn_app (goodIn_of _ (by decide +kernel)) ggX9_readRow_X9_isOne
theorem dX9_readRow_0 : decode cX9_readRow 0 = .ok (.bipush 40, 2) := by decide +kernel
theorem dX9_readRow_2 : decode cX9_readRow 2 = .ok (.iconst 1, 1) := by decide +kernel
theorem dX9_readRow_3 : decode cX9_readRow 3 = .ok (.aload_n 0, 1) := by decide +kernel
theorem dX9_readRow_4 : decode cX9_readRow 4 = .ok (.getfield 101, 3) := by decide +kernel
theorem dX9_readRow_7 : decode cX9_readRow 7 = .ok (.isub, 1) := by decide +kernel
theorem dX9_readRow_8 : decode cX9_readRow 8 = .ok (.imul, 1) := by decide +kernel
theorem dX9_readRow_9 : decode cX9_readRow 9 = .ok (.aload_n 0, 1) := by decide +kernel
theorem dX9_readRow_10 : decode cX9_readRow 10 = .ok (.getfield 136, 3) := by decide +kernel
theorem dX9_readRow_13 : decode cX9_readRow 13 = .ok (.iadd, 1) := by decide +kernel
theorem dX9_readRow_14 : decode cX9_readRow 14 = .ok (.istore_n 1, 1) := by decide +kernel
theorem dX9_readRow_15 : decode cX9_readRow 15 = .ok (.aload_n 0, 1) := by decide +kernel
theorem dX9_readRow_16 : decode cX9_readRow 16 = .ok (.dup, 1) := by decide +kernel
theorem dX9_readRow_17 : decode cX9_readRow 17 = .ok (.getfield 86, 3) := by decide +kernel
theorem dX9_readRow_20 : decode cX9_readRow 20 = .ok (.iconst 1, 1) := by decide +kernel
theorem dX9_readRow_21 : decode cX9_readRow 21 = .ok (.iadd, 1) := by decide +kernel
theorem dX9_readRow_22 : decode cX9_readRow 22 = .ok (.putfield 86, 3) := by decide +kernel
theorem dX9_readRow_25 : decode cX9_readRow 25 = .ok (.iconst 0, 1) := by decide +kernel
theorem dX9_readRow_26 : decode cX9_readRow 26 = .ok (.istore_n 2, 1) := by decide +kernel
theorem dX9_readRow_27 : decode cX9_readRow 27 = .ok (.iconst 1, 1) := by decide +kernel
theorem dX9_readRow_28 : decode cX9_readRow 28 = .ok (.istore_n 3, 1) := by decide +kernel
theorem dX9_readRow_29 : decode cX9_readRow 29 = .ok (.iload_n 3, 1) := by decide +kernel
theorem dX9_readRow_30 : decode cX9_readRow 30 = .ok (.ifCond .eq 94, 3) := by decide +kernel
theorem dX9_readRow_33 : decode cX9_readRow 33 = .ok (.aload_n 0, 1) := by decide +kernel
theorem dX9_readRow_34 : decode cX9_readRow 34 = .ok (.invokevirtual 139, 3) := by decide +kernel
theorem dX9_readRow_37 : decode cX9_readRow 37 = .ok (.istore 4, 2) := by decide +kernel
theorem dX9_readRow_39 : decode cX9_readRow 39 = .ok (.iconst 0, 1) := by decide +kernel
theorem dX9_readRow_40 : decode cX9_readRow 40 = .ok (.istore 5, 2) := by decide +kernel
theorem dX9_readRow_42 : decode cX9_readRow 42 = .ok (.iload 5, 2) := by decide +kernel
theorem dX9_readRow_44 : decode cX9_readRow 44 = .ok (.iload_n 2, 1) := by decide +kernel
theorem dX9_readRow_45 : decode cX9_readRow 45 = .ok (.if_icmp .ge 34, 3) := by decide +kernel
theorem dX9_readRow_48 : decode cX9_readRow 48 = .ok (.aload_n 0, 1) := by decide +kernel
theorem dX9_readRow_49 : decode cX9_readRow 49 = .ok (.getfield 35, 3) := by decide +kernel
theorem dX9_readRow_52 : decode cX9_readRow 52 = .ok (.bipush 8, 2) := by decide +kernel
theorem dX9_readRow_54 : decode cX9_readRow 54 = .ok (.iload_n 1, 1) := by decide +kernel
theorem dX9_readRow_55 : decode cX9_readRow 55 = .ok (.imul, 1) := by decide +kernel
theorem dX9_readRow_56 : decode cX9_readRow 56 = .ok (.iload 5, 2) := by decide +kernel
theorem dX9_readRow_58 : decode cX9_readRow 58 = .ok (.iadd, 1) := by decide +kernel
theorem dX9_readRow_59 : decode cX9_readRow 59 = .ok (.iaload, 1) := by decide +kernel
theorem dX9_readRow_60 : decode cX9_readRow 60 = .ok (.iload 4, 2) := by decide +kernel
theorem dX9_readRow_62 : decode cX9_readRow 62 = .ok (.if_icmp .ne 7, 3) := by decide +kernel
theorem dX9_readRow_65 : decode cX9_readRow 65 = .ok (.iconst (-1), 1) := by decide +kernel
theorem dX9_readRow_66 : decode cX9_readRow 66 = .ok (.goto 5, 3) := by decide +kernel
theorem dX9_readRow_69 : decode cX9_readRow 69 = .ok (.iload 4, 2) := by decide +kernel
theorem dX9_readRow_71 : decode cX9_readRow 71 = .ok (.istore 4, 2) := by decide +kernel
theorem dX9_readRow_73 : decode cX9_readRow 73 = .ok (.iinc 5 1, 3) := by decide +kernel
theorem dX9_readRow_76 : decode cX9_readRow 76 = .ok (.goto (-34), 3) := by decide +kernel
theorem dX9_readRow_79 : decode cX9_readRow 79 = .ok (.iload 4, 2) := by decide +kernel
theorem dX9_readRow_81 : decode cX9_readRow 81 = .ok (.ifCond .lt 9, 3) := by decide +kernel
theorem dX9_readRow_84 : decode cX9_readRow 84 = .ok (.iload_n 2, 1) := by decide +kernel
theorem dX9_readRow_85 : decode cX9_readRow 85 = .ok (.bipush 8, 2) := by decide +kernel
theorem dX9_readRow_87 : decode cX9_readRow 87 = .ok (.if_icmp .ne 8, 3) := by decide +kernel
theorem dX9_readRow_90 : decode cX9_readRow 90 = .ok (.iconst 0, 1) := by decide +kernel
theorem dX9_readRow_91 : decode cX9_readRow 91 = .ok (.istore_n 3, 1) := by decide +kernel
theorem dX9_readRow_92 : decode cX9_readRow 92 = .ok (.goto 29, 3) := by decide +kernel
theorem dX9_readRow_95 : decode cX9_readRow 95 = .ok (.aload_n 0, 1) := by decide +kernel
theorem dX9_readRow_96 : decode cX9_readRow 96 = .ok (.getfield 35, 3) := by decide +kernel
theorem dX9_readRow_99 : decode cX9_readRow 99 = .ok (.bipush 8, 2) := by decide +kernel
theorem dX9_readRow_101 : decode cX9_readRow 101 = .ok (.iload_n 1, 1) := by decide +kernel
theorem dX9_readRow_102 : decode cX9_readRow 102 = .ok (.imul, 1) := by decide +kernel
theorem dX9_readRow_103 : decode cX9_readRow 103 = .ok (.iload_n 2, 1) := by decide +kernel
theorem dX9_readRow_104 : decode cX9_readRow 104 = .ok (.iadd, 1) := by decide +kernel
theorem dX9_readRow_105 : decode cX9_readRow 105 = .ok (.iload 4, 2) := by decide +kernel
theorem dX9_readRow_107 : decode cX9_readRow 107 = .ok (.iastore, 1) := by decide +kernel
theorem dX9_readRow_108 : decode cX9_readRow 108 = .ok (.iinc 2 1, 3) := by decide +kernel
theorem dX9_readRow_111 : decode cX9_readRow 111 = .ok (.aload_n 0, 1) := by decide +kernel
theorem dX9_readRow_112 : decode cX9_readRow 112 = .ok (.dup, 1) := by decide +kernel
theorem dX9_readRow_113 : decode cX9_readRow 113 = .ok (.getfield 86, 3) := by decide +kernel
theorem dX9_readRow_116 : decode cX9_readRow 116 = .ok (.iconst 1, 1) := by decide +kernel
theorem dX9_readRow_117 : decode cX9_readRow 117 = .ok (.iadd, 1) := by decide +kernel
theorem dX9_readRow_118 : decode cX9_readRow 118 = .ok (.putfield 86, 3) := by decide +kernel
theorem dX9_readRow_121 : decode cX9_readRow 121 = .ok (.goto (-92), 3) := by decide +kernel
theorem dX9_readRow_124 : decode cX9_readRow 124 = .ok (.iload_n 2, 1) := by decide +kernel
theorem dX9_readRow_125 : decode cX9_readRow 125 = .ok (.ifCond .eq 22, 3) := by decide +kernel
theorem dX9_readRow_128 : decode cX9_readRow 128 = .ok (.aload_n 0, 1) := by decide +kernel
theorem dX9_readRow_129 : decode cX9_readRow 129 = .ok (.bipush 119, 2) := by decide +kernel
theorem dX9_readRow_131 : decode cX9_readRow 131 = .ok (.bipush 104, 2) := by decide +kernel
theorem dX9_readRow_133 : decode cX9_readRow 133 = .ok (.bipush 101, 2) := by decide +kernel
theorem dX9_readRow_135 : decode cX9_readRow 135 = .ok (.bipush 110, 2) := by decide +kernel
theorem dX9_readRow_137 : decode cX9_readRow 137 = .ok (.iconst 0, 1) := by decide +kernel
theorem dX9_readRow_138 : decode cX9_readRow 138 = .ok (.iconst 0, 1) := by decide +kernel
theorem dX9_readRow_139 : decode cX9_readRow 139 = .ok (.iconst 0, 1) := by decide +kernel
theorem dX9_readRow_140 : decode cX9_readRow 140 = .ok (.iconst 4, 1) := by decide +kernel
theorem dX9_readRow_141 : decode cX9_readRow 141 = .ok (.invokevirtual 110, 3) := by decide +kernel
theorem dX9_readRow_144 : decode cX9_readRow 144 = .ok (.ifCond .ne 5, 3) := by decide +kernel
theorem dX9_readRow_147 : decode cX9_readRow 147 = .ok (.iconst 0, 1) := by decide +kernel
theorem dX9_readRow_148 : decode cX9_readRow 148 = .ok (.ireturn, 1) := by decide +kernel
theorem dX9_readRow_149 : decode cX9_readRow 149 = .ok (.aload_n 0, 1) := by decide +kernel
theorem dX9_readRow_150 : decode cX9_readRow 150 = .ok (.getfield 32, 3) := by decide +kernel
theorem dX9_readRow_153 : decode cX9_readRow 153 = .ok (.iload_n 1, 1) := by decide +kernel
theorem dX9_readRow_154 : decode cX9_readRow 154 = .ok (.iload_n 2, 1) := by decide +kernel
theorem dX9_readRow_155 : decode cX9_readRow 155 = .ok (.iastore, 1) := by decide +kernel
theorem dX9_readRow_156 : decode cX9_readRow 156 = .ok (.aload_n 0, 1) := by decide +kernel
theorem dX9_readRow_157 : decode cX9_readRow 157 = .ok (.dup, 1) := by decide +kernel
theorem dX9_readRow_158 : decode cX9_readRow 158 = .ok (.getfield 86, 3) := by decide +kernel
theorem dX9_readRow_161 : decode cX9_readRow 161 = .ok (.iconst 1, 1) := by decide +kernel
theorem dX9_readRow_162 : decode cX9_readRow 162 = .ok (.iadd, 1) := by decide +kernel
