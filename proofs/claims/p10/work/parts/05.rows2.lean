set_option maxRecDepth 20000 in
theorem ggX5_idleRow_X5_pick : GoodIn wsX5_idleRow wsX5_pick := goodIn_q _ [(117, 1), (49, 1), (118, 1), (50, 6), (119, 1), (70, 16), (120, 4), (135, 13), (132, 3)] (by decide +kernel) (by decide +kernel)
set_option maxRecDepth 20000 in
theorem gX5_idleRow_X5_pick : GoodIn wsX5_idleRow (wsV RX5 67 RX5 yX5_pick wsX5_pick) := goodIn_app (goodIn_of _ (by decide +kernel)) ggX5_idleRow_X5_pick
theorem dX5_idleRow_0 : decode cX5_idleRow 0 = .ok (.aload_n 0, 1) := by decide +kernel
theorem dX5_idleRow_1 : decode cX5_idleRow 1 = .ok (.getfield 71, 3) := by decide +kernel
theorem dX5_idleRow_4 : decode cX5_idleRow 4 = .ok (.ifCond .ne 19, 3) := by decide +kernel
theorem dX5_idleRow_7 : decode cX5_idleRow 7 = .ok (.new 75, 3) := by decide +kernel
theorem dX5_idleRow_10 : decode cX5_idleRow 10 = .ok (.dup, 1) := by decide +kernel
theorem dX5_idleRow_11 : decode cX5_idleRow 11 = .ok (.aload_n 0, 1) := by decide +kernel
theorem dX5_idleRow_12 : decode cX5_idleRow 12 = .ok (.invokespecial 77, 3) := by decide +kernel
theorem dX5_idleRow_15 : decode cX5_idleRow 15 = .ok (.invokevirtual 80, 3) := by decide +kernel
theorem dX5_idleRow_18 : decode cX5_idleRow 18 = .ok (.aload_n 0, 1) := by decide +kernel
theorem dX5_idleRow_19 : decode cX5_idleRow 19 = .ok (.iconst 1, 1) := by decide +kernel
theorem dX5_idleRow_20 : decode cX5_idleRow 20 = .ok (.putfield 71, 3) := by decide +kernel
theorem dX5_idleRow_23 : decode cX5_idleRow 23 = .ok (.aload_n 0, 1) := by decide +kernel
theorem dX5_idleRow_24 : decode cX5_idleRow 24 = .ok (.iload_n 1, 1) := by decide +kernel
theorem dX5_idleRow_25 : decode cX5_idleRow 25 = .ok (.iconst 0, 1) := by decide +kernel
theorem dX5_idleRow_26 : decode cX5_idleRow 26 = .ok (.invokevirtual 67, 3) := by decide +kernel
theorem dX5_idleRow_29 : decode cX5_idleRow 29 = .ok (.ireturn, 1) := by decide +kernel
set_option maxRecDepth 20000 in
theorem ggX5_pick_Jx4a65c_size_8abf5 : GoodIn wsX5_pick wsJx4a65c_size_8abf5 := goodIn_q _ [(7, 2), (43, 3)] (by decide +kernel) (by decide +kernel)
set_option maxRecDepth 20000 in
theorem gX5_pick_Jx4a65c_size_8abf5 : GoodIn wsX5_pick (wsV RX5 27 RJx4a65c yJx4a65c_size_8abf5 wsJx4a65c_size_8abf5) := goodIn_app (goodIn_of _ (by decide +kernel)) ggX5_pick_Jx4a65c_size_8abf5
set_option maxRecDepth 20000 in
theorem ggX5_pick_Jx4a65c_get_915e3 : GoodIn wsX5_pick wsJx4a65c_get_915e3 := goodIn_q _ [(12, 1), (8, 1), (13, 11), (6, 1), (24, 2), (43, 3)] (by decide +kernel) (by decide +kernel)
set_option maxRecDepth 20000 in
theorem gX5_pick_Jx4a65c_get_915e3 : GoodIn wsX5_pick (wsV RX5 31 RJx4a65c yJx4a65c_get_915e3 wsJx4a65c_get_915e3) := goodIn_app (goodIn_of _ (by decide +kernel)) ggX5_pick_Jx4a65c_get_915e3
theorem dX5_pick_0 : decode cX5_pick 0 = .ok (.iconst 0, 1) := by decide +kernel
theorem dX5_pick_1 : decode cX5_pick 1 = .ok (.istore_n 3, 1) := by decide +kernel
theorem dX5_pick_2 : decode cX5_pick 2 = .ok (.iconst 0, 1) := by decide +kernel
theorem dX5_pick_3 : decode cX5_pick 3 = .ok (.istore 4, 2) := by decide +kernel
theorem dX5_pick_5 : decode cX5_pick 5 = .ok (.iload 4, 2) := by decide +kernel
theorem dX5_pick_7 : decode cX5_pick 7 = .ok (.aload_n 0, 1) := by decide +kernel
theorem dX5_pick_8 : decode cX5_pick 8 = .ok (.getfield 12, 3) := by decide +kernel
theorem dX5_pick_11 : decode cX5_pick 11 = .ok (.invokevirtual 27, 3) := by decide +kernel
theorem dX5_pick_14 : decode cX5_pick 14 = .ok (.if_icmp .ge 59, 3) := by decide +kernel
theorem dX5_pick_17 : decode cX5_pick 17 = .ok (.aload_n 0, 1) := by decide +kernel
theorem dX5_pick_18 : decode cX5_pick 18 = .ok (.getfield 12, 3) := by decide +kernel
theorem dX5_pick_21 : decode cX5_pick 21 = .ok (.iload 4, 2) := by decide +kernel
theorem dX5_pick_23 : decode cX5_pick 23 = .ok (.invokevirtual 31, 3) := by decide +kernel
theorem dX5_pick_26 : decode cX5_pick 26 = .ok (.checkcast 35, 3) := by decide +kernel
theorem dX5_pick_29 : decode cX5_pick 29 = .ok (.astore 5, 2) := by decide +kernel
theorem dX5_pick_31 : decode cX5_pick 31 = .ok (.iload_n 2, 1) := by decide +kernel
theorem dX5_pick_32 : decode cX5_pick 32 = .ok (.ifCond .eq 14, 3) := by decide +kernel
theorem dX5_pick_35 : decode cX5_pick 35 = .ok (.aload 5, 2) := by decide +kernel
theorem dX5_pick_37 : decode cX5_pick 37 = .ok (.getfield 83, 3) := by decide +kernel
theorem dX5_pick_40 : decode cX5_pick 40 = .ok (.ifCond .le 27, 3) := by decide +kernel
theorem dX5_pick_43 : decode cX5_pick 43 = .ok (.goto 11, 3) := by decide +kernel
theorem dX5_pick_46 : decode cX5_pick 46 = .ok (.aload 5, 2) := by decide +kernel
theorem dX5_pick_48 : decode cX5_pick 48 = .ok (.getfield 86, 3) := by decide +kernel
theorem dX5_pick_51 : decode cX5_pick 51 = .ok (.ifCond .ne 16, 3) := by decide +kernel
theorem dX5_pick_54 : decode cX5_pick 54 = .ok (.iload_n 3, 1) := by decide +kernel
theorem dX5_pick_55 : decode cX5_pick 55 = .ok (.iload_n 1, 1) := by decide +kernel
theorem dX5_pick_56 : decode cX5_pick 56 = .ok (.if_icmp .ne 8, 3) := by decide +kernel
theorem dX5_pick_59 : decode cX5_pick 59 = .ok (.iload 4, 2) := by decide +kernel
theorem dX5_pick_61 : decode cX5_pick 61 = .ok (.iconst 1, 1) := by decide +kernel
theorem dX5_pick_62 : decode cX5_pick 62 = .ok (.iadd, 1) := by decide +kernel
theorem dX5_pick_63 : decode cX5_pick 63 = .ok (.ireturn, 1) := by decide +kernel
theorem dX5_pick_64 : decode cX5_pick 64 = .ok (.iinc 3 1, 3) := by decide +kernel
theorem dX5_pick_67 : decode cX5_pick 67 = .ok (.iinc 4 1, 3) := by decide +kernel
theorem dX5_pick_70 : decode cX5_pick 70 = .ok (.goto (-65), 3) := by decide +kernel
theorem dX5_pick_73 : decode cX5_pick 73 = .ok (.iconst (-1), 1) := by decide +kernel
theorem dX5_pick_74 : decode cX5_pick 74 = .ok (.ireturn, 1) := by decide +kernel
set_option maxRecDepth 20000 in
theorem ggX5_written_X7_init : GoodIn wsX5_written wsX7_init := goodIn_q _ [(10, 17), (172, 3), (169, 3)] (by decide +kernel) (by decide +kernel)
set_option maxRecDepth 20000 in
theorem gX5_written_X7_init : GoodIn wsX5_written (wsX7_init) := ggX5_written_X7_init
set_option maxRecDepth 20000 in
theorem ggX5_written_Jx4a65c_size_8abf5 : GoodIn wsX5_written wsJx4a65c_size_8abf5 := goodIn_q _ [(31, 2), (175, 3)] (by decide +kernel) (by decide +kernel)
set_option maxRecDepth 20000 in
theorem gX5_written_Jx4a65c_size_8abf5 : GoodIn wsX5_written (wsV RX5 27 RJx4a65c yJx4a65c_size_8abf5 wsJx4a65c_size_8abf5) := goodIn_app (goodIn_of _ (by decide +kernel)) ggX5_written_Jx4a65c_size_8abf5
set_option maxRecDepth 20000 in
theorem ggX5_written_Jx4a65c_get_915e3 : GoodIn wsX5_written wsJx4a65c_get_915e3 := goodIn_q _ [(36, 1), (32, 1), (37, 11), (30, 1), (48, 2), (175, 3)] (by decide +kernel) (by decide +kernel)
set_option maxRecDepth 20000 in
theorem gX5_written_Jx4a65c_get_915e3 : GoodIn wsX5_written (wsV RX5 31 RJx4a65c yJx4a65c_get_915e3 wsJx4a65c_get_915e3) := goodIn_app (goodIn_of _ (by decide +kernel)) ggX5_written_Jx4a65c_get_915e3
set_option maxRecDepth 20000 in
theorem ggX5_written_X7_putRow : GoodIn wsX5_written wsX7_putRow := goodIn_q _ [(53, 1), (17, 1), (54, 4), (4, 1), (58, 4), (16, 1), (62, 1), (26, 1), (23, 1), (25, 1), (63, 10), (24, 1), (73, 37), (42, 3), (110, 32), (18, 1), (142, 23), (178, 13), (169, 6), (191, 3)] (by decide +kernel) (by decide +kernel)
set_option maxRecDepth 20000 in
theorem gX5_written_X7_putRow : GoodIn wsX5_written (wsV RX5 98 RX7 yX7_putRow wsX7_putRow) := goodIn_app (goodIn_of _ (by decide +kernel)) ggX5_written_X7_putRow
theorem dX5_written_0 : decode cX5_written 0 = .ok (.aload_n 0, 1) := by decide +kernel
theorem dX5_written_1 : decode cX5_written 1 = .ok (.getfield 89, 3) := by decide +kernel
theorem dX5_written_4 : decode cX5_written 4 = .ok (.ifnonnull 57, 3) := by decide +kernel
theorem dX5_written_7 : decode cX5_written 7 = .ok (.new 93, 3) := by decide +kernel
theorem dX5_written_10 : decode cX5_written 10 = .ok (.dup, 1) := by decide +kernel
theorem dX5_written_11 : decode cX5_written 11 = .ok (.aload_n 0, 1) := by decide +kernel
theorem dX5_written_12 : decode cX5_written 12 = .ok (.getfield 23, 3) := by decide +kernel
theorem dX5_written_15 : decode cX5_written 15 = .ok (.invokespecial 95, 3) := by decide +kernel
theorem dX5_written_18 : decode cX5_written 18 = .ok (.astore_n 1, 1) := by decide +kernel
theorem dX5_written_19 : decode cX5_written 19 = .ok (.iconst 0, 1) := by decide +kernel
theorem dX5_written_20 : decode cX5_written 20 = .ok (.istore_n 2, 1) := by decide +kernel
theorem dX5_written_21 : decode cX5_written 21 = .ok (.iload_n 2, 1) := by decide +kernel
theorem dX5_written_22 : decode cX5_written 22 = .ok (.aload_n 0, 1) := by decide +kernel
theorem dX5_written_23 : decode cX5_written 23 = .ok (.getfield 12, 3) := by decide +kernel
theorem dX5_written_26 : decode cX5_written 26 = .ok (.invokevirtual 27, 3) := by decide +kernel
theorem dX5_written_29 : decode cX5_written 29 = .ok (.if_icmp .ge 24, 3) := by decide +kernel
theorem dX5_written_32 : decode cX5_written 32 = .ok (.aload_n 1, 1) := by decide +kernel
theorem dX5_written_33 : decode cX5_written 33 = .ok (.aload_n 0, 1) := by decide +kernel
theorem dX5_written_34 : decode cX5_written 34 = .ok (.getfield 12, 3) := by decide +kernel
theorem dX5_written_37 : decode cX5_written 37 = .ok (.iload_n 2, 1) := by decide +kernel
theorem dX5_written_38 : decode cX5_written 38 = .ok (.invokevirtual 31, 3) := by decide +kernel
theorem dX5_written_41 : decode cX5_written 41 = .ok (.checkcast 35, 3) := by decide +kernel
theorem dX5_written_44 : decode cX5_written 44 = .ok (.invokevirtual 98, 3) := by decide +kernel
theorem dX5_written_47 : decode cX5_written 47 = .ok (.iinc 2 1, 3) := by decide +kernel
theorem dX5_written_50 : decode cX5_written 50 = .ok (.goto (-29), 3) := by decide +kernel
theorem dX5_written_53 : decode cX5_written 53 = .ok (.aload_n 0, 1) := by decide +kernel
theorem dX5_written_54 : decode cX5_written 54 = .ok (.aload_n 1, 1) := by decide +kernel
theorem dX5_written_55 : decode cX5_written 55 = .ok (.getfield 102, 3) := by decide +kernel
theorem dX5_written_58 : decode cX5_written 58 = .ok (.putfield 89, 3) := by decide +kernel
theorem dX5_written_61 : decode cX5_written 61 = .ok (.aload_n 0, 1) := by decide +kernel
theorem dX5_written_62 : decode cX5_written 62 = .ok (.getfield 89, 3) := by decide +kernel
theorem dX5_written_65 : decode cX5_written 65 = .ok (.areturn, 1) := by decide +kernel
theorem dX6_init_0 : decode cX6_init 0 = .ok (.aload_n 0, 1) := by decide +kernel
theorem dX6_init_1 : decode cX6_init 1 = .ok (.invokespecial 3, 3) := by decide +kernel
theorem dX6_init_4 : decode cX6_init 4 = .ok (.iconst 0, 1) := by decide +kernel
theorem dX6_init_5 : decode cX6_init 5 = .ok (.iload_n 1, 1) := by decide +kernel
theorem dX6_init_6 : decode cX6_init 6 = .ok (.invokestatic 9, 3) := by decide +kernel
theorem dX6_init_9 : decode cX6_init 9 = .ok (.istore_n 2, 1) := by decide +kernel
theorem dX6_init_10 : decode cX6_init 10 = .ok (.aload_n 0, 1) := by decide +kernel
theorem dX6_init_11 : decode cX6_init 11 = .ok (.iload_n 2, 1) := by decide +kernel
theorem dX6_init_12 : decode cX6_init 12 = .ok (.newarray .byte, 2) := by decide +kernel
theorem dX6_init_14 : decode cX6_init 14 = .ok (.putfield 15, 3) := by decide +kernel
theorem dX6_init_17 : decode cX6_init 17 = .ok (.aload_n 0, 1) := by decide +kernel
theorem dX6_init_18 : decode cX6_init 18 = .ok (.iload_n 2, 1) := by decide +kernel
theorem dX6_init_19 : decode cX6_init 19 = .ok (.newarray .short, 2) := by decide +kernel
theorem dX6_init_21 : decode cX6_init 21 = .ok (.putfield 21, 3) := by decide +kernel
theorem dX6_init_24 : decode cX6_init 24 = .ok (.return_, 1) := by decide +kernel
theorem dX6_count_0 : decode cX6_count 0 = .ok (.aload_n 0, 1) := by decide +kernel
theorem dX6_count_1 : decode cX6_count 1 = .ok (.getfield 25, 3) := by decide +kernel
theorem dX6_count_4 : decode cX6_count 4 = .ok (.ireturn, 1) := by decide +kernel
theorem dX6_index_0 : decode cX6_index 0 = .ok (.aload_n 0, 1) := by decide +kernel
theorem dX6_index_1 : decode cX6_index 1 = .ok (.getfield 29, 3) := by decide +kernel
theorem dX6_index_4 : decode cX6_index 4 = .ok (.ireturn, 1) := by decide +kernel
theorem dX6_kind_0 : decode cX6_kind 0 = .ok (.aload_n 0, 1) := by decide +kernel
theorem dX6_kind_1 : decode cX6_kind 1 = .ok (.getfield 29, 3) := by decide +kernel
theorem dX6_kind_4 : decode cX6_kind 4 = .ok (.aload_n 0, 1) := by decide +kernel
theorem dX6_kind_5 : decode cX6_kind 5 = .ok (.getfield 25, 3) := by decide +kernel
theorem dX6_kind_8 : decode cX6_kind 8 = .ok (.if_icmp .ge 15, 3) := by decide +kernel
theorem dX6_kind_11 : decode cX6_kind 11 = .ok (.aload_n 0, 1) := by decide +kernel
theorem dX6_kind_12 : decode cX6_kind 12 = .ok (.getfield 15, 3) := by decide +kernel
theorem dX6_kind_15 : decode cX6_kind 15 = .ok (.aload_n 0, 1) := by decide +kernel
theorem dX6_kind_16 : decode cX6_kind 16 = .ok (.getfield 29, 3) := by decide +kernel
theorem dX6_kind_19 : decode cX6_kind 19 = .ok (.baload, 1) := by decide +kernel
theorem dX6_kind_20 : decode cX6_kind 20 = .ok (.goto 4, 3) := by decide +kernel
theorem dX6_kind_23 : decode cX6_kind 23 = .ok (.iconst 0, 1) := by decide +kernel
theorem dX6_kind_24 : decode cX6_kind 24 = .ok (.ireturn, 1) := by decide +kernel
theorem dX6_value_0 : decode cX6_value 0 = .ok (.aload_n 0, 1) := by decide +kernel
theorem dX6_value_1 : decode cX6_value 1 = .ok (.getfield 29, 3) := by decide +kernel
theorem dX6_value_4 : decode cX6_value 4 = .ok (.aload_n 0, 1) := by decide +kernel
theorem dX6_value_5 : decode cX6_value 5 = .ok (.getfield 25, 3) := by decide +kernel
theorem dX6_value_8 : decode cX6_value 8 = .ok (.if_icmp .ge 15, 3) := by decide +kernel
theorem dX6_value_11 : decode cX6_value 11 = .ok (.aload_n 0, 1) := by decide +kernel
theorem dX6_value_12 : decode cX6_value 12 = .ok (.getfield 21, 3) := by decide +kernel
theorem dX6_value_15 : decode cX6_value 15 = .ok (.aload_n 0, 1) := by decide +kernel
theorem dX6_value_16 : decode cX6_value 16 = .ok (.getfield 29, 3) := by decide +kernel
theorem dX6_value_19 : decode cX6_value 19 = .ok (.saload, 1) := by decide +kernel
theorem dX6_value_20 : decode cX6_value 20 = .ok (.goto 4, 3) := by decide +kernel
theorem dX6_value_23 : decode cX6_value 23 = .ok (.iconst (-1), 1) := by decide +kernel
theorem dX6_value_24 : decode cX6_value 24 = .ok (.ireturn, 1) := by decide +kernel
theorem dX6_advance_0 : decode cX6_advance 0 = .ok (.aload_n 0, 1) := by decide +kernel
theorem dX6_advance_1 : decode cX6_advance 1 = .ok (.getfield 29, 3) := by decide +kernel
theorem dX6_advance_4 : decode cX6_advance 4 = .ok (.aload_n 0, 1) := by decide +kernel
theorem dX6_advance_5 : decode cX6_advance 5 = .ok (.getfield 25, 3) := by decide +kernel
theorem dX6_advance_8 : decode cX6_advance 8 = .ok (.if_icmp .ge 13, 3) := by decide +kernel
theorem dX6_advance_11 : decode cX6_advance 11 = .ok (.aload_n 0, 1) := by decide +kernel
theorem dX6_advance_12 : decode cX6_advance 12 = .ok (.dup, 1) := by decide +kernel
theorem dX6_advance_13 : decode cX6_advance 13 = .ok (.getfield 29, 3) := by decide +kernel
theorem dX6_advance_16 : decode cX6_advance 16 = .ok (.iconst 1, 1) := by decide +kernel
theorem dX6_advance_17 : decode cX6_advance 17 = .ok (.iadd, 1) := by decide +kernel
theorem dX6_advance_18 : decode cX6_advance 18 = .ok (.putfield 29, 3) := by decide +kernel
theorem dX6_advance_21 : decode cX6_advance 21 = .ok (.return_, 1) := by decide +kernel
set_option maxRecDepth 20000 in
theorem ggX6_split_X0_length : GoodIn wsX6_split wsX0_length := goodIn_q _ [(5, 2), (93, 3)] (by decide +kernel) (by decide +kernel)
set_option maxRecDepth 20000 in
theorem gX6_split_X0_length : GoodIn wsX6_split (wsV RX6 32 RX0 yX0_length wsX0_length) := goodIn_app (goodIn_of _ (by decide +kernel)) ggX6_split_X0_length
set_option maxRecDepth 20000 in
theorem ggX6_split_X0_at : GoodIn wsX6_split wsX0_at := goodIn_q _ [(10, 1), (6, 1), (11, 1), (93, 3)] (by decide +kernel) (by decide +kernel)
set_option maxRecDepth 20000 in
theorem gX6_split_X0_at : GoodIn wsX6_split (wsV RX6 38 RX0 yX0_at wsX0_at) := goodIn_app (goodIn_of _ (by decide +kernel)) ggX6_split_X0_at
set_option maxRecDepth 20000 in
theorem ggX6_split_X6_isInner : GoodIn wsX6_split wsX6_isInner := goodIn_q _ [(15, 3), (14, 1), (18, 1)] (by decide +kernel) (by decide +kernel)
set_option maxRecDepth 20000 in
theorem gX6_split_X6_isInner : GoodIn wsX6_split (va_wsS RX6 42 yX6_isInner wsX6_isInner) := goodIn_app (goodIn_of _ (by decide +kernel)) ggX6_split_X6_isInner
set_option maxRecDepth 20000 in
theorem ggX6_split_X6_isBlank : GoodIn wsX6_split wsX6_isBlank := goodIn_q _ [(18, 1)] (by decide +kernel) (by decide +kernel)
set_option maxRecDepth 20000 in
theorem gX6_split_X6_isBlank : GoodIn wsX6_split (va_wsS RX6 46 yX6_isBlank wsX6_isBlank) := goodIn_app (goodIn_of _ (by decide +kernel)) ggX6_split_X6_isBlank
set_option maxRecDepth 20000 in
theorem ggX6_split_X6_kindOf : GoodIn wsX6_split wsX6_kindOf := goodIn_q _ [(22, 2), (7, 3), (4, 1), (10, 1), (6, 1), (11, 1), (24, 2), (14, 1), (26, 60), (96, 5), (93, 3)] (by decide +kernel) (by decide +kernel)
set_option maxRecDepth 20000 in
theorem gX6_split_X6_kindOf : GoodIn wsX6_split (wsV RX6 49 RX6 yX6_kindOf wsX6_kindOf) := goodIn_app (goodIn_of _ (by decide +kernel)) ggX6_split_X6_kindOf
set_option maxRecDepth 20000 in
theorem ggX6_split_X6_keep : GoodIn wsX6_split wsX6_keep := goodIn_q _ [(89, 4), (23, 1), (96, 5)] (by decide +kernel) (by decide +kernel)
set_option maxRecDepth 20000 in
theorem gX6_split_X6_keep : GoodIn wsX6_split (wsV RX6 53 RX6 yX6_keep wsX6_keep) := goodIn_app (goodIn_of _ (by decide +kernel)) ggX6_split_X6_keep
theorem dX6_split_0 : decode cX6_split 0 = .ok (.iconst 0, 1) := by decide +kernel
theorem dX6_split_1 : decode cX6_split 1 = .ok (.istore_n 2, 1) := by decide +kernel
theorem dX6_split_2 : decode cX6_split 2 = .ok (.iload_n 2, 1) := by decide +kernel
theorem dX6_split_3 : decode cX6_split 3 = .ok (.aload_n 1, 1) := by decide +kernel
theorem dX6_split_4 : decode cX6_split 4 = .ok (.invokevirtual 32, 3) := by decide +kernel
theorem dX6_split_7 : decode cX6_split 7 = .ok (.if_icmp .ge 70, 3) := by decide +kernel
theorem dX6_split_10 : decode cX6_split 10 = .ok (.iload_n 2, 1) := by decide +kernel
theorem dX6_split_11 : decode cX6_split 11 = .ok (.iconst 1, 1) := by decide +kernel
theorem dX6_split_12 : decode cX6_split 12 = .ok (.iadd, 1) := by decide +kernel
theorem dX6_split_13 : decode cX6_split 13 = .ok (.istore_n 3, 1) := by decide +kernel
theorem dX6_split_14 : decode cX6_split 14 = .ok (.aload_n 1, 1) := by decide +kernel
theorem dX6_split_15 : decode cX6_split 15 = .ok (.iload_n 2, 1) := by decide +kernel
theorem dX6_split_16 : decode cX6_split 16 = .ok (.invokevirtual 38, 3) := by decide +kernel
theorem dX6_split_19 : decode cX6_split 19 = .ok (.invokestatic 42, 3) := by decide +kernel
theorem dX6_split_22 : decode cX6_split 22 = .ok (.ifCond .eq 28, 3) := by decide +kernel
theorem dX6_split_25 : decode cX6_split 25 = .ok (.iload_n 3, 1) := by decide +kernel
theorem dX6_split_26 : decode cX6_split 26 = .ok (.aload_n 1, 1) := by decide +kernel
theorem dX6_split_27 : decode cX6_split 27 = .ok (.invokevirtual 32, 3) := by decide +kernel
theorem dX6_split_30 : decode cX6_split 30 = .ok (.if_icmp .ge 20, 3) := by decide +kernel
theorem dX6_split_33 : decode cX6_split 33 = .ok (.aload_n 1, 1) := by decide +kernel
theorem dX6_split_34 : decode cX6_split 34 = .ok (.iload_n 3, 1) := by decide +kernel
theorem dX6_split_35 : decode cX6_split 35 = .ok (.invokevirtual 38, 3) := by decide +kernel
theorem dX6_split_38 : decode cX6_split 38 = .ok (.invokestatic 42, 3) := by decide +kernel
theorem dX6_split_41 : decode cX6_split 41 = .ok (.ifCond .eq 9, 3) := by decide +kernel
theorem dX6_split_44 : decode cX6_split 44 = .ok (.iinc 3 1, 3) := by decide +kernel
theorem dX6_split_47 : decode cX6_split 47 = .ok (.goto (-22), 3) := by decide +kernel
theorem dX6_split_50 : decode cX6_split 50 = .ok (.aload_n 1, 1) := by decide +kernel
theorem dX6_split_51 : decode cX6_split 51 = .ok (.iload_n 2, 1) := by decide +kernel
theorem dX6_split_52 : decode cX6_split 52 = .ok (.invokevirtual 38, 3) := by decide +kernel
theorem dX6_split_55 : decode cX6_split 55 = .ok (.invokestatic 46, 3) := by decide +kernel
theorem dX6_split_58 : decode cX6_split 58 = .ok (.ifCond .ne 14, 3) := by decide +kernel
theorem dX6_split_61 : decode cX6_split 61 = .ok (.aload_n 0, 1) := by decide +kernel
theorem dX6_split_62 : decode cX6_split 62 = .ok (.aload_n 0, 1) := by decide +kernel
theorem dX6_split_63 : decode cX6_split 63 = .ok (.aload_n 1, 1) := by decide +kernel
theorem dX6_split_64 : decode cX6_split 64 = .ok (.iload_n 2, 1) := by decide +kernel
theorem dX6_split_65 : decode cX6_split 65 = .ok (.iload_n 3, 1) := by decide +kernel
theorem dX6_split_66 : decode cX6_split 66 = .ok (.invokevirtual 49, 3) := by decide +kernel
theorem dX6_split_69 : decode cX6_split 69 = .ok (.invokevirtual 53, 3) := by decide +kernel
theorem dX6_split_72 : decode cX6_split 72 = .ok (.iload_n 3, 1) := by decide +kernel
theorem dX6_split_73 : decode cX6_split 73 = .ok (.istore_n 2, 1) := by decide +kernel
theorem dX6_split_74 : decode cX6_split 74 = .ok (.goto (-72), 3) := by decide +kernel
theorem dX6_split_77 : decode cX6_split 77 = .ok (.return_, 1) := by decide +kernel
theorem dX6_keep_0 : decode cX6_keep 0 = .ok (.aload_n 0, 1) := by decide +kernel
theorem dX6_keep_1 : decode cX6_keep 1 = .ok (.getfield 25, 3) := by decide +kernel
theorem dX6_keep_4 : decode cX6_keep 4 = .ok (.aload_n 0, 1) := by decide +kernel
theorem dX6_keep_5 : decode cX6_keep 5 = .ok (.getfield 15, 3) := by decide +kernel
theorem dX6_keep_8 : decode cX6_keep 8 = .ok (.arraylength, 1) := by decide +kernel
theorem dX6_keep_9 : decode cX6_keep 9 = .ok (.if_icmp .ge 50, 3) := by decide +kernel
theorem dX6_keep_12 : decode cX6_keep 12 = .ok (.aload_n 0, 1) := by decide +kernel
theorem dX6_keep_13 : decode cX6_keep 13 = .ok (.getfield 25, 3) := by decide +kernel
theorem dX6_keep_16 : decode cX6_keep 16 = .ok (.aload_n 0, 1) := by decide +kernel
theorem dX6_keep_17 : decode cX6_keep 17 = .ok (.getfield 21, 3) := by decide +kernel
theorem dX6_keep_20 : decode cX6_keep 20 = .ok (.arraylength, 1) := by decide +kernel
theorem dX6_keep_21 : decode cX6_keep 21 = .ok (.if_icmp .ge 38, 3) := by decide +kernel
theorem dX6_keep_24 : decode cX6_keep 24 = .ok (.aload_n 0, 1) := by decide +kernel
theorem dX6_keep_25 : decode cX6_keep 25 = .ok (.getfield 15, 3) := by decide +kernel
theorem dX6_keep_28 : decode cX6_keep 28 = .ok (.aload_n 0, 1) := by decide +kernel
theorem dX6_keep_29 : decode cX6_keep 29 = .ok (.getfield 25, 3) := by decide +kernel
theorem dX6_keep_32 : decode cX6_keep 32 = .ok (.iload_n 1, 1) := by decide +kernel
theorem dX6_keep_33 : decode cX6_keep 33 = .ok (.i2b, 1) := by decide +kernel
theorem dX6_keep_34 : decode cX6_keep 34 = .ok (.bastore, 1) := by decide +kernel
theorem dX6_keep_35 : decode cX6_keep 35 = .ok (.aload_n 0, 1) := by decide +kernel
theorem dX6_keep_36 : decode cX6_keep 36 = .ok (.getfield 21, 3) := by decide +kernel
theorem dX6_keep_39 : decode cX6_keep 39 = .ok (.aload_n 0, 1) := by decide +kernel
theorem dX6_keep_40 : decode cX6_keep 40 = .ok (.getfield 25, 3) := by decide +kernel
theorem dX6_keep_43 : decode cX6_keep 43 = .ok (.aload_n 0, 1) := by decide +kernel
theorem dX6_keep_44 : decode cX6_keep 44 = .ok (.getfield 57, 3) := by decide +kernel
theorem dX6_keep_47 : decode cX6_keep 47 = .ok (.i2s, 1) := by decide +kernel
theorem dX6_keep_48 : decode cX6_keep 48 = .ok (.sastore, 1) := by decide +kernel
theorem dX6_keep_49 : decode cX6_keep 49 = .ok (.aload_n 0, 1) := by decide +kernel
theorem dX6_keep_50 : decode cX6_keep 50 = .ok (.dup, 1) := by decide +kernel
theorem dX6_keep_51 : decode cX6_keep 51 = .ok (.getfield 25, 3) := by decide +kernel
theorem dX6_keep_54 : decode cX6_keep 54 = .ok (.iconst 1, 1) := by decide +kernel
theorem dX6_keep_55 : decode cX6_keep 55 = .ok (.iadd, 1) := by decide +kernel
theorem dX6_keep_56 : decode cX6_keep 56 = .ok (.putfield 25, 3) := by decide +kernel
theorem dX6_keep_59 : decode cX6_keep 59 = .ok (.return_, 1) := by decide +kernel
theorem dX6_isBlank_0 : decode cX6_isBlank 0 = .ok (.iload_n 0, 1) := by decide +kernel
theorem dX6_isBlank_1 : decode cX6_isBlank 1 = .ok (.bipush 32, 2) := by decide +kernel
theorem dX6_isBlank_3 : decode cX6_isBlank 3 = .ok (.if_icmp .eq 9, 3) := by decide +kernel
theorem dX6_isBlank_6 : decode cX6_isBlank 6 = .ok (.iload_n 0, 1) := by decide +kernel
theorem dX6_isBlank_7 : decode cX6_isBlank 7 = .ok (.bipush 10, 2) := by decide +kernel
theorem dX6_isBlank_9 : decode cX6_isBlank 9 = .ok (.if_icmp .ne 7, 3) := by decide +kernel
theorem dX6_isBlank_12 : decode cX6_isBlank 12 = .ok (.iconst 1, 1) := by decide +kernel
theorem dX6_isBlank_13 : decode cX6_isBlank 13 = .ok (.goto 4, 3) := by decide +kernel
theorem dX6_isBlank_16 : decode cX6_isBlank 16 = .ok (.iconst 0, 1) := by decide +kernel
theorem dX6_isBlank_17 : decode cX6_isBlank 17 = .ok (.ireturn, 1) := by decide +kernel
set_option maxRecDepth 20000 in
theorem ggX6_isInner_X6_isBlank : GoodIn wsX6_isInner wsX6_isBlank := goodIn_q _ [(4, 1)] (by decide +kernel) (by decide +kernel)
set_option maxRecDepth 20000 in
theorem gX6_isInner_X6_isBlank : GoodIn wsX6_isInner (va_wsS RX6 46 yX6_isBlank wsX6_isBlank) := goodIn_app (goodIn_of _ (by decide +kernel)) ggX6_isInner_X6_isBlank
theorem dX6_isInner_0 : decode cX6_isInner 0 = .ok (.iload_n 0, 1) := by decide +kernel
theorem dX6_isInner_1 : decode cX6_isInner 1 = .ok (.invokestatic 46, 3) := by decide +kernel
theorem dX6_isInner_4 : decode cX6_isInner 4 = .ok (.ifCond .ne 25, 3) := by decide +kernel
theorem dX6_isInner_7 : decode cX6_isInner 7 = .ok (.iload_n 0, 1) := by decide +kernel
theorem dX6_isInner_8 : decode cX6_isInner 8 = .ok (.bipush 40, 2) := by decide +kernel
theorem dX6_isInner_10 : decode cX6_isInner 10 = .ok (.if_icmp .eq 19, 3) := by decide +kernel
theorem dX6_isInner_13 : decode cX6_isInner 13 = .ok (.iload_n 0, 1) := by decide +kernel
theorem dX6_isInner_14 : decode cX6_isInner 14 = .ok (.bipush 41, 2) := by decide +kernel
theorem dX6_isInner_16 : decode cX6_isInner 16 = .ok (.if_icmp .eq 13, 3) := by decide +kernel
theorem dX6_isInner_19 : decode cX6_isInner 19 = .ok (.iload_n 0, 1) := by decide +kernel
theorem dX6_isInner_20 : decode cX6_isInner 20 = .ok (.bipush 59, 2) := by decide +kernel
theorem dX6_isInner_22 : decode cX6_isInner 22 = .ok (.if_icmp .eq 7, 3) := by decide +kernel
theorem dX6_isInner_25 : decode cX6_isInner 25 = .ok (.iconst 1, 1) := by decide +kernel
theorem dX6_isInner_26 : decode cX6_isInner 26 = .ok (.goto 4, 3) := by decide +kernel
theorem dX6_isInner_29 : decode cX6_isInner 29 = .ok (.iconst 0, 1) := by decide +kernel
theorem dX6_isInner_30 : decode cX6_isInner 30 = .ok (.ireturn, 1) := by decide +kernel
set_option maxRecDepth 20000 in
theorem ggX6_kindOf_X0_at : GoodIn wsX6_kindOf wsX0_at := goodIn_q _ [(6, 3), (77, 3)] (by decide +kernel) (by decide +kernel)
set_option maxRecDepth 20000 in
theorem gX6_kindOf_X0_at : GoodIn wsX6_kindOf (wsV RX6 38 RX0 yX0_at wsX0_at) := goodIn_app (goodIn_of _ (by decide +kernel)) ggX6_kindOf_X0_at
set_option maxRecDepth 20000 in
theorem ggX6_kindOf_X6_namedKind : GoodIn wsX6_kindOf wsX6_namedKind := goodIn_q _ [(12, 3), (11, 1), (15, 13), (2, 7), (28, 37), (77, 3)] (by decide +kernel) (by decide +kernel)
set_option maxRecDepth 20000 in
theorem gX6_kindOf_X6_namedKind : GoodIn wsX6_kindOf (va_wsS RX6 60 yX6_namedKind wsX6_namedKind) := goodIn_app (goodIn_of _ (by decide +kernel)) ggX6_kindOf_X6_namedKind
set_option maxRecDepth 20000 in
theorem ggX6_kindOf_X6_numberedKind : GoodIn wsX6_kindOf wsX6_numberedKind := goodIn_q _ [(68, 1), (1, 8), (69, 2), (11, 1), (71, 9)] (by decide +kernel) (by decide +kernel)
set_option maxRecDepth 20000 in
theorem gX6_kindOf_X6_numberedKind : GoodIn wsX6_kindOf (wsV RX6 63 RX6 yX6_numberedKind wsX6_numberedKind) := goodIn_app (goodIn_of _ (by decide +kernel)) ggX6_kindOf_X6_numberedKind
theorem dX6_kindOf_0 : decode cX6_kindOf 0 = .ok (.aload_n 0, 1) := by decide +kernel
theorem dX6_kindOf_1 : decode cX6_kindOf 1 = .ok (.iconst (-1), 1) := by decide +kernel
theorem dX6_kindOf_2 : decode cX6_kindOf 2 = .ok (.putfield 57, 3) := by decide +kernel
theorem dX6_kindOf_5 : decode cX6_kindOf 5 = .ok (.aload_n 1, 1) := by decide +kernel
theorem dX6_kindOf_6 : decode cX6_kindOf 6 = .ok (.iload_n 2, 1) := by decide +kernel
theorem dX6_kindOf_7 : decode cX6_kindOf 7 = .ok (.invokevirtual 38, 3) := by decide +kernel
theorem dX6_kindOf_10 : decode cX6_kindOf 10 = .ok (.lookupswitch 40 #[(40, 34), (41, 36), (59, 38)], 34) := by decide +kernel
theorem dX6_kindOf_44 : decode cX6_kindOf 44 = .ok (.iconst 2, 1) := by decide +kernel
theorem dX6_kindOf_45 : decode cX6_kindOf 45 = .ok (.ireturn, 1) := by decide +kernel
theorem dX6_kindOf_46 : decode cX6_kindOf 46 = .ok (.iconst 3, 1) := by decide +kernel
theorem dX6_kindOf_47 : decode cX6_kindOf 47 = .ok (.ireturn, 1) := by decide +kernel
theorem dX6_kindOf_48 : decode cX6_kindOf 48 = .ok (.iconst 4, 1) := by decide +kernel
theorem dX6_kindOf_49 : decode cX6_kindOf 49 = .ok (.ireturn, 1) := by decide +kernel
theorem dX6_kindOf_50 : decode cX6_kindOf 50 = .ok (.aload_n 1, 1) := by decide +kernel
theorem dX6_kindOf_51 : decode cX6_kindOf 51 = .ok (.iload_n 2, 1) := by decide +kernel
theorem dX6_kindOf_52 : decode cX6_kindOf 52 = .ok (.iload_n 3, 1) := by decide +kernel
theorem dX6_kindOf_53 : decode cX6_kindOf 53 = .ok (.invokestatic 60, 3) := by decide +kernel
theorem dX6_kindOf_56 : decode cX6_kindOf 56 = .ok (.istore 4, 2) := by decide +kernel
theorem dX6_kindOf_58 : decode cX6_kindOf 58 = .ok (.iload 4, 2) := by decide +kernel
theorem dX6_kindOf_60 : decode cX6_kindOf 60 = .ok (.iconst 1, 1) := by decide +kernel
theorem dX6_kindOf_61 : decode cX6_kindOf 61 = .ok (.if_icmp .ne 13, 3) := by decide +kernel
theorem dX6_kindOf_64 : decode cX6_kindOf 64 = .ok (.aload_n 0, 1) := by decide +kernel
theorem dX6_kindOf_65 : decode cX6_kindOf 65 = .ok (.aload_n 1, 1) := by decide +kernel
theorem dX6_kindOf_66 : decode cX6_kindOf 66 = .ok (.iload_n 2, 1) := by decide +kernel
theorem dX6_kindOf_67 : decode cX6_kindOf 67 = .ok (.iload_n 3, 1) := by decide +kernel
theorem dX6_kindOf_68 : decode cX6_kindOf 68 = .ok (.invokevirtual 63, 3) := by decide +kernel
theorem dX6_kindOf_71 : decode cX6_kindOf 71 = .ok (.goto 5, 3) := by decide +kernel
theorem dX6_kindOf_74 : decode cX6_kindOf 74 = .ok (.iload 4, 2) := by decide +kernel
theorem dX6_kindOf_76 : decode cX6_kindOf 76 = .ok (.ireturn, 1) := by decide +kernel
set_option maxRecDepth 20000 in
theorem ggX6_namedKind_X6_isWord : GoodIn wsX6_namedKind wsX6_isWord := goodIn_q _ [(4, 60)] (by decide +kernel) (by decide +kernel)
set_option maxRecDepth 20000 in
theorem gX6_namedKind_X6_isWord : GoodIn wsX6_namedKind (va_wsS RX6 68 yX6_isWord wsX6_isWord) := goodIn_app (goodIn_of _ (by decide +kernel)) ggX6_namedKind_X6_isWord
theorem dX6_namedKind_0 : decode cX6_namedKind 0 = .ok (.aload_n 0, 1) := by decide +kernel
theorem dX6_namedKind_1 : decode cX6_namedKind 1 = .ok (.iload_n 1, 1) := by decide +kernel
theorem dX6_namedKind_2 : decode cX6_namedKind 2 = .ok (.iload_n 2, 1) := by decide +kernel
theorem dX6_namedKind_3 : decode cX6_namedKind 3 = .ok (.ldc 66, 2) := by decide +kernel
theorem dX6_namedKind_5 : decode cX6_namedKind 5 = .ok (.invokestatic 68, 3) := by decide +kernel
theorem dX6_namedKind_8 : decode cX6_namedKind 8 = .ok (.ifCond .eq 5, 3) := by decide +kernel
theorem dX6_namedKind_11 : decode cX6_namedKind 11 = .ok (.iconst 5, 1) := by decide +kernel
theorem dX6_namedKind_12 : decode cX6_namedKind 12 = .ok (.ireturn, 1) := by decide +kernel
theorem dX6_namedKind_13 : decode cX6_namedKind 13 = .ok (.aload_n 0, 1) := by decide +kernel
theorem dX6_namedKind_14 : decode cX6_namedKind 14 = .ok (.iload_n 1, 1) := by decide +kernel
theorem dX6_namedKind_15 : decode cX6_namedKind 15 = .ok (.iload_n 2, 1) := by decide +kernel
theorem dX6_namedKind_16 : decode cX6_namedKind 16 = .ok (.ldc 72, 2) := by decide +kernel
theorem dX6_namedKind_18 : decode cX6_namedKind 18 = .ok (.invokestatic 68, 3) := by decide +kernel
theorem dX6_namedKind_21 : decode cX6_namedKind 21 = .ok (.ifCond .eq 6, 3) := by decide +kernel
theorem dX6_namedKind_24 : decode cX6_namedKind 24 = .ok (.bipush 6, 2) := by decide +kernel
theorem dX6_namedKind_26 : decode cX6_namedKind 26 = .ok (.ireturn, 1) := by decide +kernel
theorem dX6_namedKind_27 : decode cX6_namedKind 27 = .ok (.aload_n 0, 1) := by decide +kernel
theorem dX6_namedKind_28 : decode cX6_namedKind 28 = .ok (.iload_n 1, 1) := by decide +kernel
theorem dX6_namedKind_29 : decode cX6_namedKind 29 = .ok (.iload_n 2, 1) := by decide +kernel
theorem dX6_namedKind_30 : decode cX6_namedKind 30 = .ok (.ldc 74, 2) := by decide +kernel
theorem dX6_namedKind_32 : decode cX6_namedKind 32 = .ok (.invokestatic 68, 3) := by decide +kernel
theorem dX6_namedKind_35 : decode cX6_namedKind 35 = .ok (.ifCond .eq 6, 3) := by decide +kernel
theorem dX6_namedKind_38 : decode cX6_namedKind 38 = .ok (.bipush 7, 2) := by decide +kernel
theorem dX6_namedKind_40 : decode cX6_namedKind 40 = .ok (.ireturn, 1) := by decide +kernel
theorem dX6_namedKind_41 : decode cX6_namedKind 41 = .ok (.aload_n 0, 1) := by decide +kernel
theorem dX6_namedKind_42 : decode cX6_namedKind 42 = .ok (.iload_n 1, 1) := by decide +kernel
theorem dX6_namedKind_43 : decode cX6_namedKind 43 = .ok (.iload_n 2, 1) := by decide +kernel
theorem dX6_namedKind_44 : decode cX6_namedKind 44 = .ok (.ldc 76, 2) := by decide +kernel
theorem dX6_namedKind_46 : decode cX6_namedKind 46 = .ok (.invokestatic 68, 3) := by decide +kernel
theorem dX6_namedKind_49 : decode cX6_namedKind 49 = .ok (.ifCond .eq 6, 3) := by decide +kernel
theorem dX6_namedKind_52 : decode cX6_namedKind 52 = .ok (.bipush 8, 2) := by decide +kernel
theorem dX6_namedKind_54 : decode cX6_namedKind 54 = .ok (.ireturn, 1) := by decide +kernel
theorem dX6_namedKind_55 : decode cX6_namedKind 55 = .ok (.aload_n 0, 1) := by decide +kernel
theorem dX6_namedKind_56 : decode cX6_namedKind 56 = .ok (.iload_n 1, 1) := by decide +kernel
theorem dX6_namedKind_57 : decode cX6_namedKind 57 = .ok (.iload_n 2, 1) := by decide +kernel
theorem dX6_namedKind_58 : decode cX6_namedKind 58 = .ok (.ldc 78, 2) := by decide +kernel
theorem dX6_namedKind_60 : decode cX6_namedKind 60 = .ok (.invokestatic 68, 3) := by decide +kernel
theorem dX6_namedKind_63 : decode cX6_namedKind 63 = .ok (.ifCond .eq 6, 3) := by decide +kernel
theorem dX6_namedKind_66 : decode cX6_namedKind 66 = .ok (.bipush 9, 2) := by decide +kernel
theorem dX6_namedKind_68 : decode cX6_namedKind 68 = .ok (.ireturn, 1) := by decide +kernel
theorem dX6_namedKind_69 : decode cX6_namedKind 69 = .ok (.aload_n 0, 1) := by decide +kernel
theorem dX6_namedKind_70 : decode cX6_namedKind 70 = .ok (.iload_n 1, 1) := by decide +kernel
theorem dX6_namedKind_71 : decode cX6_namedKind 71 = .ok (.iload_n 2, 1) := by decide +kernel
theorem dX6_namedKind_72 : decode cX6_namedKind 72 = .ok (.ldc 80, 2) := by decide +kernel
theorem dX6_namedKind_74 : decode cX6_namedKind 74 = .ok (.invokestatic 68, 3) := by decide +kernel
theorem dX6_namedKind_77 : decode cX6_namedKind 77 = .ok (.ifCond .eq 6, 3) := by decide +kernel
theorem dX6_namedKind_80 : decode cX6_namedKind 80 = .ok (.bipush 10, 2) := by decide +kernel
theorem dX6_namedKind_82 : decode cX6_namedKind 82 = .ok (.ireturn, 1) := by decide +kernel
theorem dX6_namedKind_83 : decode cX6_namedKind 83 = .ok (.aload_n 0, 1) := by decide +kernel
theorem dX6_namedKind_84 : decode cX6_namedKind 84 = .ok (.iload_n 1, 1) := by decide +kernel
theorem dX6_namedKind_85 : decode cX6_namedKind 85 = .ok (.iload_n 2, 1) := by decide +kernel
theorem dX6_namedKind_86 : decode cX6_namedKind 86 = .ok (.ldc 82, 2) := by decide +kernel
theorem dX6_namedKind_88 : decode cX6_namedKind 88 = .ok (.invokestatic 68, 3) := by decide +kernel
theorem dX6_namedKind_91 : decode cX6_namedKind 91 = .ok (.ifCond .eq 8, 3) := by decide +kernel
theorem dX6_namedKind_94 : decode cX6_namedKind 94 = .ok (.bipush 11, 2) := by decide +kernel
theorem dX6_namedKind_96 : decode cX6_namedKind 96 = .ok (.goto 4, 3) := by decide +kernel
theorem dX6_namedKind_99 : decode cX6_namedKind 99 = .ok (.iconst 1, 1) := by decide +kernel
theorem dX6_namedKind_100 : decode cX6_namedKind 100 = .ok (.ireturn, 1) := by decide +kernel
set_option maxRecDepth 20000 in
theorem ggX6_isWord_J0_length_8abf5 : GoodIn wsX6_isWord wsJ0_length_8abf5 := goodIn_q _ [(5, 5), (4, 1), (10, 3)] (by decide +kernel) (by decide +kernel)
set_option maxRecDepth 20000 in
theorem gX6_isWord_J0_length_8abf5 : GoodIn wsX6_isWord (wsV RX6 84 RJ0 yJ0_length_8abf5 wsJ0_length_8abf5) := goodIn_app (goodIn_of _ (by decide +kernel)) ggX6_isWord_J0_length_8abf5
set_option maxRecDepth 20000 in
theorem ggX6_isWord_X0_at : GoodIn wsX6_isWord wsX0_at := goodIn_q _ [(17, 3), (57, 3)] (by decide +kernel) (by decide +kernel)
set_option maxRecDepth 20000 in
theorem gX6_isWord_X0_at : GoodIn wsX6_isWord (wsV RX6 38 RX0 yX0_at wsX0_at) := goodIn_app (goodIn_of _ (by decide +kernel)) ggX6_isWord_X0_at
set_option maxRecDepth 20000 in
theorem ggX6_isWord_J0_charAt_5068e : GoodIn wsX6_isWord wsJ0_charAt_5068e := goodIn_q _ [(23, 1), (6, 1), (24, 3), (4, 1), (27, 1), (11, 2), (28, 29)] (by decide +kernel) (by decide +kernel)
set_option maxRecDepth 20000 in
theorem gX6_isWord_J0_charAt_5068e : GoodIn wsX6_isWord (wsV RX6 87 RJ0 yJ0_charAt_5068e wsJ0_charAt_5068e) := goodIn_app (goodIn_of _ (by decide +kernel)) ggX6_isWord_J0_charAt_5068e
theorem dX6_isWord_0 : decode cX6_isWord 0 = .ok (.iload_n 2, 1) := by decide +kernel
theorem dX6_isWord_1 : decode cX6_isWord 1 = .ok (.iload_n 1, 1) := by decide +kernel
theorem dX6_isWord_2 : decode cX6_isWord 2 = .ok (.isub, 1) := by decide +kernel
theorem dX6_isWord_3 : decode cX6_isWord 3 = .ok (.aload_n 3, 1) := by decide +kernel
theorem dX6_isWord_4 : decode cX6_isWord 4 = .ok (.invokevirtual 84, 3) := by decide +kernel
theorem dX6_isWord_7 : decode cX6_isWord 7 = .ok (.if_icmp .eq 5, 3) := by decide +kernel
theorem dX6_isWord_10 : decode cX6_isWord 10 = .ok (.iconst 0, 1) := by decide +kernel
theorem dX6_isWord_11 : decode cX6_isWord 11 = .ok (.ireturn, 1) := by decide +kernel
theorem dX6_isWord_12 : decode cX6_isWord 12 = .ok (.iconst 0, 1) := by decide +kernel
theorem dX6_isWord_13 : decode cX6_isWord 13 = .ok (.istore 4, 2) := by decide +kernel
theorem dX6_isWord_15 : decode cX6_isWord 15 = .ok (.iload 4, 2) := by decide +kernel
theorem dX6_isWord_17 : decode cX6_isWord 17 = .ok (.aload_n 3, 1) := by decide +kernel
theorem dX6_isWord_18 : decode cX6_isWord 18 = .ok (.invokevirtual 84, 3) := by decide +kernel
theorem dX6_isWord_21 : decode cX6_isWord 21 = .ok (.if_icmp .ge 28, 3) := by decide +kernel
theorem dX6_isWord_24 : decode cX6_isWord 24 = .ok (.aload_n 0, 1) := by decide +kernel
theorem dX6_isWord_25 : decode cX6_isWord 25 = .ok (.iload_n 1, 1) := by decide +kernel
theorem dX6_isWord_26 : decode cX6_isWord 26 = .ok (.iload 4, 2) := by decide +kernel
theorem dX6_isWord_28 : decode cX6_isWord 28 = .ok (.iadd, 1) := by decide +kernel
theorem dX6_isWord_29 : decode cX6_isWord 29 = .ok (.invokevirtual 38, 3) := by decide +kernel
theorem dX6_isWord_32 : decode cX6_isWord 32 = .ok (.aload_n 3, 1) := by decide +kernel
theorem dX6_isWord_33 : decode cX6_isWord 33 = .ok (.iload 4, 2) := by decide +kernel
theorem dX6_isWord_35 : decode cX6_isWord 35 = .ok (.invokevirtual 87, 3) := by decide +kernel
theorem dX6_isWord_38 : decode cX6_isWord 38 = .ok (.if_icmp .eq 5, 3) := by decide +kernel
theorem dX6_isWord_41 : decode cX6_isWord 41 = .ok (.iconst 0, 1) := by decide +kernel
theorem dX6_isWord_42 : decode cX6_isWord 42 = .ok (.ireturn, 1) := by decide +kernel
theorem dX6_isWord_43 : decode cX6_isWord 43 = .ok (.iinc 4 1, 3) := by decide +kernel
theorem dX6_isWord_46 : decode cX6_isWord 46 = .ok (.goto (-31), 3) := by decide +kernel
theorem dX6_isWord_49 : decode cX6_isWord 49 = .ok (.iconst 1, 1) := by decide +kernel
theorem dX6_isWord_50 : decode cX6_isWord 50 = .ok (.ireturn, 1) := by decide +kernel
set_option maxRecDepth 20000 in
theorem ggX6_numberedKind_X0_at : GoodIn wsX6_numberedKind wsX0_at := goodIn_q _ [(6, 3), (18, 3)] (by decide +kernel) (by decide +kernel)
set_option maxRecDepth 20000 in
theorem gX6_numberedKind_X0_at : GoodIn wsX6_numberedKind (wsV RX6 38 RX0 yX0_at wsX0_at) := goodIn_app (goodIn_of _ (by decide +kernel)) ggX6_numberedKind_X0_at
set_option maxRecDepth 20000 in
theorem ggX6_numberedKind_X6_numberIn : GoodIn wsX6_numberedKind wsX6_numberIn := goodIn_q _ [(12, 1), (2, 7), (18, 3)] (by decide +kernel) (by decide +kernel)
set_option maxRecDepth 20000 in
theorem gX6_numberedKind_X6_numberIn : GoodIn wsX6_numberedKind (va_wsS RX6 91 yX6_numberIn wsX6_numberIn) := goodIn_app (goodIn_of _ (by decide +kernel)) ggX6_numberedKind_X6_numberIn
theorem dX6_numberedKind_0 : decode cX6_numberedKind 0 = .ok (.bipush 14, 2) := by decide +kernel
theorem dX6_numberedKind_2 : decode cX6_numberedKind 2 = .ok (.istore 4, 2) := by decide +kernel
theorem dX6_numberedKind_4 : decode cX6_numberedKind 4 = .ok (.aload_n 1, 1) := by decide +kernel
theorem dX6_numberedKind_5 : decode cX6_numberedKind 5 = .ok (.iload_n 2, 1) := by decide +kernel
theorem dX6_numberedKind_6 : decode cX6_numberedKind 6 = .ok (.invokevirtual 38, 3) := by decide +kernel
theorem dX6_numberedKind_9 : decode cX6_numberedKind 9 = .ok (.bipush 97, 2) := by decide +kernel
theorem dX6_numberedKind_11 : decode cX6_numberedKind 11 = .ok (.if_icmp .ne 24, 3) := by decide +kernel
theorem dX6_numberedKind_14 : decode cX6_numberedKind 14 = .ok (.bipush 12, 2) := by decide +kernel
theorem dX6_numberedKind_16 : decode cX6_numberedKind 16 = .ok (.istore 4, 2) := by decide +kernel
theorem dX6_numberedKind_18 : decode cX6_numberedKind 18 = .ok (.aload_n 0, 1) := by decide +kernel
theorem dX6_numberedKind_19 : decode cX6_numberedKind 19 = .ok (.aload_n 1, 1) := by decide +kernel
theorem dX6_numberedKind_20 : decode cX6_numberedKind 20 = .ok (.iload_n 2, 1) := by decide +kernel
theorem dX6_numberedKind_21 : decode cX6_numberedKind 21 = .ok (.iconst 1, 1) := by decide +kernel
theorem dX6_numberedKind_22 : decode cX6_numberedKind 22 = .ok (.iadd, 1) := by decide +kernel
theorem dX6_numberedKind_23 : decode cX6_numberedKind 23 = .ok (.iload_n 3, 1) := by decide +kernel
theorem dX6_numberedKind_24 : decode cX6_numberedKind 24 = .ok (.bipush 31, 2) := by decide +kernel
theorem dX6_numberedKind_26 : decode cX6_numberedKind 26 = .ok (.invokestatic 91, 3) := by decide +kernel
theorem dX6_numberedKind_29 : decode cX6_numberedKind 29 = .ok (.putfield 57, 3) := by decide +kernel
theorem dX6_numberedKind_32 : decode cX6_numberedKind 32 = .ok (.goto 47, 3) := by decide +kernel
theorem dX6_numberedKind_35 : decode cX6_numberedKind 35 = .ok (.aload_n 1, 1) := by decide +kernel
theorem dX6_numberedKind_36 : decode cX6_numberedKind 36 = .ok (.iload_n 2, 1) := by decide +kernel
theorem dX6_numberedKind_37 : decode cX6_numberedKind 37 = .ok (.invokevirtual 38, 3) := by decide +kernel
theorem dX6_numberedKind_40 : decode cX6_numberedKind 40 = .ok (.bipush 99, 2) := by decide +kernel
theorem dX6_numberedKind_42 : decode cX6_numberedKind 42 = .ok (.if_icmp .ne 24, 3) := by decide +kernel
theorem dX6_numberedKind_45 : decode cX6_numberedKind 45 = .ok (.bipush 13, 2) := by decide +kernel
theorem dX6_numberedKind_47 : decode cX6_numberedKind 47 = .ok (.istore 4, 2) := by decide +kernel
theorem dX6_numberedKind_49 : decode cX6_numberedKind 49 = .ok (.aload_n 0, 1) := by decide +kernel
theorem dX6_numberedKind_50 : decode cX6_numberedKind 50 = .ok (.aload_n 1, 1) := by decide +kernel
theorem dX6_numberedKind_51 : decode cX6_numberedKind 51 = .ok (.iload_n 2, 1) := by decide +kernel
theorem dX6_numberedKind_52 : decode cX6_numberedKind 52 = .ok (.iconst 1, 1) := by decide +kernel
theorem dX6_numberedKind_53 : decode cX6_numberedKind 53 = .ok (.iadd, 1) := by decide +kernel
theorem dX6_numberedKind_54 : decode cX6_numberedKind 54 = .ok (.iload_n 3, 1) := by decide +kernel
theorem dX6_numberedKind_55 : decode cX6_numberedKind 55 = .ok (.bipush 15, 2) := by decide +kernel
theorem dX6_numberedKind_57 : decode cX6_numberedKind 57 = .ok (.invokestatic 91, 3) := by decide +kernel
theorem dX6_numberedKind_60 : decode cX6_numberedKind 60 = .ok (.putfield 57, 3) := by decide +kernel
theorem dX6_numberedKind_63 : decode cX6_numberedKind 63 = .ok (.goto 16, 3) := by decide +kernel
theorem dX6_numberedKind_66 : decode cX6_numberedKind 66 = .ok (.aload_n 0, 1) := by decide +kernel
theorem dX6_numberedKind_67 : decode cX6_numberedKind 67 = .ok (.aload_n 1, 1) := by decide +kernel
theorem dX6_numberedKind_68 : decode cX6_numberedKind 68 = .ok (.iload_n 2, 1) := by decide +kernel
theorem dX6_numberedKind_69 : decode cX6_numberedKind 69 = .ok (.iload_n 3, 1) := by decide +kernel
theorem dX6_numberedKind_70 : decode cX6_numberedKind 70 = .ok (.sipush 3600, 3) := by decide +kernel
theorem dX6_numberedKind_73 : decode cX6_numberedKind 73 = .ok (.invokestatic 91, 3) := by decide +kernel
theorem dX6_numberedKind_76 : decode cX6_numberedKind 76 = .ok (.putfield 57, 3) := by decide +kernel
theorem dX6_numberedKind_79 : decode cX6_numberedKind 79 = .ok (.aload_n 0, 1) := by decide +kernel
theorem dX6_numberedKind_80 : decode cX6_numberedKind 80 = .ok (.getfield 57, 3) := by decide +kernel
theorem dX6_numberedKind_83 : decode cX6_numberedKind 83 = .ok (.iconst (-1), 1) := by decide +kernel
theorem dX6_numberedKind_84 : decode cX6_numberedKind 84 = .ok (.if_icmp .ne 7, 3) := by decide +kernel
theorem dX6_numberedKind_87 : decode cX6_numberedKind 87 = .ok (.iconst 1, 1) := by decide +kernel
theorem dX6_numberedKind_88 : decode cX6_numberedKind 88 = .ok (.goto 5, 3) := by decide +kernel
theorem dX6_numberedKind_91 : decode cX6_numberedKind 91 = .ok (.iload 4, 2) := by decide +kernel
theorem dX6_numberedKind_93 : decode cX6_numberedKind 93 = .ok (.ireturn, 1) := by decide +kernel
set_option maxRecDepth 20000 in
theorem ggX6_numberIn_X0_at : GoodIn wsX6_numberIn wsX0_at := goodIn_q _ [(5, 6)] (by decide +kernel) (by decide +kernel)
set_option maxRecDepth 20000 in
theorem gX6_numberIn_X0_at : GoodIn wsX6_numberIn (wsV RX6 38 RX0 yX0_at wsX0_at) := goodIn_app (goodIn_of _ (by decide +kernel)) ggX6_numberIn_X0_at
theorem dX6_numberIn_0 : decode cX6_numberIn 0 = .ok (.iload_n 1, 1) := by decide +kernel
theorem dX6_numberIn_1 : decode cX6_numberIn 1 = .ok (.iload_n 2, 1) := by decide +kernel
theorem dX6_numberIn_2 : decode cX6_numberIn 2 = .ok (.if_icmp .ge 20, 3) := by decide +kernel
theorem dX6_numberIn_5 : decode cX6_numberIn 5 = .ok (.aload_n 0, 1) := by decide +kernel
theorem dX6_numberIn_6 : decode cX6_numberIn 6 = .ok (.iload_n 1, 1) := by decide +kernel
theorem dX6_numberIn_7 : decode cX6_numberIn 7 = .ok (.invokevirtual 38, 3) := by decide +kernel
theorem dX6_numberIn_10 : decode cX6_numberIn 10 = .ok (.bipush 48, 2) := by decide +kernel
theorem dX6_numberIn_12 : decode cX6_numberIn 12 = .ok (.if_icmp .ne 12, 3) := by decide +kernel
theorem dX6_numberIn_15 : decode cX6_numberIn 15 = .ok (.iload_n 2, 1) := by decide +kernel
theorem dX6_numberIn_16 : decode cX6_numberIn 16 = .ok (.iload_n 1, 1) := by decide +kernel
theorem dX6_numberIn_17 : decode cX6_numberIn 17 = .ok (.isub, 1) := by decide +kernel
theorem dX6_numberIn_18 : decode cX6_numberIn 18 = .ok (.iconst 1, 1) := by decide +kernel
theorem dX6_numberIn_19 : decode cX6_numberIn 19 = .ok (.if_icmp .le 5, 3) := by decide +kernel
theorem dX6_numberIn_22 : decode cX6_numberIn 22 = .ok (.iconst (-1), 1) := by decide +kernel
theorem dX6_numberIn_23 : decode cX6_numberIn 23 = .ok (.ireturn, 1) := by decide +kernel
theorem dX6_numberIn_24 : decode cX6_numberIn 24 = .ok (.iconst 0, 1) := by decide +kernel
theorem dX6_numberIn_25 : decode cX6_numberIn 25 = .ok (.istore 4, 2) := by decide +kernel
theorem dX6_numberIn_27 : decode cX6_numberIn 27 = .ok (.iload_n 1, 1) := by decide +kernel
theorem dX6_numberIn_28 : decode cX6_numberIn 28 = .ok (.istore 5, 2) := by decide +kernel
theorem dX6_numberIn_30 : decode cX6_numberIn 30 = .ok (.iload 5, 2) := by decide +kernel
theorem dX6_numberIn_32 : decode cX6_numberIn 32 = .ok (.iload_n 2, 1) := by decide +kernel
theorem dX6_numberIn_33 : decode cX6_numberIn 33 = .ok (.if_icmp .ge 52, 3) := by decide +kernel
theorem dX6_numberIn_36 : decode cX6_numberIn 36 = .ok (.aload_n 0, 1) := by decide +kernel
theorem dX6_numberIn_37 : decode cX6_numberIn 37 = .ok (.iload 5, 2) := by decide +kernel
theorem dX6_numberIn_39 : decode cX6_numberIn 39 = .ok (.invokevirtual 38, 3) := by decide +kernel
theorem dX6_numberIn_42 : decode cX6_numberIn 42 = .ok (.bipush 48, 2) := by decide +kernel
theorem dX6_numberIn_44 : decode cX6_numberIn 44 = .ok (.isub, 1) := by decide +kernel
theorem dX6_numberIn_45 : decode cX6_numberIn 45 = .ok (.istore 6, 2) := by decide +kernel
theorem dX6_numberIn_47 : decode cX6_numberIn 47 = .ok (.iload 6, 2) := by decide +kernel
theorem dX6_numberIn_49 : decode cX6_numberIn 49 = .ok (.ifCond .lt 10, 3) := by decide +kernel
theorem dX6_numberIn_52 : decode cX6_numberIn 52 = .ok (.iload 6, 2) := by decide +kernel
theorem dX6_numberIn_54 : decode cX6_numberIn 54 = .ok (.bipush 9, 2) := by decide +kernel
theorem dX6_numberIn_56 : decode cX6_numberIn 56 = .ok (.if_icmp .le 5, 3) := by decide +kernel
theorem dX6_numberIn_59 : decode cX6_numberIn 59 = .ok (.iconst (-1), 1) := by decide +kernel
theorem dX6_numberIn_60 : decode cX6_numberIn 60 = .ok (.ireturn, 1) := by decide +kernel
theorem dX6_numberIn_61 : decode cX6_numberIn 61 = .ok (.bipush 10, 2) := by decide +kernel
theorem dX6_numberIn_63 : decode cX6_numberIn 63 = .ok (.iload 4, 2) := by decide +kernel
theorem dX6_numberIn_65 : decode cX6_numberIn 65 = .ok (.imul, 1) := by decide +kernel
theorem dX6_numberIn_66 : decode cX6_numberIn 66 = .ok (.iload 6, 2) := by decide +kernel
theorem dX6_numberIn_68 : decode cX6_numberIn 68 = .ok (.iadd, 1) := by decide +kernel
theorem dX6_numberIn_69 : decode cX6_numberIn 69 = .ok (.istore 4, 2) := by decide +kernel
theorem dX6_numberIn_71 : decode cX6_numberIn 71 = .ok (.iload 4, 2) := by decide +kernel
theorem dX6_numberIn_73 : decode cX6_numberIn 73 = .ok (.iload_n 3, 1) := by decide +kernel
theorem dX6_numberIn_74 : decode cX6_numberIn 74 = .ok (.if_icmp .le 5, 3) := by decide +kernel
theorem dX6_numberIn_77 : decode cX6_numberIn 77 = .ok (.iconst (-1), 1) := by decide +kernel
theorem dX6_numberIn_78 : decode cX6_numberIn 78 = .ok (.ireturn, 1) := by decide +kernel
theorem dX6_numberIn_79 : decode cX6_numberIn 79 = .ok (.iinc 5 1, 3) := by decide +kernel
theorem dX6_numberIn_82 : decode cX6_numberIn 82 = .ok (.goto (-52), 3) := by decide +kernel
theorem dX6_numberIn_85 : decode cX6_numberIn 85 = .ok (.iload 4, 2) := by decide +kernel
theorem dX6_numberIn_87 : decode cX6_numberIn 87 = .ok (.ireturn, 1) := by decide +kernel
set_option maxRecDepth 20000 in
theorem ggX7_init_X0_init : GoodIn wsX7_init wsX0_init := goodIn_q _ [(11, 2), (2, 2), (13, 7)] (by decide +kernel) (by decide +kernel)
set_option maxRecDepth 20000 in
theorem gX7_init_X0_init : GoodIn wsX7_init (wsX0_init) := ggX7_init_X0_init
theorem dX7_init_0 : decode cX7_init 0 = .ok (.aload_n 0, 1) := by decide +kernel
theorem dX7_init_1 : decode cX7_init 1 = .ok (.invokespecial 3, 3) := by decide +kernel
theorem dX7_init_4 : decode cX7_init 4 = .ok (.aload_n 0, 1) := by decide +kernel
theorem dX7_init_5 : decode cX7_init 5 = .ok (.new 9, 3) := by decide +kernel
theorem dX7_init_8 : decode cX7_init 8 = .ok (.dup, 1) := by decide +kernel
theorem dX7_init_9 : decode cX7_init 9 = .ok (.sipush 6000, 3) := by decide +kernel
theorem dX7_init_12 : decode cX7_init 12 = .ok (.invokespecial 11, 3) := by decide +kernel
theorem dX7_init_15 : decode cX7_init 15 = .ok (.putfield 14, 3) := by decide +kernel
theorem dX7_init_18 : decode cX7_init 18 = .ok (.aload_n 0, 1) := by decide +kernel
theorem dX7_init_19 : decode cX7_init 19 = .ok (.aload_n 1, 1) := by decide +kernel
theorem dX7_init_20 : decode cX7_init 20 = .ok (.putfield 20, 3) := by decide +kernel
theorem dX7_init_23 : decode cX7_init 23 = .ok (.return_, 1) := by decide +kernel
set_option maxRecDepth 20000 in
theorem ggX7_putRow_X7_putWord : GoodIn wsX7_putRow wsX7_putWord := goodIn_q _ [(7, 1), (2, 1), (1, 1), (8, 76), (136, 6)] (by decide +kernel) (by decide +kernel)
set_option maxRecDepth 20000 in
theorem gX7_putRow_X7_putWord : GoodIn wsX7_putRow (wsV RX7 26 RX7 yX7_putWord wsX7_putWord) := goodIn_app (goodIn_of _ (by decide +kernel)) ggX7_putRow_X7_putWord
set_option maxRecDepth 20000 in
theorem ggX7_putRow_X3_actAt : GoodIn wsX7_putRow wsX3_actAt := goodIn_q _ [(88, 3), (123, 13)] (by decide +kernel) (by decide +kernel)
set_option maxRecDepth 20000 in
theorem gX7_putRow_X3_actAt : GoodIn wsX7_putRow (wsV RX7 38 RX3 yX3_actAt wsX3_actAt) := goodIn_app (goodIn_of _ (by decide +kernel)) ggX7_putRow_X3_actAt
set_option maxRecDepth 20000 in
theorem ggX7_putRow_X7_putDigits : GoodIn wsX7_putRow wsX7_putDigits := goodIn_q _ [(94, 1), (1, 1), (8, 27), (136, 6)] (by decide +kernel) (by decide +kernel)
set_option maxRecDepth 20000 in
theorem gX7_putRow_X7_putDigits : GoodIn wsX7_putRow (wsV RX7 42 RX7 yX7_putDigits wsX7_putDigits) := goodIn_app (goodIn_of _ (by decide +kernel)) ggX7_putRow_X7_putDigits
set_option maxRecDepth 20000 in
theorem ggX7_putRow_X7_putExpression : GoodIn wsX7_putRow wsX7_putExpression := goodIn_q _ [(98, 1), (2, 1), (99, 1), (1, 1), (3, 81), (100, 15), (95, 3), (115, 8), (91, 4), (136, 9)] (by decide +kernel) (by decide +kernel)
set_option maxRecDepth 20000 in
theorem gX7_putRow_X7_putExpression : GoodIn wsX7_putRow (wsV RX7 50 RX7 yX7_putExpression wsX7_putExpression) := goodIn_app (goodIn_of _ (by decide +kernel)) ggX7_putRow_X7_putExpression
set_option maxRecDepth 20000 in
theorem ggX7_putRow_X0_add : GoodIn wsX7_putRow wsX0_add := goodIn_q _ [(12, 23), (139, 3)] (by decide +kernel) (by decide +kernel)
set_option maxRecDepth 20000 in
theorem gX7_putRow_X0_add : GoodIn wsX7_putRow (wsV RX7 70 RX0 yX0_add wsX0_add) := goodIn_app (goodIn_of _ (by decide +kernel)) ggX7_putRow_X0_add
theorem dX7_putRow_0 : decode cX7_putRow 0 = .ok (.aload_n 0, 1) := by decide +kernel
theorem dX7_putRow_1 : decode cX7_putRow 1 = .ok (.ldc 24, 2) := by decide +kernel
theorem dX7_putRow_3 : decode cX7_putRow 3 = .ok (.invokevirtual 26, 3) := by decide +kernel
theorem dX7_putRow_6 : decode cX7_putRow 6 = .ok (.iconst 0, 1) := by decide +kernel
theorem dX7_putRow_7 : decode cX7_putRow 7 = .ok (.istore_n 2, 1) := by decide +kernel
theorem dX7_putRow_8 : decode cX7_putRow 8 = .ok (.iload_n 2, 1) := by decide +kernel
theorem dX7_putRow_9 : decode cX7_putRow 9 = .ok (.aload_n 1, 1) := by decide +kernel
theorem dX7_putRow_10 : decode cX7_putRow 10 = .ok (.getfield 30, 3) := by decide +kernel
theorem dX7_putRow_13 : decode cX7_putRow 13 = .ok (.if_icmp .ge 24, 3) := by decide +kernel
theorem dX7_putRow_16 : decode cX7_putRow 16 = .ok (.aload_n 0, 1) := by decide +kernel
theorem dX7_putRow_17 : decode cX7_putRow 17 = .ok (.ldc 36, 2) := by decide +kernel
theorem dX7_putRow_19 : decode cX7_putRow 19 = .ok (.invokevirtual 26, 3) := by decide +kernel
theorem dX7_putRow_22 : decode cX7_putRow 22 = .ok (.aload_n 0, 1) := by decide +kernel
theorem dX7_putRow_23 : decode cX7_putRow 23 = .ok (.aload_n 1, 1) := by decide +kernel
theorem dX7_putRow_24 : decode cX7_putRow 24 = .ok (.iload_n 2, 1) := by decide +kernel
theorem dX7_putRow_25 : decode cX7_putRow 25 = .ok (.invokevirtual 38, 3) := by decide +kernel
theorem dX7_putRow_28 : decode cX7_putRow 28 = .ok (.invokevirtual 42, 3) := by decide +kernel
theorem dX7_putRow_31 : decode cX7_putRow 31 = .ok (.iinc 2 1, 3) := by decide +kernel
theorem dX7_putRow_34 : decode cX7_putRow 34 = .ok (.goto (-26), 3) := by decide +kernel
theorem dX7_putRow_37 : decode cX7_putRow 37 = .ok (.aload_n 0, 1) := by decide +kernel
theorem dX7_putRow_38 : decode cX7_putRow 38 = .ok (.ldc 45, 2) := by decide +kernel
theorem dX7_putRow_40 : decode cX7_putRow 40 = .ok (.invokevirtual 26, 3) := by decide +kernel
theorem dX7_putRow_43 : decode cX7_putRow 43 = .ok (.aload_n 0, 1) := by decide +kernel
theorem dX7_putRow_44 : decode cX7_putRow 44 = .ok (.aload_n 1, 1) := by decide +kernel
theorem dX7_putRow_45 : decode cX7_putRow 45 = .ok (.getfield 47, 3) := by decide +kernel
theorem dX7_putRow_48 : decode cX7_putRow 48 = .ok (.iconst 1, 1) := by decide +kernel
theorem dX7_putRow_49 : decode cX7_putRow 49 = .ok (.isub, 1) := by decide +kernel
theorem dX7_putRow_50 : decode cX7_putRow 50 = .ok (.iconst 0, 1) := by decide +kernel
theorem dX7_putRow_51 : decode cX7_putRow 51 = .ok (.iconst 0, 1) := by decide +kernel
theorem dX7_putRow_52 : decode cX7_putRow 52 = .ok (.invokevirtual 50, 3) := by decide +kernel
theorem dX7_putRow_55 : decode cX7_putRow 55 = .ok (.aload_n 1, 1) := by decide +kernel
theorem dX7_putRow_56 : decode cX7_putRow 56 = .ok (.getfield 54, 3) := by decide +kernel
theorem dX7_putRow_59 : decode cX7_putRow 59 = .ok (.ifCond .eq 23, 3) := by decide +kernel
theorem dX7_putRow_62 : decode cX7_putRow 62 = .ok (.aload_n 0, 1) := by decide +kernel
theorem dX7_putRow_63 : decode cX7_putRow 63 = .ok (.ldc 58, 2) := by decide +kernel
theorem dX7_putRow_65 : decode cX7_putRow 65 = .ok (.invokevirtual 26, 3) := by decide +kernel
theorem dX7_putRow_68 : decode cX7_putRow 68 = .ok (.aload_n 0, 1) := by decide +kernel
theorem dX7_putRow_69 : decode cX7_putRow 69 = .ok (.ldc 60, 2) := by decide +kernel
theorem dX7_putRow_71 : decode cX7_putRow 71 = .ok (.invokevirtual 26, 3) := by decide +kernel
theorem dX7_putRow_74 : decode cX7_putRow 74 = .ok (.aload_n 0, 1) := by decide +kernel
theorem dX7_putRow_75 : decode cX7_putRow 75 = .ok (.aload_n 1, 1) := by decide +kernel
theorem dX7_putRow_76 : decode cX7_putRow 76 = .ok (.getfield 62, 3) := by decide +kernel
theorem dX7_putRow_79 : decode cX7_putRow 79 = .ok (.invokevirtual 42, 3) := by decide +kernel
theorem dX7_putRow_82 : decode cX7_putRow 82 = .ok (.aload_n 1, 1) := by decide +kernel
theorem dX7_putRow_83 : decode cX7_putRow 83 = .ok (.getfield 65, 3) := by decide +kernel
theorem dX7_putRow_86 : decode cX7_putRow 86 = .ok (.ifCond .eq 9, 3) := by decide +kernel
theorem dX7_putRow_89 : decode cX7_putRow 89 = .ok (.aload_n 0, 1) := by decide +kernel
theorem dX7_putRow_90 : decode cX7_putRow 90 = .ok (.ldc 68, 2) := by decide +kernel
theorem dX7_putRow_92 : decode cX7_putRow 92 = .ok (.invokevirtual 26, 3) := by decide +kernel
theorem dX7_putRow_95 : decode cX7_putRow 95 = .ok (.aload_n 0, 1) := by decide +kernel
theorem dX7_putRow_96 : decode cX7_putRow 96 = .ok (.getfield 14, 3) := by decide +kernel
theorem dX7_putRow_99 : decode cX7_putRow 99 = .ok (.bipush 59, 2) := by decide +kernel
theorem dX7_putRow_101 : decode cX7_putRow 101 = .ok (.invokevirtual 70, 3) := by decide +kernel
theorem dX7_putRow_104 : decode cX7_putRow 104 = .ok (.pop, 1) := by decide +kernel
theorem dX7_putRow_105 : decode cX7_putRow 105 = .ok (.aload_n 0, 1) := by decide +kernel
theorem dX7_putRow_106 : decode cX7_putRow 106 = .ok (.getfield 14, 3) := by decide +kernel
theorem dX7_putRow_109 : decode cX7_putRow 109 = .ok (.bipush 10, 2) := by decide +kernel
theorem dX7_putRow_111 : decode cX7_putRow 111 = .ok (.invokevirtual 70, 3) := by decide +kernel
theorem dX7_putRow_114 : decode cX7_putRow 114 = .ok (.pop, 1) := by decide +kernel
theorem dX7_putRow_115 : decode cX7_putRow 115 = .ok (.aload_n 0, 1) := by decide +kernel
theorem dX7_putRow_116 : decode cX7_putRow 116 = .ok (.iconst 0, 1) := by decide +kernel
theorem dX7_putRow_117 : decode cX7_putRow 117 = .ok (.putfield 74, 3) := by decide +kernel
theorem dX7_putRow_120 : decode cX7_putRow 120 = .ok (.return_, 1) := by decide +kernel
set_option maxRecDepth 20000 in
theorem ggX7_putExpression_X7_putWord : GoodIn wsX7_putExpression wsX7_putWord := goodIn_q _ [(8, 1), (1, 1), (3, 1), (9, 76), (115, 6)] (by decide +kernel) (by decide +kernel)
set_option maxRecDepth 20000 in
theorem gX7_putExpression_X7_putWord : GoodIn wsX7_putExpression (wsV RX7 26 RX7 yX7_putWord wsX7_putWord) := goodIn_app (goodIn_of _ (by decide +kernel)) ggX7_putExpression_X7_putWord
set_option maxRecDepth 20000 in
theorem ggX7_putExpression_X1_at : GoodIn wsX7_putExpression wsX1_at := goodIn_q _ [(89, 3), (121, 3)] (by decide +kernel) (by decide +kernel)
set_option maxRecDepth 20000 in
theorem gX7_putExpression_X1_at : GoodIn wsX7_putExpression (wsV RX7 79 RX1 yX1_at wsX1_at) := goodIn_app (goodIn_of _ (by decide +kernel)) ggX7_putExpression_X1_at
set_option maxRecDepth 20000 in
theorem ggX7_putExpression_X7_isJoin : GoodIn wsX7_putExpression wsX7_isJoin := goodIn_q _ [(95, 1), (2, 1), (85, 7), (96, 3), (7, 1), (99, 1), (115, 3), (121, 3)] (by decide +kernel) (by decide +kernel)
set_option maxRecDepth 20000 in
theorem gX7_putExpression_X7_isJoin : GoodIn wsX7_putExpression (wsV RX7 86 RX7 yX7_isJoin wsX7_isJoin) := goodIn_app (goodIn_of _ (by decide +kernel)) ggX7_putExpression_X7_isJoin
set_option maxRecDepth 20000 in
theorem ggX7_putExpression_X7_putExpression : GoodIn wsX7_putExpression wsX7_putExpression := goodIn_q _ [(0, 124)] (by decide +kernel) (by decide +kernel)
set_option maxRecDepth 20000 in
theorem gX7_putExpression_X7_putExpression : GoodIn wsX7_putExpression (wsV RX7 50 RX7 yX7_putExpression wsX7_putExpression) := goodIn_app (goodIn_of _ (by decide +kernel)) ggX7_putExpression_X7_putExpression
set_option maxRecDepth 20000 in
theorem ggX7_putExpression_X1_leftOf : GoodIn wsX7_putExpression wsX1_leftOf := goodIn_q _ [(106, 2), (86, 6), (108, 3), (121, 3)] (by decide +kernel) (by decide +kernel)
set_option maxRecDepth 20000 in
theorem gX7_putExpression_X1_leftOf : GoodIn wsX7_putExpression (wsV RX7 89 RX1 yX1_leftOf wsX1_leftOf) := goodIn_app (goodIn_of _ (by decide +kernel)) ggX7_putExpression_X1_leftOf
set_option maxRecDepth 20000 in
theorem ggX7_putExpression_X7_isOr : GoodIn wsX7_putExpression wsX7_isOr := goodIn_q _ [(99, 1), (2, 1), (85, 7), (115, 3), (121, 3)] (by decide +kernel) (by decide +kernel)
set_option maxRecDepth 20000 in
theorem gX7_putExpression_X7_isOr : GoodIn wsX7_putExpression (wsV RX7 92 RX7 yX7_isOr wsX7_isOr) := goodIn_app (goodIn_of _ (by decide +kernel)) ggX7_putExpression_X7_isOr
set_option maxRecDepth 20000 in
theorem ggX7_putExpression_X7_putDigits : GoodIn wsX7_putExpression wsX7_putDigits := goodIn_q _ [(114, 1), (3, 1), (9, 27), (115, 6)] (by decide +kernel) (by decide +kernel)
set_option maxRecDepth 20000 in
theorem gX7_putExpression_X7_putDigits : GoodIn wsX7_putExpression (wsV RX7 42 RX7 yX7_putDigits wsX7_putDigits) := goodIn_app (goodIn_of _ (by decide +kernel)) ggX7_putExpression_X7_putDigits
set_option maxRecDepth 20000 in
theorem ggX7_putExpression_X0_add : GoodIn wsX7_putExpression wsX0_add := goodIn_q _ [(13, 23), (118, 3)] (by decide +kernel) (by decide +kernel)
set_option maxRecDepth 20000 in
theorem gX7_putExpression_X0_add : GoodIn wsX7_putExpression (wsV RX7 70 RX0 yX0_add wsX0_add) := goodIn_app (goodIn_of _ (by decide +kernel)) ggX7_putExpression_X0_add
theorem dX7_putExpression_0 : decode cX7_putExpression 0 = .ok (.iload_n 3, 1) := by decide +kernel
theorem dX7_putExpression_1 : decode cX7_putExpression 1 = .ok (.bipush 52, 2) := by decide +kernel
theorem dX7_putExpression_3 : decode cX7_putExpression 3 = .ok (.if_icmp .le 4, 3) := by decide +kernel
theorem dX7_putExpression_6 : decode cX7_putExpression 6 = .ok (.return_, 1) := by decide +kernel
theorem dX7_putExpression_7 : decode cX7_putExpression 7 = .ok (.iload_n 2, 1) := by decide +kernel
theorem dX7_putExpression_8 : decode cX7_putExpression 8 = .ok (.ifCond .eq 14, 3) := by decide +kernel
theorem dX7_putExpression_11 : decode cX7_putExpression 11 = .ok (.aload_n 0, 1) := by decide +kernel
theorem dX7_putExpression_12 : decode cX7_putExpression 12 = .ok (.ldc 77, 2) := by decide +kernel
theorem dX7_putExpression_14 : decode cX7_putExpression 14 = .ok (.invokevirtual 26, 3) := by decide +kernel
theorem dX7_putExpression_17 : decode cX7_putExpression 17 = .ok (.aload_n 0, 1) := by decide +kernel
theorem dX7_putExpression_18 : decode cX7_putExpression 18 = .ok (.iconst 0, 1) := by decide +kernel
theorem dX7_putExpression_19 : decode cX7_putExpression 19 = .ok (.putfield 74, 3) := by decide +kernel
theorem dX7_putExpression_22 : decode cX7_putExpression 22 = .ok (.aload_n 0, 1) := by decide +kernel
theorem dX7_putExpression_23 : decode cX7_putExpression 23 = .ok (.getfield 20, 3) := by decide +kernel
theorem dX7_putExpression_26 : decode cX7_putExpression 26 = .ok (.iload_n 1, 1) := by decide +kernel
theorem dX7_putExpression_27 : decode cX7_putExpression 27 = .ok (.invokevirtual 79, 3) := by decide +kernel
theorem dX7_putExpression_30 : decode cX7_putExpression 30 = .ok (.istore 4, 2) := by decide +kernel
theorem dX7_putExpression_32 : decode cX7_putExpression 32 = .ok (.iload 4, 2) := by decide +kernel
theorem dX7_putExpression_34 : decode cX7_putExpression 34 = .ok (.bipush 16, 2) := by decide +kernel
theorem dX7_putExpression_36 : decode cX7_putExpression 36 = .ok (.if_icmp .ne 29, 3) := by decide +kernel
theorem dX7_putExpression_39 : decode cX7_putExpression 39 = .ok (.aload_n 0, 1) := by decide +kernel
theorem dX7_putExpression_40 : decode cX7_putExpression 40 = .ok (.ldc 84, 2) := by decide +kernel
theorem dX7_putExpression_42 : decode cX7_putExpression 42 = .ok (.invokevirtual 26, 3) := by decide +kernel
theorem dX7_putExpression_45 : decode cX7_putExpression 45 = .ok (.aload_n 0, 1) := by decide +kernel
theorem dX7_putExpression_46 : decode cX7_putExpression 46 = .ok (.iload_n 1, 1) := by decide +kernel
theorem dX7_putExpression_47 : decode cX7_putExpression 47 = .ok (.iconst 1, 1) := by decide +kernel
theorem dX7_putExpression_48 : decode cX7_putExpression 48 = .ok (.isub, 1) := by decide +kernel
theorem dX7_putExpression_49 : decode cX7_putExpression 49 = .ok (.aload_n 0, 1) := by decide +kernel
theorem dX7_putExpression_50 : decode cX7_putExpression 50 = .ok (.iload_n 1, 1) := by decide +kernel
theorem dX7_putExpression_51 : decode cX7_putExpression 51 = .ok (.iconst 1, 1) := by decide +kernel
theorem dX7_putExpression_52 : decode cX7_putExpression 52 = .ok (.isub, 1) := by decide +kernel
theorem dX7_putExpression_53 : decode cX7_putExpression 53 = .ok (.invokevirtual 86, 3) := by decide +kernel
theorem dX7_putExpression_56 : decode cX7_putExpression 56 = .ok (.iload_n 3, 1) := by decide +kernel
theorem dX7_putExpression_57 : decode cX7_putExpression 57 = .ok (.iconst 1, 1) := by decide +kernel
theorem dX7_putExpression_58 : decode cX7_putExpression 58 = .ok (.iadd, 1) := by decide +kernel
theorem dX7_putExpression_59 : decode cX7_putExpression 59 = .ok (.invokevirtual 50, 3) := by decide +kernel
theorem dX7_putExpression_62 : decode cX7_putExpression 62 = .ok (.goto 124, 3) := by decide +kernel
theorem dX7_putExpression_65 : decode cX7_putExpression 65 = .ok (.aload_n 0, 1) := by decide +kernel
theorem dX7_putExpression_66 : decode cX7_putExpression 66 = .ok (.iload_n 1, 1) := by decide +kernel
theorem dX7_putExpression_67 : decode cX7_putExpression 67 = .ok (.invokevirtual 86, 3) := by decide +kernel
theorem dX7_putExpression_70 : decode cX7_putExpression 70 = .ok (.ifCond .eq 104, 3) := by decide +kernel
theorem dX7_putExpression_73 : decode cX7_putExpression 73 = .ok (.iload 4, 2) := by decide +kernel
theorem dX7_putExpression_75 : decode cX7_putExpression 75 = .ok (.bipush 17, 2) := by decide +kernel
theorem dX7_putExpression_77 : decode cX7_putExpression 77 = .ok (.if_icmp .ne 7, 3) := by decide +kernel
theorem dX7_putExpression_80 : decode cX7_putExpression 80 = .ok (.iconst 1, 1) := by decide +kernel
theorem dX7_putExpression_81 : decode cX7_putExpression 81 = .ok (.goto 4, 3) := by decide +kernel
theorem dX7_putExpression_84 : decode cX7_putExpression 84 = .ok (.iconst 0, 1) := by decide +kernel
theorem dX7_putExpression_85 : decode cX7_putExpression 85 = .ok (.istore 5, 2) := by decide +kernel
theorem dX7_putExpression_87 : decode cX7_putExpression 87 = .ok (.aload_n 0, 1) := by decide +kernel
theorem dX7_putExpression_88 : decode cX7_putExpression 88 = .ok (.getfield 20, 3) := by decide +kernel
theorem dX7_putExpression_91 : decode cX7_putExpression 91 = .ok (.iload_n 1, 1) := by decide +kernel
theorem dX7_putExpression_92 : decode cX7_putExpression 92 = .ok (.invokevirtual 89, 3) := by decide +kernel
theorem dX7_putExpression_95 : decode cX7_putExpression 95 = .ok (.istore 6, 2) := by decide +kernel
theorem dX7_putExpression_97 : decode cX7_putExpression 97 = .ok (.aload_n 0, 1) := by decide +kernel
theorem dX7_putExpression_98 : decode cX7_putExpression 98 = .ok (.iload 6, 2) := by decide +kernel
theorem dX7_putExpression_100 : decode cX7_putExpression 100 = .ok (.iload 5, 2) := by decide +kernel
theorem dX7_putExpression_102 : decode cX7_putExpression 102 = .ok (.ifCond .eq 16, 3) := by decide +kernel
theorem dX7_putExpression_105 : decode cX7_putExpression 105 = .ok (.aload_n 0, 1) := by decide +kernel
theorem dX7_putExpression_106 : decode cX7_putExpression 106 = .ok (.iload 6, 2) := by decide +kernel
theorem dX7_putExpression_108 : decode cX7_putExpression 108 = .ok (.invokevirtual 92, 3) := by decide +kernel
theorem dX7_putExpression_111 : decode cX7_putExpression 111 = .ok (.ifCond .eq 7, 3) := by decide +kernel
theorem dX7_putExpression_114 : decode cX7_putExpression 114 = .ok (.iconst 1, 1) := by decide +kernel
theorem dX7_putExpression_115 : decode cX7_putExpression 115 = .ok (.goto 4, 3) := by decide +kernel
theorem dX7_putExpression_118 : decode cX7_putExpression 118 = .ok (.iconst 0, 1) := by decide +kernel
theorem dX7_putExpression_119 : decode cX7_putExpression 119 = .ok (.iload_n 3, 1) := by decide +kernel
theorem dX7_putExpression_120 : decode cX7_putExpression 120 = .ok (.iconst 1, 1) := by decide +kernel
theorem dX7_putExpression_121 : decode cX7_putExpression 121 = .ok (.iadd, 1) := by decide +kernel
theorem dX7_putExpression_122 : decode cX7_putExpression 122 = .ok (.invokevirtual 50, 3) := by decide +kernel
theorem dX7_putExpression_125 : decode cX7_putExpression 125 = .ok (.aload_n 0, 1) := by decide +kernel
theorem dX7_putExpression_126 : decode cX7_putExpression 126 = .ok (.iload 5, 2) := by decide +kernel
theorem dX7_putExpression_128 : decode cX7_putExpression 128 = .ok (.ifCond .eq 8, 3) := by decide +kernel
theorem dX7_putExpression_131 : decode cX7_putExpression 131 = .ok (.ldc 95, 2) := by decide +kernel
theorem dX7_putExpression_133 : decode cX7_putExpression 133 = .ok (.goto 5, 3) := by decide +kernel
theorem dX7_putExpression_136 : decode cX7_putExpression 136 = .ok (.ldc 97, 2) := by decide +kernel
theorem dX7_putExpression_138 : decode cX7_putExpression 138 = .ok (.invokevirtual 26, 3) := by decide +kernel
theorem dX7_putExpression_141 : decode cX7_putExpression 141 = .ok (.aload_n 0, 1) := by decide +kernel
theorem dX7_putExpression_142 : decode cX7_putExpression 142 = .ok (.iload_n 1, 1) := by decide +kernel
theorem dX7_putExpression_143 : decode cX7_putExpression 143 = .ok (.iconst 1, 1) := by decide +kernel
theorem dX7_putExpression_144 : decode cX7_putExpression 144 = .ok (.isub, 1) := by decide +kernel
theorem dX7_putExpression_145 : decode cX7_putExpression 145 = .ok (.iload 5, 2) := by decide +kernel
theorem dX7_putExpression_147 : decode cX7_putExpression 147 = .ok (.ifCond .eq 17, 3) := by decide +kernel
theorem dX7_putExpression_150 : decode cX7_putExpression 150 = .ok (.aload_n 0, 1) := by decide +kernel
theorem dX7_putExpression_151 : decode cX7_putExpression 151 = .ok (.iload_n 1, 1) := by decide +kernel
theorem dX7_putExpression_152 : decode cX7_putExpression 152 = .ok (.iconst 1, 1) := by decide +kernel
theorem dX7_putExpression_153 : decode cX7_putExpression 153 = .ok (.isub, 1) := by decide +kernel
theorem dX7_putExpression_154 : decode cX7_putExpression 154 = .ok (.invokevirtual 92, 3) := by decide +kernel
theorem dX7_putExpression_157 : decode cX7_putExpression 157 = .ok (.ifCond .eq 7, 3) := by decide +kernel
theorem dX7_putExpression_160 : decode cX7_putExpression 160 = .ok (.iconst 1, 1) := by decide +kernel
theorem dX7_putExpression_161 : decode cX7_putExpression 161 = .ok (.goto 4, 3) := by decide +kernel
theorem dX7_putExpression_164 : decode cX7_putExpression 164 = .ok (.iconst 0, 1) := by decide +kernel
theorem dX7_putExpression_165 : decode cX7_putExpression 165 = .ok (.iload_n 3, 1) := by decide +kernel
theorem dX7_putExpression_166 : decode cX7_putExpression 166 = .ok (.iconst 1, 1) := by decide +kernel
theorem dX7_putExpression_167 : decode cX7_putExpression 167 = .ok (.iadd, 1) := by decide +kernel
theorem dX7_putExpression_168 : decode cX7_putExpression 168 = .ok (.invokevirtual 50, 3) := by decide +kernel
theorem dX7_putExpression_171 : decode cX7_putExpression 171 = .ok (.goto 15, 3) := by decide +kernel
theorem dX7_putExpression_174 : decode cX7_putExpression 174 = .ok (.aload_n 0, 1) := by decide +kernel
theorem dX7_putExpression_175 : decode cX7_putExpression 175 = .ok (.ldc 99, 2) := by decide +kernel
theorem dX7_putExpression_177 : decode cX7_putExpression 177 = .ok (.invokevirtual 26, 3) := by decide +kernel
theorem dX7_putExpression_180 : decode cX7_putExpression 180 = .ok (.aload_n 0, 1) := by decide +kernel
theorem dX7_putExpression_181 : decode cX7_putExpression 181 = .ok (.iload 4, 2) := by decide +kernel
theorem dX7_putExpression_183 : decode cX7_putExpression 183 = .ok (.invokevirtual 42, 3) := by decide +kernel
theorem dX7_putExpression_186 : decode cX7_putExpression 186 = .ok (.iload_n 2, 1) := by decide +kernel
theorem dX7_putExpression_187 : decode cX7_putExpression 187 = .ok (.ifCond .eq 13, 3) := by decide +kernel
theorem dX7_putExpression_190 : decode cX7_putExpression 190 = .ok (.aload_n 0, 1) := by decide +kernel
theorem dX7_putExpression_191 : decode cX7_putExpression 191 = .ok (.getfield 14, 3) := by decide +kernel
theorem dX7_putExpression_194 : decode cX7_putExpression 194 = .ok (.bipush 41, 2) := by decide +kernel
theorem dX7_putExpression_196 : decode cX7_putExpression 196 = .ok (.invokevirtual 70, 3) := by decide +kernel
theorem dX7_putExpression_199 : decode cX7_putExpression 199 = .ok (.pop, 1) := by decide +kernel
theorem dX7_putExpression_200 : decode cX7_putExpression 200 = .ok (.return_, 1) := by decide +kernel
set_option maxRecDepth 20000 in
theorem ggX7_isJoin_X1_at : GoodIn wsX7_isJoin wsX1_at := goodIn_q _ [(6, 3), (17, 3)] (by decide +kernel) (by decide +kernel)
set_option maxRecDepth 20000 in
theorem gX7_isJoin_X1_at : GoodIn wsX7_isJoin (wsV RX7 79 RX1 yX1_at wsX1_at) := goodIn_app (goodIn_of _ (by decide +kernel)) ggX7_isJoin_X1_at
set_option maxRecDepth 20000 in
theorem ggX7_isJoin_X7_isOr : GoodIn wsX7_isJoin wsX7_isOr := goodIn_q _ [(13, 1), (1, 8), (14, 6)] (by decide +kernel) (by decide +kernel)
set_option maxRecDepth 20000 in
theorem gX7_isJoin_X7_isOr : GoodIn wsX7_isJoin (wsV RX7 92 RX7 yX7_isOr wsX7_isOr) := goodIn_app (goodIn_of _ (by decide +kernel)) ggX7_isJoin_X7_isOr
theorem dX7_isJoin_0 : decode cX7_isJoin 0 = .ok (.aload_n 0, 1) := by decide +kernel
theorem dX7_isJoin_1 : decode cX7_isJoin 1 = .ok (.getfield 20, 3) := by decide +kernel
theorem dX7_isJoin_4 : decode cX7_isJoin 4 = .ok (.iload_n 1, 1) := by decide +kernel
theorem dX7_isJoin_5 : decode cX7_isJoin 5 = .ok (.invokevirtual 79, 3) := by decide +kernel
theorem dX7_isJoin_8 : decode cX7_isJoin 8 = .ok (.bipush 17, 2) := by decide +kernel
theorem dX7_isJoin_10 : decode cX7_isJoin 10 = .ok (.if_icmp .eq 11, 3) := by decide +kernel
theorem dX7_isJoin_13 : decode cX7_isJoin 13 = .ok (.aload_n 0, 1) := by decide +kernel
theorem dX7_isJoin_14 : decode cX7_isJoin 14 = .ok (.iload_n 1, 1) := by decide +kernel
theorem dX7_isJoin_15 : decode cX7_isJoin 15 = .ok (.invokevirtual 92, 3) := by decide +kernel
theorem dX7_isJoin_18 : decode cX7_isJoin 18 = .ok (.ifCond .eq 7, 3) := by decide +kernel
theorem dX7_isJoin_21 : decode cX7_isJoin 21 = .ok (.iconst 1, 1) := by decide +kernel
theorem dX7_isJoin_22 : decode cX7_isJoin 22 = .ok (.goto 4, 3) := by decide +kernel
theorem dX7_isJoin_25 : decode cX7_isJoin 25 = .ok (.iconst 0, 1) := by decide +kernel
theorem dX7_isJoin_26 : decode cX7_isJoin 26 = .ok (.ireturn, 1) := by decide +kernel
set_option maxRecDepth 20000 in
theorem ggX7_isOr_X1_at : GoodIn wsX7_isOr wsX1_at := goodIn_q _ [(6, 3), (12, 3)] (by decide +kernel) (by decide +kernel)
set_option maxRecDepth 20000 in
theorem gX7_isOr_X1_at : GoodIn wsX7_isOr (wsV RX7 79 RX1 yX1_at wsX1_at) := goodIn_app (goodIn_of _ (by decide +kernel)) ggX7_isOr_X1_at
theorem dX7_isOr_0 : decode cX7_isOr 0 = .ok (.aload_n 0, 1) := by decide +kernel
theorem dX7_isOr_1 : decode cX7_isOr 1 = .ok (.getfield 20, 3) := by decide +kernel
theorem dX7_isOr_4 : decode cX7_isOr 4 = .ok (.iload_n 1, 1) := by decide +kernel
theorem dX7_isOr_5 : decode cX7_isOr 5 = .ok (.invokevirtual 79, 3) := by decide +kernel
theorem dX7_isOr_8 : decode cX7_isOr 8 = .ok (.bipush 18, 2) := by decide +kernel
theorem dX7_isOr_10 : decode cX7_isOr 10 = .ok (.if_icmp .ne 7, 3) := by decide +kernel
theorem dX7_isOr_13 : decode cX7_isOr 13 = .ok (.iconst 1, 1) := by decide +kernel
theorem dX7_isOr_14 : decode cX7_isOr 14 = .ok (.goto 4, 3) := by decide +kernel
theorem dX7_isOr_17 : decode cX7_isOr 17 = .ok (.iconst 0, 1) := by decide +kernel
theorem dX7_isOr_18 : decode cX7_isOr 18 = .ok (.ireturn, 1) := by decide +kernel
set_option maxRecDepth 20000 in
theorem ggX7_putWord_X0_add : GoodIn wsX7_putWord wsX0_add := goodIn_q _ [(7, 23), (82, 3)] (by decide +kernel) (by decide +kernel)
set_option maxRecDepth 20000 in
theorem gX7_putWord_X0_add : GoodIn wsX7_putWord (wsV RX7 70 RX0 yX0_add wsX0_add) := goodIn_app (goodIn_of _ (by decide +kernel)) ggX7_putWord_X0_add
set_option maxRecDepth 20000 in
theorem ggX7_putWord_J0_length_8abf5 : GoodIn wsX7_putWord wsJ0_length_8abf5 := goodIn_q _ [(34, 5), (33, 1), (39, 3)] (by decide +kernel) (by decide +kernel)
set_option maxRecDepth 20000 in
theorem gX7_putWord_J0_length_8abf5 : GoodIn wsX7_putWord (wsV RX7 101 RJ0 yJ0_length_8abf5 wsJ0_length_8abf5) := goodIn_app (goodIn_of _ (by decide +kernel)) ggX7_putWord_J0_length_8abf5
set_option maxRecDepth 20000 in
theorem ggX7_putWord_J0_charAt_5068e : GoodIn wsX7_putWord wsJ0_charAt_5068e := goodIn_q _ [(45, 1), (35, 1), (46, 3), (33, 1), (49, 1), (40, 2), (50, 29)] (by decide +kernel) (by decide +kernel)
set_option maxRecDepth 20000 in
theorem gX7_putWord_J0_charAt_5068e : GoodIn wsX7_putWord (wsV RX7 107 RJ0 yJ0_charAt_5068e wsJ0_charAt_5068e) := goodIn_app (goodIn_of _ (by decide +kernel)) ggX7_putWord_J0_charAt_5068e
theorem dX7_putWord_0 : decode cX7_putWord 0 = .ok (.aload_n 0, 1) := by decide +kernel
theorem dX7_putWord_1 : decode cX7_putWord 1 = .ok (.getfield 74, 3) := by decide +kernel
theorem dX7_putWord_4 : decode cX7_putWord 4 = .ok (.ifCond .eq 13, 3) := by decide +kernel
theorem dX7_putWord_7 : decode cX7_putWord 7 = .ok (.aload_n 0, 1) := by decide +kernel
theorem dX7_putWord_8 : decode cX7_putWord 8 = .ok (.getfield 14, 3) := by decide +kernel
theorem dX7_putWord_11 : decode cX7_putWord 11 = .ok (.bipush 32, 2) := by decide +kernel
theorem dX7_putWord_13 : decode cX7_putWord 13 = .ok (.invokevirtual 70, 3) := by decide +kernel
theorem dX7_putWord_16 : decode cX7_putWord 16 = .ok (.pop, 1) := by decide +kernel
theorem dX7_putWord_17 : decode cX7_putWord 17 = .ok (.iconst 0, 1) := by decide +kernel
theorem dX7_putWord_18 : decode cX7_putWord 18 = .ok (.istore_n 2, 1) := by decide +kernel
theorem dX7_putWord_19 : decode cX7_putWord 19 = .ok (.iload_n 2, 1) := by decide +kernel
theorem dX7_putWord_20 : decode cX7_putWord 20 = .ok (.aload_n 1, 1) := by decide +kernel
theorem dX7_putWord_21 : decode cX7_putWord 21 = .ok (.invokevirtual 101, 3) := by decide +kernel
theorem dX7_putWord_24 : decode cX7_putWord 24 = .ok (.if_icmp .ge 22, 3) := by decide +kernel
theorem dX7_putWord_27 : decode cX7_putWord 27 = .ok (.aload_n 0, 1) := by decide +kernel
theorem dX7_putWord_28 : decode cX7_putWord 28 = .ok (.getfield 14, 3) := by decide +kernel
theorem dX7_putWord_31 : decode cX7_putWord 31 = .ok (.aload_n 1, 1) := by decide +kernel
theorem dX7_putWord_32 : decode cX7_putWord 32 = .ok (.iload_n 2, 1) := by decide +kernel
theorem dX7_putWord_33 : decode cX7_putWord 33 = .ok (.invokevirtual 107, 3) := by decide +kernel
theorem dX7_putWord_36 : decode cX7_putWord 36 = .ok (.invokevirtual 70, 3) := by decide +kernel
theorem dX7_putWord_39 : decode cX7_putWord 39 = .ok (.pop, 1) := by decide +kernel
theorem dX7_putWord_40 : decode cX7_putWord 40 = .ok (.iinc 2 1, 3) := by decide +kernel
theorem dX7_putWord_43 : decode cX7_putWord 43 = .ok (.goto (-24), 3) := by decide +kernel
theorem dX7_putWord_46 : decode cX7_putWord 46 = .ok (.aload_n 0, 1) := by decide +kernel
theorem dX7_putWord_47 : decode cX7_putWord 47 = .ok (.iconst 1, 1) := by decide +kernel
theorem dX7_putWord_48 : decode cX7_putWord 48 = .ok (.putfield 74, 3) := by decide +kernel
theorem dX7_putWord_51 : decode cX7_putWord 51 = .ok (.return_, 1) := by decide +kernel
set_option maxRecDepth 20000 in
theorem ggX7_putDigits_X0_add : GoodIn wsX7_putDigits wsX0_add := goodIn_q _ [(6, 23), (32, 3)] (by decide +kernel) (by decide +kernel)
set_option maxRecDepth 20000 in
theorem gX7_putDigits_X0_add : GoodIn wsX7_putDigits (wsV RX7 70 RX0 yX0_add wsX0_add) := goodIn_app (goodIn_of _ (by decide +kernel)) ggX7_putDigits_X0_add
theorem dX7_putDigits_0 : decode cX7_putDigits 0 = .ok (.sipush 1000, 3) := by decide +kernel
theorem dX7_putDigits_3 : decode cX7_putDigits 3 = .ok (.istore_n 2, 1) := by decide +kernel
theorem dX7_putDigits_4 : decode cX7_putDigits 4 = .ok (.iload_n 2, 1) := by decide +kernel
theorem dX7_putDigits_5 : decode cX7_putDigits 5 = .ok (.iconst 1, 1) := by decide +kernel
theorem dX7_putDigits_6 : decode cX7_putDigits 6 = .ok (.if_icmp .lt 38, 3) := by decide +kernel
theorem dX7_putDigits_9 : decode cX7_putDigits 9 = .ok (.iload_n 1, 1) := by decide +kernel
theorem dX7_putDigits_10 : decode cX7_putDigits 10 = .ok (.iload_n 2, 1) := by decide +kernel
theorem dX7_putDigits_11 : decode cX7_putDigits 11 = .ok (.if_icmp .ge 8, 3) := by decide +kernel
theorem dX7_putDigits_14 : decode cX7_putDigits 14 = .ok (.iload_n 2, 1) := by decide +kernel
theorem dX7_putDigits_15 : decode cX7_putDigits 15 = .ok (.iconst 1, 1) := by decide +kernel
theorem dX7_putDigits_16 : decode cX7_putDigits 16 = .ok (.if_icmp .ne 20, 3) := by decide +kernel
theorem dX7_putDigits_19 : decode cX7_putDigits 19 = .ok (.aload_n 0, 1) := by decide +kernel
theorem dX7_putDigits_20 : decode cX7_putDigits 20 = .ok (.getfield 14, 3) := by decide +kernel
theorem dX7_putDigits_23 : decode cX7_putDigits 23 = .ok (.bipush 48, 2) := by decide +kernel
theorem dX7_putDigits_25 : decode cX7_putDigits 25 = .ok (.iload_n 1, 1) := by decide +kernel
theorem dX7_putDigits_26 : decode cX7_putDigits 26 = .ok (.iload_n 2, 1) := by decide +kernel
theorem dX7_putDigits_27 : decode cX7_putDigits 27 = .ok (.idiv, 1) := by decide +kernel
theorem dX7_putDigits_28 : decode cX7_putDigits 28 = .ok (.bipush 10, 2) := by decide +kernel
theorem dX7_putDigits_30 : decode cX7_putDigits 30 = .ok (.irem, 1) := by decide +kernel
theorem dX7_putDigits_31 : decode cX7_putDigits 31 = .ok (.iadd, 1) := by decide +kernel
theorem dX7_putDigits_32 : decode cX7_putDigits 32 = .ok (.invokevirtual 70, 3) := by decide +kernel
theorem dX7_putDigits_35 : decode cX7_putDigits 35 = .ok (.pop, 1) := by decide +kernel
theorem dX7_putDigits_36 : decode cX7_putDigits 36 = .ok (.iload_n 2, 1) := by decide +kernel
theorem dX7_putDigits_37 : decode cX7_putDigits 37 = .ok (.bipush 10, 2) := by decide +kernel
theorem dX7_putDigits_39 : decode cX7_putDigits 39 = .ok (.idiv, 1) := by decide +kernel
theorem dX7_putDigits_40 : decode cX7_putDigits 40 = .ok (.istore_n 2, 1) := by decide +kernel
theorem dX7_putDigits_41 : decode cX7_putDigits 41 = .ok (.goto (-37), 3) := by decide +kernel
theorem dX7_putDigits_44 : decode cX7_putDigits 44 = .ok (.return_, 1) := by decide +kernel
set_option maxRecDepth 20000 in
theorem ggX8_init_X0_init : GoodIn wsX8_init wsX0_init := goodIn_q _ [(16, 2), (2, 2), (18, 4), (59, 3)] (by decide +kernel) (by decide +kernel)
set_option maxRecDepth 20000 in
theorem gX8_init_X0_init : GoodIn wsX8_init (wsX0_init) := ggX8_init_X0_init
set_option maxRecDepth 20000 in
theorem ggX8_init_X5_init : GoodIn wsX8_init wsX5_init := goodIn_q _ [(24, 2), (2, 2), (26, 27), (8, 1), (53, 5), (19, 1), (58, 1), (69, 3), (65, 4), (72, 3)] (by decide +kernel) (by decide +kernel)
set_option maxRecDepth 20000 in
theorem gX8_init_X5_init : GoodIn wsX8_init (wsX5_init) := ggX8_init_X5_init
theorem dX8_init_0 : decode cX8_init 0 = .ok (.aload_n 0, 1) := by decide +kernel
theorem dX8_init_1 : decode cX8_init 1 = .ok (.invokespecial 3, 3) := by decide +kernel
theorem dX8_init_4 : decode cX8_init 4 = .ok (.aload_n 0, 1) := by decide +kernel
theorem dX8_init_5 : decode cX8_init 5 = .ok (.new 9, 3) := by decide +kernel
theorem dX8_init_8 : decode cX8_init 8 = .ok (.dup, 1) := by decide +kernel
theorem dX8_init_9 : decode cX8_init 9 = .ok (.sipush 3000, 3) := by decide +kernel
theorem dX8_init_12 : decode cX8_init 12 = .ok (.invokespecial 11, 3) := by decide +kernel
theorem dX8_init_15 : decode cX8_init 15 = .ok (.putfield 14, 3) := by decide +kernel
theorem dX8_init_18 : decode cX8_init 18 = .ok (.aload_n 0, 1) := by decide +kernel
theorem dX8_init_19 : decode cX8_init 19 = .ok (.bipush 16, 2) := by decide +kernel
theorem dX8_init_21 : decode cX8_init 21 = .ok (.newarray .long, 2) := by decide +kernel
theorem dX8_init_23 : decode cX8_init 23 = .ok (.putfield 18, 3) := by decide +kernel
theorem dX8_init_26 : decode cX8_init 26 = .ok (.aload_n 0, 1) := by decide +kernel
theorem dX8_init_27 : decode cX8_init 27 = .ok (.new 22, 3) := by decide +kernel
theorem dX8_init_30 : decode cX8_init 30 = .ok (.dup, 1) := by decide +kernel
theorem dX8_init_31 : decode cX8_init 31 = .ok (.iconst 0, 1) := by decide +kernel
theorem dX8_init_32 : decode cX8_init 32 = .ok (.invokespecial 24, 3) := by decide +kernel
theorem dX8_init_35 : decode cX8_init 35 = .ok (.putfield 25, 3) := by decide +kernel
theorem dX8_init_38 : decode cX8_init 38 = .ok (.return_, 1) := by decide +kernel
set_option maxRecDepth 20000 in
theorem ggX8_unit_X0_add : GoodIn wsX8_unit wsX0_add := goodIn_q _ [(6, 23), (32, 3)] (by decide +kernel) (by decide +kernel)
set_option maxRecDepth 20000 in
theorem gX8_unit_X0_add : GoodIn wsX8_unit (wsV RX8 29 RX0 yX0_add wsX0_add) := goodIn_app (goodIn_of _ (by decide +kernel)) ggX8_unit_X0_add
theorem dX8_unit_0 : decode cX8_unit 0 = .ok (.iload_n 1, 1) := by decide +kernel
theorem dX8_unit_1 : decode cX8_unit 1 = .ok (.iconst 1, 1) := by decide +kernel
theorem dX8_unit_2 : decode cX8_unit 2 = .ok (.if_icmp .lt 24, 3) := by decide +kernel
theorem dX8_unit_5 : decode cX8_unit 5 = .ok (.iload_n 1, 1) := by decide +kernel
theorem dX8_unit_6 : decode cX8_unit 6 = .ok (.bipush 127, 2) := by decide +kernel
theorem dX8_unit_8 : decode cX8_unit 8 = .ok (.if_icmp .gt 18, 3) := by decide +kernel
theorem dX8_unit_11 : decode cX8_unit 11 = .ok (.aload_n 0, 1) := by decide +kernel
theorem dX8_unit_12 : decode cX8_unit 12 = .ok (.getfield 14, 3) := by decide +kernel
theorem dX8_unit_15 : decode cX8_unit 15 = .ok (.iload_n 1, 1) := by decide +kernel
theorem dX8_unit_16 : decode cX8_unit 16 = .ok (.invokevirtual 29, 3) := by decide +kernel
theorem dX8_unit_19 : decode cX8_unit 19 = .ok (.ifCond .eq 7, 3) := by decide +kernel
theorem dX8_unit_22 : decode cX8_unit 22 = .ok (.iconst 1, 1) := by decide +kernel
theorem dX8_unit_23 : decode cX8_unit 23 = .ok (.goto 4, 3) := by decide +kernel
theorem dX8_unit_26 : decode cX8_unit 26 = .ok (.iconst 0, 1) := by decide +kernel
theorem dX8_unit_27 : decode cX8_unit 27 = .ok (.ireturn, 1) := by decide +kernel
set_option maxRecDepth 20000 in
theorem ggX8_read_X0_length : GoodIn wsX8_read wsX0_length := goodIn_q _ [(16, 2), (327, 3)] (by decide +kernel) (by decide +kernel)
set_option maxRecDepth 20000 in
theorem gX8_read_X0_length : GoodIn wsX8_read (wsV RX8 35 RX0 yX0_length wsX0_length) := goodIn_app (goodIn_of _ (by decide +kernel)) ggX8_read_X0_length
set_option maxRecDepth 20000 in
theorem ggX8_read_X6_init : GoodIn wsX8_read wsX6_init := goodIn_q _ [(20, 12), (312, 5)] (by decide +kernel) (by decide +kernel)
set_option maxRecDepth 20000 in
theorem gX8_read_X6_init : GoodIn wsX8_read (wsX6_init) := ggX8_read_X6_init
set_option maxRecDepth 20000 in
theorem ggX8_read_X6_split : GoodIn wsX8_read wsX6_split := goodIn_q _ [(35, 2), (13, 5), (37, 7), (3, 1), (44, 76), (29, 1), (31, 1), (327, 3), (312, 5)] (by decide +kernel) (by decide +kernel)
set_option maxRecDepth 20000 in
theorem gX8_read_X6_split : GoodIn wsX8_read (wsV RX8 40 RX6 yX6_split wsX6_split) := goodIn_app (goodIn_of _ (by decide +kernel)) ggX8_read_X6_split
set_option maxRecDepth 20000 in
theorem ggX8_read_X0_empty : GoodIn wsX8_read wsX0_empty := goodIn_q _ [(123, 1), (17, 1), (327, 3)] (by decide +kernel) (by decide +kernel)
set_option maxRecDepth 20000 in
theorem gX8_read_X0_empty : GoodIn wsX8_read (wsV RX8 44 RX0 yX0_empty wsX0_empty) := goodIn_app (goodIn_of _ (by decide +kernel)) ggX8_read_X0_empty
set_option maxRecDepth 20000 in
theorem ggX8_read_X6_count : GoodIn wsX8_read wsX6_count := goodIn_q _ [(127, 1), (119, 1), (312, 5)] (by decide +kernel) (by decide +kernel)
set_option maxRecDepth 20000 in
theorem gX8_read_X6_count : GoodIn wsX8_read (wsV RX8 47 RX6 yX6_count wsX6_count) := goodIn_app (goodIn_of _ (by decide +kernel)) ggX8_read_X6_count
set_option maxRecDepth 20000 in
theorem ggX8_read_X5_init : GoodIn wsX8_read wsX5_init := goodIn_q _ [(130, 2), (22, 2), (132, 30), (25, 4), (162, 1), (330, 3), (320, 4), (333, 3)] (by decide +kernel) (by decide +kernel)
set_option maxRecDepth 20000 in
theorem gX8_read_X5_init : GoodIn wsX8_read (wsX5_init) := ggX8_read_X5_init
set_option maxRecDepth 20000 in
theorem ggX8_read_X2_init : GoodIn wsX8_read wsX2_init := goodIn_q _ [(165, 2), (22, 2), (167, 3), (324, 3), (320, 4)] (by decide +kernel) (by decide +kernel)
set_option maxRecDepth 20000 in
theorem gX8_read_X2_init : GoodIn wsX8_read (wsX2_init) := ggX8_read_X2_init
set_option maxRecDepth 20000 in
theorem ggX8_read_X2_takeText : GoodIn wsX8_read wsX2_takeText := goodIn_q _ [(173, 1), (167, 1), (174, 3), (3, 1), (177, 2), (119, 1), (29, 1), (179, 3), (10, 1), (182, 4), (169, 1), (168, 1), (186, 3), (22, 2), (189, 18), (31, 1), (207, 13), (138, 1), (220, 13), (162, 1), (233, 20), (134, 1), (253, 3), (144, 1), (256, 13), (143, 1), (269, 1), (25, 3), (270, 30), (324, 3), (312, 5), (336, 13), (320, 4), (333, 3), (330, 3)] (by decide +kernel) (by decide +kernel)
set_option maxRecDepth 20000 in
theorem gX8_read_X2_takeText : GoodIn wsX8_read (wsV RX8 55 RX2 yX2_takeText wsX2_takeText) := goodIn_app (goodIn_of _ (by decide +kernel)) ggX8_read_X2_takeText
set_option maxRecDepth 20000 in
theorem ggX8_read_X6_index : GoodIn wsX8_read wsX6_index := goodIn_q _ [(303, 1), (178, 1), (312, 5)] (by decide +kernel) (by decide +kernel)
set_option maxRecDepth 20000 in
theorem gX8_read_X6_index : GoodIn wsX8_read (wsV RX8 59 RX6 yX6_index wsX6_index) := goodIn_app (goodIn_of _ (by decide +kernel)) ggX8_read_X6_index
set_option maxRecDepth 20000 in
theorem ggX8_read_X5_size : GoodIn wsX8_read wsX5_size := goodIn_q _ [(307, 1), (135, 1), (308, 3), (134, 1), (311, 1), (256, 1), (320, 4), (330, 3)] (by decide +kernel) (by decide +kernel)
set_option maxRecDepth 20000 in
theorem gX8_read_X5_size : GoodIn wsX8_read (wsV RX8 62 RX5 yX5_size wsX5_size) := goodIn_app (goodIn_of _ (by decide +kernel)) ggX8_read_X5_size
theorem dX8_read_0 : decode cX8_read 0 = .ok (.new 33, 3) := by decide +kernel
theorem dX8_read_3 : decode cX8_read 3 = .ok (.dup, 1) := by decide +kernel
theorem dX8_read_4 : decode cX8_read 4 = .ok (.aload_n 0, 1) := by decide +kernel
theorem dX8_read_5 : decode cX8_read 5 = .ok (.getfield 14, 3) := by decide +kernel
theorem dX8_read_8 : decode cX8_read 8 = .ok (.invokevirtual 35, 3) := by decide +kernel
theorem dX8_read_11 : decode cX8_read 11 = .ok (.invokespecial 39, 3) := by decide +kernel
theorem dX8_read_14 : decode cX8_read 14 = .ok (.astore_n 1, 1) := by decide +kernel
theorem dX8_read_15 : decode cX8_read 15 = .ok (.aload_n 1, 1) := by decide +kernel
theorem dX8_read_16 : decode cX8_read 16 = .ok (.aload_n 0, 1) := by decide +kernel
theorem dX8_read_17 : decode cX8_read 17 = .ok (.getfield 14, 3) := by decide +kernel
theorem dX8_read_20 : decode cX8_read 20 = .ok (.invokevirtual 40, 3) := by decide +kernel
theorem dX8_read_23 : decode cX8_read 23 = .ok (.aload_n 0, 1) := by decide +kernel
theorem dX8_read_24 : decode cX8_read 24 = .ok (.getfield 14, 3) := by decide +kernel
theorem dX8_read_27 : decode cX8_read 27 = .ok (.invokevirtual 44, 3) := by decide +kernel
theorem dX8_read_30 : decode cX8_read 30 = .ok (.new 22, 3) := by decide +kernel
theorem dX8_read_33 : decode cX8_read 33 = .ok (.dup, 1) := by decide +kernel
theorem dX8_read_34 : decode cX8_read 34 = .ok (.aload_n 1, 1) := by decide +kernel
theorem dX8_read_35 : decode cX8_read 35 = .ok (.invokevirtual 47, 3) := by decide +kernel
theorem dX8_read_38 : decode cX8_read 38 = .ok (.invokespecial 24, 3) := by decide +kernel
theorem dX8_read_41 : decode cX8_read 41 = .ok (.astore_n 2, 1) := by decide +kernel
theorem dX8_read_42 : decode cX8_read 42 = .ok (.new 50, 3) := by decide +kernel
theorem dX8_read_45 : decode cX8_read 45 = .ok (.dup, 1) := by decide +kernel
theorem dX8_read_46 : decode cX8_read 46 = .ok (.aload_n 1, 1) := by decide +kernel
theorem dX8_read_47 : decode cX8_read 47 = .ok (.aload_n 2, 1) := by decide +kernel
theorem dX8_read_48 : decode cX8_read 48 = .ok (.invokespecial 52, 3) := by decide +kernel
theorem dX8_read_51 : decode cX8_read 51 = .ok (.invokevirtual 55, 3) := by decide +kernel
theorem dX8_read_54 : decode cX8_read 54 = .ok (.ifCond .ne 10, 3) := by decide +kernel
theorem dX8_read_57 : decode cX8_read 57 = .ok (.iconst (-1), 1) := by decide +kernel
theorem dX8_read_58 : decode cX8_read 58 = .ok (.aload_n 1, 1) := by decide +kernel
theorem dX8_read_59 : decode cX8_read 59 = .ok (.invokevirtual 59, 3) := by decide +kernel
theorem dX8_read_62 : decode cX8_read 62 = .ok (.isub, 1) := by decide +kernel
theorem dX8_read_63 : decode cX8_read 63 = .ok (.ireturn, 1) := by decide +kernel
theorem dX8_read_64 : decode cX8_read 64 = .ok (.aload_n 0, 1) := by decide +kernel
theorem dX8_read_65 : decode cX8_read 65 = .ok (.aload_n 2, 1) := by decide +kernel
theorem dX8_read_66 : decode cX8_read 66 = .ok (.putfield 25, 3) := by decide +kernel
theorem dX8_read_69 : decode cX8_read 69 = .ok (.aload_n 0, 1) := by decide +kernel
theorem dX8_read_70 : decode cX8_read 70 = .ok (.getfield 25, 3) := by decide +kernel
theorem dX8_read_73 : decode cX8_read 73 = .ok (.invokevirtual 62, 3) := by decide +kernel
theorem dX8_read_76 : decode cX8_read 76 = .ok (.ireturn, 1) := by decide +kernel
theorem dX8_condition_0 : decode cX8_condition 0 = .ok (.iload_n 1, 1) := by decide +kernel
theorem dX8_condition_1 : decode cX8_condition 1 = .ok (.ifCond .lt 9, 3) := by decide +kernel
theorem dX8_condition_4 : decode cX8_condition 4 = .ok (.iload_n 1, 1) := by decide +kernel
theorem dX8_condition_5 : decode cX8_condition 5 = .ok (.bipush 16, 2) := by decide +kernel
theorem dX8_condition_7 : decode cX8_condition 7 = .ok (.if_icmp .lt 5, 3) := by decide +kernel
theorem dX8_condition_10 : decode cX8_condition 10 = .ok (.iconst 0, 1) := by decide +kernel
theorem dX8_condition_11 : decode cX8_condition 11 = .ok (.ireturn, 1) := by decide +kernel
theorem dX8_condition_12 : decode cX8_condition 12 = .ok (.iload_n 2, 1) := by decide +kernel
theorem dX8_condition_13 : decode cX8_condition 13 = .ok (.ifCond .eq 9, 3) := by decide +kernel
theorem dX8_condition_16 : decode cX8_condition 16 = .ok (.ldc2_w 65, 3) := by decide +kernel
theorem dX8_condition_19 : decode cX8_condition 19 = .ok (.goto 4, 3) := by decide +kernel
theorem dX8_condition_22 : decode cX8_condition 22 = .ok (.lconst 0, 1) := by decide +kernel
theorem dX8_condition_23 : decode cX8_condition 23 = .ok (.lstore_n 3, 1) := by decide +kernel
theorem dX8_condition_24 : decode cX8_condition 24 = .ok (.aload_n 0, 1) := by decide +kernel
theorem dX8_condition_25 : decode cX8_condition 25 = .ok (.getfield 18, 3) := by decide +kernel
theorem dX8_condition_28 : decode cX8_condition 28 = .ok (.iload_n 1, 1) := by decide +kernel
theorem dX8_condition_29 : decode cX8_condition 29 = .ok (.laload, 1) := by decide +kernel
theorem dX8_condition_30 : decode cX8_condition 30 = .ok (.lload_n 3, 1) := by decide +kernel
theorem dX8_condition_31 : decode cX8_condition 31 = .ok (.lcmp, 1) := by decide +kernel
theorem dX8_condition_32 : decode cX8_condition 32 = .ok (.ifCond .eq 7, 3) := by decide +kernel
theorem dX8_condition_35 : decode cX8_condition 35 = .ok (.iconst 1, 1) := by decide +kernel
theorem dX8_condition_36 : decode cX8_condition 36 = .ok (.goto 4, 3) := by decide +kernel
theorem dX8_condition_39 : decode cX8_condition 39 = .ok (.iconst 0, 1) := by decide +kernel
theorem dX8_condition_40 : decode cX8_condition 40 = .ok (.istore 5, 2) := by decide +kernel
theorem dX8_condition_42 : decode cX8_condition 42 = .ok (.aload_n 0, 1) := by decide +kernel
theorem dX8_condition_43 : decode cX8_condition 43 = .ok (.getfield 18, 3) := by decide +kernel
theorem dX8_condition_46 : decode cX8_condition 46 = .ok (.iload_n 1, 1) := by decide +kernel
theorem dX8_condition_47 : decode cX8_condition 47 = .ok (.lload_n 3, 1) := by decide +kernel
theorem dX8_condition_48 : decode cX8_condition 48 = .ok (.lastore, 1) := by decide +kernel
theorem dX8_condition_49 : decode cX8_condition 49 = .ok (.iload 5, 2) := by decide +kernel
theorem dX8_condition_51 : decode cX8_condition 51 = .ok (.ireturn, 1) := by decide +kernel
set_option maxRecDepth 20000 in
theorem ggX8_tick_X5_letGoBy : GoodIn wsX8_tick wsX5_letGoBy := goodIn_q _ [(8, 29), (7, 1), (37, 47), (87, 23)] (by decide +kernel) (by decide +kernel)
set_option maxRecDepth 20000 in
theorem gX8_tick_X5_letGoBy : GoodIn wsX8_tick (wsV RX8 68 RX5 yX5_letGoBy wsX5_letGoBy) := goodIn_app (goodIn_of _ (by decide +kernel)) ggX8_tick_X5_letGoBy
theorem dX8_tick_0 : decode cX8_tick 0 = .ok (.iload_n 1, 1) := by decide +kernel
theorem dX8_tick_1 : decode cX8_tick 1 = .ok (.ifCond .lt 9, 3) := by decide +kernel
theorem dX8_tick_4 : decode cX8_tick 4 = .ok (.iload_n 1, 1) := by decide +kernel
theorem dX8_tick_5 : decode cX8_tick 5 = .ok (.ldc 67, 2) := by decide +kernel
theorem dX8_tick_7 : decode cX8_tick 7 = .ok (.if_icmp .le 5, 3) := by decide +kernel
theorem dX8_tick_10 : decode cX8_tick 10 = .ok (.iconst 0, 1) := by decide +kernel
theorem dX8_tick_11 : decode cX8_tick 11 = .ok (.ireturn, 1) := by decide +kernel
theorem dX8_tick_12 : decode cX8_tick 12 = .ok (.aload_n 0, 1) := by decide +kernel
theorem dX8_tick_13 : decode cX8_tick 13 = .ok (.getfield 25, 3) := by decide +kernel
theorem dX8_tick_16 : decode cX8_tick 16 = .ok (.iload_n 1, 1) := by decide +kernel
theorem dX8_tick_17 : decode cX8_tick 17 = .ok (.aload_n 0, 1) := by decide +kernel
theorem dX8_tick_18 : decode cX8_tick 18 = .ok (.getfield 18, 3) := by decide +kernel
theorem dX8_tick_21 : decode cX8_tick 21 = .ok (.invokevirtual 68, 3) := by decide +kernel
theorem dX8_tick_24 : decode cX8_tick 24 = .ok (.iconst 1, 1) := by decide +kernel
theorem dX8_tick_25 : decode cX8_tick 25 = .ok (.ireturn, 1) := by decide +kernel
set_option maxRecDepth 20000 in
theorem ggX8_act_X5_firstToBar : GoodIn wsX8_act wsX5_firstToBar := goodIn_q _ [(7, 35), (6, 1), (42, 37), (82, 23)] (by decide +kernel) (by decide +kernel)
set_option maxRecDepth 20000 in
theorem gX8_act_X5_firstToBar : GoodIn wsX8_act (wsV RX8 72 RX5 yX5_firstToBar wsX5_firstToBar) := goodIn_app (goodIn_of _ (by decide +kernel)) ggX8_act_X5_firstToBar
theorem dX8_act_0 : decode cX8_act 0 = .ok (.iload_n 1, 1) := by decide +kernel
theorem dX8_act_1 : decode cX8_act 1 = .ok (.ifCond .lt 9, 3) := by decide +kernel
theorem dX8_act_4 : decode cX8_act 4 = .ok (.iload_n 1, 1) := by decide +kernel
theorem dX8_act_5 : decode cX8_act 5 = .ok (.bipush 32, 2) := by decide +kernel
theorem dX8_act_7 : decode cX8_act 7 = .ok (.if_icmp .lt 5, 3) := by decide +kernel
theorem dX8_act_10 : decode cX8_act 10 = .ok (.iconst (-1), 1) := by decide +kernel
theorem dX8_act_11 : decode cX8_act 11 = .ok (.ireturn, 1) := by decide +kernel
theorem dX8_act_12 : decode cX8_act 12 = .ok (.aload_n 0, 1) := by decide +kernel
theorem dX8_act_13 : decode cX8_act 13 = .ok (.getfield 25, 3) := by decide +kernel
theorem dX8_act_16 : decode cX8_act 16 = .ok (.iload_n 1, 1) := by decide +kernel
theorem dX8_act_17 : decode cX8_act 17 = .ok (.aload_n 0, 1) := by decide +kernel
theorem dX8_act_18 : decode cX8_act 18 = .ok (.getfield 18, 3) := by decide +kernel
theorem dX8_act_21 : decode cX8_act 21 = .ok (.invokevirtual 72, 3) := by decide +kernel
theorem dX8_act_24 : decode cX8_act 24 = .ok (.ireturn, 1) := by decide +kernel
set_option maxRecDepth 20000 in
theorem ggX8_pass_X5_find : GoodIn wsX8_pass wsX5_find := goodIn_q _ [(6, 26), (52, 7)] (by decide +kernel) (by decide +kernel)
set_option maxRecDepth 20000 in
theorem gX8_pass_X5_find : GoodIn wsX8_pass (wsV RX8 76 RX5 yX5_find wsX5_find) := goodIn_app (goodIn_of _ (by decide +kernel)) ggX8_pass_X5_find
set_option maxRecDepth 20000 in
theorem ggX8_pass_X8_isPerson : GoodIn wsX8_pass wsX8_isPerson := goodIn_q _ [(35, 1)] (by decide +kernel) (by decide +kernel)
set_option maxRecDepth 20000 in
theorem gX8_pass_X8_isPerson : GoodIn wsX8_pass (va_wsS RX8 80 yX8_isPerson wsX8_isPerson) := goodIn_app (goodIn_of _ (by decide +kernel)) ggX8_pass_X8_isPerson
theorem dX8_pass_0 : decode cX8_pass 0 = .ok (.aload_n 0, 1) := by decide +kernel
theorem dX8_pass_1 : decode cX8_pass 1 = .ok (.getfield 25, 3) := by decide +kernel
theorem dX8_pass_4 : decode cX8_pass 4 = .ok (.iload_n 1, 1) := by decide +kernel
theorem dX8_pass_5 : decode cX8_pass 5 = .ok (.invokevirtual 76, 3) := by decide +kernel
theorem dX8_pass_8 : decode cX8_pass 8 = .ok (.astore 5, 2) := by decide +kernel
theorem dX8_pass_10 : decode cX8_pass 10 = .ok (.aload 5, 2) := by decide +kernel
theorem dX8_pass_12 : decode cX8_pass 12 = .ok (.ifnonnull 5, 3) := by decide +kernel
theorem dX8_pass_15 : decode cX8_pass 15 = .ok (.iconst (-1), 1) := by decide +kernel
theorem dX8_pass_16 : decode cX8_pass 16 = .ok (.ireturn, 1) := by decide +kernel
theorem dX8_pass_17 : decode cX8_pass 17 = .ok (.iload_n 2, 1) := by decide +kernel
theorem dX8_pass_18 : decode cX8_pass 18 = .ok (.invokestatic 80, 3) := by decide +kernel
theorem dX8_pass_21 : decode cX8_pass 21 = .ok (.ifCond .eq 15, 3) := by decide +kernel
theorem dX8_pass_24 : decode cX8_pass 24 = .ok (.iload_n 3, 1) := by decide +kernel
theorem dX8_pass_25 : decode cX8_pass 25 = .ok (.invokestatic 80, 3) := by decide +kernel
theorem dX8_pass_28 : decode cX8_pass 28 = .ok (.ifCond .eq 8, 3) := by decide +kernel
theorem dX8_pass_31 : decode cX8_pass 31 = .ok (.iload_n 2, 1) := by decide +kernel
theorem dX8_pass_32 : decode cX8_pass 32 = .ok (.iload_n 3, 1) := by decide +kernel
theorem dX8_pass_33 : decode cX8_pass 33 = .ok (.if_icmp .ne 6, 3) := by decide +kernel
theorem dX8_pass_36 : decode cX8_pass 36 = .ok (.bipush (-2), 2) := by decide +kernel
theorem dX8_pass_38 : decode cX8_pass 38 = .ok (.ireturn, 1) := by decide +kernel
theorem dX8_pass_39 : decode cX8_pass 39 = .ok (.iload 4, 2) := by decide +kernel
theorem dX8_pass_41 : decode cX8_pass 41 = .ok (.iconst 1, 1) := by decide +kernel
theorem dX8_pass_42 : decode cX8_pass 42 = .ok (.if_icmp .lt 11, 3) := by decide +kernel
theorem dX8_pass_45 : decode cX8_pass 45 = .ok (.iload 4, 2) := by decide +kernel
theorem dX8_pass_47 : decode cX8_pass 47 = .ok (.sipush 3600, 3) := by decide +kernel
theorem dX8_pass_50 : decode cX8_pass 50 = .ok (.if_icmp .le 6, 3) := by decide +kernel
theorem dX8_pass_53 : decode cX8_pass 53 = .ok (.bipush (-3), 2) := by decide +kernel
theorem dX8_pass_55 : decode cX8_pass 55 = .ok (.ireturn, 1) := by decide +kernel
theorem dX8_pass_56 : decode cX8_pass 56 = .ok (.aload 5, 2) := by decide +kernel
theorem dX8_pass_58 : decode cX8_pass 58 = .ok (.getfield 83, 3) := by decide +kernel
theorem dX8_pass_61 : decode cX8_pass 61 = .ok (.ifCond .le 6, 3) := by decide +kernel
theorem dX8_pass_64 : decode cX8_pass 64 = .ok (.bipush (-4), 2) := by decide +kernel
theorem dX8_pass_66 : decode cX8_pass 66 = .ok (.ireturn, 1) := by decide +kernel
theorem dX8_pass_67 : decode cX8_pass 67 = .ok (.aload 5, 2) := by decide +kernel
theorem dX8_pass_69 : decode cX8_pass 69 = .ok (.iload 4, 2) := by decide +kernel
theorem dX8_pass_71 : decode cX8_pass 71 = .ok (.putfield 83, 3) := by decide +kernel
theorem dX8_pass_74 : decode cX8_pass 74 = .ok (.iconst 0, 1) := by decide +kernel
theorem dX8_pass_75 : decode cX8_pass 75 = .ok (.ireturn, 1) := by decide +kernel
set_option maxRecDepth 20000 in
theorem ggX8_listed_X5_passedRow : GoodIn wsX8_listed wsX5_passedRow := goodIn_q _ [(6, 4), (5, 1), (10, 26), (39, 20)] (by decide +kernel) (by decide +kernel)
set_option maxRecDepth 20000 in
theorem gX8_listed_X5_passedRow : GoodIn wsX8_listed (wsV RX8 89 RX5 yX5_passedRow wsX5_passedRow) := goodIn_app (goodIn_of _ (by decide +kernel)) ggX8_listed_X5_passedRow
theorem dX8_listed_0 : decode cX8_listed 0 = .ok (.aload_n 0, 1) := by decide +kernel
theorem dX8_listed_1 : decode cX8_listed 1 = .ok (.getfield 25, 3) := by decide +kernel
theorem dX8_listed_4 : decode cX8_listed 4 = .ok (.iload_n 1, 1) := by decide +kernel
theorem dX8_listed_5 : decode cX8_listed 5 = .ok (.invokevirtual 89, 3) := by decide +kernel
theorem dX8_listed_8 : decode cX8_listed 8 = .ok (.ireturn, 1) := by decide +kernel
set_option maxRecDepth 20000 in
theorem ggX8_reset_X5_find : GoodIn wsX8_reset wsX5_find := goodIn_q _ [(7, 26), (77, 7)] (by decide +kernel) (by decide +kernel)
set_option maxRecDepth 20000 in
theorem gX8_reset_X5_find : GoodIn wsX8_reset (wsV RX8 76 RX5 yX5_find wsX5_find) := goodIn_app (goodIn_of _ (by decide +kernel)) ggX8_reset_X5_find
set_option maxRecDepth 20000 in
theorem ggX8_reset_X5_isOn : GoodIn wsX8_reset wsX5_isOn := goodIn_q _ [(36, 4), (6, 1), (40, 21), (77, 4), (64, 13), (84, 3)] (by decide +kernel) (by decide +kernel)
set_option maxRecDepth 20000 in
theorem gX8_reset_X5_isOn : GoodIn wsX8_reset (wsV RX8 97 RX5 yX5_isOn wsX5_isOn) := goodIn_app (goodIn_of _ (by decide +kernel)) ggX8_reset_X5_isOn
theorem dX8_reset_0 : decode cX8_reset 0 = .ok (.aload_n 0, 1) := by decide +kernel
theorem dX8_reset_1 : decode cX8_reset 1 = .ok (.getfield 25, 3) := by decide +kernel
theorem dX8_reset_4 : decode cX8_reset 4 = .ok (.iload_n 1, 1) := by decide +kernel
theorem dX8_reset_5 : decode cX8_reset 5 = .ok (.invokevirtual 76, 3) := by decide +kernel
theorem dX8_reset_8 : decode cX8_reset 8 = .ok (.astore_n 2, 1) := by decide +kernel
theorem dX8_reset_9 : decode cX8_reset 9 = .ok (.aload_n 2, 1) := by decide +kernel
theorem dX8_reset_10 : decode cX8_reset 10 = .ok (.ifnull 25, 3) := by decide +kernel
theorem dX8_reset_13 : decode cX8_reset 13 = .ok (.aload_n 2, 1) := by decide +kernel
theorem dX8_reset_14 : decode cX8_reset 14 = .ok (.getfield 93, 3) := by decide +kernel
theorem dX8_reset_17 : decode cX8_reset 17 = .ok (.ifCond .eq 18, 3) := by decide +kernel
theorem dX8_reset_20 : decode cX8_reset 20 = .ok (.aload_n 0, 1) := by decide +kernel
theorem dX8_reset_21 : decode cX8_reset 21 = .ok (.getfield 25, 3) := by decide +kernel
theorem dX8_reset_24 : decode cX8_reset 24 = .ok (.aload_n 2, 1) := by decide +kernel
theorem dX8_reset_25 : decode cX8_reset 25 = .ok (.aload_n 0, 1) := by decide +kernel
theorem dX8_reset_26 : decode cX8_reset 26 = .ok (.getfield 18, 3) := by decide +kernel
theorem dX8_reset_29 : decode cX8_reset 29 = .ok (.invokevirtual 97, 3) := by decide +kernel
theorem dX8_reset_32 : decode cX8_reset 32 = .ok (.ifCond .eq 5, 3) := by decide +kernel
theorem dX8_reset_35 : decode cX8_reset 35 = .ok (.iconst 0, 1) := by decide +kernel
theorem dX8_reset_36 : decode cX8_reset 36 = .ok (.ireturn, 1) := by decide +kernel
theorem dX8_reset_37 : decode cX8_reset 37 = .ok (.aload_n 2, 1) := by decide +kernel
theorem dX8_reset_38 : decode cX8_reset 38 = .ok (.iconst 0, 1) := by decide +kernel
theorem dX8_reset_39 : decode cX8_reset 39 = .ok (.putfield 93, 3) := by decide +kernel
theorem dX8_reset_42 : decode cX8_reset 42 = .ok (.iconst 1, 1) := by decide +kernel
theorem dX8_reset_43 : decode cX8_reset 43 = .ok (.ireturn, 1) := by decide +kernel
set_option maxRecDepth 20000 in
theorem ggX8_test_X5_idleRow : GoodIn wsX8_test wsX5_idleRow := goodIn_q _ [(6, 47), (5, 1), (53, 72), (128, 28)] (by decide +kernel) (by decide +kernel)
set_option maxRecDepth 20000 in
theorem gX8_test_X5_idleRow : GoodIn wsX8_test (wsV RX8 101 RX5 yX5_idleRow wsX5_idleRow) := goodIn_app (goodIn_of _ (by decide +kernel)) ggX8_test_X5_idleRow
theorem dX8_test_0 : decode cX8_test 0 = .ok (.aload_n 0, 1) := by decide +kernel
theorem dX8_test_1 : decode cX8_test 1 = .ok (.getfield 25, 3) := by decide +kernel
theorem dX8_test_4 : decode cX8_test 4 = .ok (.iload_n 1, 1) := by decide +kernel
theorem dX8_test_5 : decode cX8_test 5 = .ok (.invokevirtual 101, 3) := by decide +kernel
theorem dX8_test_8 : decode cX8_test 8 = .ok (.ireturn, 1) := by decide +kernel
set_option maxRecDepth 20000 in
theorem ggX8_row_X5_find : GoodIn wsX8_row wsX5_find := goodIn_q _ [(7, 26), (81, 7)] (by decide +kernel) (by decide +kernel)
set_option maxRecDepth 20000 in
theorem gX8_row_X5_find : GoodIn wsX8_row (wsV RX8 76 RX5 yX5_find wsX5_find) := goodIn_app (goodIn_of _ (by decide +kernel)) ggX8_row_X5_find
set_option maxRecDepth 20000 in
theorem ggX8_row_X8_oneIf : GoodIn wsX8_row wsX8_oneIf := goodIn_q _ [(36, 1)] (by decide +kernel) (by decide +kernel)
set_option maxRecDepth 20000 in
theorem gX8_row_X8_oneIf : GoodIn wsX8_row (va_wsS RX8 113 yX8_oneIf wsX8_oneIf) := goodIn_app (goodIn_of _ (by decide +kernel)) ggX8_row_X8_oneIf
set_option maxRecDepth 20000 in
theorem ggX8_row_X5_isOn : GoodIn wsX8_row wsX5_isOn := goodIn_q _ [(40, 4), (6, 1), (44, 21), (81, 4), (68, 13), (88, 3)] (by decide +kernel) (by decide +kernel)
set_option maxRecDepth 20000 in
theorem gX8_row_X5_isOn : GoodIn wsX8_row (wsV RX8 97 RX5 yX5_isOn wsX5_isOn) := goodIn_app (goodIn_of _ (by decide +kernel)) ggX8_row_X5_isOn
theorem dX8_row_0 : decode cX8_row 0 = .ok (.aload_n 0, 1) := by decide +kernel
theorem dX8_row_1 : decode cX8_row 1 = .ok (.getfield 25, 3) := by decide +kernel
theorem dX8_row_4 : decode cX8_row 4 = .ok (.iload_n 1, 1) := by decide +kernel
theorem dX8_row_5 : decode cX8_row 5 = .ok (.invokevirtual 76, 3) := by decide +kernel
theorem dX8_row_8 : decode cX8_row 8 = .ok (.astore_n 3, 1) := by decide +kernel
theorem dX8_row_9 : decode cX8_row 9 = .ok (.aload_n 3, 1) := by decide +kernel
theorem dX8_row_10 : decode cX8_row 10 = .ok (.ifnonnull 5, 3) := by decide +kernel
theorem dX8_row_13 : decode cX8_row 13 = .ok (.iconst (-1), 1) := by decide +kernel
theorem dX8_row_14 : decode cX8_row 14 = .ok (.ireturn, 1) := by decide +kernel
theorem dX8_row_15 : decode cX8_row 15 = .ok (.iload_n 2, 1) := by decide +kernel
theorem dX8_row_16 : decode cX8_row 16 = .ok (.tableswitch 105 0 7 #[48, 53, 58, 66, 71, 79, 84, 89], 48) := by decide +kernel
theorem dX8_row_64 : decode cX8_row 64 = .ok (.aload_n 3, 1) := by decide +kernel
theorem dX8_row_65 : decode cX8_row 65 = .ok (.getfield 104, 3) := by decide +kernel
theorem dX8_row_68 : decode cX8_row 68 = .ok (.ireturn, 1) := by decide +kernel
theorem dX8_row_69 : decode cX8_row 69 = .ok (.aload_n 3, 1) := by decide +kernel
theorem dX8_row_70 : decode cX8_row 70 = .ok (.getfield 107, 3) := by decide +kernel
theorem dX8_row_73 : decode cX8_row 73 = .ok (.ireturn, 1) := by decide +kernel
theorem dX8_row_74 : decode cX8_row 74 = .ok (.aload_n 3, 1) := by decide +kernel
theorem dX8_row_75 : decode cX8_row 75 = .ok (.getfield 110, 3) := by decide +kernel
theorem dX8_row_78 : decode cX8_row 78 = .ok (.invokestatic 113, 3) := by decide +kernel
theorem dX8_row_81 : decode cX8_row 81 = .ok (.ireturn, 1) := by decide +kernel
theorem dX8_row_82 : decode cX8_row 82 = .ok (.aload_n 3, 1) := by decide +kernel
theorem dX8_row_83 : decode cX8_row 83 = .ok (.getfield 117, 3) := by decide +kernel
theorem dX8_row_86 : decode cX8_row 86 = .ok (.ireturn, 1) := by decide +kernel
theorem dX8_row_87 : decode cX8_row 87 = .ok (.aload_n 3, 1) := by decide +kernel
theorem dX8_row_88 : decode cX8_row 88 = .ok (.getfield 93, 3) := by decide +kernel
theorem dX8_row_91 : decode cX8_row 91 = .ok (.invokestatic 113, 3) := by decide +kernel
theorem dX8_row_94 : decode cX8_row 94 = .ok (.ireturn, 1) := by decide +kernel
theorem dX8_row_95 : decode cX8_row 95 = .ok (.aload_n 3, 1) := by decide +kernel
theorem dX8_row_96 : decode cX8_row 96 = .ok (.getfield 83, 3) := by decide +kernel
theorem dX8_row_99 : decode cX8_row 99 = .ok (.ireturn, 1) := by decide +kernel
theorem dX8_row_100 : decode cX8_row 100 = .ok (.aload_n 3, 1) := by decide +kernel
theorem dX8_row_101 : decode cX8_row 101 = .ok (.getfield 119, 3) := by decide +kernel
theorem dX8_row_104 : decode cX8_row 104 = .ok (.ireturn, 1) := by decide +kernel
theorem dX8_row_105 : decode cX8_row 105 = .ok (.aload_n 0, 1) := by decide +kernel
theorem dX8_row_106 : decode cX8_row 106 = .ok (.getfield 25, 3) := by decide +kernel
theorem dX8_row_109 : decode cX8_row 109 = .ok (.aload_n 3, 1) := by decide +kernel
theorem dX8_row_110 : decode cX8_row 110 = .ok (.aload_n 0, 1) := by decide +kernel
theorem dX8_row_111 : decode cX8_row 111 = .ok (.getfield 18, 3) := by decide +kernel
theorem dX8_row_114 : decode cX8_row 114 = .ok (.invokevirtual 97, 3) := by decide +kernel
theorem dX8_row_117 : decode cX8_row 117 = .ok (.invokestatic 113, 3) := by decide +kernel
theorem dX8_row_120 : decode cX8_row 120 = .ok (.ireturn, 1) := by decide +kernel
theorem dX8_row_121 : decode cX8_row 121 = .ok (.iconst (-1), 1) := by decide +kernel
theorem dX8_row_122 : decode cX8_row 122 = .ok (.ireturn, 1) := by decide +kernel
set_option maxRecDepth 20000 in
theorem ggX8_write_X5_written : GoodIn wsX8_write wsX5_written := goodIn_q _ [(6, 165), (178, 29)] (by decide +kernel) (by decide +kernel)
set_option maxRecDepth 20000 in
theorem gX8_write_X5_written : GoodIn wsX8_write (wsV RX8 122 RX5 yX5_written wsX5_written) := goodIn_app (goodIn_of _ (by decide +kernel)) ggX8_write_X5_written
set_option maxRecDepth 20000 in
theorem ggX8_write_X0_at : GoodIn wsX8_write wsX0_at := goodIn_q _ [(174, 1), (32, 1), (31, 1), (185, 3)] (by decide +kernel) (by decide +kernel)
set_option maxRecDepth 20000 in
theorem gX8_write_X0_at : GoodIn wsX8_write (wsV RX8 126 RX0 yX0_at wsX0_at) := goodIn_app (goodIn_of _ (by decide +kernel)) ggX8_write_X0_at
theorem dX8_write_0 : decode cX8_write 0 = .ok (.aload_n 0, 1) := by decide +kernel
theorem dX8_write_1 : decode cX8_write 1 = .ok (.getfield 25, 3) := by decide +kernel
theorem dX8_write_4 : decode cX8_write 4 = .ok (.invokevirtual 122, 3) := by decide +kernel
theorem dX8_write_7 : decode cX8_write 7 = .ok (.iload_n 1, 1) := by decide +kernel
theorem dX8_write_8 : decode cX8_write 8 = .ok (.invokevirtual 126, 3) := by decide +kernel
theorem dX8_write_11 : decode cX8_write 11 = .ok (.ireturn, 1) := by decide +kernel
set_option maxRecDepth 20000 in
theorem ggX8_clear_X5_init : GoodIn wsX8_clear wsX5_init := goodIn_q _ [(8, 39), (60, 3), (53, 4), (63, 3)] (by decide +kernel) (by decide +kernel)
set_option maxRecDepth 20000 in
theorem gX8_clear_X5_init : GoodIn wsX8_clear (wsX5_init) := ggX8_clear_X5_init
set_option maxRecDepth 20000 in
theorem ggX8_clear_X0_empty : GoodIn wsX8_clear wsX0_empty := goodIn_q _ [(51, 2), (66, 3)] (by decide +kernel) (by decide +kernel)
set_option maxRecDepth 20000 in
theorem gX8_clear_X0_empty : GoodIn wsX8_clear (wsV RX8 44 RX0 yX0_empty wsX0_empty) := goodIn_app (goodIn_of _ (by decide +kernel)) ggX8_clear_X0_empty
theorem dX8_clear_0 : decode cX8_clear 0 = .ok (.aload_n 0, 1) := by decide +kernel
theorem dX8_clear_1 : decode cX8_clear 1 = .ok (.new 22, 3) := by decide +kernel
theorem dX8_clear_4 : decode cX8_clear 4 = .ok (.dup, 1) := by decide +kernel
theorem dX8_clear_5 : decode cX8_clear 5 = .ok (.iconst 0, 1) := by decide +kernel
theorem dX8_clear_6 : decode cX8_clear 6 = .ok (.invokespecial 24, 3) := by decide +kernel
theorem dX8_clear_9 : decode cX8_clear 9 = .ok (.putfield 25, 3) := by decide +kernel
theorem dX8_clear_12 : decode cX8_clear 12 = .ok (.aload_n 0, 1) := by decide +kernel
theorem dX8_clear_13 : decode cX8_clear 13 = .ok (.getfield 14, 3) := by decide +kernel
theorem dX8_clear_16 : decode cX8_clear 16 = .ok (.invokevirtual 44, 3) := by decide +kernel
theorem dX8_clear_19 : decode cX8_clear 19 = .ok (.return_, 1) := by decide +kernel
theorem dX8_isPerson_0 : decode cX8_isPerson 0 = .ok (.iload_n 0, 1) := by decide +kernel
theorem dX8_isPerson_1 : decode cX8_isPerson 1 = .ok (.iconst 1, 1) := by decide +kernel
theorem dX8_isPerson_2 : decode cX8_isPerson 2 = .ok (.if_icmp .lt 14, 3) := by decide +kernel
theorem dX8_isPerson_5 : decode cX8_isPerson 5 = .ok (.iload_n 0, 1) := by decide +kernel
theorem dX8_isPerson_6 : decode cX8_isPerson 6 = .ok (.sipush 999, 3) := by decide +kernel
theorem dX8_isPerson_9 : decode cX8_isPerson 9 = .ok (.if_icmp .gt 7, 3) := by decide +kernel
theorem dX8_isPerson_12 : decode cX8_isPerson 12 = .ok (.iconst 1, 1) := by decide +kernel
theorem dX8_isPerson_13 : decode cX8_isPerson 13 = .ok (.goto 4, 3) := by decide +kernel
theorem dX8_isPerson_16 : decode cX8_isPerson 16 = .ok (.iconst 0, 1) := by decide +kernel
theorem dX8_isPerson_17 : decode cX8_isPerson 17 = .ok (.ireturn, 1) := by decide +kernel
theorem dX8_oneIf_0 : decode cX8_oneIf 0 = .ok (.iload_n 0, 1) := by decide +kernel
theorem dX8_oneIf_1 : decode cX8_oneIf 1 = .ok (.ifCond .eq 7, 3) := by decide +kernel
theorem dX8_oneIf_4 : decode cX8_oneIf 4 = .ok (.iconst 1, 1) := by decide +kernel
theorem dX8_oneIf_5 : decode cX8_oneIf 5 = .ok (.goto 4, 3) := by decide +kernel
theorem dX8_oneIf_8 : decode cX8_oneIf 8 = .ok (.iconst 0, 1) := by decide +kernel
theorem dX8_oneIf_9 : decode cX8_oneIf 9 = .ok (.ireturn, 1) := by decide +kernel
theorem dX9_init_0 : decode cX9_init 0 = .ok (.aload_n 0, 1) := by decide +kernel
theorem dX9_init_1 : decode cX9_init 1 = .ok (.invokespecial 1, 3) := by decide +kernel
theorem dX9_init_4 : decode cX9_init 4 = .ok (.aload_n 0, 1) := by decide +kernel
theorem dX9_init_5 : decode cX9_init 5 = .ok (.sipush 3000, 3) := by decide +kernel
theorem dX9_init_8 : decode cX9_init 8 = .ok (.newarray .byte, 2) := by decide +kernel
theorem dX9_init_10 : decode cX9_init 10 = .ok (.putfield 9, 3) := by decide +kernel
theorem dX9_init_13 : decode cX9_init 13 = .ok (.aload_n 0, 1) := by decide +kernel
theorem dX9_init_14 : decode cX9_init 14 = .ok (.sipush 3001, 3) := by decide +kernel
theorem dX9_init_17 : decode cX9_init 17 = .ok (.newarray .int, 2) := by decide +kernel
theorem dX9_init_19 : decode cX9_init 19 = .ok (.putfield 13, 3) := by decide +kernel
theorem dX9_init_22 : decode cX9_init 22 = .ok (.aload_n 0, 1) := by decide +kernel
theorem dX9_init_23 : decode cX9_init 23 = .ok (.sipush 3001, 3) := by decide +kernel
theorem dX9_init_26 : decode cX9_init 26 = .ok (.newarray .int, 2) := by decide +kernel
theorem dX9_init_28 : decode cX9_init 28 = .ok (.putfield 17, 3) := by decide +kernel
theorem dX9_init_31 : decode cX9_init 31 = .ok (.aload_n 0, 1) := by decide +kernel
theorem dX9_init_32 : decode cX9_init 32 = .ok (.sipush 6000, 3) := by decide +kernel
theorem dX9_init_35 : decode cX9_init 35 = .ok (.newarray .int, 2) := by decide +kernel
theorem dX9_init_37 : decode cX9_init 37 = .ok (.putfield 20, 3) := by decide +kernel
theorem dX9_init_40 : decode cX9_init 40 = .ok (.aload_n 0, 1) := by decide +kernel
theorem dX9_init_41 : decode cX9_init 41 = .ok (.sipush 6000, 3) := by decide +kernel
theorem dX9_init_44 : decode cX9_init 44 = .ok (.newarray .int, 2) := by decide +kernel
theorem dX9_init_46 : decode cX9_init 46 = .ok (.putfield 23, 3) := by decide +kernel
theorem dX9_init_49 : decode cX9_init 49 = .ok (.aload_n 0, 1) := by decide +kernel
theorem dX9_init_50 : decode cX9_init 50 = .ok (.sipush 6000, 3) := by decide +kernel
theorem dX9_init_53 : decode cX9_init 53 = .ok (.newarray .int, 2) := by decide +kernel
theorem dX9_init_55 : decode cX9_init 55 = .ok (.putfield 26, 3) := by decide +kernel
theorem dX9_init_58 : decode cX9_init 58 = .ok (.aload_n 0, 1) := by decide +kernel
theorem dX9_init_59 : decode cX9_init 59 = .ok (.bipush 80, 2) := by decide +kernel
theorem dX9_init_61 : decode cX9_init 61 = .ok (.newarray .int, 2) := by decide +kernel
theorem dX9_init_63 : decode cX9_init 63 = .ok (.putfield 29, 3) := by decide +kernel
theorem dX9_init_66 : decode cX9_init 66 = .ok (.aload_n 0, 1) := by decide +kernel
theorem dX9_init_67 : decode cX9_init 67 = .ok (.bipush 80, 2) := by decide +kernel
theorem dX9_init_69 : decode cX9_init 69 = .ok (.newarray .int, 2) := by decide +kernel
theorem dX9_init_71 : decode cX9_init 71 = .ok (.putfield 32, 3) := by decide +kernel
theorem dX9_init_74 : decode cX9_init 74 = .ok (.aload_n 0, 1) := by decide +kernel
theorem dX9_init_75 : decode cX9_init 75 = .ok (.sipush 640, 3) := by decide +kernel
theorem dX9_init_78 : decode cX9_init 78 = .ok (.newarray .int, 2) := by decide +kernel
theorem dX9_init_80 : decode cX9_init 80 = .ok (.putfield 35, 3) := by decide +kernel
theorem dX9_init_83 : decode cX9_init 83 = .ok (.aload_n 0, 1) := by decide +kernel
theorem dX9_init_84 : decode cX9_init 84 = .ok (.bipush 80, 2) := by decide +kernel
theorem dX9_init_86 : decode cX9_init 86 = .ok (.newarray .int, 2) := by decide +kernel
theorem dX9_init_88 : decode cX9_init 88 = .ok (.putfield 38, 3) := by decide +kernel
theorem dX9_init_91 : decode cX9_init 91 = .ok (.aload_n 0, 1) := by decide +kernel
theorem dX9_init_92 : decode cX9_init 92 = .ok (.bipush 80, 2) := by decide +kernel
theorem dX9_init_94 : decode cX9_init 94 = .ok (.newarray .boolean, 2) := by decide +kernel
theorem dX9_init_96 : decode cX9_init 96 = .ok (.putfield 41, 3) := by decide +kernel
theorem dX9_init_99 : decode cX9_init 99 = .ok (.aload_n 0, 1) := by decide +kernel
theorem dX9_init_100 : decode cX9_init 100 = .ok (.bipush 80, 2) := by decide +kernel
theorem dX9_init_102 : decode cX9_init 102 = .ok (.newarray .int, 2) := by decide +kernel
theorem dX9_init_104 : decode cX9_init 104 = .ok (.putfield 45, 3) := by decide +kernel
theorem dX9_init_107 : decode cX9_init 107 = .ok (.aload_n 0, 1) := by decide +kernel
theorem dX9_init_108 : decode cX9_init 108 = .ok (.bipush 40, 2) := by decide +kernel
theorem dX9_init_110 : decode cX9_init 110 = .ok (.newarray .int, 2) := by decide +kernel
theorem dX9_init_112 : decode cX9_init 112 = .ok (.putfield 48, 3) := by decide +kernel
theorem dX9_init_115 : decode cX9_init 115 = .ok (.aload_n 0, 1) := by decide +kernel
theorem dX9_init_116 : decode cX9_init 116 = .ok (.bipush 40, 2) := by decide +kernel
theorem dX9_init_118 : decode cX9_init 118 = .ok (.newarray .boolean, 2) := by decide +kernel
theorem dX9_init_120 : decode cX9_init 120 = .ok (.putfield 51, 3) := by decide +kernel
theorem dX9_init_123 : decode cX9_init 123 = .ok (.aload_n 0, 1) := by decide +kernel
theorem dX9_init_124 : decode cX9_init 124 = .ok (.bipush 40, 2) := by decide +kernel
theorem dX9_init_126 : decode cX9_init 126 = .ok (.newarray .int, 2) := by decide +kernel
theorem dX9_init_128 : decode cX9_init 128 = .ok (.putfield 54, 3) := by decide +kernel
theorem dX9_init_131 : decode cX9_init 131 = .ok (.aload_n 0, 1) := by decide +kernel
theorem dX9_init_132 : decode cX9_init 132 = .ok (.ldc 57, 2) := by decide +kernel
theorem dX9_init_134 : decode cX9_init 134 = .ok (.newarray .long, 2) := by decide +kernel
theorem dX9_init_136 : decode cX9_init 136 = .ok (.putfield 58, 3) := by decide +kernel
theorem dX9_init_139 : decode cX9_init 139 = .ok (.aload_n 0, 1) := by decide +kernel
theorem dX9_init_140 : decode cX9_init 140 = .ok (.ldc 62, 2) := by decide +kernel
theorem dX9_init_142 : decode cX9_init 142 = .ok (.newarray .long, 2) := by decide +kernel
theorem dX9_init_144 : decode cX9_init 144 = .ok (.putfield 63, 3) := by decide +kernel
theorem dX9_init_147 : decode cX9_init 147 = .ok (.aload_n 0, 1) := by decide +kernel
theorem dX9_init_148 : decode cX9_init 148 = .ok (.sipush 1024, 3) := by decide +kernel
theorem dX9_init_151 : decode cX9_init 151 = .ok (.newarray .long, 2) := by decide +kernel
theorem dX9_init_153 : decode cX9_init 153 = .ok (.putfield 66, 3) := by decide +kernel
theorem dX9_init_156 : decode cX9_init 156 = .ok (.aload_n 0, 1) := by decide +kernel
theorem dX9_init_157 : decode cX9_init 157 = .ok (.bipush 40, 2) := by decide +kernel
theorem dX9_init_159 : decode cX9_init 159 = .ok (.newarray .boolean, 2) := by decide +kernel
theorem dX9_init_161 : decode cX9_init 161 = .ok (.putfield 69, 3) := by decide +kernel
theorem dX9_init_164 : decode cX9_init 164 = .ok (.aload_n 0, 1) := by decide +kernel
theorem dX9_init_165 : decode cX9_init 165 = .ok (.sipush 256, 3) := by decide +kernel
theorem dX9_init_168 : decode cX9_init 168 = .ok (.newarray .byte, 2) := by decide +kernel
theorem dX9_init_170 : decode cX9_init 170 = .ok (.putfield 72, 3) := by decide +kernel
theorem dX9_init_173 : decode cX9_init 173 = .ok (.return_, 1) := by decide +kernel
