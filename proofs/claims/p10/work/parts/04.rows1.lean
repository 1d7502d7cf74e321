theorem dX0_init_0 : decode cX0_init 0 = .ok (.aload_n 0, 1) := by decide +kernel
theorem dX0_init_1 : decode cX0_init 1 = .ok (.invokespecial 3, 3) := by decide +kernel
theorem dX0_init_4 : decode cX0_init 4 = .ok (.aload_n 0, 1) := by decide +kernel
theorem dX0_init_5 : decode cX0_init 5 = .ok (.iload_n 1, 1) := by decide +kernel
theorem dX0_init_6 : decode cX0_init 6 = .ok (.putfield 9, 3) := by decide +kernel
theorem dX0_init_9 : decode cX0_init 9 = .ok (.aload_n 0, 1) := by decide +kernel
theorem dX0_init_10 : decode cX0_init 10 = .ok (.bipush 64, 2) := by decide +kernel
theorem dX0_init_12 : decode cX0_init 12 = .ok (.newarray .byte, 2) := by decide +kernel
theorem dX0_init_14 : decode cX0_init 14 = .ok (.putfield 15, 3) := by decide +kernel
theorem dX0_init_17 : decode cX0_init 17 = .ok (.aload_n 0, 1) := by decide +kernel
theorem dX0_init_18 : decode cX0_init 18 = .ok (.iconst 0, 1) := by decide +kernel
theorem dX0_init_19 : decode cX0_init 19 = .ok (.putfield 19, 3) := by decide +kernel
theorem dX0_init_22 : decode cX0_init 22 = .ok (.return_, 1) := by decide +kernel
set_option maxRecDepth 20000 in
theorem ggX0_add_J7_copyOf_9075b : GoodIn wsX0_add wsJ7_copyOf_9075b := goodIn_q _ [(7, 16)] (by decide +kernel) (by decide +kernel)
set_option maxRecDepth 20000 in
theorem gX0_add_J7_copyOf_9075b : GoodIn wsX0_add (va_wsS RX0 22 yJ7_copyOf_9075b wsJ7_copyOf_9075b) := goodIn_app (goodIn_of _ (by decide +kernel)) ggX0_add_J7_copyOf_9075b
theorem dX0_add_0 : decode cX0_add 0 = .ok (.aload_n 0, 1) := by decide +kernel
theorem dX0_add_1 : decode cX0_add 1 = .ok (.getfield 19, 3) := by decide +kernel
theorem dX0_add_4 : decode cX0_add 4 = .ok (.aload_n 0, 1) := by decide +kernel
theorem dX0_add_5 : decode cX0_add 5 = .ok (.getfield 9, 3) := by decide +kernel
theorem dX0_add_8 : decode cX0_add 8 = .ok (.if_icmp .lt 5, 3) := by decide +kernel
theorem dX0_add_11 : decode cX0_add 11 = .ok (.iconst 0, 1) := by decide +kernel
theorem dX0_add_12 : decode cX0_add 12 = .ok (.ireturn, 1) := by decide +kernel
theorem dX0_add_13 : decode cX0_add 13 = .ok (.aload_n 0, 1) := by decide +kernel
theorem dX0_add_14 : decode cX0_add 14 = .ok (.getfield 19, 3) := by decide +kernel
theorem dX0_add_17 : decode cX0_add 17 = .ok (.aload_n 0, 1) := by decide +kernel
theorem dX0_add_18 : decode cX0_add 18 = .ok (.getfield 15, 3) := by decide +kernel
theorem dX0_add_21 : decode cX0_add 21 = .ok (.arraylength, 1) := by decide +kernel
theorem dX0_add_22 : decode cX0_add 22 = .ok (.if_icmp .lt 21, 3) := by decide +kernel
theorem dX0_add_25 : decode cX0_add 25 = .ok (.aload_n 0, 1) := by decide +kernel
theorem dX0_add_26 : decode cX0_add 26 = .ok (.aload_n 0, 1) := by decide +kernel
theorem dX0_add_27 : decode cX0_add 27 = .ok (.getfield 15, 3) := by decide +kernel
theorem dX0_add_30 : decode cX0_add 30 = .ok (.iconst 2, 1) := by decide +kernel
theorem dX0_add_31 : decode cX0_add 31 = .ok (.aload_n 0, 1) := by decide +kernel
theorem dX0_add_32 : decode cX0_add 32 = .ok (.getfield 15, 3) := by decide +kernel
theorem dX0_add_35 : decode cX0_add 35 = .ok (.arraylength, 1) := by decide +kernel
theorem dX0_add_36 : decode cX0_add 36 = .ok (.imul, 1) := by decide +kernel
theorem dX0_add_37 : decode cX0_add 37 = .ok (.invokestatic 22, 3) := by decide +kernel
theorem dX0_add_40 : decode cX0_add 40 = .ok (.putfield 15, 3) := by decide +kernel
theorem dX0_add_43 : decode cX0_add 43 = .ok (.aload_n 0, 1) := by decide +kernel
theorem dX0_add_44 : decode cX0_add 44 = .ok (.getfield 15, 3) := by decide +kernel
theorem dX0_add_47 : decode cX0_add 47 = .ok (.aload_n 0, 1) := by decide +kernel
theorem dX0_add_48 : decode cX0_add 48 = .ok (.getfield 19, 3) := by decide +kernel
theorem dX0_add_51 : decode cX0_add 51 = .ok (.iload_n 1, 1) := by decide +kernel
theorem dX0_add_52 : decode cX0_add 52 = .ok (.i2b, 1) := by decide +kernel
theorem dX0_add_53 : decode cX0_add 53 = .ok (.bastore, 1) := by decide +kernel
theorem dX0_add_54 : decode cX0_add 54 = .ok (.aload_n 0, 1) := by decide +kernel
theorem dX0_add_55 : decode cX0_add 55 = .ok (.dup, 1) := by decide +kernel
theorem dX0_add_56 : decode cX0_add 56 = .ok (.getfield 19, 3) := by decide +kernel
theorem dX0_add_59 : decode cX0_add 59 = .ok (.iconst 1, 1) := by decide +kernel
theorem dX0_add_60 : decode cX0_add 60 = .ok (.iadd, 1) := by decide +kernel
theorem dX0_add_61 : decode cX0_add 61 = .ok (.putfield 19, 3) := by decide +kernel
theorem dX0_add_64 : decode cX0_add 64 = .ok (.iconst 1, 1) := by decide +kernel
theorem dX0_add_65 : decode cX0_add 65 = .ok (.ireturn, 1) := by decide +kernel
theorem dX0_at_0 : decode cX0_at 0 = .ok (.iload_n 1, 1) := by decide +kernel
theorem dX0_at_1 : decode cX0_at 1 = .ok (.ifCond .lt 11, 3) := by decide +kernel
theorem dX0_at_4 : decode cX0_at 4 = .ok (.iload_n 1, 1) := by decide +kernel
theorem dX0_at_5 : decode cX0_at 5 = .ok (.aload_n 0, 1) := by decide +kernel
theorem dX0_at_6 : decode cX0_at 6 = .ok (.getfield 19, 3) := by decide +kernel
theorem dX0_at_9 : decode cX0_at 9 = .ok (.if_icmp .lt 7, 3) := by decide +kernel
theorem dX0_at_12 : decode cX0_at 12 = .ok (.iconst (-1), 1) := by decide +kernel
theorem dX0_at_13 : decode cX0_at 13 = .ok (.goto 9, 3) := by decide +kernel
theorem dX0_at_16 : decode cX0_at 16 = .ok (.aload_n 0, 1) := by decide +kernel
theorem dX0_at_17 : decode cX0_at 17 = .ok (.getfield 15, 3) := by decide +kernel
theorem dX0_at_20 : decode cX0_at 20 = .ok (.iload_n 1, 1) := by decide +kernel
theorem dX0_at_21 : decode cX0_at 21 = .ok (.baload, 1) := by decide +kernel
theorem dX0_at_22 : decode cX0_at 22 = .ok (.ireturn, 1) := by decide +kernel
theorem dX0_length_0 : decode cX0_length 0 = .ok (.aload_n 0, 1) := by decide +kernel
theorem dX0_length_1 : decode cX0_length 1 = .ok (.getfield 19, 3) := by decide +kernel
theorem dX0_length_4 : decode cX0_length 4 = .ok (.ireturn, 1) := by decide +kernel
theorem dX0_empty_0 : decode cX0_empty 0 = .ok (.aload_n 0, 1) := by decide +kernel
theorem dX0_empty_1 : decode cX0_empty 1 = .ok (.iconst 0, 1) := by decide +kernel
theorem dX0_empty_2 : decode cX0_empty 2 = .ok (.putfield 19, 3) := by decide +kernel
theorem dX0_empty_5 : decode cX0_empty 5 = .ok (.return_, 1) := by decide +kernel
theorem dX1_init_0 : decode cX1_init 0 = .ok (.aload_n 0, 1) := by decide +kernel
theorem dX1_init_1 : decode cX1_init 1 = .ok (.invokespecial 3, 3) := by decide +kernel
theorem dX1_init_4 : decode cX1_init 4 = .ok (.aload_n 0, 1) := by decide +kernel
theorem dX1_init_5 : decode cX1_init 5 = .ok (.bipush 32, 2) := by decide +kernel
theorem dX1_init_7 : decode cX1_init 7 = .ok (.newarray .long, 2) := by decide +kernel
theorem dX1_init_9 : decode cX1_init 9 = .ok (.putfield 9, 3) := by decide +kernel
theorem dX1_init_12 : decode cX1_init 12 = .ok (.aload_n 0, 1) := by decide +kernel
theorem dX1_init_13 : decode cX1_init 13 = .ok (.iconst 0, 1) := by decide +kernel
theorem dX1_init_14 : decode cX1_init 14 = .ok (.iload_n 1, 1) := by decide +kernel
theorem dX1_init_15 : decode cX1_init 15 = .ok (.invokestatic 15, 3) := by decide +kernel
theorem dX1_init_18 : decode cX1_init 18 = .ok (.newarray .byte, 2) := by decide +kernel
theorem dX1_init_20 : decode cX1_init 20 = .ok (.putfield 21, 3) := by decide +kernel
theorem dX1_init_23 : decode cX1_init 23 = .ok (.return_, 1) := by decide +kernel
theorem dX1_size_0 : decode cX1_size 0 = .ok (.aload_n 0, 1) := by decide +kernel
theorem dX1_size_1 : decode cX1_size 1 = .ok (.getfield 25, 3) := by decide +kernel
theorem dX1_size_4 : decode cX1_size 4 = .ok (.ireturn, 1) := by decide +kernel
theorem dX1_at_0 : decode cX1_at 0 = .ok (.iload_n 1, 1) := by decide +kernel
theorem dX1_at_1 : decode cX1_at 1 = .ok (.ifCond .lt 11, 3) := by decide +kernel
theorem dX1_at_4 : decode cX1_at 4 = .ok (.iload_n 1, 1) := by decide +kernel
theorem dX1_at_5 : decode cX1_at 5 = .ok (.aload_n 0, 1) := by decide +kernel
theorem dX1_at_6 : decode cX1_at 6 = .ok (.getfield 25, 3) := by decide +kernel
theorem dX1_at_9 : decode cX1_at 9 = .ok (.if_icmp .lt 7, 3) := by decide +kernel
theorem dX1_at_12 : decode cX1_at 12 = .ok (.iconst (-1), 1) := by decide +kernel
theorem dX1_at_13 : decode cX1_at 13 = .ok (.goto 9, 3) := by decide +kernel
theorem dX1_at_16 : decode cX1_at 16 = .ok (.aload_n 0, 1) := by decide +kernel
theorem dX1_at_17 : decode cX1_at 17 = .ok (.getfield 21, 3) := by decide +kernel
theorem dX1_at_20 : decode cX1_at 20 = .ok (.iload_n 1, 1) := by decide +kernel
theorem dX1_at_21 : decode cX1_at 21 = .ok (.baload, 1) := by decide +kernel
theorem dX1_at_22 : decode cX1_at 22 = .ok (.ireturn, 1) := by decide +kernel
theorem dX1_add_0 : decode cX1_add 0 = .ok (.aload_n 0, 1) := by decide +kernel
theorem dX1_add_1 : decode cX1_add 1 = .ok (.getfield 25, 3) := by decide +kernel
theorem dX1_add_4 : decode cX1_add 4 = .ok (.aload_n 0, 1) := by decide +kernel
theorem dX1_add_5 : decode cX1_add 5 = .ok (.getfield 21, 3) := by decide +kernel
theorem dX1_add_8 : decode cX1_add 8 = .ok (.arraylength, 1) := by decide +kernel
theorem dX1_add_9 : decode cX1_add 9 = .ok (.if_icmp .ge 24, 3) := by decide +kernel
theorem dX1_add_12 : decode cX1_add 12 = .ok (.aload_n 0, 1) := by decide +kernel
theorem dX1_add_13 : decode cX1_add 13 = .ok (.getfield 21, 3) := by decide +kernel
theorem dX1_add_16 : decode cX1_add 16 = .ok (.aload_n 0, 1) := by decide +kernel
theorem dX1_add_17 : decode cX1_add 17 = .ok (.getfield 25, 3) := by decide +kernel
theorem dX1_add_20 : decode cX1_add 20 = .ok (.iload_n 1, 1) := by decide +kernel
theorem dX1_add_21 : decode cX1_add 21 = .ok (.i2b, 1) := by decide +kernel
theorem dX1_add_22 : decode cX1_add 22 = .ok (.bastore, 1) := by decide +kernel
theorem dX1_add_23 : decode cX1_add 23 = .ok (.aload_n 0, 1) := by decide +kernel
theorem dX1_add_24 : decode cX1_add 24 = .ok (.dup, 1) := by decide +kernel
theorem dX1_add_25 : decode cX1_add 25 = .ok (.getfield 25, 3) := by decide +kernel
theorem dX1_add_28 : decode cX1_add 28 = .ok (.iconst 1, 1) := by decide +kernel
theorem dX1_add_29 : decode cX1_add 29 = .ok (.iadd, 1) := by decide +kernel
theorem dX1_add_30 : decode cX1_add 30 = .ok (.putfield 25, 3) := by decide +kernel
theorem dX1_add_33 : decode cX1_add 33 = .ok (.return_, 1) := by decide +kernel
set_option maxRecDepth 20000 in
theorem ggX1_leftOf_X1_at : GoodIn wsX1_leftOf wsX1_at := goodIn_q _ [(5, 3), (11, 3)] (by decide +kernel) (by decide +kernel)
set_option maxRecDepth 20000 in
theorem gX1_leftOf_X1_at : GoodIn wsX1_leftOf (wsV RX1 29 RX1 yX1_at wsX1_at) := goodIn_app (goodIn_of _ (by decide +kernel)) ggX1_leftOf_X1_at
set_option maxRecDepth 20000 in
theorem ggX1_leftOf_X1_isCondition : GoodIn wsX1_leftOf wsX1_isCondition := goodIn_q _ [(10, 1)] (by decide +kernel) (by decide +kernel)
set_option maxRecDepth 20000 in
theorem gX1_leftOf_X1_isCondition : GoodIn wsX1_leftOf (va_wsS RX1 33 yX1_isCondition wsX1_isCondition) := goodIn_app (goodIn_of _ (by decide +kernel)) ggX1_leftOf_X1_isCondition
theorem dX1_leftOf_0 : decode cX1_leftOf 0 = .ok (.iconst 1, 1) := by decide +kernel
theorem dX1_leftOf_1 : decode cX1_leftOf 1 = .ok (.istore_n 2, 1) := by decide +kernel
theorem dX1_leftOf_2 : decode cX1_leftOf 2 = .ok (.iload_n 1, 1) := by decide +kernel
theorem dX1_leftOf_3 : decode cX1_leftOf 3 = .ok (.iconst 1, 1) := by decide +kernel
theorem dX1_leftOf_4 : decode cX1_leftOf 4 = .ok (.isub, 1) := by decide +kernel
theorem dX1_leftOf_5 : decode cX1_leftOf 5 = .ok (.istore_n 3, 1) := by decide +kernel
theorem dX1_leftOf_6 : decode cX1_leftOf 6 = .ok (.iload_n 3, 1) := by decide +kernel
theorem dX1_leftOf_7 : decode cX1_leftOf 7 = .ok (.ifCond .lt 43, 3) := by decide +kernel
theorem dX1_leftOf_10 : decode cX1_leftOf 10 = .ok (.iload_n 2, 1) := by decide +kernel
theorem dX1_leftOf_11 : decode cX1_leftOf 11 = .ok (.ifCond .le 39, 3) := by decide +kernel
theorem dX1_leftOf_14 : decode cX1_leftOf 14 = .ok (.aload_n 0, 1) := by decide +kernel
theorem dX1_leftOf_15 : decode cX1_leftOf 15 = .ok (.iload_n 3, 1) := by decide +kernel
theorem dX1_leftOf_16 : decode cX1_leftOf 16 = .ok (.invokevirtual 29, 3) := by decide +kernel
theorem dX1_leftOf_19 : decode cX1_leftOf 19 = .ok (.invokestatic 33, 3) := by decide +kernel
theorem dX1_leftOf_22 : decode cX1_leftOf 22 = .ok (.ifCond .eq 9, 3) := by decide +kernel
theorem dX1_leftOf_25 : decode cX1_leftOf 25 = .ok (.iinc 2 (-1), 3) := by decide +kernel
theorem dX1_leftOf_28 : decode cX1_leftOf 28 = .ok (.goto 16, 3) := by decide +kernel
theorem dX1_leftOf_31 : decode cX1_leftOf 31 = .ok (.aload_n 0, 1) := by decide +kernel
theorem dX1_leftOf_32 : decode cX1_leftOf 32 = .ok (.iload_n 3, 1) := by decide +kernel
theorem dX1_leftOf_33 : decode cX1_leftOf 33 = .ok (.invokevirtual 29, 3) := by decide +kernel
theorem dX1_leftOf_36 : decode cX1_leftOf 36 = .ok (.bipush 16, 2) := by decide +kernel
theorem dX1_leftOf_38 : decode cX1_leftOf 38 = .ok (.if_icmp .eq 6, 3) := by decide +kernel
theorem dX1_leftOf_41 : decode cX1_leftOf 41 = .ok (.iinc 2 1, 3) := by decide +kernel
theorem dX1_leftOf_44 : decode cX1_leftOf 44 = .ok (.iinc 3 (-1), 3) := by decide +kernel
theorem dX1_leftOf_47 : decode cX1_leftOf 47 = .ok (.goto (-41), 3) := by decide +kernel
theorem dX1_leftOf_50 : decode cX1_leftOf 50 = .ok (.iload_n 3, 1) := by decide +kernel
theorem dX1_leftOf_51 : decode cX1_leftOf 51 = .ok (.ireturn, 1) := by decide +kernel
set_option maxRecDepth 20000 in
theorem ggX1_valueOf_X1_at : GoodIn wsX1_valueOf wsX1_at := goodIn_q _ [(7, 3), (16, 3)] (by decide +kernel) (by decide +kernel)
set_option maxRecDepth 20000 in
theorem gX1_valueOf_X1_at : GoodIn wsX1_valueOf (wsV RX1 29 RX1 yX1_at wsX1_at) := goodIn_app (goodIn_of _ (by decide +kernel)) ggX1_valueOf_X1_at
set_option maxRecDepth 20000 in
theorem ggX1_valueOf_X1_isCondition : GoodIn wsX1_valueOf wsX1_isCondition := goodIn_q _ [(12, 1)] (by decide +kernel) (by decide +kernel)
set_option maxRecDepth 20000 in
theorem gX1_valueOf_X1_isCondition : GoodIn wsX1_valueOf (va_wsS RX1 33 yX1_isCondition wsX1_isCondition) := goodIn_app (goodIn_of _ (by decide +kernel)) ggX1_valueOf_X1_isCondition
set_option maxRecDepth 20000 in
theorem ggX1_valueOf_X1_join : GoodIn wsX1_valueOf wsX1_join := goodIn_q _ [(15, 1)] (by decide +kernel) (by decide +kernel)
set_option maxRecDepth 20000 in
theorem gX1_valueOf_X1_join : GoodIn wsX1_valueOf (va_wsS RX1 39 yX1_join wsX1_join) := goodIn_app (goodIn_of _ (by decide +kernel)) ggX1_valueOf_X1_join
theorem dX1_valueOf_0 : decode cX1_valueOf 0 = .ok (.iconst 0, 1) := by decide +kernel
theorem dX1_valueOf_1 : decode cX1_valueOf 1 = .ok (.istore 4, 2) := by decide +kernel
theorem dX1_valueOf_3 : decode cX1_valueOf 3 = .ok (.iload_n 1, 1) := by decide +kernel
theorem dX1_valueOf_4 : decode cX1_valueOf 4 = .ok (.istore 5, 2) := by decide +kernel
theorem dX1_valueOf_6 : decode cX1_valueOf 6 = .ok (.iload 5, 2) := by decide +kernel
theorem dX1_valueOf_8 : decode cX1_valueOf 8 = .ok (.iload_n 2, 1) := by decide +kernel
theorem dX1_valueOf_9 : decode cX1_valueOf 9 = .ok (.if_icmp .ge 136, 3) := by decide +kernel
theorem dX1_valueOf_12 : decode cX1_valueOf 12 = .ok (.aload_n 0, 1) := by decide +kernel
theorem dX1_valueOf_13 : decode cX1_valueOf 13 = .ok (.iload 5, 2) := by decide +kernel
theorem dX1_valueOf_15 : decode cX1_valueOf 15 = .ok (.invokevirtual 29, 3) := by decide +kernel
theorem dX1_valueOf_18 : decode cX1_valueOf 18 = .ok (.istore 6, 2) := by decide +kernel
theorem dX1_valueOf_20 : decode cX1_valueOf 20 = .ok (.iload 6, 2) := by decide +kernel
theorem dX1_valueOf_22 : decode cX1_valueOf 22 = .ok (.invokestatic 33, 3) := by decide +kernel
theorem dX1_valueOf_25 : decode cX1_valueOf 25 = .ok (.ifCond .eq 37, 3) := by decide +kernel
theorem dX1_valueOf_28 : decode cX1_valueOf 28 = .ok (.iload 4, 2) := by decide +kernel
theorem dX1_valueOf_30 : decode cX1_valueOf 30 = .ok (.aload_n 0, 1) := by decide +kernel
theorem dX1_valueOf_31 : decode cX1_valueOf 31 = .ok (.getfield 9, 3) := by decide +kernel
theorem dX1_valueOf_34 : decode cX1_valueOf 34 = .ok (.arraylength, 1) := by decide +kernel
theorem dX1_valueOf_35 : decode cX1_valueOf 35 = .ok (.if_icmp .ge 104, 3) := by decide +kernel
theorem dX1_valueOf_38 : decode cX1_valueOf 38 = .ok (.iload 6, 2) := by decide +kernel
theorem dX1_valueOf_40 : decode cX1_valueOf 40 = .ok (.aload_n 3, 1) := by decide +kernel
theorem dX1_valueOf_41 : decode cX1_valueOf 41 = .ok (.arraylength, 1) := by decide +kernel
theorem dX1_valueOf_42 : decode cX1_valueOf 42 = .ok (.if_icmp .ge 97, 3) := by decide +kernel
theorem dX1_valueOf_45 : decode cX1_valueOf 45 = .ok (.aload_n 0, 1) := by decide +kernel
theorem dX1_valueOf_46 : decode cX1_valueOf 46 = .ok (.getfield 9, 3) := by decide +kernel
theorem dX1_valueOf_49 : decode cX1_valueOf 49 = .ok (.iload 4, 2) := by decide +kernel
theorem dX1_valueOf_51 : decode cX1_valueOf 51 = .ok (.aload_n 3, 1) := by decide +kernel
theorem dX1_valueOf_52 : decode cX1_valueOf 52 = .ok (.iload 6, 2) := by decide +kernel
theorem dX1_valueOf_54 : decode cX1_valueOf 54 = .ok (.laload, 1) := by decide +kernel
theorem dX1_valueOf_55 : decode cX1_valueOf 55 = .ok (.lastore, 1) := by decide +kernel
theorem dX1_valueOf_56 : decode cX1_valueOf 56 = .ok (.iinc 4 1, 3) := by decide +kernel
theorem dX1_valueOf_59 : decode cX1_valueOf 59 = .ok (.goto 80, 3) := by decide +kernel
theorem dX1_valueOf_62 : decode cX1_valueOf 62 = .ok (.iload 6, 2) := by decide +kernel
theorem dX1_valueOf_64 : decode cX1_valueOf 64 = .ok (.bipush 16, 2) := by decide +kernel
theorem dX1_valueOf_66 : decode cX1_valueOf 66 = .ok (.if_icmp .ne 34, 3) := by decide +kernel
theorem dX1_valueOf_69 : decode cX1_valueOf 69 = .ok (.iload 4, 2) := by decide +kernel
theorem dX1_valueOf_71 : decode cX1_valueOf 71 = .ok (.iconst 1, 1) := by decide +kernel
theorem dX1_valueOf_72 : decode cX1_valueOf 72 = .ok (.if_icmp .lt 28, 3) := by decide +kernel
theorem dX1_valueOf_75 : decode cX1_valueOf 75 = .ok (.aload_n 0, 1) := by decide +kernel
theorem dX1_valueOf_76 : decode cX1_valueOf 76 = .ok (.getfield 9, 3) := by decide +kernel
theorem dX1_valueOf_79 : decode cX1_valueOf 79 = .ok (.iload 4, 2) := by decide +kernel
theorem dX1_valueOf_81 : decode cX1_valueOf 81 = .ok (.iconst 1, 1) := by decide +kernel
theorem dX1_valueOf_82 : decode cX1_valueOf 82 = .ok (.isub, 1) := by decide +kernel
theorem dX1_valueOf_83 : decode cX1_valueOf 83 = .ok (.aload_n 0, 1) := by decide +kernel
theorem dX1_valueOf_84 : decode cX1_valueOf 84 = .ok (.getfield 9, 3) := by decide +kernel
theorem dX1_valueOf_87 : decode cX1_valueOf 87 = .ok (.iload 4, 2) := by decide +kernel
theorem dX1_valueOf_89 : decode cX1_valueOf 89 = .ok (.iconst 1, 1) := by decide +kernel
theorem dX1_valueOf_90 : decode cX1_valueOf 90 = .ok (.isub, 1) := by decide +kernel
theorem dX1_valueOf_91 : decode cX1_valueOf 91 = .ok (.laload, 1) := by decide +kernel
theorem dX1_valueOf_92 : decode cX1_valueOf 92 = .ok (.ldc2_w 37, 3) := by decide +kernel
theorem dX1_valueOf_95 : decode cX1_valueOf 95 = .ok (.lxor, 1) := by decide +kernel
theorem dX1_valueOf_96 : decode cX1_valueOf 96 = .ok (.lastore, 1) := by decide +kernel
theorem dX1_valueOf_97 : decode cX1_valueOf 97 = .ok (.goto 42, 3) := by decide +kernel
theorem dX1_valueOf_100 : decode cX1_valueOf 100 = .ok (.iload 4, 2) := by decide +kernel
theorem dX1_valueOf_102 : decode cX1_valueOf 102 = .ok (.iconst 2, 1) := by decide +kernel
theorem dX1_valueOf_103 : decode cX1_valueOf 103 = .ok (.if_icmp .lt 36, 3) := by decide +kernel
theorem dX1_valueOf_106 : decode cX1_valueOf 106 = .ok (.iinc 4 (-1), 3) := by decide +kernel
theorem dX1_valueOf_109 : decode cX1_valueOf 109 = .ok (.aload_n 0, 1) := by decide +kernel
theorem dX1_valueOf_110 : decode cX1_valueOf 110 = .ok (.getfield 9, 3) := by decide +kernel
theorem dX1_valueOf_113 : decode cX1_valueOf 113 = .ok (.iload 4, 2) := by decide +kernel
theorem dX1_valueOf_115 : decode cX1_valueOf 115 = .ok (.iconst 1, 1) := by decide +kernel
theorem dX1_valueOf_116 : decode cX1_valueOf 116 = .ok (.isub, 1) := by decide +kernel
theorem dX1_valueOf_117 : decode cX1_valueOf 117 = .ok (.iload 6, 2) := by decide +kernel
theorem dX1_valueOf_119 : decode cX1_valueOf 119 = .ok (.aload_n 0, 1) := by decide +kernel
theorem dX1_valueOf_120 : decode cX1_valueOf 120 = .ok (.getfield 9, 3) := by decide +kernel
theorem dX1_valueOf_123 : decode cX1_valueOf 123 = .ok (.iload 4, 2) := by decide +kernel
theorem dX1_valueOf_125 : decode cX1_valueOf 125 = .ok (.iconst 1, 1) := by decide +kernel
theorem dX1_valueOf_126 : decode cX1_valueOf 126 = .ok (.isub, 1) := by decide +kernel
theorem dX1_valueOf_127 : decode cX1_valueOf 127 = .ok (.laload, 1) := by decide +kernel
theorem dX1_valueOf_128 : decode cX1_valueOf 128 = .ok (.aload_n 0, 1) := by decide +kernel
theorem dX1_valueOf_129 : decode cX1_valueOf 129 = .ok (.getfield 9, 3) := by decide +kernel
theorem dX1_valueOf_132 : decode cX1_valueOf 132 = .ok (.iload 4, 2) := by decide +kernel
theorem dX1_valueOf_134 : decode cX1_valueOf 134 = .ok (.laload, 1) := by decide +kernel
theorem dX1_valueOf_135 : decode cX1_valueOf 135 = .ok (.invokestatic 39, 3) := by decide +kernel
theorem dX1_valueOf_138 : decode cX1_valueOf 138 = .ok (.lastore, 1) := by decide +kernel
theorem dX1_valueOf_139 : decode cX1_valueOf 139 = .ok (.iinc 5 1, 3) := by decide +kernel
theorem dX1_valueOf_142 : decode cX1_valueOf 142 = .ok (.goto (-136), 3) := by decide +kernel
theorem dX1_valueOf_145 : decode cX1_valueOf 145 = .ok (.iload 4, 2) := by decide +kernel
theorem dX1_valueOf_147 : decode cX1_valueOf 147 = .ok (.ifCond .le 12, 3) := by decide +kernel
theorem dX1_valueOf_150 : decode cX1_valueOf 150 = .ok (.aload_n 0, 1) := by decide +kernel
theorem dX1_valueOf_151 : decode cX1_valueOf 151 = .ok (.getfield 9, 3) := by decide +kernel
theorem dX1_valueOf_154 : decode cX1_valueOf 154 = .ok (.iconst 0, 1) := by decide +kernel
theorem dX1_valueOf_155 : decode cX1_valueOf 155 = .ok (.laload, 1) := by decide +kernel
theorem dX1_valueOf_156 : decode cX1_valueOf 156 = .ok (.goto 4, 3) := by decide +kernel
theorem dX1_valueOf_159 : decode cX1_valueOf 159 = .ok (.lconst 0, 1) := by decide +kernel
theorem dX1_valueOf_160 : decode cX1_valueOf 160 = .ok (.lreturn, 1) := by decide +kernel
theorem dX1_join_0 : decode cX1_join 0 = .ok (.iload_n 0, 1) := by decide +kernel
theorem dX1_join_1 : decode cX1_join 1 = .ok (.bipush 17, 2) := by decide +kernel
theorem dX1_join_3 : decode cX1_join 3 = .ok (.if_icmp .ne 9, 3) := by decide +kernel
theorem dX1_join_6 : decode cX1_join 6 = .ok (.lload_n 1, 1) := by decide +kernel
theorem dX1_join_7 : decode cX1_join 7 = .ok (.lload_n 3, 1) := by decide +kernel
theorem dX1_join_8 : decode cX1_join 8 = .ok (.land, 1) := by decide +kernel
theorem dX1_join_9 : decode cX1_join 9 = .ok (.goto 6, 3) := by decide +kernel
theorem dX1_join_12 : decode cX1_join 12 = .ok (.lload_n 1, 1) := by decide +kernel
theorem dX1_join_13 : decode cX1_join 13 = .ok (.lload_n 3, 1) := by decide +kernel
theorem dX1_join_14 : decode cX1_join 14 = .ok (.lor, 1) := by decide +kernel
theorem dX1_join_15 : decode cX1_join 15 = .ok (.lreturn, 1) := by decide +kernel
theorem dX1_isCondition_0 : decode cX1_isCondition 0 = .ok (.iload_n 0, 1) := by decide +kernel
theorem dX1_isCondition_1 : decode cX1_isCondition 1 = .ok (.ifCond .lt 13, 3) := by decide +kernel
theorem dX1_isCondition_4 : decode cX1_isCondition 4 = .ok (.iload_n 0, 1) := by decide +kernel
theorem dX1_isCondition_5 : decode cX1_isCondition 5 = .ok (.bipush 16, 2) := by decide +kernel
theorem dX1_isCondition_7 : decode cX1_isCondition 7 = .ok (.if_icmp .ge 7, 3) := by decide +kernel
theorem dX1_isCondition_10 : decode cX1_isCondition 10 = .ok (.iconst 1, 1) := by decide +kernel
theorem dX1_isCondition_11 : decode cX1_isCondition 11 = .ok (.goto 4, 3) := by decide +kernel
theorem dX1_isCondition_14 : decode cX1_isCondition 14 = .ok (.iconst 0, 1) := by decide +kernel
theorem dX1_isCondition_15 : decode cX1_isCondition 15 = .ok (.ireturn, 1) := by decide +kernel
theorem dX2_init_0 : decode cX2_init 0 = .ok (.aload_n 0, 1) := by decide +kernel
theorem dX2_init_1 : decode cX2_init 1 = .ok (.invokespecial 3, 3) := by decide +kernel
theorem dX2_init_4 : decode cX2_init 4 = .ok (.aload_n 0, 1) := by decide +kernel
theorem dX2_init_5 : decode cX2_init 5 = .ok (.aload_n 1, 1) := by decide +kernel
theorem dX2_init_6 : decode cX2_init 6 = .ok (.putfield 9, 3) := by decide +kernel
theorem dX2_init_9 : decode cX2_init 9 = .ok (.aload_n 0, 1) := by decide +kernel
theorem dX2_init_10 : decode cX2_init 10 = .ok (.aload_n 2, 1) := by decide +kernel
theorem dX2_init_11 : decode cX2_init 11 = .ok (.putfield 15, 3) := by decide +kernel
theorem dX2_init_14 : decode cX2_init 14 = .ok (.aload_n 0, 1) := by decide +kernel
theorem dX2_init_15 : decode cX2_init 15 = .ok (.aload_n 2, 1) := by decide +kernel
theorem dX2_init_16 : decode cX2_init 16 = .ok (.getfield 19, 3) := by decide +kernel
theorem dX2_init_19 : decode cX2_init 19 = .ok (.putfield 25, 3) := by decide +kernel
theorem dX2_init_22 : decode cX2_init 22 = .ok (.return_, 1) := by decide +kernel
set_option maxRecDepth 20000 in
theorem ggX2_takeText_X6_kind : GoodIn wsX2_takeText wsX6_kind := goodIn_q _ [(6, 4), (148, 5)] (by decide +kernel) (by decide +kernel)
set_option maxRecDepth 20000 in
theorem gX2_takeText_X6_kind : GoodIn wsX2_takeText (wsV RX2 26 RX6 yX6_kind wsX6_kind) := goodIn_app (goodIn_of _ (by decide +kernel)) ggX2_takeText_X6_kind
set_option maxRecDepth 20000 in
theorem ggX2_takeText_X2_takeRow : GoodIn wsX2_takeText wsX2_takeRow := goodIn_q _ [(14, 16), (13, 1), (30, 1), (1, 9), (31, 114), (153, 13), (145, 3), (166, 4), (148, 5), (170, 6)] (by decide +kernel) (by decide +kernel)
set_option maxRecDepth 20000 in
theorem gX2_takeText_X2_takeRow : GoodIn wsX2_takeText (wsV RX2 32 RX2 yX2_takeRow wsX2_takeRow) := goodIn_app (goodIn_of _ (by decide +kernel)) ggX2_takeText_X2_takeRow
theorem dX2_takeText_0 : decode cX2_takeText 0 = .ok (.iconst 0, 1) := by decide +kernel
theorem dX2_takeText_1 : decode cX2_takeText 1 = .ok (.istore_n 1, 1) := by decide +kernel
theorem dX2_takeText_2 : decode cX2_takeText 2 = .ok (.iload_n 1, 1) := by decide +kernel
theorem dX2_takeText_3 : decode cX2_takeText 3 = .ok (.bipush 40, 2) := by decide +kernel
theorem dX2_takeText_5 : decode cX2_takeText 5 = .ok (.if_icmp .ge 29, 3) := by decide +kernel
theorem dX2_takeText_8 : decode cX2_takeText 8 = .ok (.aload_n 0, 1) := by decide +kernel
theorem dX2_takeText_9 : decode cX2_takeText 9 = .ok (.getfield 9, 3) := by decide +kernel
theorem dX2_takeText_12 : decode cX2_takeText 12 = .ok (.invokevirtual 26, 3) := by decide +kernel
theorem dX2_takeText_15 : decode cX2_takeText 15 = .ok (.iconst 5, 1) := by decide +kernel
theorem dX2_takeText_16 : decode cX2_takeText 16 = .ok (.if_icmp .ne 18, 3) := by decide +kernel
theorem dX2_takeText_19 : decode cX2_takeText 19 = .ok (.aload_n 0, 1) := by decide +kernel
theorem dX2_takeText_20 : decode cX2_takeText 20 = .ok (.invokevirtual 32, 3) := by decide +kernel
theorem dX2_takeText_23 : decode cX2_takeText 23 = .ok (.ifCond .ne 5, 3) := by decide +kernel
theorem dX2_takeText_26 : decode cX2_takeText 26 = .ok (.iconst 0, 1) := by decide +kernel
theorem dX2_takeText_27 : decode cX2_takeText 27 = .ok (.ireturn, 1) := by decide +kernel
theorem dX2_takeText_28 : decode cX2_takeText 28 = .ok (.iinc 1 1, 3) := by decide +kernel
theorem dX2_takeText_31 : decode cX2_takeText 31 = .ok (.goto (-29), 3) := by decide +kernel
theorem dX2_takeText_34 : decode cX2_takeText 34 = .ok (.aload_n 0, 1) := by decide +kernel
theorem dX2_takeText_35 : decode cX2_takeText 35 = .ok (.getfield 9, 3) := by decide +kernel
theorem dX2_takeText_38 : decode cX2_takeText 38 = .ok (.invokevirtual 26, 3) := by decide +kernel
theorem dX2_takeText_41 : decode cX2_takeText 41 = .ok (.ifCond .ne 7, 3) := by decide +kernel
theorem dX2_takeText_44 : decode cX2_takeText 44 = .ok (.iconst 1, 1) := by decide +kernel
theorem dX2_takeText_45 : decode cX2_takeText 45 = .ok (.goto 4, 3) := by decide +kernel
theorem dX2_takeText_48 : decode cX2_takeText 48 = .ok (.iconst 0, 1) := by decide +kernel
theorem dX2_takeText_49 : decode cX2_takeText 49 = .ok (.ireturn, 1) := by decide +kernel
set_option maxRecDepth 20000 in
theorem ggX2_takeRow_X3_init : GoodIn wsX2_takeRow wsX3_init := goodIn_q _ [(7, 6), (141, 13)] (by decide +kernel) (by decide +kernel)
set_option maxRecDepth 20000 in
theorem gX2_takeRow_X3_init_n38 : GoodIn wsX2_takeRow (wsX3_init) := ggX2_takeRow_X3_init
set_option maxRecDepth 20000 in
theorem ggX2_takeRow_X2_take : GoodIn wsX2_takeRow wsX2_take := goodIn_q _ [(17, 14), (154, 3), (161, 5)] (by decide +kernel) (by decide +kernel)
set_option maxRecDepth 20000 in
theorem gX2_takeRow_X2_take : GoodIn wsX2_takeRow (wsV RX2 39 RX2 yX2_take wsX2_take) := goodIn_app (goodIn_of _ (by decide +kernel)) ggX2_takeRow_X2_take
set_option maxRecDepth 20000 in
theorem ggX2_takeRow_X2_takeActs : GoodIn wsX2_takeRow wsX2_takeActs := goodIn_q _ [(34, 1), (18, 9), (35, 8), (3, 1), (43, 2), (12, 1), (45, 5), (27, 4), (154, 3), (141, 13), (161, 5)] (by decide +kernel) (by decide +kernel)
set_option maxRecDepth 20000 in
theorem gX2_takeRow_X2_takeActs : GoodIn wsX2_takeRow (wsV RX2 43 RX2 yX2_takeActs wsX2_takeActs) := goodIn_app (goodIn_of _ (by decide +kernel)) ggX2_takeRow_X2_takeActs
set_option maxRecDepth 20000 in
theorem ggX2_takeRow_X1_size : GoodIn wsX2_takeRow wsX1_size := goodIn_q _ [(54, 2), (166, 3)] (by decide +kernel) (by decide +kernel)
set_option maxRecDepth 20000 in
theorem gX2_takeRow_X1_size : GoodIn wsX2_takeRow (wsV RX2 47 RX1 yX1_size wsX1_size) := goodIn_app (goodIn_of _ (by decide +kernel)) ggX2_takeRow_X1_size
set_option maxRecDepth 20000 in
theorem ggX2_takeRow_X2_takeOr : GoodIn wsX2_takeRow wsX2_takeOr := goodIn_q _ [(59, 1), (18, 1), (4, 1), (60, 3), (16, 1), (19, 12), (63, 3), (53, 1), (66, 1), (55, 1), (67, 6), (56, 3), (73, 8), (35, 5), (154, 3), (161, 8), (141, 13)] (by decide +kernel) (by decide +kernel)
set_option maxRecDepth 20000 in
theorem gX2_takeRow_X2_takeOr : GoodIn wsX2_takeRow (wsV RX2 56 RX2 yX2_takeOr wsX2_takeOr) := goodIn_app (goodIn_of _ (by decide +kernel)) ggX2_takeRow_X2_takeOr
set_option maxRecDepth 20000 in
theorem ggX2_takeRow_X2_takeFor : GoodIn wsX2_takeRow wsX2_takeFor := goodIn_q _ [(84, 1), (18, 1), (13, 5), (19, 12), (35, 5), (141, 16), (161, 5)] (by decide +kernel) (by decide +kernel)
set_option maxRecDepth 20000 in
theorem gX2_takeRow_X2_takeFor : GoodIn wsX2_takeRow (wsV RX2 63 RX2 yX2_takeFor wsX2_takeFor) := goodIn_app (goodIn_of _ (by decide +kernel)) ggX2_takeRow_X2_takeFor
set_option maxRecDepth 20000 in
theorem ggX2_takeRow_Jx4a65c_add_9ea2d : GoodIn wsX2_takeRow wsJx4a65c_add_9ea2d := goodIn_q _ [(89, 8), (88, 1), (97, 44), (169, 3)] (by decide +kernel) (by decide +kernel)
set_option maxRecDepth 20000 in
theorem gX2_takeRow_Jx4a65c_add_9ea2d : GoodIn wsX2_takeRow (wsV RX2 74 RJx4a65c yJx4a65c_add_9ea2d wsJx4a65c_add_9ea2d) := goodIn_app (goodIn_of _ (by decide +kernel)) ggX2_takeRow_Jx4a65c_add_9ea2d
theorem dX2_takeRow_0 : decode cX2_takeRow 0 = .ok (.new 36, 3) := by decide +kernel
theorem dX2_takeRow_3 : decode cX2_takeRow 3 = .ok (.dup, 1) := by decide +kernel
theorem dX2_takeRow_4 : decode cX2_takeRow 4 = .ok (.invokespecial 38, 3) := by decide +kernel
theorem dX2_takeRow_7 : decode cX2_takeRow 7 = .ok (.astore_n 1, 1) := by decide +kernel
theorem dX2_takeRow_8 : decode cX2_takeRow 8 = .ok (.aload_n 0, 1) := by decide +kernel
theorem dX2_takeRow_9 : decode cX2_takeRow 9 = .ok (.iconst 5, 1) := by decide +kernel
theorem dX2_takeRow_10 : decode cX2_takeRow 10 = .ok (.invokevirtual 39, 3) := by decide +kernel
theorem dX2_takeRow_13 : decode cX2_takeRow 13 = .ok (.ifCond .eq 20, 3) := by decide +kernel
theorem dX2_takeRow_16 : decode cX2_takeRow 16 = .ok (.aload_n 0, 1) := by decide +kernel
theorem dX2_takeRow_17 : decode cX2_takeRow 17 = .ok (.aload_n 1, 1) := by decide +kernel
theorem dX2_takeRow_18 : decode cX2_takeRow 18 = .ok (.invokevirtual 43, 3) := by decide +kernel
theorem dX2_takeRow_21 : decode cX2_takeRow 21 = .ok (.ifCond .eq 12, 3) := by decide +kernel
theorem dX2_takeRow_24 : decode cX2_takeRow 24 = .ok (.aload_n 0, 1) := by decide +kernel
theorem dX2_takeRow_25 : decode cX2_takeRow 25 = .ok (.bipush 6, 2) := by decide +kernel
theorem dX2_takeRow_27 : decode cX2_takeRow 27 = .ok (.invokevirtual 39, 3) := by decide +kernel
theorem dX2_takeRow_30 : decode cX2_takeRow 30 = .ok (.ifCond .ne 5, 3) := by decide +kernel
theorem dX2_takeRow_33 : decode cX2_takeRow 33 = .ok (.iconst 0, 1) := by decide +kernel
theorem dX2_takeRow_34 : decode cX2_takeRow 34 = .ok (.ireturn, 1) := by decide +kernel
theorem dX2_takeRow_35 : decode cX2_takeRow 35 = .ok (.aload_n 1, 1) := by decide +kernel
theorem dX2_takeRow_36 : decode cX2_takeRow 36 = .ok (.aload_n 0, 1) := by decide +kernel
theorem dX2_takeRow_37 : decode cX2_takeRow 37 = .ok (.getfield 25, 3) := by decide +kernel
theorem dX2_takeRow_40 : decode cX2_takeRow 40 = .ok (.invokevirtual 47, 3) := by decide +kernel
theorem dX2_takeRow_43 : decode cX2_takeRow 43 = .ok (.putfield 52, 3) := by decide +kernel
theorem dX2_takeRow_46 : decode cX2_takeRow 46 = .ok (.aload_n 0, 1) := by decide +kernel
theorem dX2_takeRow_47 : decode cX2_takeRow 47 = .ok (.aload_n 1, 1) := by decide +kernel
theorem dX2_takeRow_48 : decode cX2_takeRow 48 = .ok (.iconst 0, 1) := by decide +kernel
theorem dX2_takeRow_49 : decode cX2_takeRow 49 = .ok (.invokevirtual 56, 3) := by decide +kernel
theorem dX2_takeRow_52 : decode cX2_takeRow 52 = .ok (.ifCond .ne 5, 3) := by decide +kernel
theorem dX2_takeRow_55 : decode cX2_takeRow 55 = .ok (.iconst 0, 1) := by decide +kernel
theorem dX2_takeRow_56 : decode cX2_takeRow 56 = .ok (.ireturn, 1) := by decide +kernel
theorem dX2_takeRow_57 : decode cX2_takeRow 57 = .ok (.aload_n 1, 1) := by decide +kernel
theorem dX2_takeRow_58 : decode cX2_takeRow 58 = .ok (.aload_n 0, 1) := by decide +kernel
theorem dX2_takeRow_59 : decode cX2_takeRow 59 = .ok (.getfield 25, 3) := by decide +kernel
theorem dX2_takeRow_62 : decode cX2_takeRow 62 = .ok (.invokevirtual 47, 3) := by decide +kernel
theorem dX2_takeRow_65 : decode cX2_takeRow 65 = .ok (.putfield 60, 3) := by decide +kernel
theorem dX2_takeRow_68 : decode cX2_takeRow 68 = .ok (.aload_n 0, 1) := by decide +kernel
theorem dX2_takeRow_69 : decode cX2_takeRow 69 = .ok (.aload_n 1, 1) := by decide +kernel
theorem dX2_takeRow_70 : decode cX2_takeRow 70 = .ok (.invokevirtual 63, 3) := by decide +kernel
theorem dX2_takeRow_73 : decode cX2_takeRow 73 = .ok (.ifCond .ne 5, 3) := by decide +kernel
theorem dX2_takeRow_76 : decode cX2_takeRow 76 = .ok (.iconst 0, 1) := by decide +kernel
theorem dX2_takeRow_77 : decode cX2_takeRow 77 = .ok (.ireturn, 1) := by decide +kernel
theorem dX2_takeRow_78 : decode cX2_takeRow 78 = .ok (.aload_n 1, 1) := by decide +kernel
theorem dX2_takeRow_79 : decode cX2_takeRow 79 = .ok (.aload_n 0, 1) := by decide +kernel
theorem dX2_takeRow_80 : decode cX2_takeRow 80 = .ok (.bipush 8, 2) := by decide +kernel
theorem dX2_takeRow_82 : decode cX2_takeRow 82 = .ok (.invokevirtual 39, 3) := by decide +kernel
theorem dX2_takeRow_85 : decode cX2_takeRow 85 = .ok (.putfield 66, 3) := by decide +kernel
theorem dX2_takeRow_88 : decode cX2_takeRow 88 = .ok (.aload_n 0, 1) := by decide +kernel
theorem dX2_takeRow_89 : decode cX2_takeRow 89 = .ok (.iconst 4, 1) := by decide +kernel
theorem dX2_takeRow_90 : decode cX2_takeRow 90 = .ok (.invokevirtual 39, 3) := by decide +kernel
theorem dX2_takeRow_93 : decode cX2_takeRow 93 = .ok (.ifCond .ne 5, 3) := by decide +kernel
theorem dX2_takeRow_96 : decode cX2_takeRow 96 = .ok (.iconst 0, 1) := by decide +kernel
theorem dX2_takeRow_97 : decode cX2_takeRow 97 = .ok (.ireturn, 1) := by decide +kernel
theorem dX2_takeRow_98 : decode cX2_takeRow 98 = .ok (.aload_n 0, 1) := by decide +kernel
theorem dX2_takeRow_99 : decode cX2_takeRow 99 = .ok (.getfield 15, 3) := by decide +kernel
theorem dX2_takeRow_102 : decode cX2_takeRow 102 = .ok (.getfield 70, 3) := by decide +kernel
theorem dX2_takeRow_105 : decode cX2_takeRow 105 = .ok (.aload_n 1, 1) := by decide +kernel
theorem dX2_takeRow_106 : decode cX2_takeRow 106 = .ok (.invokevirtual 74, 3) := by decide +kernel
theorem dX2_takeRow_109 : decode cX2_takeRow 109 = .ok (.pop, 1) := by decide +kernel
theorem dX2_takeRow_110 : decode cX2_takeRow 110 = .ok (.iconst 1, 1) := by decide +kernel
theorem dX2_takeRow_111 : decode cX2_takeRow 111 = .ok (.ireturn, 1) := by decide +kernel
set_option maxRecDepth 20000 in
theorem ggX2_take_X6_kind : GoodIn wsX2_take wsX6_kind := goodIn_q _ [(6, 4), (17, 5)] (by decide +kernel) (by decide +kernel)
set_option maxRecDepth 20000 in
theorem gX2_take_X6_kind : GoodIn wsX2_take (wsV RX2 26 RX6 yX6_kind wsX6_kind) := goodIn_app (goodIn_of _ (by decide +kernel)) ggX2_take_X6_kind
set_option maxRecDepth 20000 in
theorem ggX2_take_X6_advance : GoodIn wsX2_take wsX6_advance := goodIn_q _ [(13, 1), (7, 2), (17, 5)] (by decide +kernel) (by decide +kernel)
set_option maxRecDepth 20000 in
theorem gX2_take_X6_advance : GoodIn wsX2_take (wsV RX2 80 RX6 yX6_advance wsX6_advance) := goodIn_app (goodIn_of _ (by decide +kernel)) ggX2_take_X6_advance
theorem dX2_take_0 : decode cX2_take 0 = .ok (.aload_n 0, 1) := by decide +kernel
theorem dX2_take_1 : decode cX2_take 1 = .ok (.getfield 9, 3) := by decide +kernel
theorem dX2_take_4 : decode cX2_take 4 = .ok (.invokevirtual 26, 3) := by decide +kernel
theorem dX2_take_7 : decode cX2_take 7 = .ok (.iload_n 1, 1) := by decide +kernel
theorem dX2_take_8 : decode cX2_take 8 = .ok (.if_icmp .eq 5, 3) := by decide +kernel
theorem dX2_take_11 : decode cX2_take 11 = .ok (.iconst 0, 1) := by decide +kernel
theorem dX2_take_12 : decode cX2_take 12 = .ok (.ireturn, 1) := by decide +kernel
theorem dX2_take_13 : decode cX2_take 13 = .ok (.aload_n 0, 1) := by decide +kernel
theorem dX2_take_14 : decode cX2_take 14 = .ok (.getfield 9, 3) := by decide +kernel
theorem dX2_take_17 : decode cX2_take 17 = .ok (.invokevirtual 80, 3) := by decide +kernel
theorem dX2_take_20 : decode cX2_take 20 = .ok (.iconst 1, 1) := by decide +kernel
theorem dX2_take_21 : decode cX2_take 21 = .ok (.ireturn, 1) := by decide +kernel
set_option maxRecDepth 20000 in
theorem ggX2_takeActs_X6_kind : GoodIn wsX2_takeActs wsX6_kind := goodIn_q _ [(6, 4), (47, 5)] (by decide +kernel) (by decide +kernel)
set_option maxRecDepth 20000 in
theorem gX2_takeActs_X6_kind : GoodIn wsX2_takeActs (wsV RX2 26 RX6 yX6_kind wsX6_kind) := goodIn_app (goodIn_of _ (by decide +kernel)) ggX2_takeActs_X6_kind
set_option maxRecDepth 20000 in
theorem ggX2_takeActs_X6_value : GoodIn wsX2_takeActs wsX6_value := goodIn_q _ [(13, 1), (7, 2), (14, 1), (47, 5)] (by decide +kernel) (by decide +kernel)
set_option maxRecDepth 20000 in
theorem gX2_takeActs_X6_value : GoodIn wsX2_takeActs (wsV RX2 83 RX6 yX6_value wsX6_value) := goodIn_app (goodIn_of _ (by decide +kernel)) ggX2_takeActs_X6_value
set_option maxRecDepth 20000 in
theorem ggX2_takeActs_X3_addAct : GoodIn wsX2_takeActs wsX3_addAct := goodIn_q _ [(19, 7), (18, 1), (26, 1), (34, 13)] (by decide +kernel) (by decide +kernel)
set_option maxRecDepth 20000 in
theorem gX2_takeActs_X3_addAct : GoodIn wsX2_takeActs (wsV RX2 86 RX3 yX3_addAct wsX3_addAct) := goodIn_app (goodIn_of _ (by decide +kernel)) ggX2_takeActs_X3_addAct
set_option maxRecDepth 20000 in
theorem ggX2_takeActs_X6_advance : GoodIn wsX2_takeActs wsX6_advance := goodIn_q _ [(30, 1), (7, 2), (47, 5)] (by decide +kernel) (by decide +kernel)
set_option maxRecDepth 20000 in
theorem gX2_takeActs_X6_advance : GoodIn wsX2_takeActs (wsV RX2 80 RX6 yX6_advance wsX6_advance) := goodIn_app (goodIn_of _ (by decide +kernel)) ggX2_takeActs_X6_advance
theorem dX2_takeActs_0 : decode cX2_takeActs 0 = .ok (.iconst 0, 1) := by decide +kernel
theorem dX2_takeActs_1 : decode cX2_takeActs 1 = .ok (.istore_n 2, 1) := by decide +kernel
theorem dX2_takeActs_2 : decode cX2_takeActs 2 = .ok (.iload_n 2, 1) := by decide +kernel
theorem dX2_takeActs_3 : decode cX2_takeActs 3 = .ok (.bipush 8, 2) := by decide +kernel
theorem dX2_takeActs_5 : decode cX2_takeActs 5 = .ok (.if_icmp .ge 44, 3) := by decide +kernel
theorem dX2_takeActs_8 : decode cX2_takeActs 8 = .ok (.aload_n 0, 1) := by decide +kernel
theorem dX2_takeActs_9 : decode cX2_takeActs 9 = .ok (.getfield 9, 3) := by decide +kernel
theorem dX2_takeActs_12 : decode cX2_takeActs 12 = .ok (.invokevirtual 26, 3) := by decide +kernel
theorem dX2_takeActs_15 : decode cX2_takeActs 15 = .ok (.bipush 12, 2) := by decide +kernel
theorem dX2_takeActs_17 : decode cX2_takeActs 17 = .ok (.if_icmp .ne 32, 3) := by decide +kernel
theorem dX2_takeActs_20 : decode cX2_takeActs 20 = .ok (.aload_n 1, 1) := by decide +kernel
theorem dX2_takeActs_21 : decode cX2_takeActs 21 = .ok (.aload_n 0, 1) := by decide +kernel
theorem dX2_takeActs_22 : decode cX2_takeActs 22 = .ok (.getfield 9, 3) := by decide +kernel
theorem dX2_takeActs_25 : decode cX2_takeActs 25 = .ok (.invokevirtual 83, 3) := by decide +kernel
theorem dX2_takeActs_28 : decode cX2_takeActs 28 = .ok (.invokevirtual 86, 3) := by decide +kernel
theorem dX2_takeActs_31 : decode cX2_takeActs 31 = .ok (.ifCond .ne 5, 3) := by decide +kernel
theorem dX2_takeActs_34 : decode cX2_takeActs 34 = .ok (.iconst 0, 1) := by decide +kernel
theorem dX2_takeActs_35 : decode cX2_takeActs 35 = .ok (.ireturn, 1) := by decide +kernel
theorem dX2_takeActs_36 : decode cX2_takeActs 36 = .ok (.aload_n 0, 1) := by decide +kernel
theorem dX2_takeActs_37 : decode cX2_takeActs 37 = .ok (.getfield 9, 3) := by decide +kernel
theorem dX2_takeActs_40 : decode cX2_takeActs 40 = .ok (.invokevirtual 80, 3) := by decide +kernel
theorem dX2_takeActs_43 : decode cX2_takeActs 43 = .ok (.iinc 2 1, 3) := by decide +kernel
theorem dX2_takeActs_46 : decode cX2_takeActs 46 = .ok (.goto (-44), 3) := by decide +kernel
theorem dX2_takeActs_49 : decode cX2_takeActs 49 = .ok (.aload_n 1, 1) := by decide +kernel
theorem dX2_takeActs_50 : decode cX2_takeActs 50 = .ok (.getfield 89, 3) := by decide +kernel
theorem dX2_takeActs_53 : decode cX2_takeActs 53 = .ok (.ifCond .le 7, 3) := by decide +kernel
theorem dX2_takeActs_56 : decode cX2_takeActs 56 = .ok (.iconst 1, 1) := by decide +kernel
theorem dX2_takeActs_57 : decode cX2_takeActs 57 = .ok (.goto 4, 3) := by decide +kernel
theorem dX2_takeActs_60 : decode cX2_takeActs 60 = .ok (.iconst 0, 1) := by decide +kernel
theorem dX2_takeActs_61 : decode cX2_takeActs 61 = .ok (.ireturn, 1) := by decide +kernel
set_option maxRecDepth 20000 in
theorem ggX2_takeFor_X2_take : GoodIn wsX2_takeFor wsX2_take := goodIn_q _ [(6, 1), (1, 1), (7, 12), (37, 8)] (by decide +kernel) (by decide +kernel)
set_option maxRecDepth 20000 in
theorem gX2_takeFor_X2_take : GoodIn wsX2_takeFor (wsV RX2 39 RX2 yX2_take wsX2_take) := goodIn_app (goodIn_of _ (by decide +kernel)) ggX2_takeFor_X2_take
set_option maxRecDepth 20000 in
theorem ggX2_takeFor_X6_value : GoodIn wsX2_takeFor wsX6_value := goodIn_q _ [(22, 1), (12, 2), (23, 1), (40, 5)] (by decide +kernel) (by decide +kernel)
set_option maxRecDepth 20000 in
theorem gX2_takeFor_X6_value : GoodIn wsX2_takeFor (wsV RX2 83 RX6 yX6_value wsX6_value) := goodIn_app (goodIn_of _ (by decide +kernel)) ggX2_takeFor_X6_value
theorem dX2_takeFor_0 : decode cX2_takeFor 0 = .ok (.aload_n 0, 1) := by decide +kernel
theorem dX2_takeFor_1 : decode cX2_takeFor 1 = .ok (.bipush 7, 2) := by decide +kernel
theorem dX2_takeFor_3 : decode cX2_takeFor 3 = .ok (.invokevirtual 39, 3) := by decide +kernel
theorem dX2_takeFor_6 : decode cX2_takeFor 6 = .ok (.ifCond .ne 5, 3) := by decide +kernel
theorem dX2_takeFor_9 : decode cX2_takeFor 9 = .ok (.iconst 1, 1) := by decide +kernel
theorem dX2_takeFor_10 : decode cX2_takeFor 10 = .ok (.ireturn, 1) := by decide +kernel
theorem dX2_takeFor_11 : decode cX2_takeFor 11 = .ok (.aload_n 1, 1) := by decide +kernel
theorem dX2_takeFor_12 : decode cX2_takeFor 12 = .ok (.iconst 1, 1) := by decide +kernel
theorem dX2_takeFor_13 : decode cX2_takeFor 13 = .ok (.putfield 92, 3) := by decide +kernel
theorem dX2_takeFor_16 : decode cX2_takeFor 16 = .ok (.aload_n 1, 1) := by decide +kernel
theorem dX2_takeFor_17 : decode cX2_takeFor 17 = .ok (.aload_n 0, 1) := by decide +kernel
theorem dX2_takeFor_18 : decode cX2_takeFor 18 = .ok (.getfield 9, 3) := by decide +kernel
theorem dX2_takeFor_21 : decode cX2_takeFor 21 = .ok (.invokevirtual 83, 3) := by decide +kernel
theorem dX2_takeFor_24 : decode cX2_takeFor 24 = .ok (.putfield 95, 3) := by decide +kernel
theorem dX2_takeFor_27 : decode cX2_takeFor 27 = .ok (.aload_n 0, 1) := by decide +kernel
theorem dX2_takeFor_28 : decode cX2_takeFor 28 = .ok (.bipush 14, 2) := by decide +kernel
theorem dX2_takeFor_30 : decode cX2_takeFor 30 = .ok (.invokevirtual 39, 3) := by decide +kernel
theorem dX2_takeFor_33 : decode cX2_takeFor 33 = .ok (.ireturn, 1) := by decide +kernel
set_option maxRecDepth 20000 in
theorem ggX2_takeOr_X2_takeAnd : GoodIn wsX2_takeOr wsX2_takeAnd := goodIn_q _ [(26, 1), (1, 2), (27, 3), (6, 20), (30, 4), (0, 1), (3, 3), (34, 37)] (by decide +kernel) (by decide +kernel)
set_option maxRecDepth 20000 in
theorem gX2_takeOr_X2_takeAnd : GoodIn wsX2_takeOr (wsV RX2 98 RX2 yX2_takeAnd wsX2_takeAnd) := goodIn_app (goodIn_of _ (by decide +kernel)) ggX2_takeOr_X2_takeAnd
set_option maxRecDepth 20000 in
theorem ggX2_takeOr_X6_kind : GoodIn wsX2_takeOr wsX6_kind := goodIn_q _ [(11, 4), (50, 5)] (by decide +kernel) (by decide +kernel)
set_option maxRecDepth 20000 in
theorem gX2_takeOr_X6_kind : GoodIn wsX2_takeOr (wsV RX2 26 RX6 yX6_kind wsX6_kind) := goodIn_app (goodIn_of _ (by decide +kernel)) ggX2_takeOr_X6_kind
set_option maxRecDepth 20000 in
theorem ggX2_takeOr_X6_advance : GoodIn wsX2_takeOr wsX6_advance := goodIn_q _ [(18, 1), (12, 2), (50, 5)] (by decide +kernel) (by decide +kernel)
set_option maxRecDepth 20000 in
theorem gX2_takeOr_X6_advance : GoodIn wsX2_takeOr (wsV RX2 80 RX6 yX6_advance wsX6_advance) := goodIn_app (goodIn_of _ (by decide +kernel)) ggX2_takeOr_X6_advance
set_option maxRecDepth 20000 in
theorem ggX2_takeOr_X1_add : GoodIn wsX2_takeOr wsX1_add := goodIn_q _ [(23, 3), (55, 3)] (by decide +kernel) (by decide +kernel)
set_option maxRecDepth 20000 in
theorem gX2_takeOr_X1_add : GoodIn wsX2_takeOr (wsV RX2 101 RX1 yX1_add wsX1_add) := goodIn_app (goodIn_of _ (by decide +kernel)) ggX2_takeOr_X1_add
theorem dX2_takeOr_0 : decode cX2_takeOr 0 = .ok (.aload_n 0, 1) := by decide +kernel
theorem dX2_takeOr_1 : decode cX2_takeOr 1 = .ok (.aload_n 1, 1) := by decide +kernel
theorem dX2_takeOr_2 : decode cX2_takeOr 2 = .ok (.iload_n 2, 1) := by decide +kernel
theorem dX2_takeOr_3 : decode cX2_takeOr 3 = .ok (.invokevirtual 98, 3) := by decide +kernel
theorem dX2_takeOr_6 : decode cX2_takeOr 6 = .ok (.ifCond .ne 5, 3) := by decide +kernel
theorem dX2_takeOr_9 : decode cX2_takeOr 9 = .ok (.iconst 0, 1) := by decide +kernel
theorem dX2_takeOr_10 : decode cX2_takeOr 10 = .ok (.ireturn, 1) := by decide +kernel
theorem dX2_takeOr_11 : decode cX2_takeOr 11 = .ok (.iconst 0, 1) := by decide +kernel
theorem dX2_takeOr_12 : decode cX2_takeOr 12 = .ok (.istore_n 3, 1) := by decide +kernel
theorem dX2_takeOr_13 : decode cX2_takeOr 13 = .ok (.iload_n 3, 1) := by decide +kernel
theorem dX2_takeOr_14 : decode cX2_takeOr 14 = .ok (.bipush 32, 2) := by decide +kernel
theorem dX2_takeOr_16 : decode cX2_takeOr 16 = .ok (.if_icmp .ge 48, 3) := by decide +kernel
theorem dX2_takeOr_19 : decode cX2_takeOr 19 = .ok (.aload_n 0, 1) := by decide +kernel
theorem dX2_takeOr_20 : decode cX2_takeOr 20 = .ok (.getfield 9, 3) := by decide +kernel
theorem dX2_takeOr_23 : decode cX2_takeOr 23 = .ok (.invokevirtual 26, 3) := by decide +kernel
theorem dX2_takeOr_26 : decode cX2_takeOr 26 = .ok (.bipush 9, 2) := by decide +kernel
theorem dX2_takeOr_28 : decode cX2_takeOr 28 = .ok (.if_icmp .ne 36, 3) := by decide +kernel
theorem dX2_takeOr_31 : decode cX2_takeOr 31 = .ok (.aload_n 0, 1) := by decide +kernel
theorem dX2_takeOr_32 : decode cX2_takeOr 32 = .ok (.getfield 9, 3) := by decide +kernel
theorem dX2_takeOr_35 : decode cX2_takeOr 35 = .ok (.invokevirtual 80, 3) := by decide +kernel
theorem dX2_takeOr_38 : decode cX2_takeOr 38 = .ok (.aload_n 0, 1) := by decide +kernel
theorem dX2_takeOr_39 : decode cX2_takeOr 39 = .ok (.aload_n 1, 1) := by decide +kernel
theorem dX2_takeOr_40 : decode cX2_takeOr 40 = .ok (.iload_n 2, 1) := by decide +kernel
theorem dX2_takeOr_41 : decode cX2_takeOr 41 = .ok (.invokevirtual 98, 3) := by decide +kernel
theorem dX2_takeOr_44 : decode cX2_takeOr 44 = .ok (.ifCond .ne 5, 3) := by decide +kernel
theorem dX2_takeOr_47 : decode cX2_takeOr 47 = .ok (.iconst 0, 1) := by decide +kernel
theorem dX2_takeOr_48 : decode cX2_takeOr 48 = .ok (.ireturn, 1) := by decide +kernel
theorem dX2_takeOr_49 : decode cX2_takeOr 49 = .ok (.aload_n 0, 1) := by decide +kernel
theorem dX2_takeOr_50 : decode cX2_takeOr 50 = .ok (.getfield 25, 3) := by decide +kernel
theorem dX2_takeOr_53 : decode cX2_takeOr 53 = .ok (.bipush 18, 2) := by decide +kernel
theorem dX2_takeOr_55 : decode cX2_takeOr 55 = .ok (.invokevirtual 101, 3) := by decide +kernel
theorem dX2_takeOr_58 : decode cX2_takeOr 58 = .ok (.iinc 3 1, 3) := by decide +kernel
theorem dX2_takeOr_61 : decode cX2_takeOr 61 = .ok (.goto (-48), 3) := by decide +kernel
theorem dX2_takeOr_64 : decode cX2_takeOr 64 = .ok (.iconst 1, 1) := by decide +kernel
theorem dX2_takeOr_65 : decode cX2_takeOr 65 = .ok (.ireturn, 1) := by decide +kernel
set_option maxRecDepth 20000 in
theorem ggX2_takeAnd_X2_takePart : GoodIn wsX2_takeAnd wsX2_takePart := goodIn_q _ [(34, 1), (1, 2), (7, 12), (35, 3), (6, 1), (38, 9), (19, 7), (0, 1), (3, 3), (26, 8), (47, 24)] (by decide +kernel) (by decide +kernel)
set_option maxRecDepth 20000 in
theorem gX2_takeAnd_X2_takePart : GoodIn wsX2_takeAnd (wsV RX2 104 RX2 yX2_takePart wsX2_takePart) := goodIn_app (goodIn_of _ (by decide +kernel)) ggX2_takeAnd_X2_takePart
set_option maxRecDepth 20000 in
theorem ggX2_takeAnd_X6_kind : GoodIn wsX2_takeAnd wsX6_kind := goodIn_q _ [(11, 4), (50, 5)] (by decide +kernel) (by decide +kernel)
set_option maxRecDepth 20000 in
theorem gX2_takeAnd_X6_kind : GoodIn wsX2_takeAnd (wsV RX2 26 RX6 yX6_kind wsX6_kind) := goodIn_app (goodIn_of _ (by decide +kernel)) ggX2_takeAnd_X6_kind
set_option maxRecDepth 20000 in
theorem ggX2_takeAnd_X6_advance : GoodIn wsX2_takeAnd wsX6_advance := goodIn_q _ [(18, 1), (12, 2), (50, 5)] (by decide +kernel) (by decide +kernel)
set_option maxRecDepth 20000 in
theorem gX2_takeAnd_X6_advance : GoodIn wsX2_takeAnd (wsV RX2 80 RX6 yX6_advance wsX6_advance) := goodIn_app (goodIn_of _ (by decide +kernel)) ggX2_takeAnd_X6_advance
set_option maxRecDepth 20000 in
theorem ggX2_takeAnd_X1_add : GoodIn wsX2_takeAnd wsX1_add := goodIn_q _ [(23, 3), (55, 3)] (by decide +kernel) (by decide +kernel)
set_option maxRecDepth 20000 in
theorem gX2_takeAnd_X1_add : GoodIn wsX2_takeAnd (wsV RX2 101 RX1 yX1_add wsX1_add) := goodIn_app (goodIn_of _ (by decide +kernel)) ggX2_takeAnd_X1_add
theorem dX2_takeAnd_0 : decode cX2_takeAnd 0 = .ok (.aload_n 0, 1) := by decide +kernel
theorem dX2_takeAnd_1 : decode cX2_takeAnd 1 = .ok (.aload_n 1, 1) := by decide +kernel
theorem dX2_takeAnd_2 : decode cX2_takeAnd 2 = .ok (.iload_n 2, 1) := by decide +kernel
theorem dX2_takeAnd_3 : decode cX2_takeAnd 3 = .ok (.invokevirtual 104, 3) := by decide +kernel
theorem dX2_takeAnd_6 : decode cX2_takeAnd 6 = .ok (.ifCond .ne 5, 3) := by decide +kernel
theorem dX2_takeAnd_9 : decode cX2_takeAnd 9 = .ok (.iconst 0, 1) := by decide +kernel
theorem dX2_takeAnd_10 : decode cX2_takeAnd 10 = .ok (.ireturn, 1) := by decide +kernel
theorem dX2_takeAnd_11 : decode cX2_takeAnd 11 = .ok (.iconst 0, 1) := by decide +kernel
theorem dX2_takeAnd_12 : decode cX2_takeAnd 12 = .ok (.istore_n 3, 1) := by decide +kernel
theorem dX2_takeAnd_13 : decode cX2_takeAnd 13 = .ok (.iload_n 3, 1) := by decide +kernel
theorem dX2_takeAnd_14 : decode cX2_takeAnd 14 = .ok (.bipush 32, 2) := by decide +kernel
theorem dX2_takeAnd_16 : decode cX2_takeAnd 16 = .ok (.if_icmp .ge 48, 3) := by decide +kernel
theorem dX2_takeAnd_19 : decode cX2_takeAnd 19 = .ok (.aload_n 0, 1) := by decide +kernel
theorem dX2_takeAnd_20 : decode cX2_takeAnd 20 = .ok (.getfield 9, 3) := by decide +kernel
theorem dX2_takeAnd_23 : decode cX2_takeAnd 23 = .ok (.invokevirtual 26, 3) := by decide +kernel
theorem dX2_takeAnd_26 : decode cX2_takeAnd 26 = .ok (.bipush 10, 2) := by decide +kernel
theorem dX2_takeAnd_28 : decode cX2_takeAnd 28 = .ok (.if_icmp .ne 36, 3) := by decide +kernel
theorem dX2_takeAnd_31 : decode cX2_takeAnd 31 = .ok (.aload_n 0, 1) := by decide +kernel
theorem dX2_takeAnd_32 : decode cX2_takeAnd 32 = .ok (.getfield 9, 3) := by decide +kernel
theorem dX2_takeAnd_35 : decode cX2_takeAnd 35 = .ok (.invokevirtual 80, 3) := by decide +kernel
theorem dX2_takeAnd_38 : decode cX2_takeAnd 38 = .ok (.aload_n 0, 1) := by decide +kernel
theorem dX2_takeAnd_39 : decode cX2_takeAnd 39 = .ok (.aload_n 1, 1) := by decide +kernel
theorem dX2_takeAnd_40 : decode cX2_takeAnd 40 = .ok (.iload_n 2, 1) := by decide +kernel
theorem dX2_takeAnd_41 : decode cX2_takeAnd 41 = .ok (.invokevirtual 104, 3) := by decide +kernel
theorem dX2_takeAnd_44 : decode cX2_takeAnd 44 = .ok (.ifCond .ne 5, 3) := by decide +kernel
theorem dX2_takeAnd_47 : decode cX2_takeAnd 47 = .ok (.iconst 0, 1) := by decide +kernel
theorem dX2_takeAnd_48 : decode cX2_takeAnd 48 = .ok (.ireturn, 1) := by decide +kernel
theorem dX2_takeAnd_49 : decode cX2_takeAnd 49 = .ok (.aload_n 0, 1) := by decide +kernel
theorem dX2_takeAnd_50 : decode cX2_takeAnd 50 = .ok (.getfield 25, 3) := by decide +kernel
theorem dX2_takeAnd_53 : decode cX2_takeAnd 53 = .ok (.bipush 17, 2) := by decide +kernel
theorem dX2_takeAnd_55 : decode cX2_takeAnd 55 = .ok (.invokevirtual 101, 3) := by decide +kernel
theorem dX2_takeAnd_58 : decode cX2_takeAnd 58 = .ok (.iinc 3 1, 3) := by decide +kernel
theorem dX2_takeAnd_61 : decode cX2_takeAnd 61 = .ok (.goto (-48), 3) := by decide +kernel
theorem dX2_takeAnd_64 : decode cX2_takeAnd 64 = .ok (.iconst 1, 1) := by decide +kernel
theorem dX2_takeAnd_65 : decode cX2_takeAnd 65 = .ok (.ireturn, 1) := by decide +kernel
set_option maxRecDepth 20000 in
theorem ggX2_takePart_X6_kind : GoodIn wsX2_takePart wsX6_kind := goodIn_q _ [(7, 4), (50, 5)] (by decide +kernel) (by decide +kernel)
set_option maxRecDepth 20000 in
theorem gX2_takePart_X6_kind : GoodIn wsX2_takePart (wsV RX2 26 RX6 yX6_kind wsX6_kind) := goodIn_app (goodIn_of _ (by decide +kernel)) ggX2_takePart_X6_kind
set_option maxRecDepth 20000 in
theorem ggX2_takePart_X6_advance : GoodIn wsX2_takePart wsX6_advance := goodIn_q _ [(14, 1), (8, 2), (50, 5)] (by decide +kernel) (by decide +kernel)
set_option maxRecDepth 20000 in
theorem gX2_takePart_X6_advance : GoodIn wsX2_takePart (wsV RX2 80 RX6 yX6_advance wsX6_advance) := goodIn_app (goodIn_of _ (by decide +kernel)) ggX2_takePart_X6_advance
set_option maxRecDepth 20000 in
theorem ggX2_takePart_X2_takeBrackets : GoodIn wsX2_takePart wsX2_takeBrackets := goodIn_q _ [(39, 1), (1, 1), (11, 3), (6, 1), (14, 1), (8, 2), (40, 3), (18, 1), (3, 3), (7, 1), (10, 1), (35, 1), (2, 1), (36, 3), (28, 7), (43, 4), (0, 1), (15, 3), (19, 9), (47, 24)] (by decide +kernel) (by decide +kernel)
set_option maxRecDepth 20000 in
theorem gX2_takePart_X2_takeBrackets : GoodIn wsX2_takePart (wsV RX2 107 RX2 yX2_takeBrackets wsX2_takeBrackets) := goodIn_app (goodIn_of _ (by decide +kernel)) ggX2_takePart_X2_takeBrackets
set_option maxRecDepth 20000 in
theorem ggX2_takePart_X2_takeCondition : GoodIn wsX2_takePart wsX2_takeCondition := goodIn_q _ [(22, 1), (1, 10), (23, 12), (11, 4), (47, 3), (58, 13), (50, 8)] (by decide +kernel) (by decide +kernel)
set_option maxRecDepth 20000 in
theorem gX2_takePart_X2_takeCondition : GoodIn wsX2_takePart (wsV RX2 110 RX2 yX2_takeCondition wsX2_takeCondition) := goodIn_app (goodIn_of _ (by decide +kernel)) ggX2_takePart_X2_takeCondition
set_option maxRecDepth 20000 in
theorem ggX2_takePart_X1_add : GoodIn wsX2_takePart wsX1_add := goodIn_q _ [(32, 3), (55, 3)] (by decide +kernel) (by decide +kernel)
set_option maxRecDepth 20000 in
theorem gX2_takePart_X1_add : GoodIn wsX2_takePart (wsV RX2 101 RX1 yX1_add wsX1_add) := goodIn_app (goodIn_of _ (by decide +kernel)) ggX2_takePart_X1_add
theorem dX2_takePart_0 : decode cX2_takePart 0 = .ok (.iconst 0, 1) := by decide +kernel
theorem dX2_takePart_1 : decode cX2_takePart 1 = .ok (.istore_n 3, 1) := by decide +kernel
theorem dX2_takePart_2 : decode cX2_takePart 2 = .ok (.iload_n 2, 1) := by decide +kernel
theorem dX2_takePart_3 : decode cX2_takePart 3 = .ok (.iload_n 3, 1) := by decide +kernel
theorem dX2_takePart_4 : decode cX2_takePart 4 = .ok (.iadd, 1) := by decide +kernel
theorem dX2_takePart_5 : decode cX2_takePart 5 = .ok (.bipush 20, 2) := by decide +kernel
theorem dX2_takePart_7 : decode cX2_takePart 7 = .ok (.if_icmp .ge 28, 3) := by decide +kernel
theorem dX2_takePart_10 : decode cX2_takePart 10 = .ok (.aload_n 0, 1) := by decide +kernel
theorem dX2_takePart_11 : decode cX2_takePart 11 = .ok (.getfield 9, 3) := by decide +kernel
theorem dX2_takePart_14 : decode cX2_takePart 14 = .ok (.invokevirtual 26, 3) := by decide +kernel
theorem dX2_takePart_17 : decode cX2_takePart 17 = .ok (.bipush 11, 2) := by decide +kernel
theorem dX2_takePart_19 : decode cX2_takePart 19 = .ok (.if_icmp .ne 16, 3) := by decide +kernel
theorem dX2_takePart_22 : decode cX2_takePart 22 = .ok (.aload_n 0, 1) := by decide +kernel
theorem dX2_takePart_23 : decode cX2_takePart 23 = .ok (.getfield 9, 3) := by decide +kernel
theorem dX2_takePart_26 : decode cX2_takePart 26 = .ok (.invokevirtual 80, 3) := by decide +kernel
theorem dX2_takePart_29 : decode cX2_takePart 29 = .ok (.iinc 3 1, 3) := by decide +kernel
theorem dX2_takePart_32 : decode cX2_takePart 32 = .ok (.goto (-30), 3) := by decide +kernel
theorem dX2_takePart_35 : decode cX2_takePart 35 = .ok (.aload_n 0, 1) := by decide +kernel
theorem dX2_takePart_36 : decode cX2_takePart 36 = .ok (.getfield 9, 3) := by decide +kernel
theorem dX2_takePart_39 : decode cX2_takePart 39 = .ok (.invokevirtual 26, 3) := by decide +kernel
theorem dX2_takePart_42 : decode cX2_takePart 42 = .ok (.iconst 2, 1) := by decide +kernel
theorem dX2_takePart_43 : decode cX2_takePart 43 = .ok (.if_icmp .ne 14, 3) := by decide +kernel
theorem dX2_takePart_46 : decode cX2_takePart 46 = .ok (.aload_n 0, 1) := by decide +kernel
theorem dX2_takePart_47 : decode cX2_takePart 47 = .ok (.aload_n 1, 1) := by decide +kernel
theorem dX2_takePart_48 : decode cX2_takePart 48 = .ok (.iload_n 2, 1) := by decide +kernel
theorem dX2_takePart_49 : decode cX2_takePart 49 = .ok (.iload_n 3, 1) := by decide +kernel
theorem dX2_takePart_50 : decode cX2_takePart 50 = .ok (.iadd, 1) := by decide +kernel
theorem dX2_takePart_51 : decode cX2_takePart 51 = .ok (.invokevirtual 107, 3) := by decide +kernel
theorem dX2_takePart_54 : decode cX2_takePart 54 = .ok (.goto 8, 3) := by decide +kernel
theorem dX2_takePart_57 : decode cX2_takePart 57 = .ok (.aload_n 0, 1) := by decide +kernel
theorem dX2_takePart_58 : decode cX2_takePart 58 = .ok (.aload_n 1, 1) := by decide +kernel
theorem dX2_takePart_59 : decode cX2_takePart 59 = .ok (.invokevirtual 110, 3) := by decide +kernel
theorem dX2_takePart_62 : decode cX2_takePart 62 = .ok (.istore 4, 2) := by decide +kernel
theorem dX2_takePart_64 : decode cX2_takePart 64 = .ok (.iload 4, 2) := by decide +kernel
theorem dX2_takePart_66 : decode cX2_takePart 66 = .ok (.ifCond .ne 5, 3) := by decide +kernel
theorem dX2_takePart_69 : decode cX2_takePart 69 = .ok (.iconst 0, 1) := by decide +kernel
theorem dX2_takePart_70 : decode cX2_takePart 70 = .ok (.ireturn, 1) := by decide +kernel
theorem dX2_takePart_71 : decode cX2_takePart 71 = .ok (.iconst 0, 1) := by decide +kernel
theorem dX2_takePart_72 : decode cX2_takePart 72 = .ok (.istore 5, 2) := by decide +kernel
theorem dX2_takePart_74 : decode cX2_takePart 74 = .ok (.iload 5, 2) := by decide +kernel
theorem dX2_takePart_76 : decode cX2_takePart 76 = .ok (.iload_n 3, 1) := by decide +kernel
theorem dX2_takePart_77 : decode cX2_takePart 77 = .ok (.if_icmp .ge 18, 3) := by decide +kernel
theorem dX2_takePart_80 : decode cX2_takePart 80 = .ok (.aload_n 0, 1) := by decide +kernel
theorem dX2_takePart_81 : decode cX2_takePart 81 = .ok (.getfield 25, 3) := by decide +kernel
theorem dX2_takePart_84 : decode cX2_takePart 84 = .ok (.bipush 16, 2) := by decide +kernel
theorem dX2_takePart_86 : decode cX2_takePart 86 = .ok (.invokevirtual 101, 3) := by decide +kernel
theorem dX2_takePart_89 : decode cX2_takePart 89 = .ok (.iinc 5 1, 3) := by decide +kernel
theorem dX2_takePart_92 : decode cX2_takePart 92 = .ok (.goto (-18), 3) := by decide +kernel
theorem dX2_takePart_95 : decode cX2_takePart 95 = .ok (.iconst 1, 1) := by decide +kernel
theorem dX2_takePart_96 : decode cX2_takePart 96 = .ok (.ireturn, 1) := by decide +kernel
set_option maxRecDepth 20000 in
theorem ggX2_takeBrackets_X6_advance : GoodIn wsX2_takeBrackets wsX6_advance := goodIn_q _ [(6, 3), (50, 5)] (by decide +kernel) (by decide +kernel)
set_option maxRecDepth 20000 in
theorem gX2_takeBrackets_X6_advance : GoodIn wsX2_takeBrackets (wsV RX2 80 RX6 yX6_advance wsX6_advance) := goodIn_app (goodIn_of _ (by decide +kernel)) ggX2_takeBrackets_X6_advance
set_option maxRecDepth 20000 in
theorem ggX2_takeBrackets_X2_takeOr : GoodIn wsX2_takeBrackets wsX2_takeOr := goodIn_q _ [(30, 1), (1, 1), (19, 1), (31, 3), (12, 4), (5, 1), (16, 1), (7, 2), (17, 1), (2, 3), (6, 1), (23, 7), (18, 1), (20, 3), (0, 1), (9, 3), (34, 37)] (by decide +kernel) (by decide +kernel)
set_option maxRecDepth 20000 in
theorem gX2_takeBrackets_X2_takeOr : GoodIn wsX2_takeBrackets (wsV RX2 56 RX2 yX2_takeOr wsX2_takeOr) := goodIn_app (goodIn_of _ (by decide +kernel)) ggX2_takeBrackets_X2_takeOr
set_option maxRecDepth 20000 in
theorem ggX2_takeBrackets_X6_kind : GoodIn wsX2_takeBrackets wsX6_kind := goodIn_q _ [(16, 1), (7, 2), (17, 1), (50, 5)] (by decide +kernel) (by decide +kernel)
set_option maxRecDepth 20000 in
theorem gX2_takeBrackets_X6_kind : GoodIn wsX2_takeBrackets (wsV RX2 26 RX6 yX6_kind wsX6_kind) := goodIn_app (goodIn_of _ (by decide +kernel)) ggX2_takeBrackets_X6_kind
theorem dX2_takeBrackets_0 : decode cX2_takeBrackets 0 = .ok (.iload_n 2, 1) := by decide +kernel
theorem dX2_takeBrackets_1 : decode cX2_takeBrackets 1 = .ok (.bipush 20, 2) := by decide +kernel
theorem dX2_takeBrackets_3 : decode cX2_takeBrackets 3 = .ok (.if_icmp .lt 5, 3) := by decide +kernel
theorem dX2_takeBrackets_6 : decode cX2_takeBrackets 6 = .ok (.iconst 0, 1) := by decide +kernel
theorem dX2_takeBrackets_7 : decode cX2_takeBrackets 7 = .ok (.ireturn, 1) := by decide +kernel
theorem dX2_takeBrackets_8 : decode cX2_takeBrackets 8 = .ok (.aload_n 0, 1) := by decide +kernel
theorem dX2_takeBrackets_9 : decode cX2_takeBrackets 9 = .ok (.getfield 9, 3) := by decide +kernel
theorem dX2_takeBrackets_12 : decode cX2_takeBrackets 12 = .ok (.invokevirtual 80, 3) := by decide +kernel
theorem dX2_takeBrackets_15 : decode cX2_takeBrackets 15 = .ok (.aload_n 0, 1) := by decide +kernel
theorem dX2_takeBrackets_16 : decode cX2_takeBrackets 16 = .ok (.aload_n 1, 1) := by decide +kernel
theorem dX2_takeBrackets_17 : decode cX2_takeBrackets 17 = .ok (.iload_n 2, 1) := by decide +kernel
theorem dX2_takeBrackets_18 : decode cX2_takeBrackets 18 = .ok (.iconst 1, 1) := by decide +kernel
theorem dX2_takeBrackets_19 : decode cX2_takeBrackets 19 = .ok (.iadd, 1) := by decide +kernel
theorem dX2_takeBrackets_20 : decode cX2_takeBrackets 20 = .ok (.invokevirtual 56, 3) := by decide +kernel
theorem dX2_takeBrackets_23 : decode cX2_takeBrackets 23 = .ok (.ifCond .eq 14, 3) := by decide +kernel
theorem dX2_takeBrackets_26 : decode cX2_takeBrackets 26 = .ok (.aload_n 0, 1) := by decide +kernel
theorem dX2_takeBrackets_27 : decode cX2_takeBrackets 27 = .ok (.getfield 9, 3) := by decide +kernel
theorem dX2_takeBrackets_30 : decode cX2_takeBrackets 30 = .ok (.invokevirtual 26, 3) := by decide +kernel
theorem dX2_takeBrackets_33 : decode cX2_takeBrackets 33 = .ok (.iconst 3, 1) := by decide +kernel
theorem dX2_takeBrackets_34 : decode cX2_takeBrackets 34 = .ok (.if_icmp .eq 5, 3) := by decide +kernel
theorem dX2_takeBrackets_37 : decode cX2_takeBrackets 37 = .ok (.iconst 0, 1) := by decide +kernel
theorem dX2_takeBrackets_38 : decode cX2_takeBrackets 38 = .ok (.ireturn, 1) := by decide +kernel
theorem dX2_takeBrackets_39 : decode cX2_takeBrackets 39 = .ok (.aload_n 0, 1) := by decide +kernel
theorem dX2_takeBrackets_40 : decode cX2_takeBrackets 40 = .ok (.getfield 9, 3) := by decide +kernel
theorem dX2_takeBrackets_43 : decode cX2_takeBrackets 43 = .ok (.invokevirtual 80, 3) := by decide +kernel
theorem dX2_takeBrackets_46 : decode cX2_takeBrackets 46 = .ok (.iconst 1, 1) := by decide +kernel
theorem dX2_takeBrackets_47 : decode cX2_takeBrackets 47 = .ok (.ireturn, 1) := by decide +kernel
set_option maxRecDepth 20000 in
theorem ggX2_takeCondition_X6_kind : GoodIn wsX2_takeCondition wsX6_kind := goodIn_q _ [(7, 4), (43, 5)] (by decide +kernel) (by decide +kernel)
set_option maxRecDepth 20000 in
theorem gX2_takeCondition_X6_kind : GoodIn wsX2_takeCondition (wsV RX2 26 RX6 yX6_kind wsX6_kind) := goodIn_app (goodIn_of _ (by decide +kernel)) ggX2_takeCondition_X6_kind
set_option maxRecDepth 20000 in
theorem ggX2_takeCondition_X6_value : GoodIn wsX2_takeCondition wsX6_value := goodIn_q _ [(14, 1), (8, 2), (15, 1), (43, 5)] (by decide +kernel) (by decide +kernel)
set_option maxRecDepth 20000 in
theorem gX2_takeCondition_X6_value : GoodIn wsX2_takeCondition (wsV RX2 83 RX6 yX6_value wsX6_value) := goodIn_app (goodIn_of _ (by decide +kernel)) ggX2_takeCondition_X6_value
set_option maxRecDepth 20000 in
theorem ggX2_takeCondition_X1_add : GoodIn wsX2_takeCondition wsX1_add := goodIn_q _ [(20, 3), (48, 3)] (by decide +kernel) (by decide +kernel)
set_option maxRecDepth 20000 in
theorem gX2_takeCondition_X1_add : GoodIn wsX2_takeCondition (wsV RX2 101 RX1 yX1_add wsX1_add) := goodIn_app (goodIn_of _ (by decide +kernel)) ggX2_takeCondition_X1_add
set_option maxRecDepth 20000 in
theorem ggX2_takeCondition_X6_advance : GoodIn wsX2_takeCondition wsX6_advance := goodIn_q _ [(26, 1), (8, 2), (43, 5)] (by decide +kernel) (by decide +kernel)
set_option maxRecDepth 20000 in
theorem gX2_takeCondition_X6_advance : GoodIn wsX2_takeCondition (wsV RX2 80 RX6 yX6_advance wsX6_advance) := goodIn_app (goodIn_of _ (by decide +kernel)) ggX2_takeCondition_X6_advance
theorem dX2_takeCondition_0 : decode cX2_takeCondition 0 = .ok (.aload_n 0, 1) := by decide +kernel
theorem dX2_takeCondition_1 : decode cX2_takeCondition 1 = .ok (.getfield 9, 3) := by decide +kernel
theorem dX2_takeCondition_4 : decode cX2_takeCondition 4 = .ok (.invokevirtual 26, 3) := by decide +kernel
theorem dX2_takeCondition_7 : decode cX2_takeCondition 7 = .ok (.bipush 13, 2) := by decide +kernel
theorem dX2_takeCondition_9 : decode cX2_takeCondition 9 = .ok (.if_icmp .ne 12, 3) := by decide +kernel
theorem dX2_takeCondition_12 : decode cX2_takeCondition 12 = .ok (.aload_n 1, 1) := by decide +kernel
theorem dX2_takeCondition_13 : decode cX2_takeCondition 13 = .ok (.getfield 113, 3) := by decide +kernel
theorem dX2_takeCondition_16 : decode cX2_takeCondition 16 = .ok (.bipush 32, 2) := by decide +kernel
theorem dX2_takeCondition_18 : decode cX2_takeCondition 18 = .ok (.if_icmp .lt 5, 3) := by decide +kernel
theorem dX2_takeCondition_21 : decode cX2_takeCondition 21 = .ok (.iconst 0, 1) := by decide +kernel
theorem dX2_takeCondition_22 : decode cX2_takeCondition 22 = .ok (.ireturn, 1) := by decide +kernel
theorem dX2_takeCondition_23 : decode cX2_takeCondition 23 = .ok (.aload_n 0, 1) := by decide +kernel
theorem dX2_takeCondition_24 : decode cX2_takeCondition 24 = .ok (.getfield 25, 3) := by decide +kernel
theorem dX2_takeCondition_27 : decode cX2_takeCondition 27 = .ok (.aload_n 0, 1) := by decide +kernel
theorem dX2_takeCondition_28 : decode cX2_takeCondition 28 = .ok (.getfield 9, 3) := by decide +kernel
theorem dX2_takeCondition_31 : decode cX2_takeCondition 31 = .ok (.invokevirtual 83, 3) := by decide +kernel
theorem dX2_takeCondition_34 : decode cX2_takeCondition 34 = .ok (.invokevirtual 101, 3) := by decide +kernel
theorem dX2_takeCondition_37 : decode cX2_takeCondition 37 = .ok (.aload_n 1, 1) := by decide +kernel
theorem dX2_takeCondition_38 : decode cX2_takeCondition 38 = .ok (.dup, 1) := by decide +kernel
theorem dX2_takeCondition_39 : decode cX2_takeCondition 39 = .ok (.getfield 113, 3) := by decide +kernel
theorem dX2_takeCondition_42 : decode cX2_takeCondition 42 = .ok (.iconst 1, 1) := by decide +kernel
theorem dX2_takeCondition_43 : decode cX2_takeCondition 43 = .ok (.iadd, 1) := by decide +kernel
theorem dX2_takeCondition_44 : decode cX2_takeCondition 44 = .ok (.putfield 113, 3) := by decide +kernel
theorem dX2_takeCondition_47 : decode cX2_takeCondition 47 = .ok (.aload_n 0, 1) := by decide +kernel
theorem dX2_takeCondition_48 : decode cX2_takeCondition 48 = .ok (.getfield 9, 3) := by decide +kernel
theorem dX2_takeCondition_51 : decode cX2_takeCondition 51 = .ok (.invokevirtual 80, 3) := by decide +kernel
theorem dX2_takeCondition_54 : decode cX2_takeCondition 54 = .ok (.iconst 1, 1) := by decide +kernel
theorem dX2_takeCondition_55 : decode cX2_takeCondition 55 = .ok (.ireturn, 1) := by decide +kernel
theorem dX3_init_0 : decode cX3_init 0 = .ok (.aload_n 0, 1) := by decide +kernel
theorem dX3_init_1 : decode cX3_init 1 = .ok (.invokespecial 3, 3) := by decide +kernel
theorem dX3_init_4 : decode cX3_init 4 = .ok (.aload_n 0, 1) := by decide +kernel
theorem dX3_init_5 : decode cX3_init 5 = .ok (.bipush 8, 2) := by decide +kernel
theorem dX3_init_7 : decode cX3_init 7 = .ok (.newarray .int, 2) := by decide +kernel
theorem dX3_init_9 : decode cX3_init 9 = .ok (.putfield 9, 3) := by decide +kernel
theorem dX3_init_12 : decode cX3_init 12 = .ok (.return_, 1) := by decide +kernel
theorem dX3_hasAct_0 : decode cX3_hasAct 0 = .ok (.aload_n 0, 1) := by decide +kernel
theorem dX3_hasAct_1 : decode cX3_hasAct 1 = .ok (.getfield 15, 3) := by decide +kernel
theorem dX3_hasAct_4 : decode cX3_hasAct 4 = .ok (.iload_n 1, 1) := by decide +kernel
theorem dX3_hasAct_5 : decode cX3_hasAct 5 = .ok (.iushr, 1) := by decide +kernel
theorem dX3_hasAct_6 : decode cX3_hasAct 6 = .ok (.iconst 1, 1) := by decide +kernel
theorem dX3_hasAct_7 : decode cX3_hasAct 7 = .ok (.iand, 1) := by decide +kernel
theorem dX3_hasAct_8 : decode cX3_hasAct 8 = .ok (.ifCond .eq 7, 3) := by decide +kernel
theorem dX3_hasAct_11 : decode cX3_hasAct 11 = .ok (.iconst 1, 1) := by decide +kernel
theorem dX3_hasAct_12 : decode cX3_hasAct 12 = .ok (.goto 4, 3) := by decide +kernel
theorem dX3_hasAct_15 : decode cX3_hasAct 15 = .ok (.iconst 0, 1) := by decide +kernel
theorem dX3_hasAct_16 : decode cX3_hasAct 16 = .ok (.ireturn, 1) := by decide +kernel
set_option maxRecDepth 20000 in
theorem ggX3_addAct_X3_hasAct : GoodIn wsX3_addAct wsX3_hasAct := goodIn_q _ [(8, 1), (3, 1), (9, 13)] (by decide +kernel) (by decide +kernel)
set_option maxRecDepth 20000 in
theorem gX3_addAct_X3_hasAct : GoodIn wsX3_addAct (wsV RX3 22 RX3 yX3_hasAct wsX3_hasAct) := goodIn_app (goodIn_of _ (by decide +kernel)) ggX3_addAct_X3_hasAct
theorem dX3_addAct_0 : decode cX3_addAct 0 = .ok (.aload_n 0, 1) := by decide +kernel
theorem dX3_addAct_1 : decode cX3_addAct 1 = .ok (.getfield 19, 3) := by decide +kernel
theorem dX3_addAct_4 : decode cX3_addAct 4 = .ok (.aload_n 0, 1) := by decide +kernel
theorem dX3_addAct_5 : decode cX3_addAct 5 = .ok (.getfield 9, 3) := by decide +kernel
theorem dX3_addAct_8 : decode cX3_addAct 8 = .ok (.arraylength, 1) := by decide +kernel
theorem dX3_addAct_9 : decode cX3_addAct 9 = .ok (.if_icmp .ge 11, 3) := by decide +kernel
theorem dX3_addAct_12 : decode cX3_addAct 12 = .ok (.aload_n 0, 1) := by decide +kernel
theorem dX3_addAct_13 : decode cX3_addAct 13 = .ok (.iload_n 1, 1) := by decide +kernel
theorem dX3_addAct_14 : decode cX3_addAct 14 = .ok (.invokevirtual 22, 3) := by decide +kernel
theorem dX3_addAct_17 : decode cX3_addAct 17 = .ok (.ifCond .eq 5, 3) := by decide +kernel
theorem dX3_addAct_20 : decode cX3_addAct 20 = .ok (.iconst 0, 1) := by decide +kernel
theorem dX3_addAct_21 : decode cX3_addAct 21 = .ok (.ireturn, 1) := by decide +kernel
theorem dX3_addAct_22 : decode cX3_addAct 22 = .ok (.aload_n 0, 1) := by decide +kernel
theorem dX3_addAct_23 : decode cX3_addAct 23 = .ok (.getfield 9, 3) := by decide +kernel
theorem dX3_addAct_26 : decode cX3_addAct 26 = .ok (.aload_n 0, 1) := by decide +kernel
theorem dX3_addAct_27 : decode cX3_addAct 27 = .ok (.getfield 19, 3) := by decide +kernel
theorem dX3_addAct_30 : decode cX3_addAct 30 = .ok (.iload_n 1, 1) := by decide +kernel
theorem dX3_addAct_31 : decode cX3_addAct 31 = .ok (.iastore, 1) := by decide +kernel
theorem dX3_addAct_32 : decode cX3_addAct 32 = .ok (.aload_n 0, 1) := by decide +kernel
theorem dX3_addAct_33 : decode cX3_addAct 33 = .ok (.dup, 1) := by decide +kernel
theorem dX3_addAct_34 : decode cX3_addAct 34 = .ok (.getfield 19, 3) := by decide +kernel
theorem dX3_addAct_37 : decode cX3_addAct 37 = .ok (.iconst 1, 1) := by decide +kernel
theorem dX3_addAct_38 : decode cX3_addAct 38 = .ok (.iadd, 1) := by decide +kernel
theorem dX3_addAct_39 : decode cX3_addAct 39 = .ok (.putfield 19, 3) := by decide +kernel
theorem dX3_addAct_42 : decode cX3_addAct 42 = .ok (.aload_n 0, 1) := by decide +kernel
theorem dX3_addAct_43 : decode cX3_addAct 43 = .ok (.dup, 1) := by decide +kernel
theorem dX3_addAct_44 : decode cX3_addAct 44 = .ok (.getfield 15, 3) := by decide +kernel
theorem dX3_addAct_47 : decode cX3_addAct 47 = .ok (.iconst 1, 1) := by decide +kernel
theorem dX3_addAct_48 : decode cX3_addAct 48 = .ok (.iload_n 1, 1) := by decide +kernel
theorem dX3_addAct_49 : decode cX3_addAct 49 = .ok (.ishl, 1) := by decide +kernel
theorem dX3_addAct_50 : decode cX3_addAct 50 = .ok (.ior, 1) := by decide +kernel
theorem dX3_addAct_51 : decode cX3_addAct 51 = .ok (.putfield 15, 3) := by decide +kernel
theorem dX3_addAct_54 : decode cX3_addAct 54 = .ok (.iconst 1, 1) := by decide +kernel
theorem dX3_addAct_55 : decode cX3_addAct 55 = .ok (.ireturn, 1) := by decide +kernel
theorem dX3_actAt_0 : decode cX3_actAt 0 = .ok (.iload_n 1, 1) := by decide +kernel
theorem dX3_actAt_1 : decode cX3_actAt 1 = .ok (.ifCond .lt 20, 3) := by decide +kernel
theorem dX3_actAt_4 : decode cX3_actAt 4 = .ok (.iload_n 1, 1) := by decide +kernel
theorem dX3_actAt_5 : decode cX3_actAt 5 = .ok (.aload_n 0, 1) := by decide +kernel
theorem dX3_actAt_6 : decode cX3_actAt 6 = .ok (.getfield 19, 3) := by decide +kernel
theorem dX3_actAt_9 : decode cX3_actAt 9 = .ok (.if_icmp .ge 12, 3) := by decide +kernel
theorem dX3_actAt_12 : decode cX3_actAt 12 = .ok (.iload_n 1, 1) := by decide +kernel
theorem dX3_actAt_13 : decode cX3_actAt 13 = .ok (.aload_n 0, 1) := by decide +kernel
theorem dX3_actAt_14 : decode cX3_actAt 14 = .ok (.getfield 9, 3) := by decide +kernel
theorem dX3_actAt_17 : decode cX3_actAt 17 = .ok (.arraylength, 1) := by decide +kernel
theorem dX3_actAt_18 : decode cX3_actAt 18 = .ok (.if_icmp .lt 7, 3) := by decide +kernel
theorem dX3_actAt_21 : decode cX3_actAt 21 = .ok (.iconst (-1), 1) := by decide +kernel
theorem dX3_actAt_22 : decode cX3_actAt 22 = .ok (.goto 9, 3) := by decide +kernel
theorem dX3_actAt_25 : decode cX3_actAt 25 = .ok (.aload_n 0, 1) := by decide +kernel
theorem dX3_actAt_26 : decode cX3_actAt 26 = .ok (.getfield 9, 3) := by decide +kernel
theorem dX3_actAt_29 : decode cX3_actAt 29 = .ok (.iload_n 1, 1) := by decide +kernel
theorem dX3_actAt_30 : decode cX3_actAt 30 = .ok (.iaload, 1) := by decide +kernel
theorem dX3_actAt_31 : decode cX3_actAt 31 = .ok (.ireturn, 1) := by decide +kernel
set_option maxRecDepth 20000 in
theorem ggX3_bars_X3_holds : GoodIn wsX3_bars wsX3_holds := goodIn_q _ [(7, 16)] (by decide +kernel) (by decide +kernel)
set_option maxRecDepth 20000 in
theorem gX3_bars_X3_holds : GoodIn wsX3_bars (wsV RX3 33 RX3 yX3_holds wsX3_holds) := goodIn_app (goodIn_of _ (by decide +kernel)) ggX3_bars_X3_holds
theorem dX3_bars_0 : decode cX3_bars 0 = .ok (.aload_n 0, 1) := by decide +kernel
theorem dX3_bars_1 : decode cX3_bars 1 = .ok (.getfield 26, 3) := by decide +kernel
theorem dX3_bars_4 : decode cX3_bars 4 = .ok (.ifCond .ne 22, 3) := by decide +kernel
theorem dX3_bars_7 : decode cX3_bars 7 = .ok (.aload_n 0, 1) := by decide +kernel
theorem dX3_bars_8 : decode cX3_bars 8 = .ok (.getfield 29, 3) := by decide +kernel
theorem dX3_bars_11 : decode cX3_bars 11 = .ok (.ifCond .ne 11, 3) := by decide +kernel
theorem dX3_bars_14 : decode cX3_bars 14 = .ok (.aload_n 0, 1) := by decide +kernel
theorem dX3_bars_15 : decode cX3_bars 15 = .ok (.iload_n 1, 1) := by decide +kernel
theorem dX3_bars_16 : decode cX3_bars 16 = .ok (.invokevirtual 33, 3) := by decide +kernel
theorem dX3_bars_19 : decode cX3_bars 19 = .ok (.ifCond .eq 7, 3) := by decide +kernel
theorem dX3_bars_22 : decode cX3_bars 22 = .ok (.iconst 1, 1) := by decide +kernel
theorem dX3_bars_23 : decode cX3_bars 23 = .ok (.goto 4, 3) := by decide +kernel
theorem dX3_bars_26 : decode cX3_bars 26 = .ok (.iconst 0, 1) := by decide +kernel
theorem dX3_bars_27 : decode cX3_bars 27 = .ok (.ireturn, 1) := by decide +kernel
theorem dX3_holds_0 : decode cX3_holds 0 = .ok (.iload_n 1, 1) := by decide +kernel
theorem dX3_holds_1 : decode cX3_holds 1 = .ok (.ifCond .eq 18, 3) := by decide +kernel
theorem dX3_holds_4 : decode cX3_holds 4 = .ok (.aload_n 0, 1) := by decide +kernel
theorem dX3_holds_5 : decode cX3_holds 5 = .ok (.getfield 37, 3) := by decide +kernel
theorem dX3_holds_8 : decode cX3_holds 8 = .ok (.aload_n 0, 1) := by decide +kernel
theorem dX3_holds_9 : decode cX3_holds 9 = .ok (.getfield 40, 3) := by decide +kernel
theorem dX3_holds_12 : decode cX3_holds 12 = .ok (.if_icmp .lt 7, 3) := by decide +kernel
theorem dX3_holds_15 : decode cX3_holds 15 = .ok (.iconst 1, 1) := by decide +kernel
theorem dX3_holds_16 : decode cX3_holds 16 = .ok (.goto 4, 3) := by decide +kernel
theorem dX3_holds_19 : decode cX3_holds 19 = .ok (.iconst 0, 1) := by decide +kernel
theorem dX3_holds_20 : decode cX3_holds 20 = .ok (.ireturn, 1) := by decide +kernel
set_option maxRecDepth 20000 in
theorem ggX3_letGoBy_X3_holds : GoodIn wsX3_letGoBy wsX3_holds := goodIn_q _ [(17, 1), (7, 1), (18, 14)] (by decide +kernel) (by decide +kernel)
set_option maxRecDepth 20000 in
theorem gX3_letGoBy_X3_holds : GoodIn wsX3_letGoBy (wsV RX3 33 RX3 yX3_holds wsX3_holds) := goodIn_app (goodIn_of _ (by decide +kernel)) ggX3_letGoBy_X3_holds
theorem dX3_letGoBy_0 : decode cX3_letGoBy 0 = .ok (.aload_n 0, 1) := by decide +kernel
theorem dX3_letGoBy_1 : decode cX3_letGoBy 1 = .ok (.iconst 0, 1) := by decide +kernel
theorem dX3_letGoBy_2 : decode cX3_letGoBy 2 = .ok (.aload_n 0, 1) := by decide +kernel
theorem dX3_letGoBy_3 : decode cX3_letGoBy 3 = .ok (.getfield 26, 3) := by decide +kernel
theorem dX3_letGoBy_6 : decode cX3_letGoBy 6 = .ok (.iload_n 1, 1) := by decide +kernel
theorem dX3_letGoBy_7 : decode cX3_letGoBy 7 = .ok (.isub, 1) := by decide +kernel
theorem dX3_letGoBy_8 : decode cX3_letGoBy 8 = .ok (.invokestatic 43, 3) := by decide +kernel
theorem dX3_letGoBy_11 : decode cX3_letGoBy 11 = .ok (.putfield 26, 3) := by decide +kernel
theorem dX3_letGoBy_14 : decode cX3_letGoBy 14 = .ok (.aload_n 0, 1) := by decide +kernel
theorem dX3_letGoBy_15 : decode cX3_letGoBy 15 = .ok (.iload_n 2, 1) := by decide +kernel
theorem dX3_letGoBy_16 : decode cX3_letGoBy 16 = .ok (.ifCond .eq 17, 3) := by decide +kernel
theorem dX3_letGoBy_19 : decode cX3_letGoBy 19 = .ok (.ldc 49, 2) := by decide +kernel
theorem dX3_letGoBy_21 : decode cX3_letGoBy 21 = .ok (.aload_n 0, 1) := by decide +kernel
theorem dX3_letGoBy_22 : decode cX3_letGoBy 22 = .ok (.getfield 37, 3) := by decide +kernel
theorem dX3_letGoBy_25 : decode cX3_letGoBy 25 = .ok (.iload_n 1, 1) := by decide +kernel
theorem dX3_letGoBy_26 : decode cX3_letGoBy 26 = .ok (.iadd, 1) := by decide +kernel
theorem dX3_letGoBy_27 : decode cX3_letGoBy 27 = .ok (.invokestatic 50, 3) := by decide +kernel
theorem dX3_letGoBy_30 : decode cX3_letGoBy 30 = .ok (.goto 4, 3) := by decide +kernel
theorem dX3_letGoBy_33 : decode cX3_letGoBy 33 = .ok (.iconst 0, 1) := by decide +kernel
theorem dX3_letGoBy_34 : decode cX3_letGoBy 34 = .ok (.putfield 37, 3) := by decide +kernel
theorem dX3_letGoBy_37 : decode cX3_letGoBy 37 = .ok (.aload_n 0, 1) := by decide +kernel
theorem dX3_letGoBy_38 : decode cX3_letGoBy 38 = .ok (.getfield 53, 3) := by decide +kernel
theorem dX3_letGoBy_41 : decode cX3_letGoBy 41 = .ok (.ifCond .eq 16, 3) := by decide +kernel
theorem dX3_letGoBy_44 : decode cX3_letGoBy 44 = .ok (.aload_n 0, 1) := by decide +kernel
theorem dX3_letGoBy_45 : decode cX3_letGoBy 45 = .ok (.iload_n 2, 1) := by decide +kernel
theorem dX3_letGoBy_46 : decode cX3_letGoBy 46 = .ok (.invokevirtual 33, 3) := by decide +kernel
theorem dX3_letGoBy_49 : decode cX3_letGoBy 49 = .ok (.ifCond .eq 8, 3) := by decide +kernel
theorem dX3_letGoBy_52 : decode cX3_letGoBy 52 = .ok (.aload_n 0, 1) := by decide +kernel
theorem dX3_letGoBy_53 : decode cX3_letGoBy 53 = .ok (.iconst 1, 1) := by decide +kernel
theorem dX3_letGoBy_54 : decode cX3_letGoBy 54 = .ok (.putfield 29, 3) := by decide +kernel
theorem dX3_letGoBy_57 : decode cX3_letGoBy 57 = .ok (.return_, 1) := by decide +kernel
theorem dX4_init_0 : decode cX4_init 0 = .ok (.aload_n 0, 1) := by decide +kernel
theorem dX4_init_1 : decode cX4_init 1 = .ok (.invokespecial 3, 3) := by decide +kernel
theorem dX4_init_4 : decode cX4_init 4 = .ok (.aload_n 0, 1) := by decide +kernel
theorem dX4_init_5 : decode cX4_init 5 = .ok (.bipush 16, 2) := by decide +kernel
theorem dX4_init_7 : decode cX4_init 7 = .ok (.newarray .int, 2) := by decide +kernel
theorem dX4_init_9 : decode cX4_init 9 = .ok (.putfield 9, 3) := by decide +kernel
theorem dX4_init_12 : decode cX4_init 12 = .ok (.aload_n 0, 1) := by decide +kernel
theorem dX4_init_13 : decode cX4_init 13 = .ok (.bipush 16, 2) := by decide +kernel
theorem dX4_init_15 : decode cX4_init 15 = .ok (.newarray .long, 2) := by decide +kernel
theorem dX4_init_17 : decode cX4_init 17 = .ok (.putfield 15, 3) := by decide +kernel
theorem dX4_init_20 : decode cX4_init 20 = .ok (.aload_n 0, 1) := by decide +kernel
theorem dX4_init_21 : decode cX4_init 21 = .ok (.bipush 32, 2) := by decide +kernel
theorem dX4_init_23 : decode cX4_init 23 = .ok (.newarray .long, 2) := by decide +kernel
theorem dX4_init_25 : decode cX4_init 25 = .ok (.putfield 19, 3) := by decide +kernel
theorem dX4_init_28 : decode cX4_init 28 = .ok (.aload_n 0, 1) := by decide +kernel
theorem dX4_init_29 : decode cX4_init 29 = .ok (.aload_n 1, 1) := by decide +kernel
theorem dX4_init_30 : decode cX4_init 30 = .ok (.putfield 22, 3) := by decide +kernel
theorem dX4_init_33 : decode cX4_init 33 = .ok (.return_, 1) := by decide +kernel
set_option maxRecDepth 20000 in
theorem ggX4_markRows_X4_findUsed : GoodIn wsX4_markRows wsX4_findUsed := goodIn_q _ [(11, 1), (6, 1), (1, 1), (12, 15), (99, 12)] (by decide +kernel) (by decide +kernel)
set_option maxRecDepth 20000 in
theorem gX4_markRows_X4_findUsed : GoodIn wsX4_markRows (wsV RX4 26 RX4 yX4_findUsed wsX4_findUsed) := goodIn_app (goodIn_of _ (by decide +kernel)) ggX4_markRows_X4_findUsed
set_option maxRecDepth 20000 in
theorem ggX4_markRows_X5_size : GoodIn wsX4_markRows wsX5_size := goodIn_q _ [(31, 8), (104, 4), (111, 3)] (by decide +kernel) (by decide +kernel)
set_option maxRecDepth 20000 in
theorem gX4_markRows_X5_size : GoodIn wsX4_markRows (wsV RX4 42 RX5 yX5_size wsX5_size) := goodIn_app (goodIn_of _ (by decide +kernel)) ggX4_markRows_X5_size
set_option maxRecDepth 20000 in
theorem ggX4_markRows_X4_set : GoodIn wsX4_markRows wsX4_set := goodIn_q _ [(42, 1), (1, 1), (12, 1), (43, 1), (99, 5)] (by decide +kernel) (by decide +kernel)
set_option maxRecDepth 20000 in
theorem gX4_markRows_X4_set : GoodIn wsX4_markRows (wsV RX4 48 RX4 yX4_set wsX4_set) := goodIn_app (goodIn_of _ (by decide +kernel)) ggX4_markRows_X4_set
set_option maxRecDepth 20000 in
theorem ggX4_markRows_X4_markBlock : GoodIn wsX4_markRows wsX4_markBlock := goodIn_q _ [(47, 2), (6, 1), (49, 1), (43, 1), (50, 4), (27, 12), (54, 25), (16, 1), (79, 4), (20, 3), (18, 1), (23, 1), (83, 1), (25, 2), (84, 6), (10, 1), (90, 18), (114, 13), (111, 3), (108, 3)] (by decide +kernel) (by decide +kernel)
set_option maxRecDepth 20000 in
theorem gX4_markRows_X4_markBlock : GoodIn wsX4_markRows (wsV RX4 52 RX4 yX4_markBlock wsX4_markBlock) := goodIn_app (goodIn_of _ (by decide +kernel)) ggX4_markRows_X4_markBlock
theorem dX4_markRows_0 : decode cX4_markRows 0 = .ok (.aload_n 0, 1) := by decide +kernel
theorem dX4_markRows_1 : decode cX4_markRows 1 = .ok (.invokevirtual 26, 3) := by decide +kernel
theorem dX4_markRows_4 : decode cX4_markRows 4 = .ok (.iconst 1, 1) := by decide +kernel
theorem dX4_markRows_5 : decode cX4_markRows 5 = .ok (.iconst 0, 1) := by decide +kernel
theorem dX4_markRows_6 : decode cX4_markRows 6 = .ok (.aload_n 0, 1) := by decide +kernel
theorem dX4_markRows_7 : decode cX4_markRows 7 = .ok (.getfield 29, 3) := by decide +kernel
theorem dX4_markRows_10 : decode cX4_markRows 10 = .ok (.getstatic 33, 3) := by decide +kernel
theorem dX4_markRows_13 : decode cX4_markRows 13 = .ok (.arraylength, 1) := by decide +kernel
theorem dX4_markRows_14 : decode cX4_markRows 14 = .ok (.isub, 1) := by decide +kernel
theorem dX4_markRows_15 : decode cX4_markRows 15 = .ok (.invokestatic 36, 3) := by decide +kernel
theorem dX4_markRows_18 : decode cX4_markRows 18 = .ok (.ishl, 1) := by decide +kernel
theorem dX4_markRows_19 : decode cX4_markRows 19 = .ok (.istore_n 1, 1) := by decide +kernel
theorem dX4_markRows_20 : decode cX4_markRows 20 = .ok (.aload_n 0, 1) := by decide +kernel
theorem dX4_markRows_21 : decode cX4_markRows 21 = .ok (.getfield 22, 3) := by decide +kernel
theorem dX4_markRows_24 : decode cX4_markRows 24 = .ok (.invokevirtual 42, 3) := by decide +kernel
theorem dX4_markRows_27 : decode cX4_markRows 27 = .ok (.istore_n 2, 1) := by decide +kernel
theorem dX4_markRows_28 : decode cX4_markRows 28 = .ok (.iconst 0, 1) := by decide +kernel
theorem dX4_markRows_29 : decode cX4_markRows 29 = .ok (.istore_n 3, 1) := by decide +kernel
theorem dX4_markRows_30 : decode cX4_markRows 30 = .ok (.iload_n 3, 1) := by decide +kernel
theorem dX4_markRows_31 : decode cX4_markRows 31 = .ok (.iload_n 1, 1) := by decide +kernel
theorem dX4_markRows_32 : decode cX4_markRows 32 = .ok (.if_icmp .ge 25, 3) := by decide +kernel
theorem dX4_markRows_35 : decode cX4_markRows 35 = .ok (.iload_n 2, 1) := by decide +kernel
theorem dX4_markRows_36 : decode cX4_markRows 36 = .ok (.ifCond .le 21, 3) := by decide +kernel
theorem dX4_markRows_39 : decode cX4_markRows 39 = .ok (.aload_n 0, 1) := by decide +kernel
theorem dX4_markRows_40 : decode cX4_markRows 40 = .ok (.iload_n 3, 1) := by decide +kernel
theorem dX4_markRows_41 : decode cX4_markRows 41 = .ok (.invokevirtual 48, 3) := by decide +kernel
theorem dX4_markRows_44 : decode cX4_markRows 44 = .ok (.iload_n 2, 1) := by decide +kernel
theorem dX4_markRows_45 : decode cX4_markRows 45 = .ok (.aload_n 0, 1) := by decide +kernel
theorem dX4_markRows_46 : decode cX4_markRows 46 = .ok (.invokevirtual 52, 3) := by decide +kernel
theorem dX4_markRows_49 : decode cX4_markRows 49 = .ok (.isub, 1) := by decide +kernel
theorem dX4_markRows_50 : decode cX4_markRows 50 = .ok (.istore_n 2, 1) := by decide +kernel
theorem dX4_markRows_51 : decode cX4_markRows 51 = .ok (.iinc 3 1, 3) := by decide +kernel
theorem dX4_markRows_54 : decode cX4_markRows 54 = .ok (.goto (-24), 3) := by decide +kernel
theorem dX4_markRows_57 : decode cX4_markRows 57 = .ok (.return_, 1) := by decide +kernel
set_option maxRecDepth 20000 in
theorem ggX4_findUsed_X1_size : GoodIn wsX4_findUsed wsX1_size := goodIn_q _ [(8, 2), (27, 3)] (by decide +kernel) (by decide +kernel)
set_option maxRecDepth 20000 in
theorem gX4_findUsed_X1_size : GoodIn wsX4_findUsed (wsV RX4 59 RX1 yX1_size wsX1_size) := goodIn_app (goodIn_of _ (by decide +kernel)) ggX4_findUsed_X1_size
set_option maxRecDepth 20000 in
theorem ggX4_findUsed_X1_at : GoodIn wsX4_findUsed wsX1_at := goodIn_q _ [(13, 1), (9, 1), (14, 1), (27, 3)] (by decide +kernel) (by decide +kernel)
set_option maxRecDepth 20000 in
theorem gX4_findUsed_X1_at : GoodIn wsX4_findUsed (wsV RX4 62 RX1 yX1_at wsX1_at) := goodIn_app (goodIn_of _ (by decide +kernel)) ggX4_findUsed_X1_at
set_option maxRecDepth 20000 in
theorem ggX4_findUsed_X1_isCondition : GoodIn wsX4_findUsed wsX1_isCondition := goodIn_q _ [(17, 1)] (by decide +kernel) (by decide +kernel)
set_option maxRecDepth 20000 in
theorem gX4_findUsed_X1_isCondition : GoodIn wsX4_findUsed (va_wsS RX4 66 yX1_isCondition wsX1_isCondition) := goodIn_app (goodIn_of _ (by decide +kernel)) ggX4_findUsed_X1_isCondition
theorem dX4_findUsed_0 : decode cX4_findUsed 0 = .ok (.iconst 0, 1) := by decide +kernel
theorem dX4_findUsed_1 : decode cX4_findUsed 1 = .ok (.istore_n 1, 1) := by decide +kernel
theorem dX4_findUsed_2 : decode cX4_findUsed 2 = .ok (.aload_n 0, 1) := by decide +kernel
theorem dX4_findUsed_3 : decode cX4_findUsed 3 = .ok (.getfield 22, 3) := by decide +kernel
theorem dX4_findUsed_6 : decode cX4_findUsed 6 = .ok (.getfield 55, 3) := by decide +kernel
theorem dX4_findUsed_9 : decode cX4_findUsed 9 = .ok (.astore_n 2, 1) := by decide +kernel
theorem dX4_findUsed_10 : decode cX4_findUsed 10 = .ok (.iconst 0, 1) := by decide +kernel
theorem dX4_findUsed_11 : decode cX4_findUsed 11 = .ok (.istore_n 3, 1) := by decide +kernel
theorem dX4_findUsed_12 : decode cX4_findUsed 12 = .ok (.iload_n 3, 1) := by decide +kernel
theorem dX4_findUsed_13 : decode cX4_findUsed 13 = .ok (.aload_n 2, 1) := by decide +kernel
theorem dX4_findUsed_14 : decode cX4_findUsed 14 = .ok (.invokevirtual 59, 3) := by decide +kernel
theorem dX4_findUsed_17 : decode cX4_findUsed 17 = .ok (.if_icmp .ge 31, 3) := by decide +kernel
theorem dX4_findUsed_20 : decode cX4_findUsed 20 = .ok (.aload_n 2, 1) := by decide +kernel
theorem dX4_findUsed_21 : decode cX4_findUsed 21 = .ok (.iload_n 3, 1) := by decide +kernel
theorem dX4_findUsed_22 : decode cX4_findUsed 22 = .ok (.invokevirtual 62, 3) := by decide +kernel
theorem dX4_findUsed_25 : decode cX4_findUsed 25 = .ok (.istore 4, 2) := by decide +kernel
theorem dX4_findUsed_27 : decode cX4_findUsed 27 = .ok (.iload 4, 2) := by decide +kernel
theorem dX4_findUsed_29 : decode cX4_findUsed 29 = .ok (.invokestatic 66, 3) := by decide +kernel
theorem dX4_findUsed_32 : decode cX4_findUsed 32 = .ok (.ifCond .eq 10, 3) := by decide +kernel
theorem dX4_findUsed_35 : decode cX4_findUsed 35 = .ok (.iload_n 1, 1) := by decide +kernel
theorem dX4_findUsed_36 : decode cX4_findUsed 36 = .ok (.iconst 1, 1) := by decide +kernel
theorem dX4_findUsed_37 : decode cX4_findUsed 37 = .ok (.iload 4, 2) := by decide +kernel
theorem dX4_findUsed_39 : decode cX4_findUsed 39 = .ok (.ishl, 1) := by decide +kernel
theorem dX4_findUsed_40 : decode cX4_findUsed 40 = .ok (.ior, 1) := by decide +kernel
theorem dX4_findUsed_41 : decode cX4_findUsed 41 = .ok (.istore_n 1, 1) := by decide +kernel
theorem dX4_findUsed_42 : decode cX4_findUsed 42 = .ok (.iinc 3 1, 3) := by decide +kernel
theorem dX4_findUsed_45 : decode cX4_findUsed 45 = .ok (.goto (-33), 3) := by decide +kernel
theorem dX4_findUsed_48 : decode cX4_findUsed 48 = .ok (.iconst 0, 1) := by decide +kernel
theorem dX4_findUsed_49 : decode cX4_findUsed 49 = .ok (.istore_n 3, 1) := by decide +kernel
theorem dX4_findUsed_50 : decode cX4_findUsed 50 = .ok (.iload_n 3, 1) := by decide +kernel
theorem dX4_findUsed_51 : decode cX4_findUsed 51 = .ok (.bipush 16, 2) := by decide +kernel
theorem dX4_findUsed_53 : decode cX4_findUsed 53 = .ok (.if_icmp .ge 49, 3) := by decide +kernel
theorem dX4_findUsed_56 : decode cX4_findUsed 56 = .ok (.iload_n 1, 1) := by decide +kernel
theorem dX4_findUsed_57 : decode cX4_findUsed 57 = .ok (.iload_n 3, 1) := by decide +kernel
theorem dX4_findUsed_58 : decode cX4_findUsed 58 = .ok (.iushr, 1) := by decide +kernel
theorem dX4_findUsed_59 : decode cX4_findUsed 59 = .ok (.iconst 1, 1) := by decide +kernel
theorem dX4_findUsed_60 : decode cX4_findUsed 60 = .ok (.iand, 1) := by decide +kernel
theorem dX4_findUsed_61 : decode cX4_findUsed 61 = .ok (.ifCond .eq 35, 3) := by decide +kernel
theorem dX4_findUsed_64 : decode cX4_findUsed 64 = .ok (.aload_n 0, 1) := by decide +kernel
theorem dX4_findUsed_65 : decode cX4_findUsed 65 = .ok (.getfield 29, 3) := by decide +kernel
theorem dX4_findUsed_68 : decode cX4_findUsed 68 = .ok (.aload_n 0, 1) := by decide +kernel
theorem dX4_findUsed_69 : decode cX4_findUsed 69 = .ok (.getfield 9, 3) := by decide +kernel
theorem dX4_findUsed_72 : decode cX4_findUsed 72 = .ok (.arraylength, 1) := by decide +kernel
theorem dX4_findUsed_73 : decode cX4_findUsed 73 = .ok (.if_icmp .ge 23, 3) := by decide +kernel
theorem dX4_findUsed_76 : decode cX4_findUsed 76 = .ok (.aload_n 0, 1) := by decide +kernel
theorem dX4_findUsed_77 : decode cX4_findUsed 77 = .ok (.getfield 9, 3) := by decide +kernel
theorem dX4_findUsed_80 : decode cX4_findUsed 80 = .ok (.aload_n 0, 1) := by decide +kernel
theorem dX4_findUsed_81 : decode cX4_findUsed 81 = .ok (.getfield 29, 3) := by decide +kernel
theorem dX4_findUsed_84 : decode cX4_findUsed 84 = .ok (.iload_n 3, 1) := by decide +kernel
theorem dX4_findUsed_85 : decode cX4_findUsed 85 = .ok (.iastore, 1) := by decide +kernel
theorem dX4_findUsed_86 : decode cX4_findUsed 86 = .ok (.aload_n 0, 1) := by decide +kernel
theorem dX4_findUsed_87 : decode cX4_findUsed 87 = .ok (.dup, 1) := by decide +kernel
theorem dX4_findUsed_88 : decode cX4_findUsed 88 = .ok (.getfield 29, 3) := by decide +kernel
theorem dX4_findUsed_91 : decode cX4_findUsed 91 = .ok (.iconst 1, 1) := by decide +kernel
theorem dX4_findUsed_92 : decode cX4_findUsed 92 = .ok (.iadd, 1) := by decide +kernel
theorem dX4_findUsed_93 : decode cX4_findUsed 93 = .ok (.putfield 29, 3) := by decide +kernel
theorem dX4_findUsed_96 : decode cX4_findUsed 96 = .ok (.iinc 3 1, 3) := by decide +kernel
theorem dX4_findUsed_99 : decode cX4_findUsed 99 = .ok (.goto (-49), 3) := by decide +kernel
theorem dX4_findUsed_102 : decode cX4_findUsed 102 = .ok (.return_, 1) := by decide +kernel
theorem dX4_set_0 : decode cX4_set 0 = .ok (.iconst 0, 1) := by decide +kernel
theorem dX4_set_1 : decode cX4_set 1 = .ok (.istore_n 2, 1) := by decide +kernel
theorem dX4_set_2 : decode cX4_set 2 = .ok (.iload_n 2, 1) := by decide +kernel
theorem dX4_set_3 : decode cX4_set 3 = .ok (.aload_n 0, 1) := by decide +kernel
theorem dX4_set_4 : decode cX4_set 4 = .ok (.getfield 29, 3) := by decide +kernel
theorem dX4_set_7 : decode cX4_set 7 = .ok (.if_icmp .ge 69, 3) := by decide +kernel
theorem dX4_set_10 : decode cX4_set 10 = .ok (.iload_n 2, 1) := by decide +kernel
theorem dX4_set_11 : decode cX4_set 11 = .ok (.getstatic 33, 3) := by decide +kernel
theorem dX4_set_14 : decode cX4_set 14 = .ok (.arraylength, 1) := by decide +kernel
theorem dX4_set_15 : decode cX4_set 15 = .ok (.if_icmp .ge 11, 3) := by decide +kernel
theorem dX4_set_18 : decode cX4_set 18 = .ok (.getstatic 33, 3) := by decide +kernel
theorem dX4_set_21 : decode cX4_set 21 = .ok (.iload_n 2, 1) := by decide +kernel
theorem dX4_set_22 : decode cX4_set 22 = .ok (.laload, 1) := by decide +kernel
theorem dX4_set_23 : decode cX4_set 23 = .ok (.goto 15, 3) := by decide +kernel
theorem dX4_set_26 : decode cX4_set 26 = .ok (.iload_n 1, 1) := by decide +kernel
theorem dX4_set_27 : decode cX4_set 27 = .ok (.iload_n 2, 1) := by decide +kernel
theorem dX4_set_28 : decode cX4_set 28 = .ok (.getstatic 33, 3) := by decide +kernel
theorem dX4_set_31 : decode cX4_set 31 = .ok (.arraylength, 1) := by decide +kernel
theorem dX4_set_32 : decode cX4_set 32 = .ok (.isub, 1) := by decide +kernel
theorem dX4_set_33 : decode cX4_set 33 = .ok (.iushr, 1) := by decide +kernel
theorem dX4_set_34 : decode cX4_set 34 = .ok (.iconst 1, 1) := by decide +kernel
theorem dX4_set_35 : decode cX4_set 35 = .ok (.iand, 1) := by decide +kernel
theorem dX4_set_36 : decode cX4_set 36 = .ok (.i2l, 1) := by decide +kernel
theorem dX4_set_37 : decode cX4_set 37 = .ok (.lneg, 1) := by decide +kernel
theorem dX4_set_38 : decode cX4_set 38 = .ok (.lstore_n 3, 1) := by decide +kernel
theorem dX4_set_39 : decode cX4_set 39 = .ok (.aload_n 0, 1) := by decide +kernel
theorem dX4_set_40 : decode cX4_set 40 = .ok (.getfield 9, 3) := by decide +kernel
theorem dX4_set_43 : decode cX4_set 43 = .ok (.iload_n 2, 1) := by decide +kernel
theorem dX4_set_44 : decode cX4_set 44 = .ok (.iaload, 1) := by decide +kernel
theorem dX4_set_45 : decode cX4_set 45 = .ok (.istore 5, 2) := by decide +kernel
theorem dX4_set_47 : decode cX4_set 47 = .ok (.iload 5, 2) := by decide +kernel
theorem dX4_set_49 : decode cX4_set 49 = .ok (.ifCond .lt 21, 3) := by decide +kernel
theorem dX4_set_52 : decode cX4_set 52 = .ok (.iload 5, 2) := by decide +kernel
theorem dX4_set_54 : decode cX4_set 54 = .ok (.aload_n 0, 1) := by decide +kernel
theorem dX4_set_55 : decode cX4_set 55 = .ok (.getfield 15, 3) := by decide +kernel
theorem dX4_set_58 : decode cX4_set 58 = .ok (.arraylength, 1) := by decide +kernel
theorem dX4_set_59 : decode cX4_set 59 = .ok (.if_icmp .ge 11, 3) := by decide +kernel
theorem dX4_set_62 : decode cX4_set 62 = .ok (.aload_n 0, 1) := by decide +kernel
theorem dX4_set_63 : decode cX4_set 63 = .ok (.getfield 15, 3) := by decide +kernel
theorem dX4_set_66 : decode cX4_set 66 = .ok (.iload 5, 2) := by decide +kernel
theorem dX4_set_68 : decode cX4_set 68 = .ok (.lload_n 3, 1) := by decide +kernel
theorem dX4_set_69 : decode cX4_set 69 = .ok (.lastore, 1) := by decide +kernel
theorem dX4_set_70 : decode cX4_set 70 = .ok (.iinc 2 1, 3) := by decide +kernel
theorem dX4_set_73 : decode cX4_set 73 = .ok (.goto (-71), 3) := by decide +kernel
theorem dX4_set_76 : decode cX4_set 76 = .ok (.return_, 1) := by decide +kernel
set_option maxRecDepth 20000 in
theorem ggX4_markBlock_J7_fill_d0a16 : GoodIn wsX4_markBlock wsJ7_fill_d0a16 := goodIn_q _ [(8, 1)] (by decide +kernel) (by decide +kernel)
set_option maxRecDepth 20000 in
theorem gX4_markBlock_J7_fill_d0a16 : GoodIn wsX4_markBlock (va_wsS RX4 70 yJ7_fill_d0a16 wsJ7_fill_d0a16) := goodIn_app (goodIn_of _ (by decide +kernel)) ggX4_markBlock_J7_fill_d0a16
set_option maxRecDepth 20000 in
theorem ggX4_markBlock_X5_size : GoodIn wsX4_markBlock wsX5_size := goodIn_q _ [(13, 8), (80, 4), (97, 3)] (by decide +kernel) (by decide +kernel)
set_option maxRecDepth 20000 in
theorem gX4_markBlock_X5_size : GoodIn wsX4_markBlock (wsV RX4 42 RX5 yX5_size wsX5_size) := goodIn_app (goodIn_of _ (by decide +kernel)) ggX4_markBlock_X5_size
set_option maxRecDepth 20000 in
theorem ggX4_markBlock_Jx4a65c_get_915e3 : GoodIn wsX4_markBlock wsJx4a65c_get_915e3 := goodIn_q _ [(24, 1), (20, 1), (25, 11), (18, 1), (36, 2), (97, 3)] (by decide +kernel) (by decide +kernel)
set_option maxRecDepth 20000 in
theorem gX4_markBlock_Jx4a65c_get_915e3 : GoodIn wsX4_markBlock (wsV RX4 80 RJx4a65c yJx4a65c_get_915e3 wsJx4a65c_get_915e3) := goodIn_app (goodIn_of _ (by decide +kernel)) ggX4_markBlock_Jx4a65c_get_915e3
set_option maxRecDepth 20000 in
theorem ggX4_markBlock_X5_valueOf : GoodIn wsX4_markBlock wsX5_valueOf := goodIn_q _ [(41, 21), (80, 17), (100, 3)] (by decide +kernel) (by decide +kernel)
set_option maxRecDepth 20000 in
theorem gX4_markBlock_X5_valueOf : GoodIn wsX4_markBlock (wsV RX4 88 RX5 yX5_valueOf wsX5_valueOf) := goodIn_app (goodIn_of _ (by decide +kernel)) ggX4_markBlock_X5_valueOf
set_option maxRecDepth 20000 in
theorem ggX4_markBlock_X4_cover : GoodIn wsX4_markBlock wsX4_cover := goodIn_q _ [(66, 1), (1, 1), (67, 8), (84, 13), (75, 5)] (by decide +kernel) (by decide +kernel)
set_option maxRecDepth 20000 in
theorem gX4_markBlock_X4_cover : GoodIn wsX4_markBlock (wsV RX4 92 RX4 yX4_cover wsX4_cover) := goodIn_app (goodIn_of _ (by decide +kernel)) ggX4_markBlock_X4_cover
theorem dX4_markBlock_0 : decode cX4_markBlock 0 = .ok (.aload_n 0, 1) := by decide +kernel
theorem dX4_markBlock_1 : decode cX4_markBlock 1 = .ok (.getfield 19, 3) := by decide +kernel
theorem dX4_markBlock_4 : decode cX4_markBlock 4 = .ok (.lconst 0, 1) := by decide +kernel
theorem dX4_markBlock_5 : decode cX4_markBlock 5 = .ok (.invokestatic 70, 3) := by decide +kernel
theorem dX4_markBlock_8 : decode cX4_markBlock 8 = .ok (.iconst 0, 1) := by decide +kernel
theorem dX4_markBlock_9 : decode cX4_markBlock 9 = .ok (.istore_n 1, 1) := by decide +kernel
theorem dX4_markBlock_10 : decode cX4_markBlock 10 = .ok (.iconst 0, 1) := by decide +kernel
theorem dX4_markBlock_11 : decode cX4_markBlock 11 = .ok (.istore_n 2, 1) := by decide +kernel
theorem dX4_markBlock_12 : decode cX4_markBlock 12 = .ok (.iload_n 2, 1) := by decide +kernel
theorem dX4_markBlock_13 : decode cX4_markBlock 13 = .ok (.aload_n 0, 1) := by decide +kernel
theorem dX4_markBlock_14 : decode cX4_markBlock 14 = .ok (.getfield 22, 3) := by decide +kernel
theorem dX4_markBlock_17 : decode cX4_markBlock 17 = .ok (.invokevirtual 42, 3) := by decide +kernel
theorem dX4_markBlock_20 : decode cX4_markBlock 20 = .ok (.if_icmp .ge 63, 3) := by decide +kernel
theorem dX4_markBlock_23 : decode cX4_markBlock 23 = .ok (.aload_n 0, 1) := by decide +kernel
theorem dX4_markBlock_24 : decode cX4_markBlock 24 = .ok (.getfield 22, 3) := by decide +kernel
theorem dX4_markBlock_27 : decode cX4_markBlock 27 = .ok (.getfield 76, 3) := by decide +kernel
theorem dX4_markBlock_30 : decode cX4_markBlock 30 = .ok (.iload_n 2, 1) := by decide +kernel
theorem dX4_markBlock_31 : decode cX4_markBlock 31 = .ok (.invokevirtual 80, 3) := by decide +kernel
theorem dX4_markBlock_34 : decode cX4_markBlock 34 = .ok (.checkcast 86, 3) := by decide +kernel
theorem dX4_markBlock_37 : decode cX4_markBlock 37 = .ok (.astore_n 3, 1) := by decide +kernel
theorem dX4_markBlock_38 : decode cX4_markBlock 38 = .ok (.aload_n 0, 1) := by decide +kernel
theorem dX4_markBlock_39 : decode cX4_markBlock 39 = .ok (.aload_n 3, 1) := by decide +kernel
theorem dX4_markBlock_40 : decode cX4_markBlock 40 = .ok (.aload_n 0, 1) := by decide +kernel
theorem dX4_markBlock_41 : decode cX4_markBlock 41 = .ok (.getfield 22, 3) := by decide +kernel
theorem dX4_markBlock_44 : decode cX4_markBlock 44 = .ok (.aload_n 3, 1) := by decide +kernel
theorem dX4_markBlock_45 : decode cX4_markBlock 45 = .ok (.aload_n 0, 1) := by decide +kernel
theorem dX4_markBlock_46 : decode cX4_markBlock 46 = .ok (.getfield 15, 3) := by decide +kernel
theorem dX4_markBlock_49 : decode cX4_markBlock 49 = .ok (.invokevirtual 88, 3) := by decide +kernel
theorem dX4_markBlock_52 : decode cX4_markBlock 52 = .ok (.invokevirtual 92, 3) := by decide +kernel
theorem dX4_markBlock_55 : decode cX4_markBlock 55 = .ok (.istore 4, 2) := by decide +kernel
theorem dX4_markBlock_57 : decode cX4_markBlock 57 = .ok (.iload 4, 2) := by decide +kernel
theorem dX4_markBlock_59 : decode cX4_markBlock 59 = .ok (.ifCond .eq 18, 3) := by decide +kernel
theorem dX4_markBlock_62 : decode cX4_markBlock 62 = .ok (.aload_n 3, 1) := by decide +kernel
theorem dX4_markBlock_63 : decode cX4_markBlock 63 = .ok (.getfield 96, 3) := by decide +kernel
theorem dX4_markBlock_66 : decode cX4_markBlock 66 = .ok (.ifCond .ne 11, 3) := by decide +kernel
theorem dX4_markBlock_69 : decode cX4_markBlock 69 = .ok (.aload_n 3, 1) := by decide +kernel
theorem dX4_markBlock_70 : decode cX4_markBlock 70 = .ok (.iconst 1, 1) := by decide +kernel
theorem dX4_markBlock_71 : decode cX4_markBlock 71 = .ok (.putfield 96, 3) := by decide +kernel
theorem dX4_markBlock_74 : decode cX4_markBlock 74 = .ok (.iinc 1 1, 3) := by decide +kernel
theorem dX4_markBlock_77 : decode cX4_markBlock 77 = .ok (.iinc 2 1, 3) := by decide +kernel
theorem dX4_markBlock_80 : decode cX4_markBlock 80 = .ok (.goto (-68), 3) := by decide +kernel
theorem dX4_markBlock_83 : decode cX4_markBlock 83 = .ok (.iload_n 1, 1) := by decide +kernel
theorem dX4_markBlock_84 : decode cX4_markBlock 84 = .ok (.ireturn, 1) := by decide +kernel
set_option maxRecDepth 20000 in
theorem ggX4_cover_X3_actAt : GoodIn wsX4_cover wsX3_actAt := goodIn_q _ [(7, 16)] (by decide +kernel) (by decide +kernel)
set_option maxRecDepth 20000 in
theorem gX4_cover_X3_actAt : GoodIn wsX4_cover (wsV RX4 103 RX3 yX3_actAt wsX3_actAt) := goodIn_app (goodIn_of _ (by decide +kernel)) ggX4_cover_X3_actAt
theorem dX4_cover_0 : decode cX4_cover 0 = .ok (.iconst 0, 1) := by decide +kernel
theorem dX4_cover_1 : decode cX4_cover 1 = .ok (.istore 4, 2) := by decide +kernel
theorem dX4_cover_3 : decode cX4_cover 3 = .ok (.iconst 0, 1) := by decide +kernel
theorem dX4_cover_4 : decode cX4_cover 4 = .ok (.istore 5, 2) := by decide +kernel
theorem dX4_cover_6 : decode cX4_cover 6 = .ok (.iload 5, 2) := by decide +kernel
theorem dX4_cover_8 : decode cX4_cover 8 = .ok (.aload_n 1, 1) := by decide +kernel
theorem dX4_cover_9 : decode cX4_cover 9 = .ok (.getfield 100, 3) := by decide +kernel
theorem dX4_cover_12 : decode cX4_cover 12 = .ok (.if_icmp .ge 71, 3) := by decide +kernel
theorem dX4_cover_15 : decode cX4_cover 15 = .ok (.aload_n 1, 1) := by decide +kernel
theorem dX4_cover_16 : decode cX4_cover 16 = .ok (.iload 5, 2) := by decide +kernel
theorem dX4_cover_18 : decode cX4_cover 18 = .ok (.invokevirtual 103, 3) := by decide +kernel
theorem dX4_cover_21 : decode cX4_cover 21 = .ok (.istore 6, 2) := by decide +kernel
theorem dX4_cover_23 : decode cX4_cover 23 = .ok (.iload 6, 2) := by decide +kernel
theorem dX4_cover_25 : decode cX4_cover 25 = .ok (.ifCond .lt 52, 3) := by decide +kernel
theorem dX4_cover_28 : decode cX4_cover 28 = .ok (.iload 6, 2) := by decide +kernel
theorem dX4_cover_30 : decode cX4_cover 30 = .ok (.aload_n 0, 1) := by decide +kernel
theorem dX4_cover_31 : decode cX4_cover 31 = .ok (.getfield 19, 3) := by decide +kernel
theorem dX4_cover_34 : decode cX4_cover 34 = .ok (.arraylength, 1) := by decide +kernel
theorem dX4_cover_35 : decode cX4_cover 35 = .ok (.if_icmp .ge 42, 3) := by decide +kernel
theorem dX4_cover_38 : decode cX4_cover 38 = .ok (.iload 4, 2) := by decide +kernel
theorem dX4_cover_40 : decode cX4_cover 40 = .ok (.lload_n 2, 1) := by decide +kernel
theorem dX4_cover_41 : decode cX4_cover 41 = .ok (.aload_n 0, 1) := by decide +kernel
theorem dX4_cover_42 : decode cX4_cover 42 = .ok (.getfield 19, 3) := by decide +kernel
theorem dX4_cover_45 : decode cX4_cover 45 = .ok (.iload 6, 2) := by decide +kernel
theorem dX4_cover_47 : decode cX4_cover 47 = .ok (.laload, 1) := by decide +kernel
theorem dX4_cover_48 : decode cX4_cover 48 = .ok (.ldc2_w 106, 3) := by decide +kernel
theorem dX4_cover_51 : decode cX4_cover 51 = .ok (.lxor, 1) := by decide +kernel
theorem dX4_cover_52 : decode cX4_cover 52 = .ok (.land, 1) := by decide +kernel
theorem dX4_cover_53 : decode cX4_cover 53 = .ok (.lconst 0, 1) := by decide +kernel
theorem dX4_cover_54 : decode cX4_cover 54 = .ok (.lcmp, 1) := by decide +kernel
theorem dX4_cover_55 : decode cX4_cover 55 = .ok (.ifCond .eq 7, 3) := by decide +kernel
theorem dX4_cover_58 : decode cX4_cover 58 = .ok (.iconst 1, 1) := by decide +kernel
theorem dX4_cover_59 : decode cX4_cover 59 = .ok (.goto 4, 3) := by decide +kernel
theorem dX4_cover_62 : decode cX4_cover 62 = .ok (.iconst 0, 1) := by decide +kernel
theorem dX4_cover_63 : decode cX4_cover 63 = .ok (.ior, 1) := by decide +kernel
theorem dX4_cover_64 : decode cX4_cover 64 = .ok (.istore 4, 2) := by decide +kernel
theorem dX4_cover_66 : decode cX4_cover 66 = .ok (.aload_n 0, 1) := by decide +kernel
theorem dX4_cover_67 : decode cX4_cover 67 = .ok (.getfield 19, 3) := by decide +kernel
theorem dX4_cover_70 : decode cX4_cover 70 = .ok (.iload 6, 2) := by decide +kernel
theorem dX4_cover_72 : decode cX4_cover 72 = .ok (.dup2, 1) := by decide +kernel
theorem dX4_cover_73 : decode cX4_cover 73 = .ok (.laload, 1) := by decide +kernel
theorem dX4_cover_74 : decode cX4_cover 74 = .ok (.lload_n 2, 1) := by decide +kernel
theorem dX4_cover_75 : decode cX4_cover 75 = .ok (.lor, 1) := by decide +kernel
theorem dX4_cover_76 : decode cX4_cover 76 = .ok (.lastore, 1) := by decide +kernel
theorem dX4_cover_77 : decode cX4_cover 77 = .ok (.iinc 5 1, 3) := by decide +kernel
theorem dX4_cover_80 : decode cX4_cover 80 = .ok (.goto (-74), 3) := by decide +kernel
theorem dX4_cover_83 : decode cX4_cover 83 = .ok (.iload 4, 2) := by decide +kernel
theorem dX4_cover_85 : decode cX4_cover 85 = .ok (.ireturn, 1) := by decide +kernel
set_option maxRecDepth 20000 in
theorem ggX5_init_Jx4a65c_init_da8c8 : GoodIn wsX5_init wsJx4a65c_init_da8c8 := goodIn_q _ [(14, 13), (2, 2), (39, 3)] (by decide +kernel) (by decide +kernel)
set_option maxRecDepth 20000 in
theorem gX5_init_Jx4a65c_init_da8c8 : GoodIn wsX5_init (wsJx4a65c_init_da8c8) := ggX5_init_Jx4a65c_init_da8c8
set_option maxRecDepth 20000 in
theorem ggX5_init_X1_init : GoodIn wsX5_init wsX1_init := goodIn_q _ [(29, 2), (2, 2), (31, 8), (46, 3)] (by decide +kernel) (by decide +kernel)
set_option maxRecDepth 20000 in
theorem gX5_init_X1_init : GoodIn wsX5_init (wsX1_init) := ggX5_init_X1_init
theorem dX5_init_0 : decode cX5_init 0 = .ok (.aload_n 0, 1) := by decide +kernel
theorem dX5_init_1 : decode cX5_init 1 = .ok (.invokespecial 3, 3) := by decide +kernel
theorem dX5_init_4 : decode cX5_init 4 = .ok (.aload_n 0, 1) := by decide +kernel
theorem dX5_init_5 : decode cX5_init 5 = .ok (.new 9, 3) := by decide +kernel
theorem dX5_init_8 : decode cX5_init 8 = .ok (.dup, 1) := by decide +kernel
theorem dX5_init_9 : decode cX5_init 9 = .ok (.invokespecial 11, 3) := by decide +kernel
theorem dX5_init_12 : decode cX5_init 12 = .ok (.putfield 12, 3) := by decide +kernel
theorem dX5_init_15 : decode cX5_init 15 = .ok (.aload_n 0, 1) := by decide +kernel
theorem dX5_init_16 : decode cX5_init 16 = .ok (.new 18, 3) := by decide +kernel
theorem dX5_init_19 : decode cX5_init 19 = .ok (.dup, 1) := by decide +kernel
theorem dX5_init_20 : decode cX5_init 20 = .ok (.iload_n 1, 1) := by decide +kernel
theorem dX5_init_21 : decode cX5_init 21 = .ok (.invokespecial 20, 3) := by decide +kernel
theorem dX5_init_24 : decode cX5_init 24 = .ok (.putfield 23, 3) := by decide +kernel
theorem dX5_init_27 : decode cX5_init 27 = .ok (.return_, 1) := by decide +kernel
set_option maxRecDepth 20000 in
theorem ggX5_size_Jx4a65c_size_8abf5 : GoodIn wsX5_size wsJx4a65c_size_8abf5 := goodIn_q _ [(6, 2), (12, 3)] (by decide +kernel) (by decide +kernel)
set_option maxRecDepth 20000 in
theorem gX5_size_Jx4a65c_size_8abf5 : GoodIn wsX5_size (wsV RX5 27 RJx4a65c yJx4a65c_size_8abf5 wsJx4a65c_size_8abf5) := goodIn_app (goodIn_of _ (by decide +kernel)) ggX5_size_Jx4a65c_size_8abf5
theorem dX5_size_0 : decode cX5_size 0 = .ok (.aload_n 0, 1) := by decide +kernel
theorem dX5_size_1 : decode cX5_size 1 = .ok (.getfield 12, 3) := by decide +kernel
theorem dX5_size_4 : decode cX5_size 4 = .ok (.invokevirtual 27, 3) := by decide +kernel
theorem dX5_size_7 : decode cX5_size 7 = .ok (.ireturn, 1) := by decide +kernel
set_option maxRecDepth 20000 in
theorem ggX5_find_Jx4a65c_size_8abf5 : GoodIn wsX5_find wsJx4a65c_size_8abf5 := goodIn_q _ [(7, 2), (30, 3)] (by decide +kernel) (by decide +kernel)
set_option maxRecDepth 20000 in
theorem gX5_find_Jx4a65c_size_8abf5 : GoodIn wsX5_find (wsV RX5 27 RJx4a65c yJx4a65c_size_8abf5 wsJx4a65c_size_8abf5) := goodIn_app (goodIn_of _ (by decide +kernel)) ggX5_find_Jx4a65c_size_8abf5
set_option maxRecDepth 20000 in
theorem ggX5_find_Jx4a65c_get_915e3 : GoodIn wsX5_find wsJx4a65c_get_915e3 := goodIn_q _ [(12, 1), (8, 1), (13, 11), (6, 1), (24, 2), (30, 3)] (by decide +kernel) (by decide +kernel)
set_option maxRecDepth 20000 in
theorem gX5_find_Jx4a65c_get_915e3 : GoodIn wsX5_find (wsV RX5 31 RJx4a65c yJx4a65c_get_915e3 wsJx4a65c_get_915e3) := goodIn_app (goodIn_of _ (by decide +kernel)) ggX5_find_Jx4a65c_get_915e3
theorem dX5_find_0 : decode cX5_find 0 = .ok (.iload_n 1, 1) := by decide +kernel
theorem dX5_find_1 : decode cX5_find 1 = .ok (.iconst 1, 1) := by decide +kernel
theorem dX5_find_2 : decode cX5_find 2 = .ok (.if_icmp .lt 14, 3) := by decide +kernel
theorem dX5_find_5 : decode cX5_find 5 = .ok (.iload_n 1, 1) := by decide +kernel
theorem dX5_find_6 : decode cX5_find 6 = .ok (.aload_n 0, 1) := by decide +kernel
theorem dX5_find_7 : decode cX5_find 7 = .ok (.getfield 12, 3) := by decide +kernel
theorem dX5_find_10 : decode cX5_find 10 = .ok (.invokevirtual 27, 3) := by decide +kernel
theorem dX5_find_13 : decode cX5_find 13 = .ok (.if_icmp .le 7, 3) := by decide +kernel
theorem dX5_find_16 : decode cX5_find 16 = .ok (.aconst_null, 1) := by decide +kernel
theorem dX5_find_17 : decode cX5_find 17 = .ok (.goto 16, 3) := by decide +kernel
theorem dX5_find_20 : decode cX5_find 20 = .ok (.aload_n 0, 1) := by decide +kernel
theorem dX5_find_21 : decode cX5_find 21 = .ok (.getfield 12, 3) := by decide +kernel
theorem dX5_find_24 : decode cX5_find 24 = .ok (.iload_n 1, 1) := by decide +kernel
theorem dX5_find_25 : decode cX5_find 25 = .ok (.iconst 1, 1) := by decide +kernel
theorem dX5_find_26 : decode cX5_find 26 = .ok (.isub, 1) := by decide +kernel
theorem dX5_find_27 : decode cX5_find 27 = .ok (.invokevirtual 31, 3) := by decide +kernel
theorem dX5_find_30 : decode cX5_find 30 = .ok (.checkcast 35, 3) := by decide +kernel
theorem dX5_find_33 : decode cX5_find 33 = .ok (.areturn, 1) := by decide +kernel
set_option maxRecDepth 20000 in
theorem ggX5_isOn_X5_valueOf : GoodIn wsX5_isOn wsX5_valueOf := goodIn_q _ [(5, 41)] (by decide +kernel) (by decide +kernel)
set_option maxRecDepth 20000 in
theorem gX5_isOn_X5_valueOf : GoodIn wsX5_isOn (wsV RX5 37 RX5 yX5_valueOf wsX5_valueOf) := goodIn_app (goodIn_of _ (by decide +kernel)) ggX5_isOn_X5_valueOf
theorem dX5_isOn_0 : decode cX5_isOn 0 = .ok (.aload_n 0, 1) := by decide +kernel
theorem dX5_isOn_1 : decode cX5_isOn 1 = .ok (.aload_n 1, 1) := by decide +kernel
theorem dX5_isOn_2 : decode cX5_isOn 2 = .ok (.aload_n 2, 1) := by decide +kernel
theorem dX5_isOn_3 : decode cX5_isOn 3 = .ok (.invokevirtual 37, 3) := by decide +kernel
theorem dX5_isOn_6 : decode cX5_isOn 6 = .ok (.lconst 0, 1) := by decide +kernel
theorem dX5_isOn_7 : decode cX5_isOn 7 = .ok (.lcmp, 1) := by decide +kernel
theorem dX5_isOn_8 : decode cX5_isOn 8 = .ok (.ifCond .eq 7, 3) := by decide +kernel
theorem dX5_isOn_11 : decode cX5_isOn 11 = .ok (.iconst 1, 1) := by decide +kernel
theorem dX5_isOn_12 : decode cX5_isOn 12 = .ok (.goto 4, 3) := by decide +kernel
theorem dX5_isOn_15 : decode cX5_isOn 15 = .ok (.iconst 0, 1) := by decide +kernel
theorem dX5_isOn_16 : decode cX5_isOn 16 = .ok (.ireturn, 1) := by decide +kernel
set_option maxRecDepth 20000 in
theorem ggX5_valueOf_X1_valueOf : GoodIn wsX5_valueOf wsX1_valueOf := goodIn_q _ [(6, 6), (5, 1), (12, 9), (38, 3)] (by decide +kernel) (by decide +kernel)
set_option maxRecDepth 20000 in
theorem gX5_valueOf_X1_valueOf : GoodIn wsX5_valueOf (wsV RX5 48 RX1 yX1_valueOf wsX1_valueOf) := goodIn_app (goodIn_of _ (by decide +kernel)) ggX5_valueOf_X1_valueOf
theorem dX5_valueOf_0 : decode cX5_valueOf 0 = .ok (.aload_n 0, 1) := by decide +kernel
theorem dX5_valueOf_1 : decode cX5_valueOf 1 = .ok (.getfield 23, 3) := by decide +kernel
theorem dX5_valueOf_4 : decode cX5_valueOf 4 = .ok (.aload_n 1, 1) := by decide +kernel
theorem dX5_valueOf_5 : decode cX5_valueOf 5 = .ok (.getfield 41, 3) := by decide +kernel
theorem dX5_valueOf_8 : decode cX5_valueOf 8 = .ok (.aload_n 1, 1) := by decide +kernel
theorem dX5_valueOf_9 : decode cX5_valueOf 9 = .ok (.getfield 45, 3) := by decide +kernel
theorem dX5_valueOf_12 : decode cX5_valueOf 12 = .ok (.aload_n 2, 1) := by decide +kernel
theorem dX5_valueOf_13 : decode cX5_valueOf 13 = .ok (.invokevirtual 48, 3) := by decide +kernel
theorem dX5_valueOf_16 : decode cX5_valueOf 16 = .ok (.lreturn, 1) := by decide +kernel
set_option maxRecDepth 20000 in
theorem ggX5_letGoBy_Jx4a65c_size_8abf5 : GoodIn wsX5_letGoBy wsJx4a65c_size_8abf5 := goodIn_q _ [(7, 2), (81, 3)] (by decide +kernel) (by decide +kernel)
set_option maxRecDepth 20000 in
theorem gX5_letGoBy_Jx4a65c_size_8abf5 : GoodIn wsX5_letGoBy (wsV RX5 27 RJx4a65c yJx4a65c_size_8abf5 wsJx4a65c_size_8abf5) := goodIn_app (goodIn_of _ (by decide +kernel)) ggX5_letGoBy_Jx4a65c_size_8abf5
set_option maxRecDepth 20000 in
theorem ggX5_letGoBy_Jx4a65c_get_915e3 : GoodIn wsX5_letGoBy wsJx4a65c_get_915e3 := goodIn_q _ [(12, 1), (8, 1), (13, 11), (6, 1), (24, 2), (81, 3)] (by decide +kernel) (by decide +kernel)
set_option maxRecDepth 20000 in
theorem gX5_letGoBy_Jx4a65c_get_915e3 : GoodIn wsX5_letGoBy (wsV RX5 31 RJx4a65c yJx4a65c_get_915e3 wsJx4a65c_get_915e3) := goodIn_app (goodIn_of _ (by decide +kernel)) ggX5_letGoBy_Jx4a65c_get_915e3
set_option maxRecDepth 20000 in
theorem ggX5_letGoBy_X5_isOn : GoodIn wsX5_letGoBy wsX5_isOn := goodIn_q _ [(30, 4), (29, 1), (34, 21), (77, 4), (84, 16)] (by decide +kernel) (by decide +kernel)
set_option maxRecDepth 20000 in
theorem gX5_letGoBy_X5_isOn : GoodIn wsX5_letGoBy (wsV RX5 51 RX5 yX5_isOn wsX5_isOn) := goodIn_app (goodIn_of _ (by decide +kernel)) ggX5_letGoBy_X5_isOn
set_option maxRecDepth 20000 in
theorem ggX5_letGoBy_X3_letGoBy : GoodIn wsX5_letGoBy wsX3_letGoBy := goodIn_q _ [(59, 16), (58, 1), (75, 2), (84, 13)] (by decide +kernel) (by decide +kernel)
set_option maxRecDepth 20000 in
theorem gX5_letGoBy_X3_letGoBy : GoodIn wsX5_letGoBy (wsV RX5 55 RX3 yX3_letGoBy wsX3_letGoBy) := goodIn_app (goodIn_of _ (by decide +kernel)) ggX5_letGoBy_X3_letGoBy
theorem dX5_letGoBy_0 : decode cX5_letGoBy 0 = .ok (.iload_n 1, 1) := by decide +kernel
theorem dX5_letGoBy_1 : decode cX5_letGoBy 1 = .ok (.iconst 1, 1) := by decide +kernel
theorem dX5_letGoBy_2 : decode cX5_letGoBy 2 = .ok (.if_icmp .ge 4, 3) := by decide +kernel
theorem dX5_letGoBy_5 : decode cX5_letGoBy 5 = .ok (.return_, 1) := by decide +kernel
theorem dX5_letGoBy_6 : decode cX5_letGoBy 6 = .ok (.iconst 0, 1) := by decide +kernel
theorem dX5_letGoBy_7 : decode cX5_letGoBy 7 = .ok (.istore_n 3, 1) := by decide +kernel
theorem dX5_letGoBy_8 : decode cX5_letGoBy 8 = .ok (.iload_n 3, 1) := by decide +kernel
theorem dX5_letGoBy_9 : decode cX5_letGoBy 9 = .ok (.aload_n 0, 1) := by decide +kernel
theorem dX5_letGoBy_10 : decode cX5_letGoBy 10 = .ok (.getfield 12, 3) := by decide +kernel
theorem dX5_letGoBy_13 : decode cX5_letGoBy 13 = .ok (.invokevirtual 27, 3) := by decide +kernel
theorem dX5_letGoBy_16 : decode cX5_letGoBy 16 = .ok (.if_icmp .ge 35, 3) := by decide +kernel
theorem dX5_letGoBy_19 : decode cX5_letGoBy 19 = .ok (.aload_n 0, 1) := by decide +kernel
theorem dX5_letGoBy_20 : decode cX5_letGoBy 20 = .ok (.getfield 12, 3) := by decide +kernel
theorem dX5_letGoBy_23 : decode cX5_letGoBy 23 = .ok (.iload_n 3, 1) := by decide +kernel
theorem dX5_letGoBy_24 : decode cX5_letGoBy 24 = .ok (.invokevirtual 31, 3) := by decide +kernel
theorem dX5_letGoBy_27 : decode cX5_letGoBy 27 = .ok (.checkcast 35, 3) := by decide +kernel
theorem dX5_letGoBy_30 : decode cX5_letGoBy 30 = .ok (.astore 4, 2) := by decide +kernel
theorem dX5_letGoBy_32 : decode cX5_letGoBy 32 = .ok (.aload 4, 2) := by decide +kernel
theorem dX5_letGoBy_34 : decode cX5_letGoBy 34 = .ok (.iload_n 1, 1) := by decide +kernel
theorem dX5_letGoBy_35 : decode cX5_letGoBy 35 = .ok (.aload_n 0, 1) := by decide +kernel
theorem dX5_letGoBy_36 : decode cX5_letGoBy 36 = .ok (.aload 4, 2) := by decide +kernel
theorem dX5_letGoBy_38 : decode cX5_letGoBy 38 = .ok (.aload_n 2, 1) := by decide +kernel
theorem dX5_letGoBy_39 : decode cX5_letGoBy 39 = .ok (.invokevirtual 51, 3) := by decide +kernel
theorem dX5_letGoBy_42 : decode cX5_letGoBy 42 = .ok (.invokevirtual 55, 3) := by decide +kernel
theorem dX5_letGoBy_45 : decode cX5_letGoBy 45 = .ok (.iinc 3 1, 3) := by decide +kernel
theorem dX5_letGoBy_48 : decode cX5_letGoBy 48 = .ok (.goto (-40), 3) := by decide +kernel
theorem dX5_letGoBy_51 : decode cX5_letGoBy 51 = .ok (.return_, 1) := by decide +kernel
set_option maxRecDepth 20000 in
theorem ggX5_firstToBar_Jx4a65c_size_8abf5 : GoodIn wsX5_firstToBar wsJx4a65c_size_8abf5 := goodIn_q _ [(7, 2), (77, 3)] (by decide +kernel) (by decide +kernel)
set_option maxRecDepth 20000 in
theorem gX5_firstToBar_Jx4a65c_size_8abf5 : GoodIn wsX5_firstToBar (wsV RX5 27 RJx4a65c yJx4a65c_size_8abf5 wsJx4a65c_size_8abf5) := goodIn_app (goodIn_of _ (by decide +kernel)) ggX5_firstToBar_Jx4a65c_size_8abf5
set_option maxRecDepth 20000 in
theorem ggX5_firstToBar_Jx4a65c_get_915e3 : GoodIn wsX5_firstToBar wsJx4a65c_get_915e3 := goodIn_q _ [(12, 1), (8, 1), (13, 11), (6, 1), (24, 2), (77, 3)] (by decide +kernel) (by decide +kernel)
set_option maxRecDepth 20000 in
theorem gX5_firstToBar_Jx4a65c_get_915e3 : GoodIn wsX5_firstToBar (wsV RX5 31 RJx4a65c yJx4a65c_get_915e3 wsJx4a65c_get_915e3) := goodIn_app (goodIn_of _ (by decide +kernel)) ggX5_firstToBar_Jx4a65c_get_915e3
set_option maxRecDepth 20000 in
theorem ggX5_firstToBar_X3_hasAct : GoodIn wsX5_firstToBar wsX3_hasAct := goodIn_q _ [(30, 2), (80, 13)] (by decide +kernel) (by decide +kernel)
set_option maxRecDepth 20000 in
theorem gX5_firstToBar_X3_hasAct : GoodIn wsX5_firstToBar (wsV RX5 59 RX3 yX3_hasAct wsX3_hasAct) := goodIn_app (goodIn_of _ (by decide +kernel)) ggX5_firstToBar_X3_hasAct
set_option maxRecDepth 20000 in
theorem ggX5_firstToBar_X5_isOn : GoodIn wsX5_firstToBar wsX5_isOn := goodIn_q _ [(36, 4), (35, 1), (40, 21), (73, 4), (80, 16)] (by decide +kernel) (by decide +kernel)
set_option maxRecDepth 20000 in
theorem gX5_firstToBar_X5_isOn : GoodIn wsX5_firstToBar (wsV RX5 51 RX5 yX5_isOn wsX5_isOn) := goodIn_app (goodIn_of _ (by decide +kernel)) ggX5_firstToBar_X5_isOn
set_option maxRecDepth 20000 in
theorem ggX5_firstToBar_X3_bars : GoodIn wsX5_firstToBar wsX3_bars := goodIn_q _ [(64, 6), (29, 1), (70, 3), (80, 13)] (by decide +kernel) (by decide +kernel)
set_option maxRecDepth 20000 in
theorem gX5_firstToBar_X3_bars : GoodIn wsX5_firstToBar (wsV RX5 63 RX3 yX3_bars wsX3_bars) := goodIn_app (goodIn_of _ (by decide +kernel)) ggX5_firstToBar_X3_bars
theorem dX5_firstToBar_0 : decode cX5_firstToBar 0 = .ok (.iconst 0, 1) := by decide +kernel
theorem dX5_firstToBar_1 : decode cX5_firstToBar 1 = .ok (.istore_n 3, 1) := by decide +kernel
theorem dX5_firstToBar_2 : decode cX5_firstToBar 2 = .ok (.iload_n 3, 1) := by decide +kernel
theorem dX5_firstToBar_3 : decode cX5_firstToBar 3 = .ok (.aload_n 0, 1) := by decide +kernel
theorem dX5_firstToBar_4 : decode cX5_firstToBar 4 = .ok (.getfield 12, 3) := by decide +kernel
theorem dX5_firstToBar_7 : decode cX5_firstToBar 7 = .ok (.invokevirtual 27, 3) := by decide +kernel
theorem dX5_firstToBar_10 : decode cX5_firstToBar 10 = .ok (.if_icmp .ge 50, 3) := by decide +kernel
theorem dX5_firstToBar_13 : decode cX5_firstToBar 13 = .ok (.aload_n 0, 1) := by decide +kernel
theorem dX5_firstToBar_14 : decode cX5_firstToBar 14 = .ok (.getfield 12, 3) := by decide +kernel
theorem dX5_firstToBar_17 : decode cX5_firstToBar 17 = .ok (.iload_n 3, 1) := by decide +kernel
theorem dX5_firstToBar_18 : decode cX5_firstToBar 18 = .ok (.invokevirtual 31, 3) := by decide +kernel
theorem dX5_firstToBar_21 : decode cX5_firstToBar 21 = .ok (.checkcast 35, 3) := by decide +kernel
theorem dX5_firstToBar_24 : decode cX5_firstToBar 24 = .ok (.astore 4, 2) := by decide +kernel
theorem dX5_firstToBar_26 : decode cX5_firstToBar 26 = .ok (.aload 4, 2) := by decide +kernel
theorem dX5_firstToBar_28 : decode cX5_firstToBar 28 = .ok (.iload_n 1, 1) := by decide +kernel
theorem dX5_firstToBar_29 : decode cX5_firstToBar 29 = .ok (.invokevirtual 59, 3) := by decide +kernel
theorem dX5_firstToBar_32 : decode cX5_firstToBar 32 = .ok (.ifCond .eq 22, 3) := by decide +kernel
theorem dX5_firstToBar_35 : decode cX5_firstToBar 35 = .ok (.aload 4, 2) := by decide +kernel
theorem dX5_firstToBar_37 : decode cX5_firstToBar 37 = .ok (.aload_n 0, 1) := by decide +kernel
theorem dX5_firstToBar_38 : decode cX5_firstToBar 38 = .ok (.aload 4, 2) := by decide +kernel
theorem dX5_firstToBar_40 : decode cX5_firstToBar 40 = .ok (.aload_n 2, 1) := by decide +kernel
theorem dX5_firstToBar_41 : decode cX5_firstToBar 41 = .ok (.invokevirtual 51, 3) := by decide +kernel
theorem dX5_firstToBar_44 : decode cX5_firstToBar 44 = .ok (.invokevirtual 63, 3) := by decide +kernel
theorem dX5_firstToBar_47 : decode cX5_firstToBar 47 = .ok (.ifCond .eq 7, 3) := by decide +kernel
theorem dX5_firstToBar_50 : decode cX5_firstToBar 50 = .ok (.iload_n 3, 1) := by decide +kernel
theorem dX5_firstToBar_51 : decode cX5_firstToBar 51 = .ok (.iconst 1, 1) := by decide +kernel
theorem dX5_firstToBar_52 : decode cX5_firstToBar 52 = .ok (.iadd, 1) := by decide +kernel
theorem dX5_firstToBar_53 : decode cX5_firstToBar 53 = .ok (.ireturn, 1) := by decide +kernel
theorem dX5_firstToBar_54 : decode cX5_firstToBar 54 = .ok (.iinc 3 1, 3) := by decide +kernel
theorem dX5_firstToBar_57 : decode cX5_firstToBar 57 = .ok (.goto (-55), 3) := by decide +kernel
theorem dX5_firstToBar_60 : decode cX5_firstToBar 60 = .ok (.iconst 0, 1) := by decide +kernel
theorem dX5_firstToBar_61 : decode cX5_firstToBar 61 = .ok (.ireturn, 1) := by decide +kernel
set_option maxRecDepth 20000 in
theorem ggX5_passedRow_X5_pick : GoodIn wsX5_passedRow wsX5_pick := goodIn_q _ [(5, 46)] (by decide +kernel) (by decide +kernel)
set_option maxRecDepth 20000 in
theorem gX5_passedRow_X5_pick : GoodIn wsX5_passedRow (wsV RX5 67 RX5 yX5_pick wsX5_pick) := goodIn_app (goodIn_of _ (by decide +kernel)) ggX5_passedRow_X5_pick
theorem dX5_passedRow_0 : decode cX5_passedRow 0 = .ok (.aload_n 0, 1) := by decide +kernel
theorem dX5_passedRow_1 : decode cX5_passedRow 1 = .ok (.iload_n 1, 1) := by decide +kernel
theorem dX5_passedRow_2 : decode cX5_passedRow 2 = .ok (.iconst 1, 1) := by decide +kernel
theorem dX5_passedRow_3 : decode cX5_passedRow 3 = .ok (.invokevirtual 67, 3) := by decide +kernel
theorem dX5_passedRow_6 : decode cX5_passedRow 6 = .ok (.ireturn, 1) := by decide +kernel
set_option maxRecDepth 20000 in
theorem ggX5_idleRow_X4_init : GoodIn wsX5_idleRow wsX4_init := goodIn_q _ [(7, 10), (124, 5)] (by decide +kernel) (by decide +kernel)
set_option maxRecDepth 20000 in
theorem gX5_idleRow_X4_init : GoodIn wsX5_idleRow (wsX4_init) := ggX5_idleRow_X4_init
set_option maxRecDepth 20000 in
theorem ggX5_idleRow_X4_markRows : GoodIn wsX5_idleRow wsX4_markRows := goodIn_q _ [(20, 6), (16, 1), (26, 3), (4, 1), (29, 1), (12, 1), (30, 30), (14, 1), (60, 4), (15, 1), (64, 50), (124, 5), (120, 4), (129, 19)] (by decide +kernel) (by decide +kernel)
set_option maxRecDepth 20000 in
theorem gX5_idleRow_X4_markRows : GoodIn wsX5_idleRow (wsV RX5 80 RX4 yX4_markRows wsX4_markRows) := goodIn_app (goodIn_of _ (by decide +kernel)) ggX5_idleRow_X4_markRows
