theorem dX6_tape_34 : decode cX6_tape 34 = .ok (.aload_n 0, 1) := by decide +kernel
theorem dX6_tape_35 : decode cX6_tape 35 = .ok (.getfield 41, 3) := by decide +kernel
theorem dX6_tape_38 : decode cX6_tape 38 = .ok (.getfield 93, 3) := by decide +kernel
theorem dX6_tape_41 : decode cX6_tape 41 = .ok (.goto 5, 3) := by decide +kernel
theorem dX6_tape_44 : decode cX6_tape 44 = .ok (.bipush (-3), 2) := by decide +kernel
theorem dX6_tape_46 : decode cX6_tape 46 = .ok (.ireturn, 1) := by decide +kernel
theorem dX6_forget_0 : decode cX6_forget 0 = .ok (.aload_n 0, 1) := by decide +kernel
theorem dX6_forget_1 : decode cX6_forget 1 = .ok (.getfield 41, 3) := by decide +kernel
theorem dX6_forget_4 : decode cX6_forget 4 = .ok (.getfield 93, 3) := by decide +kernel
theorem dX6_forget_7 : decode cX6_forget 7 = .ok (.istore_n 1, 1) := by decide +kernel
theorem dX6_forget_8 : decode cX6_forget 8 = .ok (.aload_n 0, 1) := by decide +kernel
theorem dX6_forget_9 : decode cX6_forget 9 = .ok (.getfield 41, 3) := by decide +kernel
theorem dX6_forget_12 : decode cX6_forget 12 = .ok (.iconst 0, 1) := by decide +kernel
theorem dX6_forget_13 : decode cX6_forget 13 = .ok (.putfield 93, 3) := by decide +kernel
theorem dX6_forget_16 : decode cX6_forget 16 = .ok (.iload_n 1, 1) := by decide +kernel
theorem dX6_forget_17 : decode cX6_forget 17 = .ok (.ireturn, 1) := by decide +kernel
set_option maxRecDepth 20000 in
theorem ggX6_kinds_X3_has : GoodIn wsX6_kinds wsX3_has := goodIn_r _ [11, 12, 105, 106, 107, 108, 109, 110, 111] (by decide +kernel) (by decide +kernel)
set_option maxRecDepth 20000 in
theorem gX6_kinds_X3_has : GoodIn wsX6_kinds (wsV RX6 97 RX3 yX3_has wsX3_has) := goodIn_app (goodIn_of _ (by decide +kernel)) ggX6_kinds_X3_has
set_option maxRecDepth 20000 in
theorem ggX6_kinds_X3_becomeLike : GoodIn wsX6_kinds wsX3_becomeLike := goodIn_r _ [16, 12, 17, 18, 19, 20, 21, 22, 105, 106, 107, 108, 109, 110, 111] (by decide +kernel) (by decide +kernel)
set_option maxRecDepth 20000 in
theorem gX6_kinds_X3_becomeLike : GoodIn wsX6_kinds (wsV RX6 89 RX3 yX3_becomeLike wsX3_becomeLike) := goodIn_app (goodIn_of _ (by decide +kernel)) ggX6_kinds_X3_becomeLike
set_option maxRecDepth 20000 in
theorem ggX6_kinds_X0_lookAt : GoodIn wsX6_kinds wsX0_lookAt := goodIn_r _ [27, 28, 29, 30, 31, 32, 33, 34, 35, 36, 37, 38, 39, 40, 10, 41, 22, 19, 12, 42, 8, 9, 11, 43, 44, 45, 26, 46, 47, 105, 106, 107, 108, 109, 110, 111, 112, 113, 114, 115, 116, 117, 118, 119] (by decide +kernel) (by decide +kernel)
set_option maxRecDepth 20000 in
theorem gX6_kinds_X0_lookAt : GoodIn wsX6_kinds (wsV RX6 139 RX0 yX0_lookAt wsX0_lookAt) := goodIn_app (goodIn_of _ (by decide +kernel)) ggX6_kinds_X0_lookAt
set_option maxRecDepth 20000 in
theorem ggX6_kinds_X0_letDecide : GoodIn wsX6_kinds wsX0_letDecide := goodIn_r _ [51, 52, 29, 47, 32, 53, 54, 55, 56, 36, 57, 58, 59, 60, 26, 61, 30, 62, 63, 64, 65, 66, 67, 68, 69, 70, 71, 72, 73, 74, 75, 76, 33, 77, 78, 79, 80, 81, 82, 83, 84, 85, 86, 87, 88, 112, 113, 114, 115, 116, 117, 118, 119] (by decide +kernel) (by decide +kernel)
set_option maxRecDepth 20000 in
theorem gX6_kinds_X0_letDecide : GoodIn wsX6_kinds (wsV RX6 142 RX0 yX0_letDecide wsX0_letDecide) := goodIn_app (goodIn_of _ (by decide +kernel)) ggX6_kinds_X0_letDecide
set_option maxRecDepth 20000 in
theorem ggX6_kinds_X4_agreesWith : GoodIn wsX6_kinds wsX4_agreesWith := goodIn_r _ [93, 94, 95, 96, 120, 121, 122] (by decide +kernel) (by decide +kernel)
set_option maxRecDepth 20000 in
theorem gX6_kinds_X4_agreesWith : GoodIn wsX6_kinds (wsV RX6 204 RX4 yX4_agreesWith wsX4_agreesWith) := goodIn_app (goodIn_of _ (by decide +kernel)) ggX6_kinds_X4_agreesWith
theorem dX6_kinds_0 : decode cX6_kinds 0 = .ok (.aload_n 0, 1) := by decide +kernel
theorem dX6_kinds_1 : decode cX6_kinds 1 = .ok (.getfield 19, 3) := by decide +kernel
theorem dX6_kinds_4 : decode cX6_kinds 4 = .ok (.iload_n 1, 1) := by decide +kernel
theorem dX6_kinds_5 : decode cX6_kinds 5 = .ok (.invokevirtual 97, 3) := by decide +kernel
theorem dX6_kinds_8 : decode cX6_kinds 8 = .ok (.ifCond .ne 5, 3) := by decide +kernel
theorem dX6_kinds_11 : decode cX6_kinds 11 = .ok (.iconst (-1), 1) := by decide +kernel
theorem dX6_kinds_12 : decode cX6_kinds 12 = .ok (.ireturn, 1) := by decide +kernel
theorem dX6_kinds_13 : decode cX6_kinds 13 = .ok (.iconst 0, 1) := by decide +kernel
theorem dX6_kinds_14 : decode cX6_kinds 14 = .ok (.istore_n 2, 1) := by decide +kernel
theorem dX6_kinds_15 : decode cX6_kinds 15 = .ok (.aload_n 0, 1) := by decide +kernel
theorem dX6_kinds_16 : decode cX6_kinds 16 = .ok (.getfield 23, 3) := by decide +kernel
theorem dX6_kinds_19 : decode cX6_kinds 19 = .ok (.aload_n 0, 1) := by decide +kernel
theorem dX6_kinds_20 : decode cX6_kinds 20 = .ok (.getfield 19, 3) := by decide +kernel
theorem dX6_kinds_23 : decode cX6_kinds 23 = .ok (.invokevirtual 89, 3) := by decide +kernel
theorem dX6_kinds_26 : decode cX6_kinds 26 = .ok (.iconst 0, 1) := by decide +kernel
theorem dX6_kinds_27 : decode cX6_kinds 27 = .ok (.istore_n 3, 1) := by decide +kernel
theorem dX6_kinds_28 : decode cX6_kinds 28 = .ok (.iload_n 3, 1) := by decide +kernel
theorem dX6_kinds_29 : decode cX6_kinds 29 = .ok (.iconst 4, 1) := by decide +kernel
theorem dX6_kinds_30 : decode cX6_kinds 30 = .ok (.if_icmp .ge 60, 3) := by decide +kernel
theorem dX6_kinds_33 : decode cX6_kinds 33 = .ok (.aload_n 0, 1) := by decide +kernel
theorem dX6_kinds_34 : decode cX6_kinds 34 = .ok (.getfield 23, 3) := by decide +kernel
theorem dX6_kinds_37 : decode cX6_kinds 37 = .ok (.getfield 101, 3) := by decide +kernel
theorem dX6_kinds_40 : decode cX6_kinds 40 = .ok (.iload_n 1, 1) := by decide +kernel
theorem dX6_kinds_41 : decode cX6_kinds 41 = .ok (.iload_n 3, 1) := by decide +kernel
theorem dX6_kinds_42 : decode cX6_kinds 42 = .ok (.iastore, 1) := by decide +kernel
theorem dX6_kinds_43 : decode cX6_kinds 43 = .ok (.aload_n 0, 1) := by decide +kernel
theorem dX6_kinds_44 : decode cX6_kinds 44 = .ok (.getfield 48, 3) := by decide +kernel
theorem dX6_kinds_47 : decode cX6_kinds 47 = .ok (.aload_n 0, 1) := by decide +kernel
theorem dX6_kinds_48 : decode cX6_kinds 48 = .ok (.getfield 23, 3) := by decide +kernel
theorem dX6_kinds_51 : decode cX6_kinds 51 = .ok (.invokevirtual 139, 3) := by decide +kernel
theorem dX6_kinds_54 : decode cX6_kinds 54 = .ok (.aload_n 0, 1) := by decide +kernel
theorem dX6_kinds_55 : decode cX6_kinds 55 = .ok (.getfield 48, 3) := by decide +kernel
theorem dX6_kinds_58 : decode cX6_kinds 58 = .ok (.invokevirtual 142, 3) := by decide +kernel
theorem dX6_kinds_61 : decode cX6_kinds 61 = .ok (.aload_n 0, 1) := by decide +kernel
theorem dX6_kinds_62 : decode cX6_kinds 62 = .ok (.getfield 41, 3) := by decide +kernel
theorem dX6_kinds_65 : decode cX6_kinds 65 = .ok (.aload_n 0, 1) := by decide +kernel
theorem dX6_kinds_66 : decode cX6_kinds 66 = .ok (.getfield 48, 3) := by decide +kernel
theorem dX6_kinds_69 : decode cX6_kinds 69 = .ok (.getfield 145, 3) := by decide +kernel
theorem dX6_kinds_72 : decode cX6_kinds 72 = .ok (.invokevirtual 204, 3) := by decide +kernel
theorem dX6_kinds_75 : decode cX6_kinds 75 = .ok (.ifCond .eq 9, 3) := by decide +kernel
theorem dX6_kinds_78 : decode cX6_kinds 78 = .ok (.iload_n 2, 1) := by decide +kernel
theorem dX6_kinds_79 : decode cX6_kinds 79 = .ok (.iconst 1, 1) := by decide +kernel
theorem dX6_kinds_80 : decode cX6_kinds 80 = .ok (.iload_n 3, 1) := by decide +kernel
theorem dX6_kinds_81 : decode cX6_kinds 81 = .ok (.ishl, 1) := by decide +kernel
theorem dX6_kinds_82 : decode cX6_kinds 82 = .ok (.ior, 1) := by decide +kernel
theorem dX6_kinds_83 : decode cX6_kinds 83 = .ok (.istore_n 2, 1) := by decide +kernel
theorem dX6_kinds_84 : decode cX6_kinds 84 = .ok (.iinc 3 1, 3) := by decide +kernel
theorem dX6_kinds_87 : decode cX6_kinds 87 = .ok (.goto (-59), 3) := by decide +kernel
theorem dX6_kinds_90 : decode cX6_kinds 90 = .ok (.iload_n 2, 1) := by decide +kernel
theorem dX6_kinds_91 : decode cX6_kinds 91 = .ok (.ireturn, 1) := by decide +kernel
set_option maxRecDepth 20000 in
theorem ggX6_beaten_X3_has : GoodIn wsX6_beaten wsX3_has := goodIn_r _ [7, 8, 58, 59, 60, 61, 62, 63, 64] (by decide +kernel) (by decide +kernel)
set_option maxRecDepth 20000 in
theorem gX6_beaten_X3_has : GoodIn wsX6_beaten (wsV RX6 97 RX3 yX3_has wsX3_has) := goodIn_app (goodIn_of _ (by decide +kernel)) ggX6_beaten_X3_has
set_option maxRecDepth 20000 in
theorem ggX6_beaten_X6_within : GoodIn wsX6_beaten wsX6_within := goodIn_r _ [12] (by decide +kernel) (by decide +kernel)
set_option maxRecDepth 20000 in
theorem gX6_beaten_X6_within : GoodIn wsX6_beaten (va_wsS RX6 82 yX6_within wsX6_within) := goodIn_app (goodIn_of _ (by decide +kernel)) ggX6_beaten_X6_within
set_option maxRecDepth 20000 in
theorem ggX6_beaten_X0_lookAt : GoodIn wsX6_beaten wsX0_lookAt := goodIn_r _ [17, 18, 19, 20, 21, 22, 23, 24, 25, 26, 27, 28, 29, 30, 6, 31, 32, 33, 8, 34, 4, 5, 7, 35, 36, 37, 16, 38, 39, 58, 59, 60, 61, 62, 63, 64, 65, 66, 67, 68, 69, 70, 71, 72] (by decide +kernel) (by decide +kernel)
set_option maxRecDepth 20000 in
theorem gX6_beaten_X0_lookAt : GoodIn wsX6_beaten (wsV RX6 139 RX0 yX0_lookAt wsX0_lookAt) := goodIn_app (goodIn_of _ (by decide +kernel)) ggX6_beaten_X0_lookAt
set_option maxRecDepth 20000 in
theorem ggX6_beaten_X6_greatestDivisorWithTen : GoodIn wsX6_beaten wsX6_greatestDivisorWithTen := goodIn_r _ [42] (by decide +kernel) (by decide +kernel)
set_option maxRecDepth 20000 in
theorem gX6_beaten_X6_greatestDivisorWithTen : GoodIn wsX6_beaten (va_wsS RX6 207 yX6_greatestDivisorWithTen wsX6_greatestDivisorWithTen) := goodIn_app (goodIn_of _ (by decide +kernel)) ggX6_beaten_X6_greatestDivisorWithTen
set_option maxRecDepth 20000 in
theorem ggX6_beaten_X0_turnOf : GoodIn wsX6_beaten wsX0_turnOf := goodIn_r _ [46, 19, 39, 65, 66, 67, 68, 69, 70, 71, 72] (by decide +kernel) (by decide +kernel)
set_option maxRecDepth 20000 in
theorem gX6_beaten_X0_turnOf : GoodIn wsX6_beaten (wsV RX6 210 RX0 yX0_turnOf wsX0_turnOf) := goodIn_app (goodIn_of _ (by decide +kernel)) ggX6_beaten_X0_turnOf
set_option maxRecDepth 20000 in
theorem ggX6_beaten_X6_power : GoodIn wsX6_beaten wsX6_power := goodIn_r _ [49] (by decide +kernel) (by decide +kernel)
set_option maxRecDepth 20000 in
theorem gX6_beaten_X6_power : GoodIn wsX6_beaten (va_wsS RX6 213 yX6_power wsX6_power) := goodIn_app (goodIn_of _ (by decide +kernel)) ggX6_beaten_X6_power
theorem dX6_beaten_0 : decode cX6_beaten 0 = .ok (.aload_n 0, 1) := by decide +kernel
theorem dX6_beaten_1 : decode cX6_beaten 1 = .ok (.getfield 19, 3) := by decide +kernel
theorem dX6_beaten_4 : decode cX6_beaten 4 = .ok (.iload_n 1, 1) := by decide +kernel
theorem dX6_beaten_5 : decode cX6_beaten 5 = .ok (.invokevirtual 97, 3) := by decide +kernel
theorem dX6_beaten_8 : decode cX6_beaten 8 = .ok (.ifCond .eq 22, 3) := by decide +kernel
theorem dX6_beaten_11 : decode cX6_beaten 11 = .ok (.iload_n 2, 1) := by decide +kernel
theorem dX6_beaten_12 : decode cX6_beaten 12 = .ok (.iconst 0, 1) := by decide +kernel
theorem dX6_beaten_13 : decode cX6_beaten 13 = .ok (.bipush 10, 2) := by decide +kernel
theorem dX6_beaten_15 : decode cX6_beaten 15 = .ok (.invokestatic 82, 3) := by decide +kernel
theorem dX6_beaten_18 : decode cX6_beaten 18 = .ok (.ifCond .eq 12, 3) := by decide +kernel
theorem dX6_beaten_21 : decode cX6_beaten 21 = .ok (.iload_n 3, 1) := by decide +kernel
theorem dX6_beaten_22 : decode cX6_beaten 22 = .ok (.iconst 0, 1) := by decide +kernel
theorem dX6_beaten_23 : decode cX6_beaten 23 = .ok (.iconst 1, 1) := by decide +kernel
theorem dX6_beaten_24 : decode cX6_beaten 24 = .ok (.invokestatic 82, 3) := by decide +kernel
theorem dX6_beaten_27 : decode cX6_beaten 27 = .ok (.ifCond .ne 5, 3) := by decide +kernel
theorem dX6_beaten_30 : decode cX6_beaten 30 = .ok (.iconst (-1), 1) := by decide +kernel
theorem dX6_beaten_31 : decode cX6_beaten 31 = .ok (.ireturn, 1) := by decide +kernel
theorem dX6_beaten_32 : decode cX6_beaten 32 = .ok (.aload_n 0, 1) := by decide +kernel
theorem dX6_beaten_33 : decode cX6_beaten 33 = .ok (.getfield 48, 3) := by decide +kernel
theorem dX6_beaten_36 : decode cX6_beaten 36 = .ok (.aload_n 0, 1) := by decide +kernel
theorem dX6_beaten_37 : decode cX6_beaten 37 = .ok (.getfield 19, 3) := by decide +kernel
theorem dX6_beaten_40 : decode cX6_beaten 40 = .ok (.invokevirtual 139, 3) := by decide +kernel
theorem dX6_beaten_43 : decode cX6_beaten 43 = .ok (.bipush 10, 2) := by decide +kernel
theorem dX6_beaten_45 : decode cX6_beaten 45 = .ok (.iload_n 2, 1) := by decide +kernel
theorem dX6_beaten_46 : decode cX6_beaten 46 = .ok (.isub, 1) := by decide +kernel
theorem dX6_beaten_47 : decode cX6_beaten 47 = .ok (.invokestatic 207, 3) := by decide +kernel
theorem dX6_beaten_50 : decode cX6_beaten 50 = .ok (.istore 4, 2) := by decide +kernel
theorem dX6_beaten_52 : decode cX6_beaten 52 = .ok (.iload_n 3, 1) := by decide +kernel
theorem dX6_beaten_53 : decode cX6_beaten 53 = .ok (.ifCond .ne 10, 3) := by decide +kernel
theorem dX6_beaten_56 : decode cX6_beaten 56 = .ok (.bipush 10, 2) := by decide +kernel
theorem dX6_beaten_58 : decode cX6_beaten 58 = .ok (.iload_n 2, 1) := by decide +kernel
theorem dX6_beaten_59 : decode cX6_beaten 59 = .ok (.isub, 1) := by decide +kernel
theorem dX6_beaten_60 : decode cX6_beaten 60 = .ok (.goto 5, 3) := by decide +kernel
theorem dX6_beaten_63 : decode cX6_beaten 63 = .ok (.bipush 10, 2) := by decide +kernel
theorem dX6_beaten_65 : decode cX6_beaten 65 = .ok (.istore 5, 2) := by decide +kernel
theorem dX6_beaten_67 : decode cX6_beaten 67 = .ok (.iload 5, 2) := by decide +kernel
theorem dX6_beaten_69 : decode cX6_beaten 69 = .ok (.iload 4, 2) := by decide +kernel
theorem dX6_beaten_71 : decode cX6_beaten 71 = .ok (.idiv, 1) := by decide +kernel
theorem dX6_beaten_72 : decode cX6_beaten 72 = .ok (.aload_n 0, 1) := by decide +kernel
theorem dX6_beaten_73 : decode cX6_beaten 73 = .ok (.getfield 48, 3) := by decide +kernel
theorem dX6_beaten_76 : decode cX6_beaten 76 = .ok (.iload_n 1, 1) := by decide +kernel
theorem dX6_beaten_77 : decode cX6_beaten 77 = .ok (.invokevirtual 210, 3) := by decide +kernel
theorem dX6_beaten_80 : decode cX6_beaten 80 = .ok (.invokestatic 213, 3) := by decide +kernel
theorem dX6_beaten_83 : decode cX6_beaten 83 = .ok (.ireturn, 1) := by decide +kernel
theorem dX6_greatestDivisorWithTen_0 : decode cX6_greatestDivisorWithTen 0 = .ok (.bipush 10, 2) := by decide +kernel
theorem dX6_greatestDivisorWithTen_2 : decode cX6_greatestDivisorWithTen 2 = .ok (.istore_n 1, 1) := by decide +kernel
theorem dX6_greatestDivisorWithTen_3 : decode cX6_greatestDivisorWithTen 3 = .ok (.iload_n 1, 1) := by decide +kernel
theorem dX6_greatestDivisorWithTen_4 : decode cX6_greatestDivisorWithTen 4 = .ok (.iconst 1, 1) := by decide +kernel
theorem dX6_greatestDivisorWithTen_5 : decode cX6_greatestDivisorWithTen 5 = .ok (.if_icmp .le 24, 3) := by decide +kernel
theorem dX6_greatestDivisorWithTen_8 : decode cX6_greatestDivisorWithTen 8 = .ok (.iload_n 0, 1) := by decide +kernel
theorem dX6_greatestDivisorWithTen_9 : decode cX6_greatestDivisorWithTen 9 = .ok (.iload_n 1, 1) := by decide +kernel
theorem dX6_greatestDivisorWithTen_10 : decode cX6_greatestDivisorWithTen 10 = .ok (.irem, 1) := by decide +kernel
theorem dX6_greatestDivisorWithTen_11 : decode cX6_greatestDivisorWithTen 11 = .ok (.ifCond .ne 12, 3) := by decide +kernel
theorem dX6_greatestDivisorWithTen_14 : decode cX6_greatestDivisorWithTen 14 = .ok (.bipush 10, 2) := by decide +kernel
theorem dX6_greatestDivisorWithTen_16 : decode cX6_greatestDivisorWithTen 16 = .ok (.iload_n 1, 1) := by decide +kernel
theorem dX6_greatestDivisorWithTen_17 : decode cX6_greatestDivisorWithTen 17 = .ok (.irem, 1) := by decide +kernel
theorem dX6_greatestDivisorWithTen_18 : decode cX6_greatestDivisorWithTen 18 = .ok (.ifCond .ne 5, 3) := by decide +kernel
theorem dX6_greatestDivisorWithTen_21 : decode cX6_greatestDivisorWithTen 21 = .ok (.iload_n 1, 1) := by decide +kernel
theorem dX6_greatestDivisorWithTen_22 : decode cX6_greatestDivisorWithTen 22 = .ok (.ireturn, 1) := by decide +kernel
theorem dX6_greatestDivisorWithTen_23 : decode cX6_greatestDivisorWithTen 23 = .ok (.iinc 1 (-1), 3) := by decide +kernel
theorem dX6_greatestDivisorWithTen_26 : decode cX6_greatestDivisorWithTen 26 = .ok (.goto (-23), 3) := by decide +kernel
theorem dX6_greatestDivisorWithTen_29 : decode cX6_greatestDivisorWithTen 29 = .ok (.iconst 1, 1) := by decide +kernel
theorem dX6_greatestDivisorWithTen_30 : decode cX6_greatestDivisorWithTen 30 = .ok (.ireturn, 1) := by decide +kernel
theorem dX6_power_0 : decode cX6_power 0 = .ok (.iconst 1, 1) := by decide +kernel
theorem dX6_power_1 : decode cX6_power 1 = .ok (.istore_n 2, 1) := by decide +kernel
theorem dX6_power_2 : decode cX6_power 2 = .ok (.iconst 0, 1) := by decide +kernel
theorem dX6_power_3 : decode cX6_power 3 = .ok (.istore_n 3, 1) := by decide +kernel
theorem dX6_power_4 : decode cX6_power 4 = .ok (.iload_n 3, 1) := by decide +kernel
theorem dX6_power_5 : decode cX6_power 5 = .ok (.iload_n 1, 1) := by decide +kernel
theorem dX6_power_6 : decode cX6_power 6 = .ok (.if_icmp .ge 13, 3) := by decide +kernel
theorem dX6_power_9 : decode cX6_power 9 = .ok (.iload_n 2, 1) := by decide +kernel
theorem dX6_power_10 : decode cX6_power 10 = .ok (.iload_n 0, 1) := by decide +kernel
theorem dX6_power_11 : decode cX6_power 11 = .ok (.imul, 1) := by decide +kernel
theorem dX6_power_12 : decode cX6_power 12 = .ok (.istore_n 2, 1) := by decide +kernel
theorem dX6_power_13 : decode cX6_power 13 = .ok (.iinc 3 1, 3) := by decide +kernel
theorem dX6_power_16 : decode cX6_power 16 = .ok (.goto (-12), 3) := by decide +kernel
theorem dX6_power_19 : decode cX6_power 19 = .ok (.iload_n 2, 1) := by decide +kernel
theorem dX6_power_20 : decode cX6_power 20 = .ok (.ireturn, 1) := by decide +kernel
set_option maxRecDepth 20000 in
theorem ggX6_learner_X0_lookAt : GoodIn wsX6_learner wsX0_lookAt := goodIn_r _ [11, 12, 13, 14, 15, 16, 17, 18, 19, 20, 21, 22, 23, 24, 25, 26, 27, 28, 29, 30, 31, 32, 33, 34, 35, 36, 10, 37, 38, 116, 117, 118, 119, 120, 121, 122, 126, 127, 128, 129, 130, 131, 132, 133] (by decide +kernel) (by decide +kernel)
set_option maxRecDepth 20000 in
theorem gX6_learner_X0_lookAt : GoodIn wsX6_learner (wsV RX6 139 RX0 yX0_lookAt wsX0_lookAt) := goodIn_app (goodIn_of _ (by decide +kernel)) ggX6_learner_X0_lookAt
set_option maxRecDepth 20000 in
theorem ggX6_learner_X0_send : GoodIn wsX6_learner wsX0_send := goodIn_r _ [42, 43, 13, 38, 16, 44, 45, 46, 47, 20, 48, 49, 50, 51, 10, 52, 53, 54, 55, 56, 17, 126, 127, 128, 129, 130, 131, 132, 133] (by decide +kernel) (by decide +kernel)
set_option maxRecDepth 20000 in
theorem gX6_learner_X0_send : GoodIn wsX6_learner (wsV RX6 154 RX0 yX0_send wsX0_send) := goodIn_app (goodIn_of _ (by decide +kernel)) ggX6_learner_X0_send
set_option maxRecDepth 20000 in
theorem ggX6_learner_X0_sum : GoodIn wsX6_learner wsX0_sum := goodIn_r _ [60, 13, 61, 62, 63, 10, 64, 48, 126, 127, 128, 129, 130, 131, 132, 133] (by decide +kernel) (by decide +kernel)
set_option maxRecDepth 20000 in
theorem gX6_learner_X0_sum : GoodIn wsX6_learner (wsV RX6 186 RX0 yX0_sum wsX0_sum) := goodIn_app (goodIn_of _ (by decide +kernel)) ggX6_learner_X0_sum
set_option maxRecDepth 20000 in
theorem ggX6_learner_X3_becomeLike : GoodIn wsX6_learner wsX3_becomeLike := goodIn_r _ [68, 29, 69, 70, 28, 71, 72, 27, 116, 117, 118, 119, 120, 121, 122] (by decide +kernel) (by decide +kernel)
set_option maxRecDepth 20000 in
theorem gX6_learner_X3_becomeLike : GoodIn wsX6_learner (wsV RX6 89 RX3 yX3_becomeLike wsX3_becomeLike) := goodIn_app (goodIn_of _ (by decide +kernel)) ggX6_learner_X3_becomeLike
set_option maxRecDepth 20000 in
theorem ggX6_learner_X2_findLeast : GoodIn wsX6_learner wsX2_findLeast := goodIn_r _ [77, 78, 79, 80, 81, 82, 8, 9, 10, 11, 12, 13, 14, 15, 16, 17, 18, 19, 20, 21, 22, 23, 24, 25, 26, 27, 28, 29, 30, 31, 32, 33, 34, 35, 36, 37, 38, 83, 40, 41, 42, 43, 44, 45, 46, 47, 48, 49, 50, 51, 52, 53, 54, 55, 56, 84, 85, 86, 76, 87, 88, 89, 90, 91, 92, 58, 59, 60, 61, 62, 63, 64, 93, 94, 95, 96, 97, 98, 99, 100, 101, 102, 103, 104, 105, 106, 107, 123, 124, 125, 116, 117, 118, 119, 120, 121, 122, 126, 127, 128, 129, 130, 131, 132, 133] (by decide +kernel) (by decide +kernel)
set_option maxRecDepth 20000 in
theorem gX6_learner_X2_findLeast : GoodIn wsX6_learner (wsV RX6 166 RX2 yX2_findLeast wsX2_findLeast) := goodIn_app (goodIn_of _ (by decide +kernel)) ggX6_learner_X2_findLeast
theorem dX6_learner_0 : decode cX6_learner 0 = .ok (.aload_n 0, 1) := by decide +kernel
theorem dX6_learner_1 : decode cX6_learner 1 = .ok (.getfield 48, 3) := by decide +kernel
theorem dX6_learner_4 : decode cX6_learner 4 = .ok (.aload_n 0, 1) := by decide +kernel
theorem dX6_learner_5 : decode cX6_learner 5 = .ok (.getfield 19, 3) := by decide +kernel
theorem dX6_learner_8 : decode cX6_learner 8 = .ok (.invokevirtual 139, 3) := by decide +kernel
theorem dX6_learner_11 : decode cX6_learner 11 = .ok (.aload_n 0, 1) := by decide +kernel
theorem dX6_learner_12 : decode cX6_learner 12 = .ok (.getfield 48, 3) := by decide +kernel
theorem dX6_learner_15 : decode cX6_learner 15 = .ok (.iconst 0, 1) := by decide +kernel
theorem dX6_learner_16 : decode cX6_learner 16 = .ok (.invokevirtual 154, 3) := by decide +kernel
theorem dX6_learner_19 : decode cX6_learner 19 = .ok (.aload_n 0, 1) := by decide +kernel
theorem dX6_learner_20 : decode cX6_learner 20 = .ok (.getfield 48, 3) := by decide +kernel
theorem dX6_learner_23 : decode cX6_learner 23 = .ok (.invokevirtual 186, 3) := by decide +kernel
theorem dX6_learner_26 : decode cX6_learner 26 = .ok (.istore_n 1, 1) := by decide +kernel
theorem dX6_learner_27 : decode cX6_learner 27 = .ok (.aload_n 0, 1) := by decide +kernel
theorem dX6_learner_28 : decode cX6_learner 28 = .ok (.getfield 23, 3) := by decide +kernel
theorem dX6_learner_31 : decode cX6_learner 31 = .ok (.aload_n 0, 1) := by decide +kernel
theorem dX6_learner_32 : decode cX6_learner 32 = .ok (.getfield 19, 3) := by decide +kernel
theorem dX6_learner_35 : decode cX6_learner 35 = .ok (.invokevirtual 89, 3) := by decide +kernel
theorem dX6_learner_38 : decode cX6_learner 38 = .ok (.bipush 9, 2) := by decide +kernel
theorem dX6_learner_40 : decode cX6_learner 40 = .ok (.istore_n 2, 1) := by decide +kernel
theorem dX6_learner_41 : decode cX6_learner 41 = .ok (.iload_n 2, 1) := by decide +kernel
theorem dX6_learner_42 : decode cX6_learner 42 = .ok (.iconst 1, 1) := by decide +kernel
theorem dX6_learner_43 : decode cX6_learner 43 = .ok (.if_icmp .lt 42, 3) := by decide +kernel
theorem dX6_learner_46 : decode cX6_learner 46 = .ok (.aload_n 0, 1) := by decide +kernel
theorem dX6_learner_47 : decode cX6_learner 47 = .ok (.getfield 23, 3) := by decide +kernel
theorem dX6_learner_50 : decode cX6_learner 50 = .ok (.iload_n 2, 1) := by decide +kernel
theorem dX6_learner_51 : decode cX6_learner 51 = .ok (.putfield 129, 3) := by decide +kernel
theorem dX6_learner_54 : decode cX6_learner 54 = .ok (.aload_n 0, 1) := by decide +kernel
theorem dX6_learner_55 : decode cX6_learner 55 = .ok (.getfield 55, 3) := by decide +kernel
theorem dX6_learner_58 : decode cX6_learner 58 = .ok (.aload_n 0, 1) := by decide +kernel
theorem dX6_learner_59 : decode cX6_learner 59 = .ok (.getfield 23, 3) := by decide +kernel
theorem dX6_learner_62 : decode cX6_learner 62 = .ok (.iconst 1, 1) := by decide +kernel
theorem dX6_learner_63 : decode cX6_learner 63 = .ok (.invokevirtual 166, 3) := by decide +kernel
theorem dX6_learner_66 : decode cX6_learner 66 = .ok (.aload_n 0, 1) := by decide +kernel
theorem dX6_learner_67 : decode cX6_learner 67 = .ok (.getfield 55, 3) := by decide +kernel
theorem dX6_learner_70 : decode cX6_learner 70 = .ok (.getfield 173, 3) := by decide +kernel
theorem dX6_learner_73 : decode cX6_learner 73 = .ok (.iload_n 1, 1) := by decide +kernel
theorem dX6_learner_74 : decode cX6_learner 74 = .ok (.if_icmp .ge 5, 3) := by decide +kernel
theorem dX6_learner_77 : decode cX6_learner 77 = .ok (.iload_n 2, 1) := by decide +kernel
theorem dX6_learner_78 : decode cX6_learner 78 = .ok (.ireturn, 1) := by decide +kernel
theorem dX6_learner_79 : decode cX6_learner 79 = .ok (.iinc 2 (-1), 3) := by decide +kernel
theorem dX6_learner_82 : decode cX6_learner 82 = .ok (.goto (-41), 3) := by decide +kernel
theorem dX6_learner_85 : decode cX6_learner 85 = .ok (.bipush (-4), 2) := by decide +kernel
theorem dX6_learner_87 : decode cX6_learner 87 = .ok (.ireturn, 1) := by decide +kernel
set_option maxRecDepth 20000 in
theorem ggX6_day_X6_within : GoodIn wsX6_day wsX6_within := goodIn_r _ [7] (by decide +kernel) (by decide +kernel)
set_option maxRecDepth 20000 in
theorem gX6_day_X6_within : GoodIn wsX6_day (va_wsS RX6 82 yX6_within wsX6_within) := goodIn_app (goodIn_of _ (by decide +kernel)) ggX6_day_X6_within
set_option maxRecDepth 20000 in
theorem ggX6_day_X3_becomeLike : GoodIn wsX6_day wsX3_becomeLike := goodIn_r _ [12, 13, 14, 15, 16, 17, 18, 19, 56, 57, 58, 59, 60, 61, 62] (by decide +kernel) (by decide +kernel)
set_option maxRecDepth 20000 in
theorem gX6_day_X3_becomeLike : GoodIn wsX6_day (wsV RX6 89 RX3 yX3_becomeLike wsX3_becomeLike) := goodIn_app (goodIn_of _ (by decide +kernel)) ggX6_day_X3_becomeLike
set_option maxRecDepth 20000 in
theorem ggX6_day_X6_drawOf : GoodIn wsX6_day wsX6_drawOf := goodIn_r _ [22, 23, 24, 25] (by decide +kernel) (by decide +kernel)
set_option maxRecDepth 20000 in
theorem gX6_day_X6_drawOf : GoodIn wsX6_day (va_wsS RX6 216 yX6_drawOf wsX6_drawOf) := goodIn_app (goodIn_of _ (by decide +kernel)) ggX6_day_X6_drawOf
set_option maxRecDepth 20000 in
theorem ggX6_day_X3_append : GoodIn wsX6_day wsX3_append := goodIn_r _ [29, 13, 17, 18, 19, 30, 6, 31, 4, 5, 7, 56, 57, 58, 59, 60, 61, 62] (by decide +kernel) (by decide +kernel)
set_option maxRecDepth 20000 in
theorem gX6_day_X3_append : GoodIn wsX6_day (wsV RX6 121 RX3 yX3_append wsX3_append) := goodIn_app (goodIn_of _ (by decide +kernel)) ggX6_day_X3_append
set_option maxRecDepth 20000 in
theorem ggX6_day_X3_letGoBy : GoodIn wsX6_day wsX3_letGoBy := goodIn_r _ [35, 13, 18, 36, 37, 38, 11, 39, 14, 40, 41, 42, 43, 17, 19, 44, 45, 46, 47, 56, 57, 58, 59, 60, 61, 62] (by decide +kernel) (by decide +kernel)
set_option maxRecDepth 20000 in
theorem gX6_day_X3_letGoBy : GoodIn wsX6_day (wsV RX6 126 RX3 yX3_letGoBy wsX3_letGoBy) := goodIn_app (goodIn_of _ (by decide +kernel)) ggX6_day_X3_letGoBy
theorem dX6_day_0 : decode cX6_day 0 = .ok (.iload_n 1, 1) := by decide +kernel
theorem dX6_day_1 : decode cX6_day 1 = .ok (.iconst 0, 1) := by decide +kernel
theorem dX6_day_2 : decode cX6_day 2 = .ok (.sipush 9999, 3) := by decide +kernel
theorem dX6_day_5 : decode cX6_day 5 = .ok (.invokestatic 82, 3) := by decide +kernel
theorem dX6_day_8 : decode cX6_day 8 = .ok (.ifCond .eq 22, 3) := by decide +kernel
theorem dX6_day_11 : decode cX6_day 11 = .ok (.iload_n 2, 1) := by decide +kernel
theorem dX6_day_12 : decode cX6_day 12 = .ok (.iconst 1, 1) := by decide +kernel
theorem dX6_day_13 : decode cX6_day 13 = .ok (.bipush 30, 2) := by decide +kernel
theorem dX6_day_15 : decode cX6_day 15 = .ok (.invokestatic 82, 3) := by decide +kernel
theorem dX6_day_18 : decode cX6_day 18 = .ok (.ifCond .eq 12, 3) := by decide +kernel
theorem dX6_day_21 : decode cX6_day 21 = .ok (.iload_n 3, 1) := by decide +kernel
theorem dX6_day_22 : decode cX6_day 22 = .ok (.iconst 0, 1) := by decide +kernel
theorem dX6_day_23 : decode cX6_day 23 = .ok (.iconst 1, 1) := by decide +kernel
theorem dX6_day_24 : decode cX6_day 24 = .ok (.invokestatic 82, 3) := by decide +kernel
theorem dX6_day_27 : decode cX6_day 27 = .ok (.ifCond .ne 5, 3) := by decide +kernel
theorem dX6_day_30 : decode cX6_day 30 = .ok (.iconst (-1), 1) := by decide +kernel
theorem dX6_day_31 : decode cX6_day 31 = .ok (.ireturn, 1) := by decide +kernel
theorem dX6_day_32 : decode cX6_day 32 = .ok (.aload_n 0, 1) := by decide +kernel
theorem dX6_day_33 : decode cX6_day 33 = .ok (.getfield 23, 3) := by decide +kernel
theorem dX6_day_36 : decode cX6_day 36 = .ok (.aload_n 0, 1) := by decide +kernel
theorem dX6_day_37 : decode cX6_day 37 = .ok (.getfield 19, 3) := by decide +kernel
theorem dX6_day_40 : decode cX6_day 40 = .ok (.invokevirtual 89, 3) := by decide +kernel
theorem dX6_day_43 : decode cX6_day 43 = .ok (.iconst 0, 1) := by decide +kernel
theorem dX6_day_44 : decode cX6_day 44 = .ok (.istore 4, 2) := by decide +kernel
theorem dX6_day_46 : decode cX6_day 46 = .ok (.iconst 0, 1) := by decide +kernel
theorem dX6_day_47 : decode cX6_day 47 = .ok (.istore 5, 2) := by decide +kernel
theorem dX6_day_49 : decode cX6_day 49 = .ok (.iload 5, 2) := by decide +kernel
theorem dX6_day_51 : decode cX6_day 51 = .ok (.iload_n 2, 1) := by decide +kernel
theorem dX6_day_52 : decode cX6_day 52 = .ok (.if_icmp .ge 67, 3) := by decide +kernel
theorem dX6_day_55 : decode cX6_day 55 = .ok (.iload_n 1, 1) := by decide +kernel
theorem dX6_day_56 : decode cX6_day 56 = .ok (.iload 5, 2) := by decide +kernel
theorem dX6_day_58 : decode cX6_day 58 = .ok (.invokestatic 216, 3) := by decide +kernel
theorem dX6_day_61 : decode cX6_day 61 = .ok (.istore 6, 2) := by decide +kernel
theorem dX6_day_63 : decode cX6_day 63 = .ok (.aload_n 0, 1) := by decide +kernel
theorem dX6_day_64 : decode cX6_day 64 = .ok (.getfield 23, 3) := by decide +kernel
theorem dX6_day_67 : decode cX6_day 67 = .ok (.iload 6, 2) := by decide +kernel
theorem dX6_day_69 : decode cX6_day 69 = .ok (.iconst 4, 1) := by decide +kernel
theorem dX6_day_70 : decode cX6_day 70 = .ok (.irem, 1) := by decide +kernel
theorem dX6_day_71 : decode cX6_day 71 = .ok (.iload 6, 2) := by decide +kernel
theorem dX6_day_73 : decode cX6_day 73 = .ok (.iconst 4, 1) := by decide +kernel
theorem dX6_day_74 : decode cX6_day 74 = .ok (.idiv, 1) := by decide +kernel
theorem dX6_day_75 : decode cX6_day 75 = .ok (.bipush 9, 2) := by decide +kernel
theorem dX6_day_77 : decode cX6_day 77 = .ok (.irem, 1) := by decide +kernel
theorem dX6_day_78 : decode cX6_day 78 = .ok (.iconst 1, 1) := by decide +kernel
theorem dX6_day_79 : decode cX6_day 79 = .ok (.iadd, 1) := by decide +kernel
theorem dX6_day_80 : decode cX6_day 80 = .ok (.iload 6, 2) := by decide +kernel
theorem dX6_day_82 : decode cX6_day 82 = .ok (.bipush 64, 2) := by decide +kernel
theorem dX6_day_84 : decode cX6_day 84 = .ok (.idiv, 1) := by decide +kernel
theorem dX6_day_85 : decode cX6_day 85 = .ok (.iconst 5, 1) := by decide +kernel
theorem dX6_day_86 : decode cX6_day 86 = .ok (.irem, 1) := by decide +kernel
theorem dX6_day_87 : decode cX6_day 87 = .ok (.iconst 1, 1) := by decide +kernel
theorem dX6_day_88 : decode cX6_day 88 = .ok (.iadd, 1) := by decide +kernel
theorem dX6_day_89 : decode cX6_day 89 = .ok (.invokevirtual 121, 3) := by decide +kernel
theorem dX6_day_92 : decode cX6_day 92 = .ok (.pop, 1) := by decide +kernel
theorem dX6_day_93 : decode cX6_day 93 = .ok (.iload 4, 2) := by decide +kernel
theorem dX6_day_95 : decode cX6_day 95 = .ok (.aload_n 0, 1) := by decide +kernel
theorem dX6_day_96 : decode cX6_day 96 = .ok (.getfield 23, 3) := by decide +kernel
theorem dX6_day_99 : decode cX6_day 99 = .ok (.iload 6, 2) := by decide +kernel
theorem dX6_day_101 : decode cX6_day 101 = .ok (.bipush 16, 2) := by decide +kernel
theorem dX6_day_103 : decode cX6_day 103 = .ok (.idiv, 1) := by decide +kernel
theorem dX6_day_104 : decode cX6_day 104 = .ok (.bipush 20, 2) := by decide +kernel
theorem dX6_day_106 : decode cX6_day 106 = .ok (.irem, 1) := by decide +kernel
theorem dX6_day_107 : decode cX6_day 107 = .ok (.invokevirtual 126, 3) := by decide +kernel
theorem dX6_day_110 : decode cX6_day 110 = .ok (.iadd, 1) := by decide +kernel
theorem dX6_day_111 : decode cX6_day 111 = .ok (.istore 4, 2) := by decide +kernel
theorem dX6_day_113 : decode cX6_day 113 = .ok (.iinc 5 1, 3) := by decide +kernel
theorem dX6_day_116 : decode cX6_day 116 = .ok (.goto (-67), 3) := by decide +kernel
theorem dX6_day_119 : decode cX6_day 119 = .ok (.iload_n 3, 1) := by decide +kernel
theorem dX6_day_120 : decode cX6_day 120 = .ok (.ifCond .ne 8, 3) := by decide +kernel
theorem dX6_day_123 : decode cX6_day 123 = .ok (.iload 4, 2) := by decide +kernel
theorem dX6_day_125 : decode cX6_day 125 = .ok (.goto 10, 3) := by decide +kernel
theorem dX6_day_128 : decode cX6_day 128 = .ok (.aload_n 0, 1) := by decide +kernel
theorem dX6_day_129 : decode cX6_day 129 = .ok (.getfield 23, 3) := by decide +kernel
theorem dX6_day_132 : decode cX6_day 132 = .ok (.getfield 86, 3) := by decide +kernel
theorem dX6_day_135 : decode cX6_day 135 = .ok (.ireturn, 1) := by decide +kernel
theorem dX6_drawOf_0 : decode cX6_drawOf 0 = .ok (.ldc2_w 219, 3) := by decide +kernel
theorem dX6_drawOf_3 : decode cX6_drawOf 3 = .ok (.iload_n 0, 1) := by decide +kernel
theorem dX6_drawOf_4 : decode cX6_drawOf 4 = .ok (.i2l, 1) := by decide +kernel
theorem dX6_drawOf_5 : decode cX6_drawOf 5 = .ok (.lmul, 1) := by decide +kernel
theorem dX6_drawOf_6 : decode cX6_drawOf 6 = .ok (.ldc2_w 221, 3) := by decide +kernel
theorem dX6_drawOf_9 : decode cX6_drawOf 9 = .ok (.iload_n 1, 1) := by decide +kernel
theorem dX6_drawOf_10 : decode cX6_drawOf 10 = .ok (.i2l, 1) := by decide +kernel
theorem dX6_drawOf_11 : decode cX6_drawOf 11 = .ok (.lmul, 1) := by decide +kernel
theorem dX6_drawOf_12 : decode cX6_drawOf 12 = .ok (.ladd, 1) := by decide +kernel
theorem dX6_drawOf_13 : decode cX6_drawOf 13 = .ok (.lconst 1, 1) := by decide +kernel
theorem dX6_drawOf_14 : decode cX6_drawOf 14 = .ok (.ladd, 1) := by decide +kernel
theorem dX6_drawOf_15 : decode cX6_drawOf 15 = .ok (.lstore_n 2, 1) := by decide +kernel
theorem dX6_drawOf_16 : decode cX6_drawOf 16 = .ok (.lload_n 2, 1) := by decide +kernel
theorem dX6_drawOf_17 : decode cX6_drawOf 17 = .ok (.lload_n 2, 1) := by decide +kernel
theorem dX6_drawOf_18 : decode cX6_drawOf 18 = .ok (.lmul, 1) := by decide +kernel
theorem dX6_drawOf_19 : decode cX6_drawOf 19 = .ok (.ldc2_w 223, 3) := by decide +kernel
theorem dX6_drawOf_22 : decode cX6_drawOf 22 = .ok (.lrem, 1) := by decide +kernel
theorem dX6_drawOf_23 : decode cX6_drawOf 23 = .ok (.l2i, 1) := by decide +kernel
theorem dX6_drawOf_24 : decode cX6_drawOf 24 = .ok (.ireturn, 1) := by decide +kernel
set_option maxRecDepth 20000 in
theorem ggX6_keep_X1_put : GoodIn wsX6_keep wsX1_put := goodIn_r _ [8, 9, 10, 11, 12, 13, 14, 15, 16, 17, 18, 19, 20, 21, 22, 31, 32, 33, 34, 35, 36, 37, 38, 39] (by decide +kernel) (by decide +kernel)
set_option maxRecDepth 20000 in
theorem gX6_keep_X1_put : GoodIn wsX6_keep (wsV RX6 225 RX1 yX1_put wsX1_put) := goodIn_app (goodIn_of _ (by decide +kernel)) ggX6_keep_X1_put
theorem dX6_keep_0 : decode cX6_keep 0 = .ok (.aload_n 0, 1) := by decide +kernel
theorem dX6_keep_1 : decode cX6_keep 1 = .ok (.getfield 35, 3) := by decide +kernel
theorem dX6_keep_4 : decode cX6_keep 4 = .ok (.aload_n 0, 1) := by decide +kernel
theorem dX6_keep_5 : decode cX6_keep 5 = .ok (.getfield 19, 3) := by decide +kernel
theorem dX6_keep_8 : decode cX6_keep 8 = .ok (.invokevirtual 225, 3) := by decide +kernel
theorem dX6_keep_11 : decode cX6_keep 11 = .ok (.ifCond .eq 13, 3) := by decide +kernel
theorem dX6_keep_14 : decode cX6_keep 14 = .ok (.aload_n 0, 1) := by decide +kernel
theorem dX6_keep_15 : decode cX6_keep 15 = .ok (.getfield 35, 3) := by decide +kernel
theorem dX6_keep_18 : decode cX6_keep 18 = .ok (.getfield 94, 3) := by decide +kernel
theorem dX6_keep_21 : decode cX6_keep 21 = .ok (.goto 5, 3) := by decide +kernel
theorem dX6_keep_24 : decode cX6_keep 24 = .ok (.bipush (-3), 2) := by decide +kernel
theorem dX6_keep_26 : decode cX6_keep 26 = .ok (.ireturn, 1) := by decide +kernel
set_option maxRecDepth 20000 in
theorem ggX6_back_X1_takeInto : GoodIn wsX6_back wsX1_takeInto := goodIn_r _ [11, 12, 13, 14, 15, 16, 17, 18, 19, 20, 21, 22, 23, 24, 25, 37, 38, 39, 40, 41, 42, 43, 44, 45] (by decide +kernel) (by decide +kernel)
set_option maxRecDepth 20000 in
theorem gX6_back_X1_takeInto : GoodIn wsX6_back (wsV RX6 135 RX1 yX1_takeInto wsX1_takeInto) := goodIn_app (goodIn_of _ (by decide +kernel)) ggX6_back_X1_takeInto
theorem dX6_back_0 : decode cX6_back 0 = .ok (.aload_n 0, 1) := by decide +kernel
theorem dX6_back_1 : decode cX6_back 1 = .ok (.getfield 35, 3) := by decide +kernel
theorem dX6_back_4 : decode cX6_back 4 = .ok (.aload_n 0, 1) := by decide +kernel
theorem dX6_back_5 : decode cX6_back 5 = .ok (.getfield 19, 3) := by decide +kernel
theorem dX6_back_8 : decode cX6_back 8 = .ok (.invokevirtual 135, 3) := by decide +kernel
theorem dX6_back_11 : decode cX6_back 11 = .ok (.ifCond .ne 6, 3) := by decide +kernel
theorem dX6_back_14 : decode cX6_back 14 = .ok (.bipush (-2), 2) := by decide +kernel
theorem dX6_back_16 : decode cX6_back 16 = .ok (.ireturn, 1) := by decide +kernel
theorem dX6_back_17 : decode cX6_back 17 = .ok (.aload_n 0, 1) := by decide +kernel
theorem dX6_back_18 : decode cX6_back 18 = .ok (.getfield 41, 3) := by decide +kernel
theorem dX6_back_21 : decode cX6_back 21 = .ok (.iconst 0, 1) := by decide +kernel
theorem dX6_back_22 : decode cX6_back 22 = .ok (.putfield 93, 3) := by decide +kernel
theorem dX6_back_25 : decode cX6_back 25 = .ok (.aload_n 0, 1) := by decide +kernel
theorem dX6_back_26 : decode cX6_back 26 = .ok (.getfield 31, 3) := by decide +kernel
theorem dX6_back_29 : decode cX6_back 29 = .ok (.iconst 0, 1) := by decide +kernel
theorem dX6_back_30 : decode cX6_back 30 = .ok (.putfield 94, 3) := by decide +kernel
theorem dX6_back_33 : decode cX6_back 33 = .ok (.aload_n 0, 1) := by decide +kernel
theorem dX6_back_34 : decode cX6_back 34 = .ok (.getfield 35, 3) := by decide +kernel
theorem dX6_back_37 : decode cX6_back 37 = .ok (.getfield 94, 3) := by decide +kernel
theorem dX6_back_40 : decode cX6_back 40 = .ok (.ireturn, 1) := by decide +kernel
theorem dX6_count_0 : decode cX6_count 0 = .ok (.iload_n 1, 1) := by decide +kernel
theorem dX6_count_1 : decode cX6_count 1 = .ok (.tableswitch 111 0 7 #[47, 55, 63, 71, 79, 87, 95, 103], 47) := by decide +kernel
theorem dX6_count_48 : decode cX6_count 48 = .ok (.aload_n 0, 1) := by decide +kernel
theorem dX6_count_49 : decode cX6_count 49 = .ok (.getfield 19, 3) := by decide +kernel
theorem dX6_count_52 : decode cX6_count 52 = .ok (.getfield 86, 3) := by decide +kernel
theorem dX6_count_55 : decode cX6_count 55 = .ok (.ireturn, 1) := by decide +kernel
theorem dX6_count_56 : decode cX6_count 56 = .ok (.aload_n 0, 1) := by decide +kernel
theorem dX6_count_57 : decode cX6_count 57 = .ok (.getfield 19, 3) := by decide +kernel
theorem dX6_count_60 : decode cX6_count 60 = .ok (.getfield 228, 3) := by decide +kernel
theorem dX6_count_63 : decode cX6_count 63 = .ok (.ireturn, 1) := by decide +kernel
theorem dX6_count_64 : decode cX6_count 64 = .ok (.aload_n 0, 1) := by decide +kernel
theorem dX6_count_65 : decode cX6_count 65 = .ok (.getfield 19, 3) := by decide +kernel
theorem dX6_count_68 : decode cX6_count 68 = .ok (.getfield 129, 3) := by decide +kernel
theorem dX6_count_71 : decode cX6_count 71 = .ok (.ireturn, 1) := by decide +kernel
theorem dX6_count_72 : decode cX6_count 72 = .ok (.aload_n 0, 1) := by decide +kernel
theorem dX6_count_73 : decode cX6_count 73 = .ok (.getfield 19, 3) := by decide +kernel
theorem dX6_count_76 : decode cX6_count 76 = .ok (.getfield 231, 3) := by decide +kernel
theorem dX6_count_79 : decode cX6_count 79 = .ok (.ireturn, 1) := by decide +kernel
theorem dX6_count_80 : decode cX6_count 80 = .ok (.aload_n 0, 1) := by decide +kernel
theorem dX6_count_81 : decode cX6_count 81 = .ok (.getfield 41, 3) := by decide +kernel
theorem dX6_count_84 : decode cX6_count 84 = .ok (.getfield 93, 3) := by decide +kernel
theorem dX6_count_87 : decode cX6_count 87 = .ok (.ireturn, 1) := by decide +kernel
theorem dX6_count_88 : decode cX6_count 88 = .ok (.aload_n 0, 1) := by decide +kernel
theorem dX6_count_89 : decode cX6_count 89 = .ok (.getfield 31, 3) := by decide +kernel
theorem dX6_count_92 : decode cX6_count 92 = .ok (.getfield 94, 3) := by decide +kernel
theorem dX6_count_95 : decode cX6_count 95 = .ok (.ireturn, 1) := by decide +kernel
theorem dX6_count_96 : decode cX6_count 96 = .ok (.aload_n 0, 1) := by decide +kernel
theorem dX6_count_97 : decode cX6_count 97 = .ok (.getfield 35, 3) := by decide +kernel
theorem dX6_count_100 : decode cX6_count 100 = .ok (.getfield 94, 3) := by decide +kernel
theorem dX6_count_103 : decode cX6_count 103 = .ok (.ireturn, 1) := by decide +kernel
theorem dX6_count_104 : decode cX6_count 104 = .ok (.aload_n 0, 1) := by decide +kernel
theorem dX6_count_105 : decode cX6_count 105 = .ok (.getfield 10, 3) := by decide +kernel
theorem dX6_count_108 : decode cX6_count 108 = .ok (.getfield 79, 3) := by decide +kernel
theorem dX6_count_111 : decode cX6_count 111 = .ok (.ireturn, 1) := by decide +kernel
theorem dX6_count_112 : decode cX6_count 112 = .ok (.iconst (-1), 1) := by decide +kernel
theorem dX6_count_113 : decode cX6_count 113 = .ok (.ireturn, 1) := by decide +kernel
theorem dX6_within_0 : decode cX6_within 0 = .ok (.iload_n 0, 1) := by decide +kernel
theorem dX6_within_1 : decode cX6_within 1 = .ok (.iload_n 1, 1) := by decide +kernel
theorem dX6_within_2 : decode cX6_within 2 = .ok (.if_icmp .lt 12, 3) := by decide +kernel
theorem dX6_within_5 : decode cX6_within 5 = .ok (.iload_n 0, 1) := by decide +kernel
theorem dX6_within_6 : decode cX6_within 6 = .ok (.iload_n 2, 1) := by decide +kernel
theorem dX6_within_7 : decode cX6_within 7 = .ok (.if_icmp .gt 7, 3) := by decide +kernel
theorem dX6_within_10 : decode cX6_within 10 = .ok (.iconst 1, 1) := by decide +kernel
theorem dX6_within_11 : decode cX6_within 11 = .ok (.goto 4, 3) := by decide +kernel
theorem dX6_within_14 : decode cX6_within 14 = .ok (.iconst 0, 1) := by decide +kernel
theorem dX6_within_15 : decode cX6_within 15 = .ok (.ireturn, 1) := by decide +kernel
set_option maxRecDepth 20000 in
theorem ggX6_isPerson_X6_within : GoodIn wsX6_isPerson wsX6_within := goodIn_r _ [4] (by decide +kernel) (by decide +kernel)
set_option maxRecDepth 20000 in
theorem gX6_isPerson_X6_within : GoodIn wsX6_isPerson (va_wsS RX6 82 yX6_within wsX6_within) := goodIn_app (goodIn_of _ (by decide +kernel)) ggX6_isPerson_X6_within
theorem dX6_isPerson_0 : decode cX6_isPerson 0 = .ok (.iload_n 0, 1) := by decide +kernel
theorem dX6_isPerson_1 : decode cX6_isPerson 1 = .ok (.iconst 0, 1) := by decide +kernel
theorem dX6_isPerson_2 : decode cX6_isPerson 2 = .ok (.iconst 3, 1) := by decide +kernel
theorem dX6_isPerson_3 : decode cX6_isPerson 3 = .ok (.invokestatic 82, 3) := by decide +kernel
theorem dX6_isPerson_6 : decode cX6_isPerson 6 = .ok (.ifCond .eq 27, 3) := by decide +kernel
theorem dX6_isPerson_9 : decode cX6_isPerson 9 = .ok (.iload_n 1, 1) := by decide +kernel
theorem dX6_isPerson_10 : decode cX6_isPerson 10 = .ok (.iconst 1, 1) := by decide +kernel
theorem dX6_isPerson_11 : decode cX6_isPerson 11 = .ok (.bipush 20, 2) := by decide +kernel
theorem dX6_isPerson_13 : decode cX6_isPerson 13 = .ok (.invokestatic 82, 3) := by decide +kernel
theorem dX6_isPerson_16 : decode cX6_isPerson 16 = .ok (.ifCond .eq 17, 3) := by decide +kernel
theorem dX6_isPerson_19 : decode cX6_isPerson 19 = .ok (.iload_n 2, 1) := by decide +kernel
theorem dX6_isPerson_20 : decode cX6_isPerson 20 = .ok (.iconst 1, 1) := by decide +kernel
theorem dX6_isPerson_21 : decode cX6_isPerson 21 = .ok (.bipush 9, 2) := by decide +kernel
theorem dX6_isPerson_23 : decode cX6_isPerson 23 = .ok (.invokestatic 82, 3) := by decide +kernel
theorem dX6_isPerson_26 : decode cX6_isPerson 26 = .ok (.ifCond .eq 7, 3) := by decide +kernel
theorem dX6_isPerson_29 : decode cX6_isPerson 29 = .ok (.iconst 1, 1) := by decide +kernel
theorem dX6_isPerson_30 : decode cX6_isPerson 30 = .ok (.goto 4, 3) := by decide +kernel
theorem dX6_isPerson_33 : decode cX6_isPerson 33 = .ok (.iconst 0, 1) := by decide +kernel
theorem dX6_isPerson_34 : decode cX6_isPerson 34 = .ok (.ireturn, 1) := by decide +kernel
theorem dX7_in_0 : decode cX7_in 0 = .ok (.lload_n 0, 1) := by decide +kernel
theorem dX7_in_1 : decode cX7_in 1 = .ok (.lload_n 2, 1) := by decide +kernel
theorem dX7_in_2 : decode cX7_in 2 = .ok (.lcmp, 1) := by decide +kernel
theorem dX7_in_3 : decode cX7_in 3 = .ok (.ifCond .lt 14, 3) := by decide +kernel
theorem dX7_in_6 : decode cX7_in 6 = .ok (.lload_n 0, 1) := by decide +kernel
theorem dX7_in_7 : decode cX7_in 7 = .ok (.lload 4, 2) := by decide +kernel
theorem dX7_in_9 : decode cX7_in 9 = .ok (.lcmp, 1) := by decide +kernel
theorem dX7_in_10 : decode cX7_in 10 = .ok (.ifCond .gt 7, 3) := by decide +kernel
theorem dX7_in_13 : decode cX7_in 13 = .ok (.iconst 1, 1) := by decide +kernel
theorem dX7_in_14 : decode cX7_in 14 = .ok (.goto 4, 3) := by decide +kernel
theorem dX7_in_17 : decode cX7_in 17 = .ok (.iconst 0, 1) := by decide +kernel
theorem dX7_in_18 : decode cX7_in 18 = .ok (.ireturn, 1) := by decide +kernel
set_option maxRecDepth 20000 in
theorem ggX7_init_X7_stands : GoodIn wsX7_init wsX7_stands := goodIn_r _ [19, 5, 20, 21, 22, 23, 24, 25, 26, 27, 28, 29, 30, 31, 32, 33, 34, 35, 36] (by decide +kernel) (by decide +kernel)
set_option maxRecDepth 20000 in
theorem gX7_init_X7_stands : GoodIn wsX7_init (wsV RX7 40 RX7 yX7_stands wsX7_stands) := goodIn_app (goodIn_of _ (by decide +kernel)) ggX7_init_X7_stands
theorem dX7_init_0 : decode cX7_init 0 = .ok (.aload_n 0, 1) := by decide +kernel
theorem dX7_init_1 : decode cX7_init 1 = .ok (.invokespecial 1, 3) := by decide +kernel
theorem dX7_init_4 : decode cX7_init 4 = .ok (.aload_n 0, 1) := by decide +kernel
theorem dX7_init_5 : decode cX7_init 5 = .ok (.bipush 28, 2) := by decide +kernel
theorem dX7_init_7 : decode cX7_init 7 = .ok (.newarray .int, 2) := by decide +kernel
theorem dX7_init_9 : decode cX7_init 9 = .ok (.putfield 7, 3) := by decide +kernel
theorem dX7_init_12 : decode cX7_init 12 = .ok (.aload_n 0, 1) := by decide +kernel
theorem dX7_init_13 : decode cX7_init 13 = .ok (.sipush 200, 3) := by decide +kernel
theorem dX7_init_16 : decode cX7_init 16 = .ok (.newarray .int, 2) := by decide +kernel
theorem dX7_init_18 : decode cX7_init 18 = .ok (.putfield 13, 3) := by decide +kernel
theorem dX7_init_21 : decode cX7_init 21 = .ok (.aload_n 0, 1) := by decide +kernel
theorem dX7_init_22 : decode cX7_init 22 = .ok (.bipush 28, 2) := by decide +kernel
theorem dX7_init_24 : decode cX7_init 24 = .ok (.newarray .int, 2) := by decide +kernel
theorem dX7_init_26 : decode cX7_init 26 = .ok (.putfield 16, 3) := by decide +kernel
theorem dX7_init_29 : decode cX7_init 29 = .ok (.aload_n 0, 1) := by decide +kernel
theorem dX7_init_30 : decode cX7_init 30 = .ok (.sipush 224, 3) := by decide +kernel
theorem dX7_init_33 : decode cX7_init 33 = .ok (.newarray .int, 2) := by decide +kernel
theorem dX7_init_35 : decode cX7_init 35 = .ok (.putfield 19, 3) := by decide +kernel
theorem dX7_init_38 : decode cX7_init 38 = .ok (.aload_n 0, 1) := by decide +kernel
theorem dX7_init_39 : decode cX7_init 39 = .ok (.bipush 8, 2) := by decide +kernel
theorem dX7_init_41 : decode cX7_init 41 = .ok (.newarray .int, 2) := by decide +kernel
theorem dX7_init_43 : decode cX7_init 43 = .ok (.putfield 22, 3) := by decide +kernel
theorem dX7_init_46 : decode cX7_init 46 = .ok (.aload_n 0, 1) := by decide +kernel
theorem dX7_init_47 : decode cX7_init 47 = .ok (.bipush 8, 2) := by decide +kernel
theorem dX7_init_49 : decode cX7_init 49 = .ok (.newarray .int, 2) := by decide +kernel
theorem dX7_init_51 : decode cX7_init 51 = .ok (.putfield 25, 3) := by decide +kernel
theorem dX7_init_54 : decode cX7_init 54 = .ok (.aload_n 0, 1) := by decide +kernel
theorem dX7_init_55 : decode cX7_init 55 = .ok (.bipush 28, 2) := by decide +kernel
theorem dX7_init_57 : decode cX7_init 57 = .ok (.newarray .int, 2) := by decide +kernel
theorem dX7_init_59 : decode cX7_init 59 = .ok (.putfield 28, 3) := by decide +kernel
theorem dX7_init_62 : decode cX7_init 62 = .ok (.aload_n 0, 1) := by decide +kernel
theorem dX7_init_63 : decode cX7_init 63 = .ok (.bipush 8, 2) := by decide +kernel
theorem dX7_init_65 : decode cX7_init 65 = .ok (.newarray .int, 2) := by decide +kernel
theorem dX7_init_67 : decode cX7_init 67 = .ok (.putfield 31, 3) := by decide +kernel
theorem dX7_init_70 : decode cX7_init 70 = .ok (.aload_n 0, 1) := by decide +kernel
theorem dX7_init_71 : decode cX7_init 71 = .ok (.bipush 8, 2) := by decide +kernel
theorem dX7_init_73 : decode cX7_init 73 = .ok (.newarray .int, 2) := by decide +kernel
theorem dX7_init_75 : decode cX7_init 75 = .ok (.putfield 34, 3) := by decide +kernel
theorem dX7_init_78 : decode cX7_init 78 = .ok (.aload_n 0, 1) := by decide +kernel
theorem dX7_init_79 : decode cX7_init 79 = .ok (.bipush 56, 2) := by decide +kernel
theorem dX7_init_81 : decode cX7_init 81 = .ok (.newarray .int, 2) := by decide +kernel
theorem dX7_init_83 : decode cX7_init 83 = .ok (.putfield 37, 3) := by decide +kernel
theorem dX7_init_86 : decode cX7_init 86 = .ok (.aload_n 0, 1) := by decide +kernel
theorem dX7_init_87 : decode cX7_init 87 = .ok (.iconst 0, 1) := by decide +kernel
theorem dX7_init_88 : decode cX7_init 88 = .ok (.bipush 6, 2) := by decide +kernel
theorem dX7_init_90 : decode cX7_init 90 = .ok (.iconst 2, 1) := by decide +kernel
theorem dX7_init_91 : decode cX7_init 91 = .ok (.invokevirtual 40, 3) := by decide +kernel
theorem dX7_init_94 : decode cX7_init 94 = .ok (.aload_n 0, 1) := by decide +kernel
theorem dX7_init_95 : decode cX7_init 95 = .ok (.iconst 1, 1) := by decide +kernel
theorem dX7_init_96 : decode cX7_init 96 = .ok (.iconst 4, 1) := by decide +kernel
theorem dX7_init_97 : decode cX7_init 97 = .ok (.iconst 3, 1) := by decide +kernel
theorem dX7_init_98 : decode cX7_init 98 = .ok (.invokevirtual 40, 3) := by decide +kernel
theorem dX7_init_101 : decode cX7_init 101 = .ok (.aload_n 0, 1) := by decide +kernel
theorem dX7_init_102 : decode cX7_init 102 = .ok (.iconst 2, 1) := by decide +kernel
theorem dX7_init_103 : decode cX7_init 103 = .ok (.bipush 9, 2) := by decide +kernel
theorem dX7_init_105 : decode cX7_init 105 = .ok (.iconst 2, 1) := by decide +kernel
theorem dX7_init_106 : decode cX7_init 106 = .ok (.invokevirtual 40, 3) := by decide +kernel
theorem dX7_init_109 : decode cX7_init 109 = .ok (.aload_n 0, 1) := by decide +kernel
theorem dX7_init_110 : decode cX7_init 110 = .ok (.iconst 3, 1) := by decide +kernel
theorem dX7_init_111 : decode cX7_init 111 = .ok (.iconst 2, 1) := by decide +kernel
theorem dX7_init_112 : decode cX7_init 112 = .ok (.iconst 4, 1) := by decide +kernel
theorem dX7_init_113 : decode cX7_init 113 = .ok (.invokevirtual 40, 3) := by decide +kernel
theorem dX7_init_116 : decode cX7_init 116 = .ok (.aload_n 0, 1) := by decide +kernel
theorem dX7_init_117 : decode cX7_init 117 = .ok (.iconst 1, 1) := by decide +kernel
theorem dX7_init_118 : decode cX7_init 118 = .ok (.bipush 7, 2) := by decide +kernel
theorem dX7_init_120 : decode cX7_init 120 = .ok (.iconst 1, 1) := by decide +kernel
theorem dX7_init_121 : decode cX7_init 121 = .ok (.invokevirtual 40, 3) := by decide +kernel
theorem dX7_init_124 : decode cX7_init 124 = .ok (.aload_n 0, 1) := by decide +kernel
theorem dX7_init_125 : decode cX7_init 125 = .ok (.iconst 2, 1) := by decide +kernel
theorem dX7_init_126 : decode cX7_init 126 = .ok (.iconst 3, 1) := by decide +kernel
theorem dX7_init_127 : decode cX7_init 127 = .ok (.iconst 2, 1) := by decide +kernel
theorem dX7_init_128 : decode cX7_init 128 = .ok (.invokevirtual 40, 3) := by decide +kernel
theorem dX7_init_131 : decode cX7_init 131 = .ok (.aload_n 0, 1) := by decide +kernel
theorem dX7_init_132 : decode cX7_init 132 = .ok (.getfield 7, 3) := by decide +kernel
theorem dX7_init_135 : decode cX7_init 135 = .ok (.iconst 1, 1) := by decide +kernel
theorem dX7_init_136 : decode cX7_init 136 = .ok (.iconst 2, 1) := by decide +kernel
theorem dX7_init_137 : decode cX7_init 137 = .ok (.iastore, 1) := by decide +kernel
theorem dX7_init_138 : decode cX7_init 138 = .ok (.aload_n 0, 1) := by decide +kernel
theorem dX7_init_139 : decode cX7_init 139 = .ok (.getfield 7, 3) := by decide +kernel
theorem dX7_init_142 : decode cX7_init 142 = .ok (.iconst 2, 1) := by decide +kernel
theorem dX7_init_143 : decode cX7_init 143 = .ok (.iconst 3, 1) := by decide +kernel
theorem dX7_init_144 : decode cX7_init 144 = .ok (.iastore, 1) := by decide +kernel
theorem dX7_init_145 : decode cX7_init 145 = .ok (.aload_n 0, 1) := by decide +kernel
theorem dX7_init_146 : decode cX7_init 146 = .ok (.getfield 7, 3) := by decide +kernel
theorem dX7_init_149 : decode cX7_init 149 = .ok (.iconst 3, 1) := by decide +kernel
theorem dX7_init_150 : decode cX7_init 150 = .ok (.iconst 3, 1) := by decide +kernel
theorem dX7_init_151 : decode cX7_init 151 = .ok (.iastore, 1) := by decide +kernel
theorem dX7_init_152 : decode cX7_init 152 = .ok (.return_, 1) := by decide +kernel
theorem dX7_stands_0 : decode cX7_stands 0 = .ok (.iconst 4, 1) := by decide +kernel
theorem dX7_stands_1 : decode cX7_stands 1 = .ok (.iconst 3, 1) := by decide +kernel
theorem dX7_stands_2 : decode cX7_stands 2 = .ok (.aload_n 0, 1) := by decide +kernel
theorem dX7_stands_3 : decode cX7_stands 3 = .ok (.getfield 7, 3) := by decide +kernel
theorem dX7_stands_6 : decode cX7_stands 6 = .ok (.iconst 0, 1) := by decide +kernel
theorem dX7_stands_7 : decode cX7_stands 7 = .ok (.iaload, 1) := by decide +kernel
theorem dX7_stands_8 : decode cX7_stands 8 = .ok (.imul, 1) := by decide +kernel
theorem dX7_stands_9 : decode cX7_stands 9 = .ok (.iadd, 1) := by decide +kernel
theorem dX7_stands_10 : decode cX7_stands 10 = .ok (.istore 4, 2) := by decide +kernel
theorem dX7_stands_12 : decode cX7_stands 12 = .ok (.aload_n 0, 1) := by decide +kernel
theorem dX7_stands_13 : decode cX7_stands 13 = .ok (.getfield 7, 3) := by decide +kernel
theorem dX7_stands_16 : decode cX7_stands 16 = .ok (.iload 4, 2) := by decide +kernel
theorem dX7_stands_18 : decode cX7_stands 18 = .ok (.iload_n 1, 1) := by decide +kernel
theorem dX7_stands_19 : decode cX7_stands 19 = .ok (.iastore, 1) := by decide +kernel
theorem dX7_stands_20 : decode cX7_stands 20 = .ok (.aload_n 0, 1) := by decide +kernel
theorem dX7_stands_21 : decode cX7_stands 21 = .ok (.getfield 7, 3) := by decide +kernel
theorem dX7_stands_24 : decode cX7_stands 24 = .ok (.iload 4, 2) := by decide +kernel
theorem dX7_stands_26 : decode cX7_stands 26 = .ok (.iconst 1, 1) := by decide +kernel
theorem dX7_stands_27 : decode cX7_stands 27 = .ok (.iadd, 1) := by decide +kernel
theorem dX7_stands_28 : decode cX7_stands 28 = .ok (.iload_n 2, 1) := by decide +kernel
theorem dX7_stands_29 : decode cX7_stands 29 = .ok (.iastore, 1) := by decide +kernel
theorem dX7_stands_30 : decode cX7_stands 30 = .ok (.aload_n 0, 1) := by decide +kernel
theorem dX7_stands_31 : decode cX7_stands 31 = .ok (.getfield 7, 3) := by decide +kernel
theorem dX7_stands_34 : decode cX7_stands 34 = .ok (.iload 4, 2) := by decide +kernel
theorem dX7_stands_36 : decode cX7_stands 36 = .ok (.iconst 2, 1) := by decide +kernel
theorem dX7_stands_37 : decode cX7_stands 37 = .ok (.iadd, 1) := by decide +kernel
theorem dX7_stands_38 : decode cX7_stands 38 = .ok (.iload_n 3, 1) := by decide +kernel
theorem dX7_stands_39 : decode cX7_stands 39 = .ok (.iastore, 1) := by decide +kernel
theorem dX7_stands_40 : decode cX7_stands 40 = .ok (.aload_n 0, 1) := by decide +kernel
theorem dX7_stands_41 : decode cX7_stands 41 = .ok (.getfield 7, 3) := by decide +kernel
theorem dX7_stands_44 : decode cX7_stands 44 = .ok (.iconst 0, 1) := by decide +kernel
theorem dX7_stands_45 : decode cX7_stands 45 = .ok (.dup2, 1) := by decide +kernel
theorem dX7_stands_46 : decode cX7_stands 46 = .ok (.iaload, 1) := by decide +kernel
theorem dX7_stands_47 : decode cX7_stands 47 = .ok (.iconst 1, 1) := by decide +kernel
theorem dX7_stands_48 : decode cX7_stands 48 = .ok (.iadd, 1) := by decide +kernel
theorem dX7_stands_49 : decode cX7_stands 49 = .ok (.iastore, 1) := by decide +kernel
theorem dX7_stands_50 : decode cX7_stands 50 = .ok (.return_, 1) := by decide +kernel
theorem dX7_goesAway_0 : decode cX7_goesAway 0 = .ok (.iconst 4, 1) := by decide +kernel
theorem dX7_goesAway_1 : decode cX7_goesAway 1 = .ok (.iconst 3, 1) := by decide +kernel
theorem dX7_goesAway_2 : decode cX7_goesAway 2 = .ok (.iload_n 1, 1) := by decide +kernel
theorem dX7_goesAway_3 : decode cX7_goesAway 3 = .ok (.imul, 1) := by decide +kernel
theorem dX7_goesAway_4 : decode cX7_goesAway 4 = .ok (.iadd, 1) := by decide +kernel
theorem dX7_goesAway_5 : decode cX7_goesAway 5 = .ok (.istore_n 2, 1) := by decide +kernel
theorem dX7_goesAway_6 : decode cX7_goesAway 6 = .ok (.iload_n 2, 1) := by decide +kernel
theorem dX7_goesAway_7 : decode cX7_goesAway 7 = .ok (.bipush 25, 2) := by decide +kernel
theorem dX7_goesAway_9 : decode cX7_goesAway 9 = .ok (.if_icmp .ge 23, 3) := by decide +kernel
theorem dX7_goesAway_12 : decode cX7_goesAway 12 = .ok (.aload_n 0, 1) := by decide +kernel
theorem dX7_goesAway_13 : decode cX7_goesAway 13 = .ok (.getfield 7, 3) := by decide +kernel
theorem dX7_goesAway_16 : decode cX7_goesAway 16 = .ok (.iload_n 2, 1) := by decide +kernel
theorem dX7_goesAway_17 : decode cX7_goesAway 17 = .ok (.aload_n 0, 1) := by decide +kernel
theorem dX7_goesAway_18 : decode cX7_goesAway 18 = .ok (.getfield 7, 3) := by decide +kernel
theorem dX7_goesAway_21 : decode cX7_goesAway 21 = .ok (.iload_n 2, 1) := by decide +kernel
theorem dX7_goesAway_22 : decode cX7_goesAway 22 = .ok (.iconst 3, 1) := by decide +kernel
theorem dX7_goesAway_23 : decode cX7_goesAway 23 = .ok (.iadd, 1) := by decide +kernel
theorem dX7_goesAway_24 : decode cX7_goesAway 24 = .ok (.iaload, 1) := by decide +kernel
theorem dX7_goesAway_25 : decode cX7_goesAway 25 = .ok (.iastore, 1) := by decide +kernel
theorem dX7_goesAway_26 : decode cX7_goesAway 26 = .ok (.iinc 2 1, 3) := by decide +kernel
theorem dX7_goesAway_29 : decode cX7_goesAway 29 = .ok (.goto (-23), 3) := by decide +kernel
theorem dX7_goesAway_32 : decode cX7_goesAway 32 = .ok (.aload_n 0, 1) := by decide +kernel
theorem dX7_goesAway_33 : decode cX7_goesAway 33 = .ok (.getfield 7, 3) := by decide +kernel
theorem dX7_goesAway_36 : decode cX7_goesAway 36 = .ok (.iconst 0, 1) := by decide +kernel
theorem dX7_goesAway_37 : decode cX7_goesAway 37 = .ok (.dup2, 1) := by decide +kernel
theorem dX7_goesAway_38 : decode cX7_goesAway 38 = .ok (.iaload, 1) := by decide +kernel
theorem dX7_goesAway_39 : decode cX7_goesAway 39 = .ok (.iconst 1, 1) := by decide +kernel
theorem dX7_goesAway_40 : decode cX7_goesAway 40 = .ok (.isub, 1) := by decide +kernel
theorem dX7_goesAway_41 : decode cX7_goesAway 41 = .ok (.iastore, 1) := by decide +kernel
theorem dX7_goesAway_42 : decode cX7_goesAway 42 = .ok (.return_, 1) := by decide +kernel
set_option maxRecDepth 20000 in
theorem ggX7_isPerson_X7_in : GoodIn wsX7_isPerson wsX7_in := goodIn_r _ [5] (by decide +kernel) (by decide +kernel)
set_option maxRecDepth 20000 in
theorem gX7_isPerson_X7_in : GoodIn wsX7_isPerson (va_wsS RX7 44 yX7_in wsX7_in) := goodIn_app (goodIn_of _ (by decide +kernel)) ggX7_isPerson_X7_in
theorem dX7_isPerson_0 : decode cX7_isPerson 0 = .ok (.iload_n 1, 1) := by decide +kernel
theorem dX7_isPerson_1 : decode cX7_isPerson 1 = .ok (.i2l, 1) := by decide +kernel
theorem dX7_isPerson_2 : decode cX7_isPerson 2 = .ok (.lconst 0, 1) := by decide +kernel
theorem dX7_isPerson_3 : decode cX7_isPerson 3 = .ok (.aload_n 0, 1) := by decide +kernel
theorem dX7_isPerson_4 : decode cX7_isPerson 4 = .ok (.getfield 7, 3) := by decide +kernel
theorem dX7_isPerson_7 : decode cX7_isPerson 7 = .ok (.iconst 0, 1) := by decide +kernel
theorem dX7_isPerson_8 : decode cX7_isPerson 8 = .ok (.iaload, 1) := by decide +kernel
theorem dX7_isPerson_9 : decode cX7_isPerson 9 = .ok (.iconst 1, 1) := by decide +kernel
theorem dX7_isPerson_10 : decode cX7_isPerson 10 = .ok (.isub, 1) := by decide +kernel
theorem dX7_isPerson_11 : decode cX7_isPerson 11 = .ok (.i2l, 1) := by decide +kernel
theorem dX7_isPerson_12 : decode cX7_isPerson 12 = .ok (.invokestatic 44, 3) := by decide +kernel
theorem dX7_isPerson_15 : decode cX7_isPerson 15 = .ok (.ireturn, 1) := by decide +kernel
theorem dX7_kind_0 : decode cX7_kind 0 = .ok (.aload_n 0, 1) := by decide +kernel
theorem dX7_kind_1 : decode cX7_kind 1 = .ok (.getfield 7, 3) := by decide +kernel
theorem dX7_kind_4 : decode cX7_kind 4 = .ok (.iconst 4, 1) := by decide +kernel
theorem dX7_kind_5 : decode cX7_kind 5 = .ok (.iconst 3, 1) := by decide +kernel
theorem dX7_kind_6 : decode cX7_kind 6 = .ok (.iload_n 1, 1) := by decide +kernel
theorem dX7_kind_7 : decode cX7_kind 7 = .ok (.imul, 1) := by decide +kernel
theorem dX7_kind_8 : decode cX7_kind 8 = .ok (.iadd, 1) := by decide +kernel
theorem dX7_kind_9 : decode cX7_kind 9 = .ok (.iaload, 1) := by decide +kernel
theorem dX7_kind_10 : decode cX7_kind 10 = .ok (.ireturn, 1) := by decide +kernel
theorem dX7_things_0 : decode cX7_things 0 = .ok (.aload_n 0, 1) := by decide +kernel
theorem dX7_things_1 : decode cX7_things 1 = .ok (.getfield 7, 3) := by decide +kernel
theorem dX7_things_4 : decode cX7_things 4 = .ok (.iconst 4, 1) := by decide +kernel
theorem dX7_things_5 : decode cX7_things 5 = .ok (.iconst 3, 1) := by decide +kernel
theorem dX7_things_6 : decode cX7_things 6 = .ok (.iload_n 1, 1) := by decide +kernel
theorem dX7_things_7 : decode cX7_things 7 = .ok (.imul, 1) := by decide +kernel
theorem dX7_things_8 : decode cX7_things 8 = .ok (.iadd, 1) := by decide +kernel
theorem dX7_things_9 : decode cX7_things 9 = .ok (.iconst 1, 1) := by decide +kernel
theorem dX7_things_10 : decode cX7_things 10 = .ok (.iadd, 1) := by decide +kernel
theorem dX7_things_11 : decode cX7_things 11 = .ok (.iaload, 1) := by decide +kernel
theorem dX7_things_12 : decode cX7_things 12 = .ok (.ireturn, 1) := by decide +kernel
theorem dX7_walk_0 : decode cX7_walk 0 = .ok (.aload_n 0, 1) := by decide +kernel
theorem dX7_walk_1 : decode cX7_walk 1 = .ok (.getfield 7, 3) := by decide +kernel
theorem dX7_walk_4 : decode cX7_walk 4 = .ok (.iconst 4, 1) := by decide +kernel
theorem dX7_walk_5 : decode cX7_walk 5 = .ok (.iconst 3, 1) := by decide +kernel
theorem dX7_walk_6 : decode cX7_walk 6 = .ok (.iload_n 1, 1) := by decide +kernel
theorem dX7_walk_7 : decode cX7_walk 7 = .ok (.imul, 1) := by decide +kernel
theorem dX7_walk_8 : decode cX7_walk 8 = .ok (.iadd, 1) := by decide +kernel
theorem dX7_walk_9 : decode cX7_walk 9 = .ok (.iconst 2, 1) := by decide +kernel
theorem dX7_walk_10 : decode cX7_walk 10 = .ok (.iadd, 1) := by decide +kernel
theorem dX7_walk_11 : decode cX7_walk 11 = .ok (.iaload, 1) := by decide +kernel
theorem dX7_walk_12 : decode cX7_walk 12 = .ok (.aload_n 0, 1) := by decide +kernel
theorem dX7_walk_13 : decode cX7_walk 13 = .ok (.getfield 7, 3) := by decide +kernel
theorem dX7_walk_16 : decode cX7_walk 16 = .ok (.iconst 3, 1) := by decide +kernel
theorem dX7_walk_17 : decode cX7_walk 17 = .ok (.iaload, 1) := by decide +kernel
theorem dX7_walk_18 : decode cX7_walk 18 = .ok (.aload_n 0, 1) := by decide +kernel
theorem dX7_walk_19 : decode cX7_walk 19 = .ok (.getfield 7, 3) := by decide +kernel
theorem dX7_walk_22 : decode cX7_walk 22 = .ok (.iconst 0, 1) := by decide +kernel
theorem dX7_walk_23 : decode cX7_walk 23 = .ok (.iaload, 1) := by decide +kernel
theorem dX7_walk_24 : decode cX7_walk 24 = .ok (.iadd, 1) := by decide +kernel
theorem dX7_walk_25 : decode cX7_walk 25 = .ok (.iload_n 1, 1) := by decide +kernel
theorem dX7_walk_26 : decode cX7_walk 26 = .ok (.isub, 1) := by decide +kernel
theorem dX7_walk_27 : decode cX7_walk 27 = .ok (.imul, 1) := by decide +kernel
theorem dX7_walk_28 : decode cX7_walk 28 = .ok (.ireturn, 1) := by decide +kernel
set_option maxRecDepth 20000 in
theorem ggX7_person_X7_isPerson : GoodIn wsX7_person wsX7_isPerson := goodIn_r _ [7, 2, 8, 9, 6, 10, 15, 16, 17, 18, 19, 20, 21, 22, 23, 24, 25, 26, 27, 28, 29, 30, 31] (by decide +kernel) (by decide +kernel)
set_option maxRecDepth 20000 in
theorem gX7_person_X7_isPerson : GoodIn wsX7_person (wsV RX7 48 RX7 yX7_isPerson wsX7_isPerson) := goodIn_app (goodIn_of _ (by decide +kernel)) ggX7_person_X7_isPerson
set_option maxRecDepth 20000 in
theorem ggX7_person_X7_in : GoodIn wsX7_person wsX7_in := goodIn_r _ [10] (by decide +kernel) (by decide +kernel)
set_option maxRecDepth 20000 in
theorem gX7_person_X7_in : GoodIn wsX7_person (va_wsS RX7 44 yX7_in wsX7_in) := goodIn_app (goodIn_of _ (by decide +kernel)) ggX7_person_X7_in
set_option maxRecDepth 20000 in
theorem ggX7_person_X7_walk : GoodIn wsX7_person wsX7_walk := goodIn_r _ [14, 2, 15, 16, 17, 18, 19, 20, 21, 22, 23, 24, 25, 26, 27, 28, 29, 30, 31] (by decide +kernel) (by decide +kernel)
set_option maxRecDepth 20000 in
theorem gX7_person_X7_walk : GoodIn wsX7_person (wsV RX7 54 RX7 yX7_walk wsX7_walk) := goodIn_app (goodIn_of _ (by decide +kernel)) ggX7_person_X7_walk
theorem dX7_person_0 : decode cX7_person 0 = .ok (.aload_n 0, 1) := by decide +kernel
theorem dX7_person_1 : decode cX7_person 1 = .ok (.iload_n 1, 1) := by decide +kernel
theorem dX7_person_2 : decode cX7_person 2 = .ok (.invokevirtual 48, 3) := by decide +kernel
theorem dX7_person_5 : decode cX7_person 5 = .ok (.ifCond .eq 15, 3) := by decide +kernel
theorem dX7_person_8 : decode cX7_person 8 = .ok (.iload_n 2, 1) := by decide +kernel
theorem dX7_person_9 : decode cX7_person 9 = .ok (.i2l, 1) := by decide +kernel
theorem dX7_person_10 : decode cX7_person 10 = .ok (.lconst 0, 1) := by decide +kernel
theorem dX7_person_11 : decode cX7_person 11 = .ok (.ldc2_w 52, 3) := by decide +kernel
theorem dX7_person_14 : decode cX7_person 14 = .ok (.invokestatic 44, 3) := by decide +kernel
theorem dX7_person_17 : decode cX7_person 17 = .ok (.ifCond .ne 5, 3) := by decide +kernel
theorem dX7_person_20 : decode cX7_person 20 = .ok (.iconst (-1), 1) := by decide +kernel
theorem dX7_person_21 : decode cX7_person 21 = .ok (.ireturn, 1) := by decide +kernel
theorem dX7_person_22 : decode cX7_person 22 = .ok (.iload_n 2, 1) := by decide +kernel
theorem dX7_person_23 : decode cX7_person 23 = .ok (.iconst 3, 1) := by decide +kernel
theorem dX7_person_24 : decode cX7_person 24 = .ok (.if_icmp .ge 18, 3) := by decide +kernel
theorem dX7_person_27 : decode cX7_person 27 = .ok (.aload_n 0, 1) := by decide +kernel
theorem dX7_person_28 : decode cX7_person 28 = .ok (.getfield 7, 3) := by decide +kernel
theorem dX7_person_31 : decode cX7_person 31 = .ok (.iconst 4, 1) := by decide +kernel
theorem dX7_person_32 : decode cX7_person 32 = .ok (.iconst 3, 1) := by decide +kernel
theorem dX7_person_33 : decode cX7_person 33 = .ok (.iload_n 1, 1) := by decide +kernel
theorem dX7_person_34 : decode cX7_person 34 = .ok (.imul, 1) := by decide +kernel
theorem dX7_person_35 : decode cX7_person 35 = .ok (.iadd, 1) := by decide +kernel
theorem dX7_person_36 : decode cX7_person 36 = .ok (.iload_n 2, 1) := by decide +kernel
theorem dX7_person_37 : decode cX7_person 37 = .ok (.iadd, 1) := by decide +kernel
theorem dX7_person_38 : decode cX7_person 38 = .ok (.iaload, 1) := by decide +kernel
theorem dX7_person_39 : decode cX7_person 39 = .ok (.goto 8, 3) := by decide +kernel
theorem dX7_person_42 : decode cX7_person 42 = .ok (.aload_n 0, 1) := by decide +kernel
theorem dX7_person_43 : decode cX7_person 43 = .ok (.iload_n 1, 1) := by decide +kernel
theorem dX7_person_44 : decode cX7_person 44 = .ok (.invokevirtual 54, 3) := by decide +kernel
theorem dX7_person_47 : decode cX7_person 47 = .ok (.ireturn, 1) := by decide +kernel
set_option maxRecDepth 20000 in
theorem ggX7_write_X7_in : GoodIn wsX7_write wsX7_in := goodIn_r _ [8] (by decide +kernel) (by decide +kernel)
set_option maxRecDepth 20000 in
theorem gX7_write_X7_in : GoodIn wsX7_write (va_wsS RX7 44 yX7_in wsX7_in) := goodIn_app (goodIn_of _ (by decide +kernel)) ggX7_write_X7_in
theorem dX7_write_0 : decode cX7_write 0 = .ok (.iload_n 1, 1) := by decide +kernel
theorem dX7_write_1 : decode cX7_write 1 = .ok (.i2l, 1) := by decide +kernel
theorem dX7_write_2 : decode cX7_write 2 = .ok (.ldc2_w 58, 3) := by decide +kernel
theorem dX7_write_5 : decode cX7_write 5 = .ok (.ldc2_w 60, 3) := by decide +kernel
theorem dX7_write_8 : decode cX7_write 8 = .ok (.invokestatic 44, 3) := by decide +kernel
theorem dX7_write_11 : decode cX7_write 11 = .ok (.ifCond .ne 5, 3) := by decide +kernel
theorem dX7_write_14 : decode cX7_write 14 = .ok (.iconst (-1), 1) := by decide +kernel
theorem dX7_write_15 : decode cX7_write 15 = .ok (.ireturn, 1) := by decide +kernel
theorem dX7_write_16 : decode cX7_write 16 = .ok (.aload_n 0, 1) := by decide +kernel
theorem dX7_write_17 : decode cX7_write 17 = .ok (.getfield 62, 3) := by decide +kernel
theorem dX7_write_20 : decode cX7_write 20 = .ok (.sipush 200, 3) := by decide +kernel
theorem dX7_write_23 : decode cX7_write 23 = .ok (.if_icmp .ne 6, 3) := by decide +kernel
theorem dX7_write_26 : decode cX7_write 26 = .ok (.bipush (-3), 2) := by decide +kernel
theorem dX7_write_28 : decode cX7_write 28 = .ok (.ireturn, 1) := by decide +kernel
theorem dX7_write_29 : decode cX7_write 29 = .ok (.aload_n 0, 1) := by decide +kernel
theorem dX7_write_30 : decode cX7_write 30 = .ok (.getfield 13, 3) := by decide +kernel
theorem dX7_write_33 : decode cX7_write 33 = .ok (.aload_n 0, 1) := by decide +kernel
theorem dX7_write_34 : decode cX7_write 34 = .ok (.getfield 62, 3) := by decide +kernel
theorem dX7_write_37 : decode cX7_write 37 = .ok (.iload_n 1, 1) := by decide +kernel
theorem dX7_write_38 : decode cX7_write 38 = .ok (.iastore, 1) := by decide +kernel
theorem dX7_write_39 : decode cX7_write 39 = .ok (.aload_n 0, 1) := by decide +kernel
theorem dX7_write_40 : decode cX7_write 40 = .ok (.dup, 1) := by decide +kernel
theorem dX7_write_41 : decode cX7_write 41 = .ok (.getfield 62, 3) := by decide +kernel
theorem dX7_write_44 : decode cX7_write 44 = .ok (.iconst 1, 1) := by decide +kernel
theorem dX7_write_45 : decode cX7_write 45 = .ok (.iadd, 1) := by decide +kernel
theorem dX7_write_46 : decode cX7_write 46 = .ok (.putfield 62, 3) := by decide +kernel
theorem dX7_write_49 : decode cX7_write 49 = .ok (.aload_n 0, 1) := by decide +kernel
theorem dX7_write_50 : decode cX7_write 50 = .ok (.getfield 62, 3) := by decide +kernel
theorem dX7_write_53 : decode cX7_write 53 = .ok (.ireturn, 1) := by decide +kernel
theorem dX7_wipe_0 : decode cX7_wipe 0 = .ok (.aload_n 0, 1) := by decide +kernel
theorem dX7_wipe_1 : decode cX7_wipe 1 = .ok (.getfield 62, 3) := by decide +kernel
theorem dX7_wipe_4 : decode cX7_wipe 4 = .ok (.istore_n 1, 1) := by decide +kernel
theorem dX7_wipe_5 : decode cX7_wipe 5 = .ok (.aload_n 0, 1) := by decide +kernel
theorem dX7_wipe_6 : decode cX7_wipe 6 = .ok (.iconst 0, 1) := by decide +kernel
theorem dX7_wipe_7 : decode cX7_wipe 7 = .ok (.putfield 62, 3) := by decide +kernel
theorem dX7_wipe_10 : decode cX7_wipe 10 = .ok (.iload_n 1, 1) := by decide +kernel
theorem dX7_wipe_11 : decode cX7_wipe 11 = .ok (.ireturn, 1) := by decide +kernel
set_option maxRecDepth 20000 in
theorem ggX7_isFigure_X7_in : GoodIn wsX7_isFigure wsX7_in := goodIn_r _ [9] (by decide +kernel) (by decide +kernel)
set_option maxRecDepth 20000 in
theorem gX7_isFigure_X7_in : GoodIn wsX7_isFigure (va_wsS RX7 44 yX7_in wsX7_in) := goodIn_app (goodIn_of _ (by decide +kernel)) ggX7_isFigure_X7_in
theorem dX7_isFigure_0 : decode cX7_isFigure 0 = .ok (.aload_n 0, 1) := by decide +kernel
theorem dX7_isFigure_1 : decode cX7_isFigure 1 = .ok (.getfield 66, 3) := by decide +kernel
theorem dX7_isFigure_4 : decode cX7_isFigure 4 = .ok (.aload_n 0, 1) := by decide +kernel
theorem dX7_isFigure_5 : decode cX7_isFigure 5 = .ok (.getfield 62, 3) := by decide +kernel
theorem dX7_isFigure_8 : decode cX7_isFigure 8 = .ok (.if_icmp .ge 29, 3) := by decide +kernel
theorem dX7_isFigure_11 : decode cX7_isFigure 11 = .ok (.aload_n 0, 1) := by decide +kernel
theorem dX7_isFigure_12 : decode cX7_isFigure 12 = .ok (.getfield 13, 3) := by decide +kernel
theorem dX7_isFigure_15 : decode cX7_isFigure 15 = .ok (.aload_n 0, 1) := by decide +kernel
theorem dX7_isFigure_16 : decode cX7_isFigure 16 = .ok (.getfield 66, 3) := by decide +kernel
theorem dX7_isFigure_19 : decode cX7_isFigure 19 = .ok (.iaload, 1) := by decide +kernel
theorem dX7_isFigure_20 : decode cX7_isFigure 20 = .ok (.i2l, 1) := by decide +kernel
theorem dX7_isFigure_21 : decode cX7_isFigure 21 = .ok (.ldc2_w 69, 3) := by decide +kernel
theorem dX7_isFigure_24 : decode cX7_isFigure 24 = .ok (.ldc2_w 71, 3) := by decide +kernel
theorem dX7_isFigure_27 : decode cX7_isFigure 27 = .ok (.invokestatic 44, 3) := by decide +kernel
theorem dX7_isFigure_30 : decode cX7_isFigure 30 = .ok (.ifCond .eq 7, 3) := by decide +kernel
theorem dX7_isFigure_33 : decode cX7_isFigure 33 = .ok (.iconst 1, 1) := by decide +kernel
theorem dX7_isFigure_34 : decode cX7_isFigure 34 = .ok (.goto 4, 3) := by decide +kernel
theorem dX7_isFigure_37 : decode cX7_isFigure 37 = .ok (.iconst 0, 1) := by decide +kernel
theorem dX7_isFigure_38 : decode cX7_isFigure 38 = .ok (.ireturn, 1) := by decide +kernel
set_option maxRecDepth 20000 in
theorem ggX7_number_X7_isFigure : GoodIn wsX7_number wsX7_isFigure := goodIn_r _ [9, 2, 3, 1, 10, 11, 12, 13, 8, 14, 15, 16, 17, 18, 19, 20, 21, 22, 23, 24, 25, 26, 27, 28, 29, 30, 31] (by decide +kernel) (by decide +kernel)
set_option maxRecDepth 20000 in
theorem gX7_number_X7_isFigure : GoodIn wsX7_number (wsV RX7 73 RX7 yX7_isFigure wsX7_isFigure) := goodIn_app (goodIn_of _ (by decide +kernel)) ggX7_number_X7_isFigure
set_option maxRecDepth 20000 in
theorem ggX7_number_X7_in : GoodIn wsX7_number wsX7_in := goodIn_r _ [14] (by decide +kernel) (by decide +kernel)
set_option maxRecDepth 20000 in
theorem gX7_number_X7_in : GoodIn wsX7_number (va_wsS RX7 44 yX7_in wsX7_in) := goodIn_app (goodIn_of _ (by decide +kernel)) ggX7_number_X7_in
theorem dX7_number_0 : decode cX7_number 0 = .ok (.aload_n 0, 1) := by decide +kernel
theorem dX7_number_1 : decode cX7_number 1 = .ok (.invokevirtual 73, 3) := by decide +kernel
theorem dX7_number_4 : decode cX7_number 4 = .ok (.ifCond .ne 5, 3) := by decide +kernel
theorem dX7_number_7 : decode cX7_number 7 = .ok (.iconst 0, 1) := by decide +kernel
theorem dX7_number_8 : decode cX7_number 8 = .ok (.ireturn, 1) := by decide +kernel
theorem dX7_number_9 : decode cX7_number 9 = .ok (.aload_n 0, 1) := by decide +kernel
theorem dX7_number_10 : decode cX7_number 10 = .ok (.getfield 13, 3) := by decide +kernel
theorem dX7_number_13 : decode cX7_number 13 = .ok (.aload_n 0, 1) := by decide +kernel
theorem dX7_number_14 : decode cX7_number 14 = .ok (.getfield 66, 3) := by decide +kernel
theorem dX7_number_17 : decode cX7_number 17 = .ok (.iaload, 1) := by decide +kernel
theorem dX7_number_18 : decode cX7_number 18 = .ok (.bipush 48, 2) := by decide +kernel
theorem dX7_number_20 : decode cX7_number 20 = .ok (.isub, 1) := by decide +kernel
theorem dX7_number_21 : decode cX7_number 21 = .ok (.istore 5, 2) := by decide +kernel
theorem dX7_number_23 : decode cX7_number 23 = .ok (.aload_n 0, 1) := by decide +kernel
theorem dX7_number_24 : decode cX7_number 24 = .ok (.dup, 1) := by decide +kernel
theorem dX7_number_25 : decode cX7_number 25 = .ok (.getfield 66, 3) := by decide +kernel
theorem dX7_number_28 : decode cX7_number 28 = .ok (.iconst 1, 1) := by decide +kernel
theorem dX7_number_29 : decode cX7_number 29 = .ok (.iadd, 1) := by decide +kernel
theorem dX7_number_30 : decode cX7_number 30 = .ok (.putfield 66, 3) := by decide +kernel
theorem dX7_number_33 : decode cX7_number 33 = .ok (.aload_n 0, 1) := by decide +kernel
theorem dX7_number_34 : decode cX7_number 34 = .ok (.invokevirtual 73, 3) := by decide +kernel
theorem dX7_number_37 : decode cX7_number 37 = .ok (.ifCond .eq 33, 3) := by decide +kernel
theorem dX7_number_40 : decode cX7_number 40 = .ok (.bipush 10, 2) := by decide +kernel
theorem dX7_number_42 : decode cX7_number 42 = .ok (.iload 5, 2) := by decide +kernel
theorem dX7_number_44 : decode cX7_number 44 = .ok (.imul, 1) := by decide +kernel
theorem dX7_number_45 : decode cX7_number 45 = .ok (.aload_n 0, 1) := by decide +kernel
theorem dX7_number_46 : decode cX7_number 46 = .ok (.getfield 13, 3) := by decide +kernel
theorem dX7_number_49 : decode cX7_number 49 = .ok (.aload_n 0, 1) := by decide +kernel
theorem dX7_number_50 : decode cX7_number 50 = .ok (.getfield 66, 3) := by decide +kernel
theorem dX7_number_53 : decode cX7_number 53 = .ok (.iaload, 1) := by decide +kernel
theorem dX7_number_54 : decode cX7_number 54 = .ok (.iadd, 1) := by decide +kernel
theorem dX7_number_55 : decode cX7_number 55 = .ok (.bipush 48, 2) := by decide +kernel
theorem dX7_number_57 : decode cX7_number 57 = .ok (.isub, 1) := by decide +kernel
theorem dX7_number_58 : decode cX7_number 58 = .ok (.istore 5, 2) := by decide +kernel
theorem dX7_number_60 : decode cX7_number 60 = .ok (.aload_n 0, 1) := by decide +kernel
theorem dX7_number_61 : decode cX7_number 61 = .ok (.dup, 1) := by decide +kernel
theorem dX7_number_62 : decode cX7_number 62 = .ok (.getfield 66, 3) := by decide +kernel
theorem dX7_number_65 : decode cX7_number 65 = .ok (.iconst 1, 1) := by decide +kernel
theorem dX7_number_66 : decode cX7_number 66 = .ok (.iadd, 1) := by decide +kernel
theorem dX7_number_67 : decode cX7_number 67 = .ok (.putfield 66, 3) := by decide +kernel
theorem dX7_number_70 : decode cX7_number 70 = .ok (.iload 5, 2) := by decide +kernel
theorem dX7_number_72 : decode cX7_number 72 = .ok (.i2l, 1) := by decide +kernel
theorem dX7_number_73 : decode cX7_number 73 = .ok (.iload_n 2, 1) := by decide +kernel
theorem dX7_number_74 : decode cX7_number 74 = .ok (.i2l, 1) := by decide +kernel
theorem dX7_number_75 : decode cX7_number 75 = .ok (.iload_n 3, 1) := by decide +kernel
theorem dX7_number_76 : decode cX7_number 76 = .ok (.i2l, 1) := by decide +kernel
theorem dX7_number_77 : decode cX7_number 77 = .ok (.invokestatic 44, 3) := by decide +kernel
theorem dX7_number_80 : decode cX7_number 80 = .ok (.ifCond .eq 32, 3) := by decide +kernel
theorem dX7_number_83 : decode cX7_number 83 = .ok (.aload_n 0, 1) := by decide +kernel
theorem dX7_number_84 : decode cX7_number 84 = .ok (.getfield 66, 3) := by decide +kernel
theorem dX7_number_87 : decode cX7_number 87 = .ok (.aload_n 0, 1) := by decide +kernel
theorem dX7_number_88 : decode cX7_number 88 = .ok (.getfield 62, 3) := by decide +kernel
theorem dX7_number_91 : decode cX7_number 91 = .ok (.if_icmp .ge 21, 3) := by decide +kernel
theorem dX7_number_94 : decode cX7_number 94 = .ok (.aload_n 0, 1) := by decide +kernel
theorem dX7_number_95 : decode cX7_number 95 = .ok (.getfield 13, 3) := by decide +kernel
theorem dX7_number_98 : decode cX7_number 98 = .ok (.aload_n 0, 1) := by decide +kernel
theorem dX7_number_99 : decode cX7_number 99 = .ok (.getfield 66, 3) := by decide +kernel
theorem dX7_number_102 : decode cX7_number 102 = .ok (.iaload, 1) := by decide +kernel
theorem dX7_number_103 : decode cX7_number 103 = .ok (.iload 4, 2) := by decide +kernel
theorem dX7_number_105 : decode cX7_number 105 = .ok (.if_icmp .ne 7, 3) := by decide +kernel
theorem dX7_number_108 : decode cX7_number 108 = .ok (.iconst 1, 1) := by decide +kernel
theorem dX7_number_109 : decode cX7_number 109 = .ok (.goto 4, 3) := by decide +kernel
theorem dX7_number_112 : decode cX7_number 112 = .ok (.iconst 0, 1) := by decide +kernel
theorem dX7_number_113 : decode cX7_number 113 = .ok (.istore 6, 2) := by decide +kernel
theorem dX7_number_115 : decode cX7_number 115 = .ok (.aload_n 0, 1) := by decide +kernel
theorem dX7_number_116 : decode cX7_number 116 = .ok (.dup, 1) := by decide +kernel
theorem dX7_number_117 : decode cX7_number 117 = .ok (.getfield 66, 3) := by decide +kernel
theorem dX7_number_120 : decode cX7_number 120 = .ok (.iconst 1, 1) := by decide +kernel
theorem dX7_number_121 : decode cX7_number 121 = .ok (.iadd, 1) := by decide +kernel
theorem dX7_number_122 : decode cX7_number 122 = .ok (.putfield 66, 3) := by decide +kernel
theorem dX7_number_125 : decode cX7_number 125 = .ok (.aload_n 0, 1) := by decide +kernel
theorem dX7_number_126 : decode cX7_number 126 = .ok (.getfield 16, 3) := by decide +kernel
theorem dX7_number_129 : decode cX7_number 129 = .ok (.iload_n 1, 1) := by decide +kernel
theorem dX7_number_130 : decode cX7_number 130 = .ok (.iload 5, 2) := by decide +kernel
theorem dX7_number_132 : decode cX7_number 132 = .ok (.iastore, 1) := by decide +kernel
theorem dX7_number_133 : decode cX7_number 133 = .ok (.iload 6, 2) := by decide +kernel
theorem dX7_number_135 : decode cX7_number 135 = .ok (.ireturn, 1) := by decide +kernel
set_option maxRecDepth 20000 in
theorem ggX7_item_X7_number : GoodIn wsX7_item wsX7_number := goodIn_r _ [8, 1, 2, 9, 3, 10, 11, 12, 7, 13, 14, 15, 16, 17, 18, 19, 20, 21, 22, 23, 24, 25, 26, 27, 28, 29, 30, 31, 32, 33, 34, 35] (by decide +kernel) (by decide +kernel)
set_option maxRecDepth 20000 in
theorem gX7_item_X7_number : GoodIn wsX7_item (wsV RX7 77 RX7 yX7_number wsX7_number) := goodIn_app (goodIn_of _ (by decide +kernel)) ggX7_item_X7_number
theorem dX7_item_0 : decode cX7_item 0 = .ok (.aload_n 0, 1) := by decide +kernel
theorem dX7_item_1 : decode cX7_item 1 = .ok (.getfield 13, 3) := by decide +kernel
theorem dX7_item_4 : decode cX7_item 4 = .ok (.aload_n 0, 1) := by decide +kernel
theorem dX7_item_5 : decode cX7_item 5 = .ok (.getfield 66, 3) := by decide +kernel
theorem dX7_item_8 : decode cX7_item 8 = .ok (.iaload, 1) := by decide +kernel
theorem dX7_item_9 : decode cX7_item 9 = .ok (.istore_n 1, 1) := by decide +kernel
theorem dX7_item_10 : decode cX7_item 10 = .ok (.aload_n 0, 1) := by decide +kernel
theorem dX7_item_11 : decode cX7_item 11 = .ok (.dup, 1) := by decide +kernel
theorem dX7_item_12 : decode cX7_item 12 = .ok (.getfield 66, 3) := by decide +kernel
theorem dX7_item_15 : decode cX7_item 15 = .ok (.iconst 1, 1) := by decide +kernel
theorem dX7_item_16 : decode cX7_item 16 = .ok (.iadd, 1) := by decide +kernel
theorem dX7_item_17 : decode cX7_item 17 = .ok (.putfield 66, 3) := by decide +kernel
theorem dX7_item_20 : decode cX7_item 20 = .ok (.iload_n 1, 1) := by decide +kernel
theorem dX7_item_21 : decode cX7_item 21 = .ok (.bipush 112, 2) := by decide +kernel
theorem dX7_item_23 : decode cX7_item 23 = .ok (.if_icmp .ne 81, 3) := by decide +kernel
theorem dX7_item_26 : decode cX7_item 26 = .ok (.iconst 4, 1) := by decide +kernel
theorem dX7_item_27 : decode cX7_item 27 = .ok (.iconst 3, 1) := by decide +kernel
theorem dX7_item_28 : decode cX7_item 28 = .ok (.aload_n 0, 1) := by decide +kernel
theorem dX7_item_29 : decode cX7_item 29 = .ok (.getfield 16, 3) := by decide +kernel
theorem dX7_item_32 : decode cX7_item 32 = .ok (.iconst 0, 1) := by decide +kernel
theorem dX7_item_33 : decode cX7_item 33 = .ok (.iaload, 1) := by decide +kernel
theorem dX7_item_34 : decode cX7_item 34 = .ok (.imul, 1) := by decide +kernel
theorem dX7_item_35 : decode cX7_item 35 = .ok (.iadd, 1) := by decide +kernel
theorem dX7_item_36 : decode cX7_item 36 = .ok (.istore_n 2, 1) := by decide +kernel
theorem dX7_item_37 : decode cX7_item 37 = .ok (.aload_n 0, 1) := by decide +kernel
theorem dX7_item_38 : decode cX7_item 38 = .ok (.getfield 16, 3) := by decide +kernel
theorem dX7_item_41 : decode cX7_item 41 = .ok (.iconst 0, 1) := by decide +kernel
theorem dX7_item_42 : decode cX7_item 42 = .ok (.iaload, 1) := by decide +kernel
theorem dX7_item_43 : decode cX7_item 43 = .ok (.bipush 8, 2) := by decide +kernel
theorem dX7_item_45 : decode cX7_item 45 = .ok (.if_icmp .eq 45, 3) := by decide +kernel
theorem dX7_item_48 : decode cX7_item 48 = .ok (.aload_n 0, 1) := by decide +kernel
theorem dX7_item_49 : decode cX7_item 49 = .ok (.iload_n 2, 1) := by decide +kernel
theorem dX7_item_50 : decode cX7_item 50 = .ok (.iconst 0, 1) := by decide +kernel
theorem dX7_item_51 : decode cX7_item 51 = .ok (.iconst 3, 1) := by decide +kernel
theorem dX7_item_52 : decode cX7_item 52 = .ok (.bipush 44, 2) := by decide +kernel
theorem dX7_item_54 : decode cX7_item 54 = .ok (.invokevirtual 77, 3) := by decide +kernel
theorem dX7_item_57 : decode cX7_item 57 = .ok (.ifCond .eq 33, 3) := by decide +kernel
theorem dX7_item_60 : decode cX7_item 60 = .ok (.aload_n 0, 1) := by decide +kernel
theorem dX7_item_61 : decode cX7_item 61 = .ok (.iload_n 2, 1) := by decide +kernel
theorem dX7_item_62 : decode cX7_item 62 = .ok (.iconst 1, 1) := by decide +kernel
theorem dX7_item_63 : decode cX7_item 63 = .ok (.iadd, 1) := by decide +kernel
theorem dX7_item_64 : decode cX7_item 64 = .ok (.iconst 1, 1) := by decide +kernel
theorem dX7_item_65 : decode cX7_item 65 = .ok (.bipush 20, 2) := by decide +kernel
theorem dX7_item_67 : decode cX7_item 67 = .ok (.bipush 44, 2) := by decide +kernel
theorem dX7_item_69 : decode cX7_item 69 = .ok (.invokevirtual 77, 3) := by decide +kernel
theorem dX7_item_72 : decode cX7_item 72 = .ok (.ifCond .eq 18, 3) := by decide +kernel
theorem dX7_item_75 : decode cX7_item 75 = .ok (.aload_n 0, 1) := by decide +kernel
theorem dX7_item_76 : decode cX7_item 76 = .ok (.iload_n 2, 1) := by decide +kernel
theorem dX7_item_77 : decode cX7_item 77 = .ok (.iconst 2, 1) := by decide +kernel
theorem dX7_item_78 : decode cX7_item 78 = .ok (.iadd, 1) := by decide +kernel
theorem dX7_item_79 : decode cX7_item 79 = .ok (.iconst 1, 1) := by decide +kernel
theorem dX7_item_80 : decode cX7_item 80 = .ok (.bipush 9, 2) := by decide +kernel
theorem dX7_item_82 : decode cX7_item 82 = .ok (.bipush 59, 2) := by decide +kernel
theorem dX7_item_84 : decode cX7_item 84 = .ok (.invokevirtual 77, 3) := by decide +kernel
theorem dX7_item_87 : decode cX7_item 87 = .ok (.ifCond .ne 5, 3) := by decide +kernel
theorem dX7_item_90 : decode cX7_item 90 = .ok (.iconst 0, 1) := by decide +kernel
theorem dX7_item_91 : decode cX7_item 91 = .ok (.ireturn, 1) := by decide +kernel
theorem dX7_item_92 : decode cX7_item 92 = .ok (.aload_n 0, 1) := by decide +kernel
theorem dX7_item_93 : decode cX7_item 93 = .ok (.getfield 16, 3) := by decide +kernel
theorem dX7_item_96 : decode cX7_item 96 = .ok (.iconst 0, 1) := by decide +kernel
theorem dX7_item_97 : decode cX7_item 97 = .ok (.dup2, 1) := by decide +kernel
theorem dX7_item_98 : decode cX7_item 98 = .ok (.iaload, 1) := by decide +kernel
theorem dX7_item_99 : decode cX7_item 99 = .ok (.iconst 1, 1) := by decide +kernel
theorem dX7_item_100 : decode cX7_item 100 = .ok (.iadd, 1) := by decide +kernel
theorem dX7_item_101 : decode cX7_item 101 = .ok (.iastore, 1) := by decide +kernel
theorem dX7_item_102 : decode cX7_item 102 = .ok (.iconst 1, 1) := by decide +kernel
theorem dX7_item_103 : decode cX7_item 103 = .ok (.ireturn, 1) := by decide +kernel
theorem dX7_item_104 : decode cX7_item 104 = .ok (.iload_n 1, 1) := by decide +kernel
theorem dX7_item_105 : decode cX7_item 105 = .ok (.bipush 115, 2) := by decide +kernel
theorem dX7_item_107 : decode cX7_item 107 = .ok (.if_icmp .ne 37, 3) := by decide +kernel
theorem dX7_item_110 : decode cX7_item 110 = .ok (.aload_n 0, 1) := by decide +kernel
theorem dX7_item_111 : decode cX7_item 111 = .ok (.iconst 1, 1) := by decide +kernel
theorem dX7_item_112 : decode cX7_item 112 = .ok (.iconst 1, 1) := by decide +kernel
theorem dX7_item_113 : decode cX7_item 113 = .ok (.bipush 9, 2) := by decide +kernel
theorem dX7_item_115 : decode cX7_item 115 = .ok (.bipush 44, 2) := by decide +kernel
theorem dX7_item_117 : decode cX7_item 117 = .ok (.invokevirtual 77, 3) := by decide +kernel
theorem dX7_item_120 : decode cX7_item 120 = .ok (.ifCond .eq 20, 3) := by decide +kernel
theorem dX7_item_123 : decode cX7_item 123 = .ok (.aload_n 0, 1) := by decide +kernel
theorem dX7_item_124 : decode cX7_item 124 = .ok (.iconst 2, 1) := by decide +kernel
theorem dX7_item_125 : decode cX7_item 125 = .ok (.iconst 1, 1) := by decide +kernel
theorem dX7_item_126 : decode cX7_item 126 = .ok (.bipush 9, 2) := by decide +kernel
theorem dX7_item_128 : decode cX7_item 128 = .ok (.bipush 59, 2) := by decide +kernel
theorem dX7_item_130 : decode cX7_item 130 = .ok (.invokevirtual 77, 3) := by decide +kernel
theorem dX7_item_133 : decode cX7_item 133 = .ok (.ifCond .eq 7, 3) := by decide +kernel
theorem dX7_item_136 : decode cX7_item 136 = .ok (.iconst 1, 1) := by decide +kernel
theorem dX7_item_137 : decode cX7_item 137 = .ok (.goto 31, 3) := by decide +kernel
theorem dX7_item_140 : decode cX7_item 140 = .ok (.iconst 0, 1) := by decide +kernel
theorem dX7_item_141 : decode cX7_item 141 = .ok (.goto 27, 3) := by decide +kernel
theorem dX7_item_144 : decode cX7_item 144 = .ok (.iload_n 1, 1) := by decide +kernel
theorem dX7_item_145 : decode cX7_item 145 = .ok (.bipush 100, 2) := by decide +kernel
theorem dX7_item_147 : decode cX7_item 147 = .ok (.if_icmp .ne 20, 3) := by decide +kernel
theorem dX7_item_150 : decode cX7_item 150 = .ok (.aload_n 0, 1) := by decide +kernel
theorem dX7_item_151 : decode cX7_item 151 = .ok (.iconst 3, 1) := by decide +kernel
theorem dX7_item_152 : decode cX7_item 152 = .ok (.iconst 0, 1) := by decide +kernel
theorem dX7_item_153 : decode cX7_item 153 = .ok (.bipush 20, 2) := by decide +kernel
theorem dX7_item_155 : decode cX7_item 155 = .ok (.bipush 59, 2) := by decide +kernel
theorem dX7_item_157 : decode cX7_item 157 = .ok (.invokevirtual 77, 3) := by decide +kernel
theorem dX7_item_160 : decode cX7_item 160 = .ok (.ifCond .eq 7, 3) := by decide +kernel
theorem dX7_item_163 : decode cX7_item 163 = .ok (.iconst 1, 1) := by decide +kernel
theorem dX7_item_164 : decode cX7_item 164 = .ok (.goto 4, 3) := by decide +kernel
theorem dX7_item_167 : decode cX7_item 167 = .ok (.iconst 0, 1) := by decide +kernel
theorem dX7_item_168 : decode cX7_item 168 = .ok (.ireturn, 1) := by decide +kernel
set_option maxRecDepth 20000 in
theorem ggX7_fault_X7_item : GoodIn wsX7_fault wsX7_item := goodIn_r _ [8, 9, 2, 1, 10, 11, 12, 7, 13, 3, 14, 15, 16, 17, 18, 19, 20, 21, 22, 23, 24, 25, 26, 27, 28, 29, 30, 31, 32, 33, 34, 35, 36, 37, 38, 39] (by decide +kernel) (by decide +kernel)
set_option maxRecDepth 20000 in
theorem gX7_fault_X7_item : GoodIn wsX7_fault (wsV RX7 81 RX7 yX7_item wsX7_item) := goodIn_app (goodIn_of _ (by decide +kernel)) ggX7_fault_X7_item
theorem dX7_fault_0 : decode cX7_fault 0 = .ok (.iconst 0, 1) := by decide +kernel
theorem dX7_fault_1 : decode cX7_fault 1 = .ok (.istore_n 1, 1) := by decide +kernel
theorem dX7_fault_2 : decode cX7_fault 2 = .ok (.iload_n 1, 1) := by decide +kernel
theorem dX7_fault_3 : decode cX7_fault 3 = .ok (.bipush 28, 2) := by decide +kernel
theorem dX7_fault_5 : decode cX7_fault 5 = .ok (.if_icmp .ge 29, 3) := by decide +kernel
theorem dX7_fault_8 : decode cX7_fault 8 = .ok (.aload_n 0, 1) := by decide +kernel
theorem dX7_fault_9 : decode cX7_fault 9 = .ok (.getfield 16, 3) := by decide +kernel
theorem dX7_fault_12 : decode cX7_fault 12 = .ok (.iload_n 1, 1) := by decide +kernel
theorem dX7_fault_13 : decode cX7_fault 13 = .ok (.iload_n 1, 1) := by decide +kernel
theorem dX7_fault_14 : decode cX7_fault 14 = .ok (.ifCond .le 12, 3) := by decide +kernel
theorem dX7_fault_17 : decode cX7_fault 17 = .ok (.iload_n 1, 1) := by decide +kernel
theorem dX7_fault_18 : decode cX7_fault 18 = .ok (.iconst 4, 1) := by decide +kernel
theorem dX7_fault_19 : decode cX7_fault 19 = .ok (.if_icmp .ge 7, 3) := by decide +kernel
theorem dX7_fault_22 : decode cX7_fault 22 = .ok (.iconst 2, 1) := by decide +kernel
theorem dX7_fault_23 : decode cX7_fault 23 = .ok (.goto 4, 3) := by decide +kernel
theorem dX7_fault_26 : decode cX7_fault 26 = .ok (.iconst 0, 1) := by decide +kernel
theorem dX7_fault_27 : decode cX7_fault 27 = .ok (.iastore, 1) := by decide +kernel
theorem dX7_fault_28 : decode cX7_fault 28 = .ok (.iinc 1 1, 3) := by decide +kernel
theorem dX7_fault_31 : decode cX7_fault 31 = .ok (.goto (-29), 3) := by decide +kernel
theorem dX7_fault_34 : decode cX7_fault 34 = .ok (.aload_n 0, 1) := by decide +kernel
theorem dX7_fault_35 : decode cX7_fault 35 = .ok (.iconst 0, 1) := by decide +kernel
theorem dX7_fault_36 : decode cX7_fault 36 = .ok (.putfield 66, 3) := by decide +kernel
theorem dX7_fault_39 : decode cX7_fault 39 = .ok (.aload_n 0, 1) := by decide +kernel
theorem dX7_fault_40 : decode cX7_fault 40 = .ok (.getfield 66, 3) := by decide +kernel
theorem dX7_fault_43 : decode cX7_fault 43 = .ok (.aload_n 0, 1) := by decide +kernel
theorem dX7_fault_44 : decode cX7_fault 44 = .ok (.getfield 62, 3) := by decide +kernel
theorem dX7_fault_47 : decode cX7_fault 47 = .ok (.if_icmp .ge 20, 3) := by decide +kernel
theorem dX7_fault_50 : decode cX7_fault 50 = .ok (.aload_n 0, 1) := by decide +kernel
theorem dX7_fault_51 : decode cX7_fault 51 = .ok (.getfield 66, 3) := by decide +kernel
theorem dX7_fault_54 : decode cX7_fault 54 = .ok (.istore_n 1, 1) := by decide +kernel
theorem dX7_fault_55 : decode cX7_fault 55 = .ok (.aload_n 0, 1) := by decide +kernel
theorem dX7_fault_56 : decode cX7_fault 56 = .ok (.invokevirtual 81, 3) := by decide +kernel
theorem dX7_fault_59 : decode cX7_fault 59 = .ok (.ifCond .ne 5, 3) := by decide +kernel
theorem dX7_fault_62 : decode cX7_fault 62 = .ok (.iload_n 1, 1) := by decide +kernel
theorem dX7_fault_63 : decode cX7_fault 63 = .ok (.ireturn, 1) := by decide +kernel
theorem dX7_fault_64 : decode cX7_fault 64 = .ok (.goto (-25), 3) := by decide +kernel
theorem dX7_fault_67 : decode cX7_fault 67 = .ok (.bipush (-4), 2) := by decide +kernel
theorem dX7_fault_69 : decode cX7_fault 69 = .ok (.ireturn, 1) := by decide +kernel
set_option maxRecDepth 20000 in
theorem ggX7_lay_X7_fault : GoodIn wsX7_lay wsX7_fault := goodIn_r _ [10, 1, 11, 12, 13, 14, 15, 9, 16, 17, 18, 19, 20, 21, 22, 23, 24, 25, 26, 27, 28, 29, 30, 31, 32, 33, 34, 35, 36, 37, 38, 39, 40, 41, 42, 43, 44, 45, 46, 47] (by decide +kernel) (by decide +kernel)
set_option maxRecDepth 20000 in
theorem gX7_lay_X7_fault : GoodIn wsX7_lay (wsV RX7 84 RX7 yX7_fault wsX7_fault) := goodIn_app (goodIn_of _ (by decide +kernel)) ggX7_lay_X7_fault
theorem dX7_lay_0 : decode cX7_lay 0 = .ok (.aload_n 0, 1) := by decide +kernel
theorem dX7_lay_1 : decode cX7_lay 1 = .ok (.invokevirtual 84, 3) := by decide +kernel
theorem dX7_lay_4 : decode cX7_lay 4 = .ok (.bipush (-4), 2) := by decide +kernel
theorem dX7_lay_6 : decode cX7_lay 6 = .ok (.if_icmp .ne 12, 3) := by decide +kernel
theorem dX7_lay_9 : decode cX7_lay 9 = .ok (.aload_n 0, 1) := by decide +kernel
theorem dX7_lay_10 : decode cX7_lay 10 = .ok (.getfield 16, 3) := by decide +kernel
theorem dX7_lay_13 : decode cX7_lay 13 = .ok (.iconst 0, 1) := by decide +kernel
theorem dX7_lay_14 : decode cX7_lay 14 = .ok (.iaload, 1) := by decide +kernel
theorem dX7_lay_15 : decode cX7_lay 15 = .ok (.ifCond .ne 6, 3) := by decide +kernel
theorem dX7_lay_18 : decode cX7_lay 18 = .ok (.bipush (-2), 2) := by decide +kernel
theorem dX7_lay_20 : decode cX7_lay 20 = .ok (.ireturn, 1) := by decide +kernel
theorem dX7_lay_21 : decode cX7_lay 21 = .ok (.iconst 0, 1) := by decide +kernel
theorem dX7_lay_22 : decode cX7_lay 22 = .ok (.istore_n 1, 1) := by decide +kernel
theorem dX7_lay_23 : decode cX7_lay 23 = .ok (.iload_n 1, 1) := by decide +kernel
theorem dX7_lay_24 : decode cX7_lay 24 = .ok (.bipush 28, 2) := by decide +kernel
theorem dX7_lay_26 : decode cX7_lay 26 = .ok (.if_icmp .ge 21, 3) := by decide +kernel
theorem dX7_lay_29 : decode cX7_lay 29 = .ok (.aload_n 0, 1) := by decide +kernel
theorem dX7_lay_30 : decode cX7_lay 30 = .ok (.getfield 7, 3) := by decide +kernel
theorem dX7_lay_33 : decode cX7_lay 33 = .ok (.iload_n 1, 1) := by decide +kernel
theorem dX7_lay_34 : decode cX7_lay 34 = .ok (.aload_n 0, 1) := by decide +kernel
theorem dX7_lay_35 : decode cX7_lay 35 = .ok (.getfield 16, 3) := by decide +kernel
theorem dX7_lay_38 : decode cX7_lay 38 = .ok (.iload_n 1, 1) := by decide +kernel
theorem dX7_lay_39 : decode cX7_lay 39 = .ok (.iaload, 1) := by decide +kernel
theorem dX7_lay_40 : decode cX7_lay 40 = .ok (.iastore, 1) := by decide +kernel
theorem dX7_lay_41 : decode cX7_lay 41 = .ok (.iinc 1 1, 3) := by decide +kernel
theorem dX7_lay_44 : decode cX7_lay 44 = .ok (.goto (-21), 3) := by decide +kernel
theorem dX7_lay_47 : decode cX7_lay 47 = .ok (.aload_n 0, 1) := by decide +kernel
theorem dX7_lay_48 : decode cX7_lay 48 = .ok (.iconst 0, 1) := by decide +kernel
theorem dX7_lay_49 : decode cX7_lay 49 = .ok (.putfield 88, 3) := by decide +kernel
theorem dX7_lay_52 : decode cX7_lay 52 = .ok (.aload_n 0, 1) := by decide +kernel
theorem dX7_lay_53 : decode cX7_lay 53 = .ok (.iconst 0, 1) := by decide +kernel
theorem dX7_lay_54 : decode cX7_lay 54 = .ok (.putfield 91, 3) := by decide +kernel
theorem dX7_lay_57 : decode cX7_lay 57 = .ok (.aload_n 0, 1) := by decide +kernel
theorem dX7_lay_58 : decode cX7_lay 58 = .ok (.iconst 0, 1) := by decide +kernel
theorem dX7_lay_59 : decode cX7_lay 59 = .ok (.putfield 94, 3) := by decide +kernel
theorem dX7_lay_62 : decode cX7_lay 62 = .ok (.aload_n 0, 1) := by decide +kernel
theorem dX7_lay_63 : decode cX7_lay 63 = .ok (.getfield 7, 3) := by decide +kernel
theorem dX7_lay_66 : decode cX7_lay 66 = .ok (.iconst 0, 1) := by decide +kernel
theorem dX7_lay_67 : decode cX7_lay 67 = .ok (.iaload, 1) := by decide +kernel
theorem dX7_lay_68 : decode cX7_lay 68 = .ok (.ireturn, 1) := by decide +kernel
theorem dX7_notes_0 : decode cX7_notes 0 = .ok (.aload_n 0, 1) := by decide +kernel
theorem dX7_notes_1 : decode cX7_notes 1 = .ok (.getfield 91, 3) := by decide +kernel
theorem dX7_notes_4 : decode cX7_notes 4 = .ok (.bipush 8, 2) := by decide +kernel
theorem dX7_notes_6 : decode cX7_notes 6 = .ok (.if_icmp .ne 40, 3) := by decide +kernel
theorem dX7_notes_9 : decode cX7_notes 9 = .ok (.bipush 28, 2) := by decide +kernel
theorem dX7_notes_11 : decode cX7_notes 11 = .ok (.istore_n 1, 1) := by decide +kernel
theorem dX7_notes_12 : decode cX7_notes 12 = .ok (.iload_n 1, 1) := by decide +kernel
theorem dX7_notes_13 : decode cX7_notes 13 = .ok (.sipush 224, 3) := by decide +kernel
theorem dX7_notes_16 : decode cX7_notes 16 = .ok (.if_icmp .ge 24, 3) := by decide +kernel
theorem dX7_notes_19 : decode cX7_notes 19 = .ok (.aload_n 0, 1) := by decide +kernel
theorem dX7_notes_20 : decode cX7_notes 20 = .ok (.getfield 19, 3) := by decide +kernel
theorem dX7_notes_23 : decode cX7_notes 23 = .ok (.iload_n 1, 1) := by decide +kernel
theorem dX7_notes_24 : decode cX7_notes 24 = .ok (.bipush 28, 2) := by decide +kernel
theorem dX7_notes_26 : decode cX7_notes 26 = .ok (.isub, 1) := by decide +kernel
theorem dX7_notes_27 : decode cX7_notes 27 = .ok (.aload_n 0, 1) := by decide +kernel
theorem dX7_notes_28 : decode cX7_notes 28 = .ok (.getfield 19, 3) := by decide +kernel
theorem dX7_notes_31 : decode cX7_notes 31 = .ok (.iload_n 1, 1) := by decide +kernel
theorem dX7_notes_32 : decode cX7_notes 32 = .ok (.iaload, 1) := by decide +kernel
theorem dX7_notes_33 : decode cX7_notes 33 = .ok (.iastore, 1) := by decide +kernel
theorem dX7_notes_34 : decode cX7_notes 34 = .ok (.iinc 1 1, 3) := by decide +kernel
theorem dX7_notes_37 : decode cX7_notes 37 = .ok (.goto (-25), 3) := by decide +kernel
theorem dX7_notes_40 : decode cX7_notes 40 = .ok (.aload_n 0, 1) := by decide +kernel
theorem dX7_notes_41 : decode cX7_notes 41 = .ok (.bipush 7, 2) := by decide +kernel
theorem dX7_notes_43 : decode cX7_notes 43 = .ok (.putfield 91, 3) := by decide +kernel
theorem dX7_notes_46 : decode cX7_notes 46 = .ok (.iconst 0, 1) := by decide +kernel
theorem dX7_notes_47 : decode cX7_notes 47 = .ok (.istore_n 1, 1) := by decide +kernel
theorem dX7_notes_48 : decode cX7_notes 48 = .ok (.iload_n 1, 1) := by decide +kernel
theorem dX7_notes_49 : decode cX7_notes 49 = .ok (.bipush 28, 2) := by decide +kernel
theorem dX7_notes_51 : decode cX7_notes 51 = .ok (.if_icmp .ge 29, 3) := by decide +kernel
theorem dX7_notes_54 : decode cX7_notes 54 = .ok (.aload_n 0, 1) := by decide +kernel
theorem dX7_notes_55 : decode cX7_notes 55 = .ok (.getfield 19, 3) := by decide +kernel
theorem dX7_notes_58 : decode cX7_notes 58 = .ok (.bipush 28, 2) := by decide +kernel
theorem dX7_notes_60 : decode cX7_notes 60 = .ok (.aload_n 0, 1) := by decide +kernel
theorem dX7_notes_61 : decode cX7_notes 61 = .ok (.getfield 91, 3) := by decide +kernel
theorem dX7_notes_64 : decode cX7_notes 64 = .ok (.imul, 1) := by decide +kernel
theorem dX7_notes_65 : decode cX7_notes 65 = .ok (.iload_n 1, 1) := by decide +kernel
theorem dX7_notes_66 : decode cX7_notes 66 = .ok (.iadd, 1) := by decide +kernel
theorem dX7_notes_67 : decode cX7_notes 67 = .ok (.aload_n 0, 1) := by decide +kernel
theorem dX7_notes_68 : decode cX7_notes 68 = .ok (.getfield 7, 3) := by decide +kernel
theorem dX7_notes_71 : decode cX7_notes 71 = .ok (.iload_n 1, 1) := by decide +kernel
theorem dX7_notes_72 : decode cX7_notes 72 = .ok (.iaload, 1) := by decide +kernel
theorem dX7_notes_73 : decode cX7_notes 73 = .ok (.iastore, 1) := by decide +kernel
theorem dX7_notes_74 : decode cX7_notes 74 = .ok (.iinc 1 1, 3) := by decide +kernel
theorem dX7_notes_77 : decode cX7_notes 77 = .ok (.goto (-29), 3) := by decide +kernel
theorem dX7_notes_80 : decode cX7_notes 80 = .ok (.aload_n 0, 1) := by decide +kernel
theorem dX7_notes_81 : decode cX7_notes 81 = .ok (.dup, 1) := by decide +kernel
theorem dX7_notes_82 : decode cX7_notes 82 = .ok (.getfield 91, 3) := by decide +kernel
theorem dX7_notes_85 : decode cX7_notes 85 = .ok (.iconst 1, 1) := by decide +kernel
theorem dX7_notes_86 : decode cX7_notes 86 = .ok (.iadd, 1) := by decide +kernel
theorem dX7_notes_87 : decode cX7_notes 87 = .ok (.putfield 91, 3) := by decide +kernel
theorem dX7_notes_90 : decode cX7_notes 90 = .ok (.return_, 1) := by decide +kernel
set_option maxRecDepth 20000 in
theorem ggX7_come_X7_in : GoodIn wsX7_come wsX7_in := goodIn_r _ [9] (by decide +kernel) (by decide +kernel)
set_option maxRecDepth 20000 in
theorem gX7_come_X7_in : GoodIn wsX7_come (va_wsS RX7 44 yX7_in wsX7_in) := goodIn_app (goodIn_of _ (by decide +kernel)) ggX7_come_X7_in
set_option maxRecDepth 20000 in
theorem ggX7_come_X7_notes : GoodIn wsX7_come wsX7_notes := goodIn_r _ [13, 14, 15, 4, 20, 21, 22, 23, 24, 25, 26, 27, 28, 29, 30, 31, 32, 33, 34, 35, 36] (by decide +kernel) (by decide +kernel)
set_option maxRecDepth 20000 in
theorem gX7_come_X7_notes : GoodIn wsX7_come (wsV RX7 101 RX7 yX7_notes wsX7_notes) := goodIn_app (goodIn_of _ (by decide +kernel)) ggX7_come_X7_notes
set_option maxRecDepth 20000 in
theorem ggX7_come_X7_stands : GoodIn wsX7_come wsX7_stands := goodIn_r _ [19, 4, 20, 21, 22, 23, 24, 25, 26, 27, 28, 29, 30, 31, 32, 33, 34, 35, 36] (by decide +kernel) (by decide +kernel)
set_option maxRecDepth 20000 in
theorem gX7_come_X7_stands : GoodIn wsX7_come (wsV RX7 40 RX7 yX7_stands wsX7_stands) := goodIn_app (goodIn_of _ (by decide +kernel)) ggX7_come_X7_stands
theorem dX7_come_0 : decode cX7_come 0 = .ok (.iload_n 1, 1) := by decide +kernel
theorem dX7_come_1 : decode cX7_come 1 = .ok (.i2l, 1) := by decide +kernel
theorem dX7_come_2 : decode cX7_come 2 = .ok (.lconst 0, 1) := by decide +kernel
theorem dX7_come_3 : decode cX7_come 3 = .ok (.ldc2_w 52, 3) := by decide +kernel
theorem dX7_come_6 : decode cX7_come 6 = .ok (.invokestatic 44, 3) := by decide +kernel
theorem dX7_come_9 : decode cX7_come 9 = .ok (.ifCond .eq 27, 3) := by decide +kernel
theorem dX7_come_12 : decode cX7_come 12 = .ok (.iload_n 2, 1) := by decide +kernel
theorem dX7_come_13 : decode cX7_come 13 = .ok (.i2l, 1) := by decide +kernel
theorem dX7_come_14 : decode cX7_come 14 = .ok (.lconst 1, 1) := by decide +kernel
theorem dX7_come_15 : decode cX7_come 15 = .ok (.ldc2_w 97, 3) := by decide +kernel
theorem dX7_come_18 : decode cX7_come 18 = .ok (.invokestatic 44, 3) := by decide +kernel
theorem dX7_come_21 : decode cX7_come 21 = .ok (.ifCond .eq 15, 3) := by decide +kernel
theorem dX7_come_24 : decode cX7_come 24 = .ok (.iload_n 3, 1) := by decide +kernel
theorem dX7_come_25 : decode cX7_come 25 = .ok (.i2l, 1) := by decide +kernel
theorem dX7_come_26 : decode cX7_come 26 = .ok (.lconst 1, 1) := by decide +kernel
theorem dX7_come_27 : decode cX7_come 27 = .ok (.ldc2_w 99, 3) := by decide +kernel
theorem dX7_come_30 : decode cX7_come 30 = .ok (.invokestatic 44, 3) := by decide +kernel
theorem dX7_come_33 : decode cX7_come 33 = .ok (.ifCond .ne 5, 3) := by decide +kernel
theorem dX7_come_36 : decode cX7_come 36 = .ok (.iconst (-1), 1) := by decide +kernel
theorem dX7_come_37 : decode cX7_come 37 = .ok (.ireturn, 1) := by decide +kernel
theorem dX7_come_38 : decode cX7_come 38 = .ok (.aload_n 0, 1) := by decide +kernel
theorem dX7_come_39 : decode cX7_come 39 = .ok (.getfield 7, 3) := by decide +kernel
theorem dX7_come_42 : decode cX7_come 42 = .ok (.iconst 0, 1) := by decide +kernel
theorem dX7_come_43 : decode cX7_come 43 = .ok (.iaload, 1) := by decide +kernel
theorem dX7_come_44 : decode cX7_come 44 = .ok (.bipush 8, 2) := by decide +kernel
theorem dX7_come_46 : decode cX7_come 46 = .ok (.if_icmp .ne 6, 3) := by decide +kernel
theorem dX7_come_49 : decode cX7_come 49 = .ok (.bipush (-3), 2) := by decide +kernel
theorem dX7_come_51 : decode cX7_come 51 = .ok (.ireturn, 1) := by decide +kernel
theorem dX7_come_52 : decode cX7_come 52 = .ok (.aload_n 0, 1) := by decide +kernel
theorem dX7_come_53 : decode cX7_come 53 = .ok (.invokevirtual 101, 3) := by decide +kernel
theorem dX7_come_56 : decode cX7_come 56 = .ok (.aload_n 0, 1) := by decide +kernel
theorem dX7_come_57 : decode cX7_come 57 = .ok (.iload_n 1, 1) := by decide +kernel
theorem dX7_come_58 : decode cX7_come 58 = .ok (.iload_n 2, 1) := by decide +kernel
theorem dX7_come_59 : decode cX7_come 59 = .ok (.iload_n 3, 1) := by decide +kernel
theorem dX7_come_60 : decode cX7_come 60 = .ok (.invokevirtual 40, 3) := by decide +kernel
theorem dX7_come_63 : decode cX7_come 63 = .ok (.aload_n 0, 1) := by decide +kernel
theorem dX7_come_64 : decode cX7_come 64 = .ok (.iconst 0, 1) := by decide +kernel
theorem dX7_come_65 : decode cX7_come 65 = .ok (.putfield 88, 3) := by decide +kernel
theorem dX7_come_68 : decode cX7_come 68 = .ok (.aload_n 0, 1) := by decide +kernel
theorem dX7_come_69 : decode cX7_come 69 = .ok (.getfield 7, 3) := by decide +kernel
theorem dX7_come_72 : decode cX7_come 72 = .ok (.iconst 0, 1) := by decide +kernel
theorem dX7_come_73 : decode cX7_come 73 = .ok (.iaload, 1) := by decide +kernel
theorem dX7_come_74 : decode cX7_come 74 = .ok (.ireturn, 1) := by decide +kernel
set_option maxRecDepth 20000 in
theorem ggX7_leave_X7_isPerson : GoodIn wsX7_leave wsX7_isPerson := goodIn_r _ [7, 2, 8, 9, 6, 10, 21, 22, 23, 24, 25, 26, 27, 28, 29, 30, 31, 32, 33, 34, 35, 36, 37] (by decide +kernel) (by decide +kernel)
set_option maxRecDepth 20000 in
theorem gX7_leave_X7_isPerson : GoodIn wsX7_leave (wsV RX7 48 RX7 yX7_isPerson wsX7_isPerson) := goodIn_app (goodIn_of _ (by decide +kernel)) ggX7_leave_X7_isPerson
set_option maxRecDepth 20000 in
theorem ggX7_leave_X7_notes : GoodIn wsX7_leave wsX7_notes := goodIn_r _ [14, 15, 16, 2, 21, 22, 23, 24, 25, 26, 27, 28, 29, 30, 31, 32, 33, 34, 35, 36, 37] (by decide +kernel) (by decide +kernel)
set_option maxRecDepth 20000 in
theorem gX7_leave_X7_notes : GoodIn wsX7_leave (wsV RX7 101 RX7 yX7_notes wsX7_notes) := goodIn_app (goodIn_of _ (by decide +kernel)) ggX7_leave_X7_notes
set_option maxRecDepth 20000 in
theorem ggX7_leave_X7_goesAway : GoodIn wsX7_leave wsX7_goesAway := goodIn_r _ [20, 2, 21, 22, 23, 24, 25, 26, 27, 28, 29, 30, 31, 32, 33, 34, 35, 36, 37] (by decide +kernel) (by decide +kernel)
set_option maxRecDepth 20000 in
theorem gX7_leave_X7_goesAway : GoodIn wsX7_leave (wsV RX7 104 RX7 yX7_goesAway wsX7_goesAway) := goodIn_app (goodIn_of _ (by decide +kernel)) ggX7_leave_X7_goesAway
theorem dX7_leave_0 : decode cX7_leave 0 = .ok (.aload_n 0, 1) := by decide +kernel
theorem dX7_leave_1 : decode cX7_leave 1 = .ok (.iload_n 1, 1) := by decide +kernel
theorem dX7_leave_2 : decode cX7_leave 2 = .ok (.invokevirtual 48, 3) := by decide +kernel
theorem dX7_leave_5 : decode cX7_leave 5 = .ok (.ifCond .ne 5, 3) := by decide +kernel
theorem dX7_leave_8 : decode cX7_leave 8 = .ok (.iconst (-1), 1) := by decide +kernel
theorem dX7_leave_9 : decode cX7_leave 9 = .ok (.ireturn, 1) := by decide +kernel
theorem dX7_leave_10 : decode cX7_leave 10 = .ok (.aload_n 0, 1) := by decide +kernel
theorem dX7_leave_11 : decode cX7_leave 11 = .ok (.invokevirtual 101, 3) := by decide +kernel
theorem dX7_leave_14 : decode cX7_leave 14 = .ok (.aload_n 0, 1) := by decide +kernel
theorem dX7_leave_15 : decode cX7_leave 15 = .ok (.iload_n 1, 1) := by decide +kernel
theorem dX7_leave_16 : decode cX7_leave 16 = .ok (.invokevirtual 104, 3) := by decide +kernel
theorem dX7_leave_19 : decode cX7_leave 19 = .ok (.aload_n 0, 1) := by decide +kernel
theorem dX7_leave_20 : decode cX7_leave 20 = .ok (.iconst 0, 1) := by decide +kernel
theorem dX7_leave_21 : decode cX7_leave 21 = .ok (.putfield 88, 3) := by decide +kernel
theorem dX7_leave_24 : decode cX7_leave 24 = .ok (.aload_n 0, 1) := by decide +kernel
theorem dX7_leave_25 : decode cX7_leave 25 = .ok (.getfield 7, 3) := by decide +kernel
theorem dX7_leave_28 : decode cX7_leave 28 = .ok (.iconst 0, 1) := by decide +kernel
theorem dX7_leave_29 : decode cX7_leave 29 = .ok (.iaload, 1) := by decide +kernel
theorem dX7_leave_30 : decode cX7_leave 30 = .ok (.ireturn, 1) := by decide +kernel
set_option maxRecDepth 20000 in
theorem ggX7_goesBy_X7_things : GoodIn wsX7_goesBy wsX7_things := goodIn_r _ [6, 1, 11, 12, 13, 14, 15, 16, 17, 18, 19, 20, 21, 22, 23, 24, 25, 26, 27] (by decide +kernel) (by decide +kernel)
set_option maxRecDepth 20000 in
theorem gX7_goesBy_X7_things : GoodIn wsX7_goesBy (wsV RX7 108 RX7 yX7_things wsX7_things) := goodIn_app (goodIn_of _ (by decide +kernel)) ggX7_goesBy_X7_things
set_option maxRecDepth 20000 in
theorem ggX7_goesBy_X7_goesAway : GoodIn wsX7_goesBy wsX7_goesAway := goodIn_r _ [10, 1, 11, 12, 13, 14, 15, 16, 17, 18, 19, 20, 21, 22, 23, 24, 25, 26, 27] (by decide +kernel) (by decide +kernel)
set_option maxRecDepth 20000 in
theorem gX7_goesBy_X7_goesAway : GoodIn wsX7_goesBy (wsV RX7 104 RX7 yX7_goesAway wsX7_goesAway) := goodIn_app (goodIn_of _ (by decide +kernel)) ggX7_goesBy_X7_goesAway
theorem dX7_goesBy_0 : decode cX7_goesBy 0 = .ok (.iload_n 1, 1) := by decide +kernel
theorem dX7_goesBy_1 : decode cX7_goesBy 1 = .ok (.aload_n 0, 1) := by decide +kernel
theorem dX7_goesBy_2 : decode cX7_goesBy 2 = .ok (.getfield 7, 3) := by decide +kernel
theorem dX7_goesBy_5 : decode cX7_goesBy 5 = .ok (.iconst 1, 1) := by decide +kernel
theorem dX7_goesBy_6 : decode cX7_goesBy 6 = .ok (.iaload, 1) := by decide +kernel
theorem dX7_goesBy_7 : decode cX7_goesBy 7 = .ok (.idiv, 1) := by decide +kernel
theorem dX7_goesBy_8 : decode cX7_goesBy 8 = .ok (.istore_n 2, 1) := by decide +kernel
theorem dX7_goesBy_9 : decode cX7_goesBy 9 = .ok (.iconst 0, 1) := by decide +kernel
theorem dX7_goesBy_10 : decode cX7_goesBy 10 = .ok (.istore_n 3, 1) := by decide +kernel
theorem dX7_goesBy_11 : decode cX7_goesBy 11 = .ok (.aload_n 0, 1) := by decide +kernel
theorem dX7_goesBy_12 : decode cX7_goesBy 12 = .ok (.getfield 7, 3) := by decide +kernel
theorem dX7_goesBy_15 : decode cX7_goesBy 15 = .ok (.iconst 0, 1) := by decide +kernel
theorem dX7_goesBy_16 : decode cX7_goesBy 16 = .ok (.iaload, 1) := by decide +kernel
theorem dX7_goesBy_17 : decode cX7_goesBy 17 = .ok (.ifCond .le 31, 3) := by decide +kernel
theorem dX7_goesBy_20 : decode cX7_goesBy 20 = .ok (.iload_n 2, 1) := by decide +kernel
theorem dX7_goesBy_21 : decode cX7_goesBy 21 = .ok (.aload_n 0, 1) := by decide +kernel
theorem dX7_goesBy_22 : decode cX7_goesBy 22 = .ok (.iconst 0, 1) := by decide +kernel
theorem dX7_goesBy_23 : decode cX7_goesBy 23 = .ok (.invokevirtual 108, 3) := by decide +kernel
theorem dX7_goesBy_26 : decode cX7_goesBy 26 = .ok (.if_icmp .lt 22, 3) := by decide +kernel
theorem dX7_goesBy_29 : decode cX7_goesBy 29 = .ok (.iload_n 2, 1) := by decide +kernel
theorem dX7_goesBy_30 : decode cX7_goesBy 30 = .ok (.aload_n 0, 1) := by decide +kernel
theorem dX7_goesBy_31 : decode cX7_goesBy 31 = .ok (.iconst 0, 1) := by decide +kernel
theorem dX7_goesBy_32 : decode cX7_goesBy 32 = .ok (.invokevirtual 108, 3) := by decide +kernel
theorem dX7_goesBy_35 : decode cX7_goesBy 35 = .ok (.isub, 1) := by decide +kernel
theorem dX7_goesBy_36 : decode cX7_goesBy 36 = .ok (.istore_n 2, 1) := by decide +kernel
theorem dX7_goesBy_37 : decode cX7_goesBy 37 = .ok (.aload_n 0, 1) := by decide +kernel
theorem dX7_goesBy_38 : decode cX7_goesBy 38 = .ok (.iconst 0, 1) := by decide +kernel
theorem dX7_goesBy_39 : decode cX7_goesBy 39 = .ok (.invokevirtual 104, 3) := by decide +kernel
theorem dX7_goesBy_42 : decode cX7_goesBy 42 = .ok (.iinc 3 1, 3) := by decide +kernel
theorem dX7_goesBy_45 : decode cX7_goesBy 45 = .ok (.goto (-34), 3) := by decide +kernel
theorem dX7_goesBy_48 : decode cX7_goesBy 48 = .ok (.aload_n 0, 1) := by decide +kernel
theorem dX7_goesBy_49 : decode cX7_goesBy 49 = .ok (.getfield 7, 3) := by decide +kernel
theorem dX7_goesBy_52 : decode cX7_goesBy 52 = .ok (.iconst 5, 1) := by decide +kernel
theorem dX7_goesBy_53 : decode cX7_goesBy 53 = .ok (.dup2, 1) := by decide +kernel
theorem dX7_goesBy_54 : decode cX7_goesBy 54 = .ok (.iaload, 1) := by decide +kernel
theorem dX7_goesBy_55 : decode cX7_goesBy 55 = .ok (.aload_n 0, 1) := by decide +kernel
theorem dX7_goesBy_56 : decode cX7_goesBy 56 = .ok (.getfield 7, 3) := by decide +kernel
theorem dX7_goesBy_59 : decode cX7_goesBy 59 = .ok (.iconst 0, 1) := by decide +kernel
theorem dX7_goesBy_60 : decode cX7_goesBy 60 = .ok (.iaload, 1) := by decide +kernel
theorem dX7_goesBy_61 : decode cX7_goesBy 61 = .ok (.ifCond .le 7, 3) := by decide +kernel
theorem dX7_goesBy_64 : decode cX7_goesBy 64 = .ok (.iload_n 2, 1) := by decide +kernel
theorem dX7_goesBy_65 : decode cX7_goesBy 65 = .ok (.goto 4, 3) := by decide +kernel
theorem dX7_goesBy_68 : decode cX7_goesBy 68 = .ok (.iconst 0, 1) := by decide +kernel
theorem dX7_goesBy_69 : decode cX7_goesBy 69 = .ok (.isub, 1) := by decide +kernel
theorem dX7_goesBy_70 : decode cX7_goesBy 70 = .ok (.iastore, 1) := by decide +kernel
theorem dX7_goesBy_71 : decode cX7_goesBy 71 = .ok (.iload_n 3, 1) := by decide +kernel
theorem dX7_goesBy_72 : decode cX7_goesBy 72 = .ok (.ireturn, 1) := by decide +kernel
set_option maxRecDepth 20000 in
theorem ggX7_pass_X7_in : GoodIn wsX7_pass wsX7_in := goodIn_r _ [7] (by decide +kernel) (by decide +kernel)
set_option maxRecDepth 20000 in
theorem gX7_pass_X7_in : GoodIn wsX7_pass (va_wsS RX7 44 yX7_in wsX7_in) := goodIn_app (goodIn_of _ (by decide +kernel)) ggX7_pass_X7_in
set_option maxRecDepth 20000 in
theorem ggX7_pass_X7_notes : GoodIn wsX7_pass wsX7_notes := goodIn_r _ [11, 12, 13, 3, 26, 27, 28, 29, 30, 31, 32, 33, 34, 35, 36, 37, 38, 39, 40, 41, 42] (by decide +kernel) (by decide +kernel)
set_option maxRecDepth 20000 in
theorem gX7_pass_X7_notes : GoodIn wsX7_pass (wsV RX7 101 RX7 yX7_notes wsX7_notes) := goodIn_app (goodIn_of _ (by decide +kernel)) ggX7_pass_X7_notes
set_option maxRecDepth 20000 in
theorem ggX7_pass_X7_goesBy : GoodIn wsX7_pass wsX7_goesBy := goodIn_r _ [17, 3, 18, 19, 20, 6, 21, 22, 23, 24, 25, 26, 27, 28, 29, 30, 31, 32, 33, 34, 35, 36, 37, 38, 39, 40, 41, 42] (by decide +kernel) (by decide +kernel)
set_option maxRecDepth 20000 in
theorem gX7_pass_X7_goesBy : GoodIn wsX7_pass (wsV RX7 113 RX7 yX7_goesBy wsX7_goesBy) := goodIn_app (goodIn_of _ (by decide +kernel)) ggX7_pass_X7_goesBy
theorem dX7_pass_0 : decode cX7_pass 0 = .ok (.iload_n 1, 1) := by decide +kernel
theorem dX7_pass_1 : decode cX7_pass 1 = .ok (.i2l, 1) := by decide +kernel
theorem dX7_pass_2 : decode cX7_pass 2 = .ok (.lconst 1, 1) := by decide +kernel
theorem dX7_pass_3 : decode cX7_pass 3 = .ok (.ldc2_w 111, 3) := by decide +kernel
theorem dX7_pass_6 : decode cX7_pass 6 = .ok (.invokestatic 44, 3) := by decide +kernel
theorem dX7_pass_9 : decode cX7_pass 9 = .ok (.ifCond .ne 5, 3) := by decide +kernel
theorem dX7_pass_12 : decode cX7_pass 12 = .ok (.iconst (-1), 1) := by decide +kernel
theorem dX7_pass_13 : decode cX7_pass 13 = .ok (.ireturn, 1) := by decide +kernel
theorem dX7_pass_14 : decode cX7_pass 14 = .ok (.aload_n 0, 1) := by decide +kernel
theorem dX7_pass_15 : decode cX7_pass 15 = .ok (.invokevirtual 101, 3) := by decide +kernel
theorem dX7_pass_18 : decode cX7_pass 18 = .ok (.aload_n 0, 1) := by decide +kernel
theorem dX7_pass_19 : decode cX7_pass 19 = .ok (.iload_n 1, 1) := by decide +kernel
theorem dX7_pass_20 : decode cX7_pass 20 = .ok (.invokevirtual 113, 3) := by decide +kernel
theorem dX7_pass_23 : decode cX7_pass 23 = .ok (.pop, 1) := by decide +kernel
theorem dX7_pass_24 : decode cX7_pass 24 = .ok (.aload_n 0, 1) := by decide +kernel
theorem dX7_pass_25 : decode cX7_pass 25 = .ok (.iconst 0, 1) := by decide +kernel
theorem dX7_pass_26 : decode cX7_pass 26 = .ok (.putfield 88, 3) := by decide +kernel
theorem dX7_pass_29 : decode cX7_pass 29 = .ok (.aload_n 0, 1) := by decide +kernel
theorem dX7_pass_30 : decode cX7_pass 30 = .ok (.getfield 7, 3) := by decide +kernel
theorem dX7_pass_33 : decode cX7_pass 33 = .ok (.iconst 0, 1) := by decide +kernel
theorem dX7_pass_34 : decode cX7_pass 34 = .ok (.iaload, 1) := by decide +kernel
theorem dX7_pass_35 : decode cX7_pass 35 = .ok (.ireturn, 1) := by decide +kernel
set_option maxRecDepth 20000 in
theorem ggX7_slow_X7_in : GoodIn wsX7_slow wsX7_in := goodIn_r _ [6] (by decide +kernel) (by decide +kernel)
set_option maxRecDepth 20000 in
theorem gX7_slow_X7_in : GoodIn wsX7_slow (va_wsS RX7 44 yX7_in wsX7_in) := goodIn_app (goodIn_of _ (by decide +kernel)) ggX7_slow_X7_in
set_option maxRecDepth 20000 in
theorem ggX7_slow_X7_notes : GoodIn wsX7_slow wsX7_notes := goodIn_r _ [10, 11, 12, 2, 13, 14, 15, 16, 17, 18, 19, 20, 21, 22, 23, 24, 25, 26, 27, 28, 29] (by decide +kernel) (by decide +kernel)
set_option maxRecDepth 20000 in
theorem gX7_slow_X7_notes : GoodIn wsX7_slow (wsV RX7 101 RX7 yX7_notes wsX7_notes) := goodIn_app (goodIn_of _ (by decide +kernel)) ggX7_slow_X7_notes
theorem dX7_slow_0 : decode cX7_slow 0 = .ok (.iload_n 1, 1) := by decide +kernel
theorem dX7_slow_1 : decode cX7_slow 1 = .ok (.i2l, 1) := by decide +kernel
theorem dX7_slow_2 : decode cX7_slow 2 = .ok (.lconst 1, 1) := by decide +kernel
theorem dX7_slow_3 : decode cX7_slow 3 = .ok (.ldc2_w 99, 3) := by decide +kernel
theorem dX7_slow_6 : decode cX7_slow 6 = .ok (.invokestatic 44, 3) := by decide +kernel
theorem dX7_slow_9 : decode cX7_slow 9 = .ok (.ifCond .ne 5, 3) := by decide +kernel
theorem dX7_slow_12 : decode cX7_slow 12 = .ok (.iconst (-1), 1) := by decide +kernel
theorem dX7_slow_13 : decode cX7_slow 13 = .ok (.ireturn, 1) := by decide +kernel
theorem dX7_slow_14 : decode cX7_slow 14 = .ok (.aload_n 0, 1) := by decide +kernel
theorem dX7_slow_15 : decode cX7_slow 15 = .ok (.invokevirtual 101, 3) := by decide +kernel
theorem dX7_slow_18 : decode cX7_slow 18 = .ok (.aload_n 0, 1) := by decide +kernel
theorem dX7_slow_19 : decode cX7_slow 19 = .ok (.getfield 7, 3) := by decide +kernel
theorem dX7_slow_22 : decode cX7_slow 22 = .ok (.iconst 2, 1) := by decide +kernel
theorem dX7_slow_23 : decode cX7_slow 23 = .ok (.iaload, 1) := by decide +kernel
theorem dX7_slow_24 : decode cX7_slow 24 = .ok (.istore_n 2, 1) := by decide +kernel
theorem dX7_slow_25 : decode cX7_slow 25 = .ok (.aload_n 0, 1) := by decide +kernel
theorem dX7_slow_26 : decode cX7_slow 26 = .ok (.getfield 7, 3) := by decide +kernel
theorem dX7_slow_29 : decode cX7_slow 29 = .ok (.iconst 2, 1) := by decide +kernel
theorem dX7_slow_30 : decode cX7_slow 30 = .ok (.iload_n 1, 1) := by decide +kernel
theorem dX7_slow_31 : decode cX7_slow 31 = .ok (.iastore, 1) := by decide +kernel
theorem dX7_slow_32 : decode cX7_slow 32 = .ok (.iload_n 2, 1) := by decide +kernel
theorem dX7_slow_33 : decode cX7_slow 33 = .ok (.ireturn, 1) := by decide +kernel
theorem dX7_undo_0 : decode cX7_undo 0 = .ok (.aload_n 0, 1) := by decide +kernel
theorem dX7_undo_1 : decode cX7_undo 1 = .ok (.getfield 91, 3) := by decide +kernel
theorem dX7_undo_4 : decode cX7_undo 4 = .ok (.ifCond .ne 6, 3) := by decide +kernel
theorem dX7_undo_7 : decode cX7_undo 7 = .ok (.bipush (-2), 2) := by decide +kernel
theorem dX7_undo_9 : decode cX7_undo 9 = .ok (.ireturn, 1) := by decide +kernel
theorem dX7_undo_10 : decode cX7_undo 10 = .ok (.aload_n 0, 1) := by decide +kernel
theorem dX7_undo_11 : decode cX7_undo 11 = .ok (.dup, 1) := by decide +kernel
theorem dX7_undo_12 : decode cX7_undo 12 = .ok (.getfield 91, 3) := by decide +kernel
theorem dX7_undo_15 : decode cX7_undo 15 = .ok (.iconst 1, 1) := by decide +kernel
theorem dX7_undo_16 : decode cX7_undo 16 = .ok (.isub, 1) := by decide +kernel
theorem dX7_undo_17 : decode cX7_undo 17 = .ok (.putfield 91, 3) := by decide +kernel
theorem dX7_undo_20 : decode cX7_undo 20 = .ok (.iconst 0, 1) := by decide +kernel
theorem dX7_undo_21 : decode cX7_undo 21 = .ok (.istore_n 1, 1) := by decide +kernel
theorem dX7_undo_22 : decode cX7_undo 22 = .ok (.iload_n 1, 1) := by decide +kernel
theorem dX7_undo_23 : decode cX7_undo 23 = .ok (.bipush 28, 2) := by decide +kernel
theorem dX7_undo_25 : decode cX7_undo 25 = .ok (.if_icmp .ge 29, 3) := by decide +kernel
theorem dX7_undo_28 : decode cX7_undo 28 = .ok (.aload_n 0, 1) := by decide +kernel
theorem dX7_undo_29 : decode cX7_undo 29 = .ok (.getfield 7, 3) := by decide +kernel
theorem dX7_undo_32 : decode cX7_undo 32 = .ok (.iload_n 1, 1) := by decide +kernel
theorem dX7_undo_33 : decode cX7_undo 33 = .ok (.aload_n 0, 1) := by decide +kernel
theorem dX7_undo_34 : decode cX7_undo 34 = .ok (.getfield 19, 3) := by decide +kernel
theorem dX7_undo_37 : decode cX7_undo 37 = .ok (.bipush 28, 2) := by decide +kernel
theorem dX7_undo_39 : decode cX7_undo 39 = .ok (.aload_n 0, 1) := by decide +kernel
theorem dX7_undo_40 : decode cX7_undo 40 = .ok (.getfield 91, 3) := by decide +kernel
theorem dX7_undo_43 : decode cX7_undo 43 = .ok (.imul, 1) := by decide +kernel
theorem dX7_undo_44 : decode cX7_undo 44 = .ok (.iload_n 1, 1) := by decide +kernel
theorem dX7_undo_45 : decode cX7_undo 45 = .ok (.iadd, 1) := by decide +kernel
theorem dX7_undo_46 : decode cX7_undo 46 = .ok (.iaload, 1) := by decide +kernel
theorem dX7_undo_47 : decode cX7_undo 47 = .ok (.iastore, 1) := by decide +kernel
theorem dX7_undo_48 : decode cX7_undo 48 = .ok (.iinc 1 1, 3) := by decide +kernel
theorem dX7_undo_51 : decode cX7_undo 51 = .ok (.goto (-29), 3) := by decide +kernel
theorem dX7_undo_54 : decode cX7_undo 54 = .ok (.aload_n 0, 1) := by decide +kernel
theorem dX7_undo_55 : decode cX7_undo 55 = .ok (.iconst 0, 1) := by decide +kernel
theorem dX7_undo_56 : decode cX7_undo 56 = .ok (.putfield 88, 3) := by decide +kernel
theorem dX7_undo_59 : decode cX7_undo 59 = .ok (.aload_n 0, 1) := by decide +kernel
theorem dX7_undo_60 : decode cX7_undo 60 = .ok (.getfield 91, 3) := by decide +kernel
theorem dX7_undo_63 : decode cX7_undo 63 = .ok (.ireturn, 1) := by decide +kernel
set_option maxRecDepth 20000 in
theorem ggX7_orders_X7_walk : GoodIn wsX7_orders wsX7_walk := goodIn_r _ [7, 1, 8, 9, 10, 11, 12, 13, 14, 15, 16, 17, 18, 19, 20, 21, 22, 23, 24] (by decide +kernel) (by decide +kernel)
set_option maxRecDepth 20000 in
theorem gX7_orders_X7_walk : GoodIn wsX7_orders (wsV RX7 54 RX7 yX7_walk wsX7_walk) := goodIn_app (goodIn_of _ (by decide +kernel)) ggX7_orders_X7_walk
theorem dX7_orders_0 : decode cX7_orders 0 = .ok (.iconst 0, 1) := by decide +kernel
theorem dX7_orders_1 : decode cX7_orders 1 = .ok (.istore_n 1, 1) := by decide +kernel
theorem dX7_orders_2 : decode cX7_orders 2 = .ok (.iload_n 1, 1) := by decide +kernel
theorem dX7_orders_3 : decode cX7_orders 3 = .ok (.aload_n 0, 1) := by decide +kernel
theorem dX7_orders_4 : decode cX7_orders 4 = .ok (.getfield 7, 3) := by decide +kernel
theorem dX7_orders_7 : decode cX7_orders 7 = .ok (.iconst 0, 1) := by decide +kernel
theorem dX7_orders_8 : decode cX7_orders 8 = .ok (.iaload, 1) := by decide +kernel
theorem dX7_orders_9 : decode cX7_orders 9 = .ok (.if_icmp .ge 87, 3) := by decide +kernel
theorem dX7_orders_12 : decode cX7_orders 12 = .ok (.iconst 0, 1) := by decide +kernel
theorem dX7_orders_13 : decode cX7_orders 13 = .ok (.istore_n 2, 1) := by decide +kernel
theorem dX7_orders_14 : decode cX7_orders 14 = .ok (.iconst 0, 1) := by decide +kernel
theorem dX7_orders_15 : decode cX7_orders 15 = .ok (.istore_n 3, 1) := by decide +kernel
theorem dX7_orders_16 : decode cX7_orders 16 = .ok (.iload_n 3, 1) := by decide +kernel
theorem dX7_orders_17 : decode cX7_orders 17 = .ok (.aload_n 0, 1) := by decide +kernel
theorem dX7_orders_18 : decode cX7_orders 18 = .ok (.getfield 7, 3) := by decide +kernel
theorem dX7_orders_21 : decode cX7_orders 21 = .ok (.iconst 0, 1) := by decide +kernel
theorem dX7_orders_22 : decode cX7_orders 22 = .ok (.iaload, 1) := by decide +kernel
theorem dX7_orders_23 : decode cX7_orders 23 = .ok (.if_icmp .ge 60, 3) := by decide +kernel
theorem dX7_orders_26 : decode cX7_orders 26 = .ok (.aload_n 0, 1) := by decide +kernel
theorem dX7_orders_27 : decode cX7_orders 27 = .ok (.iload_n 3, 1) := by decide +kernel
theorem dX7_orders_28 : decode cX7_orders 28 = .ok (.invokevirtual 54, 3) := by decide +kernel
theorem dX7_orders_31 : decode cX7_orders 31 = .ok (.aload_n 0, 1) := by decide +kernel
theorem dX7_orders_32 : decode cX7_orders 32 = .ok (.iload_n 1, 1) := by decide +kernel
theorem dX7_orders_33 : decode cX7_orders 33 = .ok (.invokevirtual 54, 3) := by decide +kernel
theorem dX7_orders_36 : decode cX7_orders 36 = .ok (.if_icmp .lt 21, 3) := by decide +kernel
theorem dX7_orders_39 : decode cX7_orders 39 = .ok (.aload_n 0, 1) := by decide +kernel
theorem dX7_orders_40 : decode cX7_orders 40 = .ok (.iload_n 3, 1) := by decide +kernel
theorem dX7_orders_41 : decode cX7_orders 41 = .ok (.invokevirtual 54, 3) := by decide +kernel
theorem dX7_orders_44 : decode cX7_orders 44 = .ok (.aload_n 0, 1) := by decide +kernel
theorem dX7_orders_45 : decode cX7_orders 45 = .ok (.iload_n 1, 1) := by decide +kernel
theorem dX7_orders_46 : decode cX7_orders 46 = .ok (.invokevirtual 54, 3) := by decide +kernel
theorem dX7_orders_49 : decode cX7_orders 49 = .ok (.if_icmp .ne 12, 3) := by decide +kernel
theorem dX7_orders_52 : decode cX7_orders 52 = .ok (.iload_n 3, 1) := by decide +kernel
theorem dX7_orders_53 : decode cX7_orders 53 = .ok (.iload_n 1, 1) := by decide +kernel
theorem dX7_orders_54 : decode cX7_orders 54 = .ok (.if_icmp .le 7, 3) := by decide +kernel
theorem dX7_orders_57 : decode cX7_orders 57 = .ok (.iconst 1, 1) := by decide +kernel
theorem dX7_orders_58 : decode cX7_orders 58 = .ok (.goto 4, 3) := by decide +kernel
theorem dX7_orders_61 : decode cX7_orders 61 = .ok (.iconst 0, 1) := by decide +kernel
theorem dX7_orders_62 : decode cX7_orders 62 = .ok (.istore 4, 2) := by decide +kernel
theorem dX7_orders_64 : decode cX7_orders 64 = .ok (.iload_n 2, 1) := by decide +kernel
theorem dX7_orders_65 : decode cX7_orders 65 = .ok (.iload 4, 2) := by decide +kernel
theorem dX7_orders_67 : decode cX7_orders 67 = .ok (.ifCond .eq 7, 3) := by decide +kernel
theorem dX7_orders_70 : decode cX7_orders 70 = .ok (.iconst 1, 1) := by decide +kernel
theorem dX7_orders_71 : decode cX7_orders 71 = .ok (.goto 4, 3) := by decide +kernel
theorem dX7_orders_74 : decode cX7_orders 74 = .ok (.iconst 0, 1) := by decide +kernel
theorem dX7_orders_75 : decode cX7_orders 75 = .ok (.iadd, 1) := by decide +kernel
theorem dX7_orders_76 : decode cX7_orders 76 = .ok (.istore_n 2, 1) := by decide +kernel
theorem dX7_orders_77 : decode cX7_orders 77 = .ok (.iinc 3 1, 3) := by decide +kernel
theorem dX7_orders_80 : decode cX7_orders 80 = .ok (.goto (-64), 3) := by decide +kernel
theorem dX7_orders_83 : decode cX7_orders 83 = .ok (.aload_n 0, 1) := by decide +kernel
theorem dX7_orders_84 : decode cX7_orders 84 = .ok (.getfield 22, 3) := by decide +kernel
theorem dX7_orders_87 : decode cX7_orders 87 = .ok (.iload_n 2, 1) := by decide +kernel
theorem dX7_orders_88 : decode cX7_orders 88 = .ok (.iload_n 1, 1) := by decide +kernel
theorem dX7_orders_89 : decode cX7_orders 89 = .ok (.iastore, 1) := by decide +kernel
theorem dX7_orders_90 : decode cX7_orders 90 = .ok (.iinc 1 1, 3) := by decide +kernel
theorem dX7_orders_93 : decode cX7_orders 93 = .ok (.goto (-91), 3) := by decide +kernel
theorem dX7_orders_96 : decode cX7_orders 96 = .ok (.return_, 1) := by decide +kernel
set_option maxRecDepth 20000 in
theorem ggX7_inRow_X7_things : GoodIn wsX7_inRow wsX7_things := goodIn_r _ [6, 1, 7, 8, 9, 10, 11, 12, 13, 14, 15, 16, 17, 18, 19, 20, 21, 22, 23] (by decide +kernel) (by decide +kernel)
set_option maxRecDepth 20000 in
theorem gX7_inRow_X7_things : GoodIn wsX7_inRow (wsV RX7 108 RX7 yX7_things wsX7_things) := goodIn_app (goodIn_of _ (by decide +kernel)) ggX7_inRow_X7_things
theorem dX7_inRow_0 : decode cX7_inRow 0 = .ok (.aload_n 0, 1) := by decide +kernel
theorem dX7_inRow_1 : decode cX7_inRow 1 = .ok (.iload_n 1, 1) := by decide +kernel
theorem dX7_inRow_2 : decode cX7_inRow 2 = .ok (.invokevirtual 108, 3) := by decide +kernel
theorem dX7_inRow_5 : decode cX7_inRow 5 = .ok (.istore_n 3, 1) := by decide +kernel
theorem dX7_inRow_6 : decode cX7_inRow 6 = .ok (.iconst 0, 1) := by decide +kernel
theorem dX7_inRow_7 : decode cX7_inRow 7 = .ok (.istore 4, 2) := by decide +kernel
theorem dX7_inRow_9 : decode cX7_inRow 9 = .ok (.iload 4, 2) := by decide +kernel
theorem dX7_inRow_11 : decode cX7_inRow 11 = .ok (.iload_n 1, 1) := by decide +kernel
theorem dX7_inRow_12 : decode cX7_inRow 12 = .ok (.if_icmp .ge 31, 3) := by decide +kernel
theorem dX7_inRow_15 : decode cX7_inRow 15 = .ok (.iload_n 3, 1) := by decide +kernel
theorem dX7_inRow_16 : decode cX7_inRow 16 = .ok (.iload_n 2, 1) := by decide +kernel
theorem dX7_inRow_17 : decode cX7_inRow 17 = .ok (.iload 4, 2) := by decide +kernel
theorem dX7_inRow_19 : decode cX7_inRow 19 = .ok (.ishr, 1) := by decide +kernel
theorem dX7_inRow_20 : decode cX7_inRow 20 = .ok (.iconst 1, 1) := by decide +kernel
theorem dX7_inRow_21 : decode cX7_inRow 21 = .ok (.iand, 1) := by decide +kernel
theorem dX7_inRow_22 : decode cX7_inRow 22 = .ok (.ifCond .ne 12, 3) := by decide +kernel
theorem dX7_inRow_25 : decode cX7_inRow 25 = .ok (.aload_n 0, 1) := by decide +kernel
theorem dX7_inRow_26 : decode cX7_inRow 26 = .ok (.iload 4, 2) := by decide +kernel
theorem dX7_inRow_28 : decode cX7_inRow 28 = .ok (.invokevirtual 108, 3) := by decide +kernel
theorem dX7_inRow_31 : decode cX7_inRow 31 = .ok (.goto 4, 3) := by decide +kernel
theorem dX7_inRow_34 : decode cX7_inRow 34 = .ok (.iconst 0, 1) := by decide +kernel
theorem dX7_inRow_35 : decode cX7_inRow 35 = .ok (.iadd, 1) := by decide +kernel
theorem dX7_inRow_36 : decode cX7_inRow 36 = .ok (.istore_n 3, 1) := by decide +kernel
theorem dX7_inRow_37 : decode cX7_inRow 37 = .ok (.iinc 4 1, 3) := by decide +kernel
theorem dX7_inRow_40 : decode cX7_inRow 40 = .ok (.goto (-31), 3) := by decide +kernel
theorem dX7_inRow_43 : decode cX7_inRow 43 = .ok (.aload_n 0, 1) := by decide +kernel
theorem dX7_inRow_44 : decode cX7_inRow 44 = .ok (.getfield 7, 3) := by decide +kernel
theorem dX7_inRow_47 : decode cX7_inRow 47 = .ok (.iconst 1, 1) := by decide +kernel
theorem dX7_inRow_48 : decode cX7_inRow 48 = .ok (.iaload, 1) := by decide +kernel
theorem dX7_inRow_49 : decode cX7_inRow 49 = .ok (.iload_n 3, 1) := by decide +kernel
theorem dX7_inRow_50 : decode cX7_inRow 50 = .ok (.imul, 1) := by decide +kernel
theorem dX7_inRow_51 : decode cX7_inRow 51 = .ok (.ireturn, 1) := by decide +kernel
set_option maxRecDepth 20000 in
theorem ggX7_there_X7_walk : GoodIn wsX7_there wsX7_walk := goodIn_r _ [6, 1, 11, 12, 13, 14, 15, 16, 17, 18, 19, 20, 21, 22, 23, 24, 25, 26, 27] (by decide +kernel) (by decide +kernel)
set_option maxRecDepth 20000 in
theorem gX7_there_X7_walk : GoodIn wsX7_there (wsV RX7 54 RX7 yX7_walk wsX7_walk) := goodIn_app (goodIn_of _ (by decide +kernel)) ggX7_there_X7_walk
set_option maxRecDepth 20000 in
theorem ggX7_there_X7_things : GoodIn wsX7_there wsX7_things := goodIn_r _ [10, 1, 11, 12, 13, 14, 15, 16, 17, 18, 19, 20, 21, 22, 23, 24, 25, 26, 27] (by decide +kernel) (by decide +kernel)
set_option maxRecDepth 20000 in
theorem gX7_there_X7_things : GoodIn wsX7_there (wsV RX7 108 RX7 yX7_things wsX7_things) := goodIn_app (goodIn_of _ (by decide +kernel)) ggX7_there_X7_things
theorem dX7_there_0 : decode cX7_there 0 = .ok (.aload_n 0, 1) := by decide +kernel
theorem dX7_there_1 : decode cX7_there 1 = .ok (.iload_n 1, 1) := by decide +kernel
theorem dX7_there_2 : decode cX7_there 2 = .ok (.invokevirtual 54, 3) := by decide +kernel
theorem dX7_there_5 : decode cX7_there 5 = .ok (.iload_n 2, 1) := by decide +kernel
theorem dX7_there_6 : decode cX7_there 6 = .ok (.if_icmp .le 11, 3) := by decide +kernel
theorem dX7_there_9 : decode cX7_there 9 = .ok (.aload_n 0, 1) := by decide +kernel
theorem dX7_there_10 : decode cX7_there 10 = .ok (.iload_n 1, 1) := by decide +kernel
theorem dX7_there_11 : decode cX7_there 11 = .ok (.invokevirtual 54, 3) := by decide +kernel
theorem dX7_there_14 : decode cX7_there 14 = .ok (.goto 4, 3) := by decide +kernel
theorem dX7_there_17 : decode cX7_there 17 = .ok (.iload_n 2, 1) := by decide +kernel
theorem dX7_there_18 : decode cX7_there 18 = .ok (.aload_n 0, 1) := by decide +kernel
theorem dX7_there_19 : decode cX7_there 19 = .ok (.getfield 7, 3) := by decide +kernel
theorem dX7_there_22 : decode cX7_there 22 = .ok (.iconst 2, 1) := by decide +kernel
theorem dX7_there_23 : decode cX7_there 23 = .ok (.iaload, 1) := by decide +kernel
theorem dX7_there_24 : decode cX7_there 24 = .ok (.aload_n 0, 1) := by decide +kernel
theorem dX7_there_25 : decode cX7_there 25 = .ok (.iload_n 1, 1) := by decide +kernel
theorem dX7_there_26 : decode cX7_there 26 = .ok (.invokevirtual 108, 3) := by decide +kernel
theorem dX7_there_29 : decode cX7_there 29 = .ok (.imul, 1) := by decide +kernel
theorem dX7_there_30 : decode cX7_there 30 = .ok (.iadd, 1) := by decide +kernel
theorem dX7_there_31 : decode cX7_there 31 = .ok (.ireturn, 1) := by decide +kernel
theorem dX7_many_0 : decode cX7_many 0 = .ok (.iconst 0, 1) := by decide +kernel
theorem dX7_many_1 : decode cX7_many 1 = .ok (.istore_n 1, 1) := by decide +kernel
theorem dX7_many_2 : decode cX7_many 2 = .ok (.iload_n 0, 1) := by decide +kernel
theorem dX7_many_3 : decode cX7_many 3 = .ok (.istore_n 2, 1) := by decide +kernel
theorem dX7_many_4 : decode cX7_many 4 = .ok (.iload_n 2, 1) := by decide +kernel
theorem dX7_many_5 : decode cX7_many 5 = .ok (.ifCond .eq 15, 3) := by decide +kernel
theorem dX7_many_8 : decode cX7_many 8 = .ok (.iinc 1 1, 3) := by decide +kernel
theorem dX7_many_11 : decode cX7_many 11 = .ok (.iload_n 2, 1) := by decide +kernel
theorem dX7_many_12 : decode cX7_many 12 = .ok (.iload_n 2, 1) := by decide +kernel
theorem dX7_many_13 : decode cX7_many 13 = .ok (.iconst 1, 1) := by decide +kernel
theorem dX7_many_14 : decode cX7_many 14 = .ok (.isub, 1) := by decide +kernel
theorem dX7_many_15 : decode cX7_many 15 = .ok (.iand, 1) := by decide +kernel
theorem dX7_many_16 : decode cX7_many 16 = .ok (.istore_n 2, 1) := by decide +kernel
theorem dX7_many_17 : decode cX7_many 17 = .ok (.goto (-13), 3) := by decide +kernel
theorem dX7_many_20 : decode cX7_many 20 = .ok (.iload_n 1, 1) := by decide +kernel
theorem dX7_many_21 : decode cX7_many 21 = .ok (.ireturn, 1) := by decide +kernel
set_option maxRecDepth 20000 in
theorem ggX7_opens_X7_orders : GoodIn wsX7_opens wsX7_orders := goodIn_r _ [9, 2, 3, 10, 11, 12, 8, 13, 37, 38, 39, 40, 41, 42, 43, 44, 45, 46, 47, 48, 49, 50, 51, 52, 53] (by decide +kernel) (by decide +kernel)
set_option maxRecDepth 20000 in
theorem gX7_opens_X7_orders : GoodIn wsX7_opens (wsV RX7 116 RX7 yX7_orders wsX7_orders) := goodIn_app (goodIn_of _ (by decide +kernel)) ggX7_opens_X7_orders
set_option maxRecDepth 20000 in
theorem ggX7_opens_X7_many : GoodIn wsX7_opens wsX7_many := goodIn_r _ [16] (by decide +kernel) (by decide +kernel)
set_option maxRecDepth 20000 in
theorem gX7_opens_X7_many : GoodIn wsX7_opens (va_wsS RX7 122 yX7_many wsX7_many) := goodIn_app (goodIn_of _ (by decide +kernel)) ggX7_opens_X7_many
set_option maxRecDepth 20000 in
theorem ggX7_opens_X7_there : GoodIn wsX7_opens wsX7_there := goodIn_r _ [20, 2, 10, 11, 12, 8, 13, 21, 22, 23, 24, 37, 38, 39, 40, 41, 42, 43, 44, 45, 46, 47, 48, 49, 50, 51, 52, 53] (by decide +kernel) (by decide +kernel)
set_option maxRecDepth 20000 in
theorem gX7_opens_X7_there : GoodIn wsX7_opens (wsV RX7 125 RX7 yX7_there wsX7_there) := goodIn_app (goodIn_of _ (by decide +kernel)) ggX7_opens_X7_there
set_option maxRecDepth 20000 in
theorem ggX7_opens_X7_inRow : GoodIn wsX7_opens wsX7_inRow := goodIn_r _ [28, 2, 21, 22, 23, 8, 24, 37, 38, 39, 40, 41, 42, 43, 44, 45, 46, 47, 48, 49, 50, 51, 52, 53] (by decide +kernel) (by decide +kernel)
set_option maxRecDepth 20000 in
theorem gX7_opens_X7_inRow : GoodIn wsX7_opens (wsV RX7 129 RX7 yX7_inRow wsX7_inRow) := goodIn_app (goodIn_of _ (by decide +kernel)) ggX7_opens_X7_inRow
set_option maxRecDepth 20000 in
theorem ggX7_opens_X7_kind : GoodIn wsX7_opens wsX7_kind := goodIn_r _ [32, 2, 37, 38, 39, 40, 41, 42, 43, 44, 45, 46, 47, 48, 49, 50, 51, 52, 53] (by decide +kernel) (by decide +kernel)
set_option maxRecDepth 20000 in
theorem gX7_opens_X7_kind : GoodIn wsX7_opens (wsV RX7 132 RX7 yX7_kind wsX7_kind) := goodIn_app (goodIn_of _ (by decide +kernel)) ggX7_opens_X7_kind
set_option maxRecDepth 20000 in
theorem ggX7_opens_X7_rests : GoodIn wsX7_opens wsX7_rests := goodIn_r _ [36, 2, 4, 1, 25, 26, 27, 8, 28, 21, 22, 23, 24, 37, 38, 39, 40, 41, 42, 43, 44, 45, 46, 47, 48, 49, 50, 51, 52, 53] (by decide +kernel) (by decide +kernel)
set_option maxRecDepth 20000 in
theorem gX7_opens_X7_rests : GoodIn wsX7_opens (wsV RX7 135 RX7 yX7_rests wsX7_rests) := goodIn_app (goodIn_of _ (by decide +kernel)) ggX7_opens_X7_rests
theorem dX7_opens_0 : decode cX7_opens 0 = .ok (.aload_n 0, 1) := by decide +kernel
theorem dX7_opens_1 : decode cX7_opens 1 = .ok (.invokevirtual 116, 3) := by decide +kernel
theorem dX7_opens_4 : decode cX7_opens 4 = .ok (.aload_n 0, 1) := by decide +kernel
theorem dX7_opens_5 : decode cX7_opens 5 = .ok (.iconst 0, 1) := by decide +kernel
theorem dX7_opens_6 : decode cX7_opens 6 = .ok (.putfield 119, 3) := by decide +kernel
theorem dX7_opens_9 : decode cX7_opens 9 = .ok (.iconst 0, 1) := by decide +kernel
theorem dX7_opens_10 : decode cX7_opens 10 = .ok (.istore_n 1, 1) := by decide +kernel
theorem dX7_opens_11 : decode cX7_opens 11 = .ok (.iconst 0, 1) := by decide +kernel
theorem dX7_opens_12 : decode cX7_opens 12 = .ok (.istore_n 2, 1) := by decide +kernel
theorem dX7_opens_13 : decode cX7_opens 13 = .ok (.iload_n 2, 1) := by decide +kernel
theorem dX7_opens_14 : decode cX7_opens 14 = .ok (.aload_n 0, 1) := by decide +kernel
theorem dX7_opens_15 : decode cX7_opens 15 = .ok (.getfield 7, 3) := by decide +kernel
theorem dX7_opens_18 : decode cX7_opens 18 = .ok (.iconst 0, 1) := by decide +kernel
theorem dX7_opens_19 : decode cX7_opens 19 = .ok (.iaload, 1) := by decide +kernel
theorem dX7_opens_20 : decode cX7_opens 20 = .ok (.if_icmp .ge 130, 3) := by decide +kernel
theorem dX7_opens_23 : decode cX7_opens 23 = .ok (.aload_n 0, 1) := by decide +kernel
theorem dX7_opens_24 : decode cX7_opens 24 = .ok (.getfield 22, 3) := by decide +kernel
theorem dX7_opens_27 : decode cX7_opens 27 = .ok (.iload_n 2, 1) := by decide +kernel
theorem dX7_opens_28 : decode cX7_opens 28 = .ok (.iaload, 1) := by decide +kernel
theorem dX7_opens_29 : decode cX7_opens 29 = .ok (.istore_n 3, 1) := by decide +kernel
theorem dX7_opens_30 : decode cX7_opens 30 = .ok (.iconst 1, 1) := by decide +kernel
theorem dX7_opens_31 : decode cX7_opens 31 = .ok (.iload_n 3, 1) := by decide +kernel
theorem dX7_opens_32 : decode cX7_opens 32 = .ok (.ishl, 1) := by decide +kernel
theorem dX7_opens_33 : decode cX7_opens 33 = .ok (.iconst 1, 1) := by decide +kernel
theorem dX7_opens_34 : decode cX7_opens 34 = .ok (.isub, 1) := by decide +kernel
theorem dX7_opens_35 : decode cX7_opens 35 = .ok (.aload_n 0, 1) := by decide +kernel
theorem dX7_opens_36 : decode cX7_opens 36 = .ok (.getfield 119, 3) := by decide +kernel
theorem dX7_opens_39 : decode cX7_opens 39 = .ok (.iconst (-1), 1) := by decide +kernel
theorem dX7_opens_40 : decode cX7_opens 40 = .ok (.ixor, 1) := by decide +kernel
theorem dX7_opens_41 : decode cX7_opens 41 = .ok (.iand, 1) := by decide +kernel
theorem dX7_opens_42 : decode cX7_opens 42 = .ok (.invokestatic 122, 3) := by decide +kernel
theorem dX7_opens_45 : decode cX7_opens 45 = .ok (.aload_n 0, 1) := by decide +kernel
theorem dX7_opens_46 : decode cX7_opens 46 = .ok (.getfield 119, 3) := by decide +kernel
theorem dX7_opens_49 : decode cX7_opens 49 = .ok (.invokestatic 122, 3) := by decide +kernel
theorem dX7_opens_52 : decode cX7_opens 52 = .ok (.if_icmp .le 7, 3) := by decide +kernel
theorem dX7_opens_55 : decode cX7_opens 55 = .ok (.iconst 1, 1) := by decide +kernel
theorem dX7_opens_56 : decode cX7_opens 56 = .ok (.goto 4, 3) := by decide +kernel
theorem dX7_opens_59 : decode cX7_opens 59 = .ok (.iconst 0, 1) := by decide +kernel
theorem dX7_opens_60 : decode cX7_opens 60 = .ok (.istore 4, 2) := by decide +kernel
theorem dX7_opens_62 : decode cX7_opens 62 = .ok (.aload_n 0, 1) := by decide +kernel
theorem dX7_opens_63 : decode cX7_opens 63 = .ok (.iload_n 3, 1) := by decide +kernel
theorem dX7_opens_64 : decode cX7_opens 64 = .ok (.iload_n 1, 1) := by decide +kernel
theorem dX7_opens_65 : decode cX7_opens 65 = .ok (.invokevirtual 125, 3) := by decide +kernel
theorem dX7_opens_68 : decode cX7_opens 68 = .ok (.aload_n 0, 1) := by decide +kernel
theorem dX7_opens_69 : decode cX7_opens 69 = .ok (.iload_n 3, 1) := by decide +kernel
theorem dX7_opens_70 : decode cX7_opens 70 = .ok (.aload_n 0, 1) := by decide +kernel
theorem dX7_opens_71 : decode cX7_opens 71 = .ok (.getfield 119, 3) := by decide +kernel
theorem dX7_opens_74 : decode cX7_opens 74 = .ok (.invokevirtual 129, 3) := by decide +kernel
theorem dX7_opens_77 : decode cX7_opens 77 = .ok (.if_icmp .ge 7, 3) := by decide +kernel
theorem dX7_opens_80 : decode cX7_opens 80 = .ok (.iconst 1, 1) := by decide +kernel
theorem dX7_opens_81 : decode cX7_opens 81 = .ok (.goto 4, 3) := by decide +kernel
theorem dX7_opens_84 : decode cX7_opens 84 = .ok (.iconst 0, 1) := by decide +kernel
theorem dX7_opens_85 : decode cX7_opens 85 = .ok (.istore 5, 2) := by decide +kernel
theorem dX7_opens_87 : decode cX7_opens 87 = .ok (.aload_n 0, 1) := by decide +kernel
theorem dX7_opens_88 : decode cX7_opens 88 = .ok (.iload_n 3, 1) := by decide +kernel
theorem dX7_opens_89 : decode cX7_opens 89 = .ok (.invokevirtual 132, 3) := by decide +kernel
theorem dX7_opens_92 : decode cX7_opens 92 = .ok (.iconst 1, 1) := by decide +kernel
theorem dX7_opens_93 : decode cX7_opens 93 = .ok (.if_icmp .ne 11, 3) := by decide +kernel
theorem dX7_opens_96 : decode cX7_opens 96 = .ok (.iload 4, 2) := by decide +kernel
theorem dX7_opens_98 : decode cX7_opens 98 = .ok (.ifCond .eq 46, 3) := by decide +kernel
theorem dX7_opens_101 : decode cX7_opens 101 = .ok (.goto 17, 3) := by decide +kernel
theorem dX7_opens_104 : decode cX7_opens 104 = .ok (.aload_n 0, 1) := by decide +kernel
theorem dX7_opens_105 : decode cX7_opens 105 = .ok (.iload_n 3, 1) := by decide +kernel
theorem dX7_opens_106 : decode cX7_opens 106 = .ok (.invokevirtual 132, 3) := by decide +kernel
theorem dX7_opens_109 : decode cX7_opens 109 = .ok (.iconst 1, 1) := by decide +kernel
theorem dX7_opens_110 : decode cX7_opens 110 = .ok (.if_icmp .le 34, 3) := by decide +kernel
theorem dX7_opens_113 : decode cX7_opens 113 = .ok (.iload 5, 2) := by decide +kernel
theorem dX7_opens_115 : decode cX7_opens 115 = .ok (.ifCond .eq 29, 3) := by decide +kernel
theorem dX7_opens_118 : decode cX7_opens 118 = .ok (.aload_n 0, 1) := by decide +kernel
theorem dX7_opens_119 : decode cX7_opens 119 = .ok (.iload_n 3, 1) := by decide +kernel
theorem dX7_opens_120 : decode cX7_opens 120 = .ok (.iload_n 1, 1) := by decide +kernel
theorem dX7_opens_121 : decode cX7_opens 121 = .ok (.invokevirtual 125, 3) := by decide +kernel
theorem dX7_opens_124 : decode cX7_opens 124 = .ok (.istore_n 1, 1) := by decide +kernel
theorem dX7_opens_125 : decode cX7_opens 125 = .ok (.aload_n 0, 1) := by decide +kernel
theorem dX7_opens_126 : decode cX7_opens 126 = .ok (.getfield 25, 3) := by decide +kernel
theorem dX7_opens_129 : decode cX7_opens 129 = .ok (.iload_n 3, 1) := by decide +kernel
theorem dX7_opens_130 : decode cX7_opens 130 = .ok (.iload_n 1, 1) := by decide +kernel
theorem dX7_opens_131 : decode cX7_opens 131 = .ok (.iastore, 1) := by decide +kernel
theorem dX7_opens_132 : decode cX7_opens 132 = .ok (.aload_n 0, 1) := by decide +kernel
theorem dX7_opens_133 : decode cX7_opens 133 = .ok (.dup, 1) := by decide +kernel
theorem dX7_opens_134 : decode cX7_opens 134 = .ok (.getfield 119, 3) := by decide +kernel
theorem dX7_opens_137 : decode cX7_opens 137 = .ok (.iconst 1, 1) := by decide +kernel
theorem dX7_opens_138 : decode cX7_opens 138 = .ok (.iload_n 3, 1) := by decide +kernel
theorem dX7_opens_139 : decode cX7_opens 139 = .ok (.ishl, 1) := by decide +kernel
theorem dX7_opens_140 : decode cX7_opens 140 = .ok (.ior, 1) := by decide +kernel
theorem dX7_opens_141 : decode cX7_opens 141 = .ok (.putfield 119, 3) := by decide +kernel
theorem dX7_opens_144 : decode cX7_opens 144 = .ok (.iinc 2 1, 3) := by decide +kernel
theorem dX7_opens_147 : decode cX7_opens 147 = .ok (.goto (-134), 3) := by decide +kernel
theorem dX7_opens_150 : decode cX7_opens 150 = .ok (.iconst 0, 1) := by decide +kernel
theorem dX7_opens_151 : decode cX7_opens 151 = .ok (.istore_n 2, 1) := by decide +kernel
theorem dX7_opens_152 : decode cX7_opens 152 = .ok (.iload_n 2, 1) := by decide +kernel
theorem dX7_opens_153 : decode cX7_opens 153 = .ok (.aload_n 0, 1) := by decide +kernel
theorem dX7_opens_154 : decode cX7_opens 154 = .ok (.getfield 7, 3) := by decide +kernel
theorem dX7_opens_157 : decode cX7_opens 157 = .ok (.iconst 0, 1) := by decide +kernel
theorem dX7_opens_158 : decode cX7_opens 158 = .ok (.iaload, 1) := by decide +kernel
theorem dX7_opens_159 : decode cX7_opens 159 = .ok (.if_icmp .ge 76, 3) := by decide +kernel
theorem dX7_opens_162 : decode cX7_opens 162 = .ok (.aload_n 0, 1) := by decide +kernel
theorem dX7_opens_163 : decode cX7_opens 163 = .ok (.getfield 119, 3) := by decide +kernel
theorem dX7_opens_166 : decode cX7_opens 166 = .ok (.iload_n 2, 1) := by decide +kernel
theorem dX7_opens_167 : decode cX7_opens 167 = .ok (.ishr, 1) := by decide +kernel
theorem dX7_opens_168 : decode cX7_opens 168 = .ok (.iconst 1, 1) := by decide +kernel
theorem dX7_opens_169 : decode cX7_opens 169 = .ok (.iand, 1) := by decide +kernel
theorem dX7_opens_170 : decode cX7_opens 170 = .ok (.iconst 1, 1) := by decide +kernel
theorem dX7_opens_171 : decode cX7_opens 171 = .ok (.if_icmp .ne 7, 3) := by decide +kernel
theorem dX7_opens_174 : decode cX7_opens 174 = .ok (.iconst 1, 1) := by decide +kernel
theorem dX7_opens_175 : decode cX7_opens 175 = .ok (.goto 4, 3) := by decide +kernel
theorem dX7_opens_178 : decode cX7_opens 178 = .ok (.iconst 0, 1) := by decide +kernel
theorem dX7_opens_179 : decode cX7_opens 179 = .ok (.istore_n 3, 1) := by decide +kernel
theorem dX7_opens_180 : decode cX7_opens 180 = .ok (.aload_n 0, 1) := by decide +kernel
theorem dX7_opens_181 : decode cX7_opens 181 = .ok (.dup, 1) := by decide +kernel
theorem dX7_opens_182 : decode cX7_opens 182 = .ok (.getfield 119, 3) := by decide +kernel
theorem dX7_opens_185 : decode cX7_opens 185 = .ok (.iload_n 3, 1) := by decide +kernel
theorem dX7_opens_186 : decode cX7_opens 186 = .ok (.ifCond .eq 38, 3) := by decide +kernel
theorem dX7_opens_189 : decode cX7_opens 189 = .ok (.aload_n 0, 1) := by decide +kernel
theorem dX7_opens_190 : decode cX7_opens 190 = .ok (.iload_n 2, 1) := by decide +kernel
theorem dX7_opens_191 : decode cX7_opens 191 = .ok (.invokevirtual 132, 3) := by decide +kernel
theorem dX7_opens_194 : decode cX7_opens 194 = .ok (.iconst 3, 1) := by decide +kernel
theorem dX7_opens_195 : decode cX7_opens 195 = .ok (.if_icmp .ne 29, 3) := by decide +kernel
theorem dX7_opens_198 : decode cX7_opens 198 = .ok (.aload_n 0, 1) := by decide +kernel
theorem dX7_opens_199 : decode cX7_opens 199 = .ok (.iload_n 2, 1) := by decide +kernel
theorem dX7_opens_200 : decode cX7_opens 200 = .ok (.aload_n 0, 1) := by decide +kernel
theorem dX7_opens_201 : decode cX7_opens 201 = .ok (.getfield 119, 3) := by decide +kernel
theorem dX7_opens_204 : decode cX7_opens 204 = .ok (.invokevirtual 129, 3) := by decide +kernel
theorem dX7_opens_207 : decode cX7_opens 207 = .ok (.aload_n 0, 1) := by decide +kernel
theorem dX7_opens_208 : decode cX7_opens 208 = .ok (.getfield 25, 3) := by decide +kernel
theorem dX7_opens_211 : decode cX7_opens 211 = .ok (.iload_n 2, 1) := by decide +kernel
theorem dX7_opens_212 : decode cX7_opens 212 = .ok (.iaload, 1) := by decide +kernel
theorem dX7_opens_213 : decode cX7_opens 213 = .ok (.if_icmp .ge 11, 3) := by decide +kernel
theorem dX7_opens_216 : decode cX7_opens 216 = .ok (.iconst 1, 1) := by decide +kernel
theorem dX7_opens_217 : decode cX7_opens 217 = .ok (.iload_n 2, 1) := by decide +kernel
theorem dX7_opens_218 : decode cX7_opens 218 = .ok (.ishl, 1) := by decide +kernel
theorem dX7_opens_219 : decode cX7_opens 219 = .ok (.iconst (-1), 1) := by decide +kernel
theorem dX7_opens_220 : decode cX7_opens 220 = .ok (.ixor, 1) := by decide +kernel
theorem dX7_opens_221 : decode cX7_opens 221 = .ok (.goto 4, 3) := by decide +kernel
theorem dX7_opens_224 : decode cX7_opens 224 = .ok (.iconst (-1), 1) := by decide +kernel
theorem dX7_opens_225 : decode cX7_opens 225 = .ok (.iand, 1) := by decide +kernel
theorem dX7_opens_226 : decode cX7_opens 226 = .ok (.putfield 119, 3) := by decide +kernel
theorem dX7_opens_229 : decode cX7_opens 229 = .ok (.iinc 2 1, 3) := by decide +kernel
theorem dX7_opens_232 : decode cX7_opens 232 = .ok (.goto (-80), 3) := by decide +kernel
theorem dX7_opens_235 : decode cX7_opens 235 = .ok (.aload_n 0, 1) := by decide +kernel
theorem dX7_opens_236 : decode cX7_opens 236 = .ok (.invokevirtual 135, 3) := by decide +kernel
theorem dX7_opens_239 : decode cX7_opens 239 = .ok (.return_, 1) := by decide +kernel
set_option maxRecDepth 20000 in
theorem ggX7_rests_X7_inRow : GoodIn wsX7_rests wsX7_inRow := goodIn_r _ [8, 1, 9, 10, 11, 7, 12, 13, 14, 15, 16, 17, 18, 19, 20, 21, 22, 23, 24, 25, 26, 27, 28, 29] (by decide +kernel) (by decide +kernel)
set_option maxRecDepth 20000 in
theorem gX7_rests_X7_inRow : GoodIn wsX7_rests (wsV RX7 129 RX7 yX7_inRow wsX7_inRow) := goodIn_app (goodIn_of _ (by decide +kernel)) ggX7_rests_X7_inRow
theorem dX7_rests_0 : decode cX7_rests 0 = .ok (.iconst 0, 1) := by decide +kernel
theorem dX7_rests_1 : decode cX7_rests 1 = .ok (.istore_n 1, 1) := by decide +kernel
theorem dX7_rests_2 : decode cX7_rests 2 = .ok (.iload_n 1, 1) := by decide +kernel
theorem dX7_rests_3 : decode cX7_rests 3 = .ok (.aload_n 0, 1) := by decide +kernel
theorem dX7_rests_4 : decode cX7_rests 4 = .ok (.getfield 7, 3) := by decide +kernel
theorem dX7_rests_7 : decode cX7_rests 7 = .ok (.iconst 0, 1) := by decide +kernel
theorem dX7_rests_8 : decode cX7_rests 8 = .ok (.iaload, 1) := by decide +kernel
theorem dX7_rests_9 : decode cX7_rests 9 = .ok (.if_icmp .ge 45, 3) := by decide +kernel
theorem dX7_rests_12 : decode cX7_rests 12 = .ok (.aload_n 0, 1) := by decide +kernel
theorem dX7_rests_13 : decode cX7_rests 13 = .ok (.getfield 25, 3) := by decide +kernel
theorem dX7_rests_16 : decode cX7_rests 16 = .ok (.iload_n 1, 1) := by decide +kernel
theorem dX7_rests_17 : decode cX7_rests 17 = .ok (.aload_n 0, 1) := by decide +kernel
theorem dX7_rests_18 : decode cX7_rests 18 = .ok (.getfield 119, 3) := by decide +kernel
theorem dX7_rests_21 : decode cX7_rests 21 = .ok (.iload_n 1, 1) := by decide +kernel
theorem dX7_rests_22 : decode cX7_rests 22 = .ok (.ishr, 1) := by decide +kernel
theorem dX7_rests_23 : decode cX7_rests 23 = .ok (.iconst 1, 1) := by decide +kernel
theorem dX7_rests_24 : decode cX7_rests 24 = .ok (.iand, 1) := by decide +kernel
theorem dX7_rests_25 : decode cX7_rests 25 = .ok (.iconst 1, 1) := by decide +kernel
theorem dX7_rests_26 : decode cX7_rests 26 = .ok (.if_icmp .ne 12, 3) := by decide +kernel
theorem dX7_rests_29 : decode cX7_rests 29 = .ok (.aload_n 0, 1) := by decide +kernel
theorem dX7_rests_30 : decode cX7_rests 30 = .ok (.getfield 25, 3) := by decide +kernel
theorem dX7_rests_33 : decode cX7_rests 33 = .ok (.iload_n 1, 1) := by decide +kernel
theorem dX7_rests_34 : decode cX7_rests 34 = .ok (.iaload, 1) := by decide +kernel
theorem dX7_rests_35 : decode cX7_rests 35 = .ok (.goto 12, 3) := by decide +kernel
theorem dX7_rests_38 : decode cX7_rests 38 = .ok (.aload_n 0, 1) := by decide +kernel
theorem dX7_rests_39 : decode cX7_rests 39 = .ok (.iload_n 1, 1) := by decide +kernel
theorem dX7_rests_40 : decode cX7_rests 40 = .ok (.aload_n 0, 1) := by decide +kernel
theorem dX7_rests_41 : decode cX7_rests 41 = .ok (.getfield 119, 3) := by decide +kernel
theorem dX7_rests_44 : decode cX7_rests 44 = .ok (.invokevirtual 129, 3) := by decide +kernel
theorem dX7_rests_47 : decode cX7_rests 47 = .ok (.iastore, 1) := by decide +kernel
theorem dX7_rests_48 : decode cX7_rests 48 = .ok (.iinc 1 1, 3) := by decide +kernel
theorem dX7_rests_51 : decode cX7_rests 51 = .ok (.goto (-49), 3) := by decide +kernel
theorem dX7_rests_54 : decode cX7_rests 54 = .ok (.return_, 1) := by decide +kernel
set_option maxRecDepth 20000 in
theorem ggX7_sends_X7_orders : GoodIn wsX7_sends wsX7_orders := goodIn_r _ [9, 2, 3, 10, 11, 12, 8, 13, 30, 31, 32, 33, 34, 35, 36, 37, 38, 39, 40, 41, 42, 43, 44, 45, 46] (by decide +kernel) (by decide +kernel)
set_option maxRecDepth 20000 in
theorem gX7_sends_X7_orders : GoodIn wsX7_sends (wsV RX7 116 RX7 yX7_orders wsX7_orders) := goodIn_app (goodIn_of _ (by decide +kernel)) ggX7_sends_X7_orders
set_option maxRecDepth 20000 in
theorem ggX7_sends_X7_there : GoodIn wsX7_sends wsX7_there := goodIn_r _ [17, 2, 10, 11, 12, 8, 13, 18, 19, 20, 21, 30, 31, 32, 33, 34, 35, 36, 37, 38, 39, 40, 41, 42, 43, 44, 45, 46] (by decide +kernel) (by decide +kernel)
set_option maxRecDepth 20000 in
theorem gX7_sends_X7_there : GoodIn wsX7_sends (wsV RX7 125 RX7 yX7_there wsX7_there) := goodIn_app (goodIn_of _ (by decide +kernel)) ggX7_sends_X7_there
set_option maxRecDepth 20000 in
theorem ggX7_sends_X7_rests : GoodIn wsX7_sends wsX7_rests := goodIn_r _ [25, 2, 4, 1, 26, 27, 28, 8, 29, 18, 19, 20, 21, 30, 31, 32, 33, 34, 35, 36, 37, 38, 39, 40, 41, 42, 43, 44, 45, 46] (by decide +kernel) (by decide +kernel)
set_option maxRecDepth 20000 in
theorem gX7_sends_X7_rests : GoodIn wsX7_sends (wsV RX7 135 RX7 yX7_rests wsX7_rests) := goodIn_app (goodIn_of _ (by decide +kernel)) ggX7_sends_X7_rests
theorem dX7_sends_0 : decode cX7_sends 0 = .ok (.aload_n 0, 1) := by decide +kernel
theorem dX7_sends_1 : decode cX7_sends 1 = .ok (.invokevirtual 116, 3) := by decide +kernel
theorem dX7_sends_4 : decode cX7_sends 4 = .ok (.aload_n 0, 1) := by decide +kernel
theorem dX7_sends_5 : decode cX7_sends 5 = .ok (.iload_n 1, 1) := by decide +kernel
theorem dX7_sends_6 : decode cX7_sends 6 = .ok (.putfield 119, 3) := by decide +kernel
theorem dX7_sends_9 : decode cX7_sends 9 = .ok (.iconst 0, 1) := by decide +kernel
theorem dX7_sends_10 : decode cX7_sends 10 = .ok (.istore_n 2, 1) := by decide +kernel
theorem dX7_sends_11 : decode cX7_sends 11 = .ok (.iconst 0, 1) := by decide +kernel
theorem dX7_sends_12 : decode cX7_sends 12 = .ok (.istore_n 3, 1) := by decide +kernel
theorem dX7_sends_13 : decode cX7_sends 13 = .ok (.iload_n 3, 1) := by decide +kernel
theorem dX7_sends_14 : decode cX7_sends 14 = .ok (.aload_n 0, 1) := by decide +kernel
theorem dX7_sends_15 : decode cX7_sends 15 = .ok (.getfield 7, 3) := by decide +kernel
theorem dX7_sends_18 : decode cX7_sends 18 = .ok (.iconst 0, 1) := by decide +kernel
theorem dX7_sends_19 : decode cX7_sends 19 = .ok (.iaload, 1) := by decide +kernel
theorem dX7_sends_20 : decode cX7_sends 20 = .ok (.if_icmp .ge 43, 3) := by decide +kernel
theorem dX7_sends_23 : decode cX7_sends 23 = .ok (.aload_n 0, 1) := by decide +kernel
theorem dX7_sends_24 : decode cX7_sends 24 = .ok (.getfield 22, 3) := by decide +kernel
theorem dX7_sends_27 : decode cX7_sends 27 = .ok (.iload_n 3, 1) := by decide +kernel
theorem dX7_sends_28 : decode cX7_sends 28 = .ok (.iaload, 1) := by decide +kernel
theorem dX7_sends_29 : decode cX7_sends 29 = .ok (.istore 4, 2) := by decide +kernel
theorem dX7_sends_31 : decode cX7_sends 31 = .ok (.iload_n 1, 1) := by decide +kernel
theorem dX7_sends_32 : decode cX7_sends 32 = .ok (.iload 4, 2) := by decide +kernel
theorem dX7_sends_34 : decode cX7_sends 34 = .ok (.ishr, 1) := by decide +kernel
theorem dX7_sends_35 : decode cX7_sends 35 = .ok (.iconst 1, 1) := by decide +kernel
theorem dX7_sends_36 : decode cX7_sends 36 = .ok (.iand, 1) := by decide +kernel
theorem dX7_sends_37 : decode cX7_sends 37 = .ok (.iconst 1, 1) := by decide +kernel
theorem dX7_sends_38 : decode cX7_sends 38 = .ok (.if_icmp .ne 19, 3) := by decide +kernel
theorem dX7_sends_41 : decode cX7_sends 41 = .ok (.aload_n 0, 1) := by decide +kernel
theorem dX7_sends_42 : decode cX7_sends 42 = .ok (.iload 4, 2) := by decide +kernel
theorem dX7_sends_44 : decode cX7_sends 44 = .ok (.iload_n 2, 1) := by decide +kernel
theorem dX7_sends_45 : decode cX7_sends 45 = .ok (.invokevirtual 125, 3) := by decide +kernel
theorem dX7_sends_48 : decode cX7_sends 48 = .ok (.istore_n 2, 1) := by decide +kernel
theorem dX7_sends_49 : decode cX7_sends 49 = .ok (.aload_n 0, 1) := by decide +kernel
theorem dX7_sends_50 : decode cX7_sends 50 = .ok (.getfield 25, 3) := by decide +kernel
theorem dX7_sends_53 : decode cX7_sends 53 = .ok (.iload 4, 2) := by decide +kernel
theorem dX7_sends_55 : decode cX7_sends 55 = .ok (.iload_n 2, 1) := by decide +kernel
theorem dX7_sends_56 : decode cX7_sends 56 = .ok (.iastore, 1) := by decide +kernel
theorem dX7_sends_57 : decode cX7_sends 57 = .ok (.iinc 3 1, 3) := by decide +kernel
theorem dX7_sends_60 : decode cX7_sends 60 = .ok (.goto (-47), 3) := by decide +kernel
theorem dX7_sends_63 : decode cX7_sends 63 = .ok (.aload_n 0, 1) := by decide +kernel
theorem dX7_sends_64 : decode cX7_sends 64 = .ok (.invokevirtual 135, 3) := by decide +kernel
theorem dX7_sends_67 : decode cX7_sends 67 = .ok (.return_, 1) := by decide +kernel
theorem dX7_sum_0 : decode cX7_sum 0 = .ok (.iconst 0, 1) := by decide +kernel
theorem dX7_sum_1 : decode cX7_sum 1 = .ok (.istore_n 1, 1) := by decide +kernel
theorem dX7_sum_2 : decode cX7_sum 2 = .ok (.iconst 0, 1) := by decide +kernel
theorem dX7_sum_3 : decode cX7_sum 3 = .ok (.istore_n 2, 1) := by decide +kernel
theorem dX7_sum_4 : decode cX7_sum 4 = .ok (.iload_n 2, 1) := by decide +kernel
theorem dX7_sum_5 : decode cX7_sum 5 = .ok (.aload_n 0, 1) := by decide +kernel
theorem dX7_sum_6 : decode cX7_sum 6 = .ok (.getfield 7, 3) := by decide +kernel
theorem dX7_sum_9 : decode cX7_sum 9 = .ok (.iconst 0, 1) := by decide +kernel
theorem dX7_sum_10 : decode cX7_sum 10 = .ok (.iaload, 1) := by decide +kernel
theorem dX7_sum_11 : decode cX7_sum 11 = .ok (.if_icmp .ge 18, 3) := by decide +kernel
theorem dX7_sum_14 : decode cX7_sum 14 = .ok (.iload_n 1, 1) := by decide +kernel
theorem dX7_sum_15 : decode cX7_sum 15 = .ok (.aload_n 0, 1) := by decide +kernel
theorem dX7_sum_16 : decode cX7_sum 16 = .ok (.getfield 25, 3) := by decide +kernel
theorem dX7_sum_19 : decode cX7_sum 19 = .ok (.iload_n 2, 1) := by decide +kernel
theorem dX7_sum_20 : decode cX7_sum 20 = .ok (.iaload, 1) := by decide +kernel
theorem dX7_sum_21 : decode cX7_sum 21 = .ok (.iadd, 1) := by decide +kernel
theorem dX7_sum_22 : decode cX7_sum 22 = .ok (.istore_n 1, 1) := by decide +kernel
theorem dX7_sum_23 : decode cX7_sum 23 = .ok (.iinc 2 1, 3) := by decide +kernel
theorem dX7_sum_26 : decode cX7_sum 26 = .ok (.goto (-22), 3) := by decide +kernel
theorem dX7_sum_29 : decode cX7_sum 29 = .ok (.iload_n 1, 1) := by decide +kernel
theorem dX7_sum_30 : decode cX7_sum 30 = .ok (.ireturn, 1) := by decide +kernel
theorem dX7_latest_0 : decode cX7_latest 0 = .ok (.iconst 0, 1) := by decide +kernel
