theorem dX7_latest_1 : decode cX7_latest 1 = .ok (.istore_n 1, 1) := by decide +kernel
theorem dX7_latest_2 : decode cX7_latest 2 = .ok (.iconst 0, 1) := by decide +kernel
theorem dX7_latest_3 : decode cX7_latest 3 = .ok (.istore_n 2, 1) := by decide +kernel
theorem dX7_latest_4 : decode cX7_latest 4 = .ok (.iload_n 2, 1) := by decide +kernel
theorem dX7_latest_5 : decode cX7_latest 5 = .ok (.aload_n 0, 1) := by decide +kernel
theorem dX7_latest_6 : decode cX7_latest 6 = .ok (.getfield 7, 3) := by decide +kernel
theorem dX7_latest_9 : decode cX7_latest 9 = .ok (.iconst 0, 1) := by decide +kernel
theorem dX7_latest_10 : decode cX7_latest 10 = .ok (.iaload, 1) := by decide +kernel
theorem dX7_latest_11 : decode cX7_latest 11 = .ok (.if_icmp .ge 30, 3) := by decide +kernel
theorem dX7_latest_14 : decode cX7_latest 14 = .ok (.aload_n 0, 1) := by decide +kernel
theorem dX7_latest_15 : decode cX7_latest 15 = .ok (.getfield 25, 3) := by decide +kernel
theorem dX7_latest_18 : decode cX7_latest 18 = .ok (.iload_n 2, 1) := by decide +kernel
theorem dX7_latest_19 : decode cX7_latest 19 = .ok (.iaload, 1) := by decide +kernel
theorem dX7_latest_20 : decode cX7_latest 20 = .ok (.iload_n 1, 1) := by decide +kernel
theorem dX7_latest_21 : decode cX7_latest 21 = .ok (.if_icmp .le 12, 3) := by decide +kernel
theorem dX7_latest_24 : decode cX7_latest 24 = .ok (.aload_n 0, 1) := by decide +kernel
theorem dX7_latest_25 : decode cX7_latest 25 = .ok (.getfield 25, 3) := by decide +kernel
theorem dX7_latest_28 : decode cX7_latest 28 = .ok (.iload_n 2, 1) := by decide +kernel
theorem dX7_latest_29 : decode cX7_latest 29 = .ok (.iaload, 1) := by decide +kernel
theorem dX7_latest_30 : decode cX7_latest 30 = .ok (.goto 4, 3) := by decide +kernel
theorem dX7_latest_33 : decode cX7_latest 33 = .ok (.iload_n 1, 1) := by decide +kernel
theorem dX7_latest_34 : decode cX7_latest 34 = .ok (.istore_n 1, 1) := by decide +kernel
theorem dX7_latest_35 : decode cX7_latest 35 = .ok (.iinc 2 1, 3) := by decide +kernel
theorem dX7_latest_38 : decode cX7_latest 38 = .ok (.goto (-34), 3) := by decide +kernel
theorem dX7_latest_41 : decode cX7_latest 41 = .ok (.iload_n 1, 1) := by decide +kernel
theorem dX7_latest_42 : decode cX7_latest 42 = .ok (.ireturn, 1) := by decide +kernel
theorem dX7_overtakes_0 : decode cX7_overtakes 0 = .ok (.iconst 0, 1) := by decide +kernel
theorem dX7_overtakes_1 : decode cX7_overtakes 1 = .ok (.istore_n 2, 1) := by decide +kernel
theorem dX7_overtakes_2 : decode cX7_overtakes 2 = .ok (.iload_n 1, 1) := by decide +kernel
theorem dX7_overtakes_3 : decode cX7_overtakes 3 = .ok (.iconst 1, 1) := by decide +kernel
theorem dX7_overtakes_4 : decode cX7_overtakes 4 = .ok (.iadd, 1) := by decide +kernel
theorem dX7_overtakes_5 : decode cX7_overtakes 5 = .ok (.istore_n 3, 1) := by decide +kernel
theorem dX7_overtakes_6 : decode cX7_overtakes 6 = .ok (.iload_n 3, 1) := by decide +kernel
theorem dX7_overtakes_7 : decode cX7_overtakes 7 = .ok (.aload_n 0, 1) := by decide +kernel
theorem dX7_overtakes_8 : decode cX7_overtakes 8 = .ok (.getfield 7, 3) := by decide +kernel
theorem dX7_overtakes_11 : decode cX7_overtakes 11 = .ok (.iconst 0, 1) := by decide +kernel
theorem dX7_overtakes_12 : decode cX7_overtakes 12 = .ok (.iaload, 1) := by decide +kernel
theorem dX7_overtakes_13 : decode cX7_overtakes 13 = .ok (.if_icmp .ge 34, 3) := by decide +kernel
theorem dX7_overtakes_16 : decode cX7_overtakes 16 = .ok (.iload_n 2, 1) := by decide +kernel
theorem dX7_overtakes_17 : decode cX7_overtakes 17 = .ok (.aload_n 0, 1) := by decide +kernel
theorem dX7_overtakes_18 : decode cX7_overtakes 18 = .ok (.getfield 25, 3) := by decide +kernel
theorem dX7_overtakes_21 : decode cX7_overtakes 21 = .ok (.iload_n 3, 1) := by decide +kernel
theorem dX7_overtakes_22 : decode cX7_overtakes 22 = .ok (.iaload, 1) := by decide +kernel
theorem dX7_overtakes_23 : decode cX7_overtakes 23 = .ok (.aload_n 0, 1) := by decide +kernel
theorem dX7_overtakes_24 : decode cX7_overtakes 24 = .ok (.getfield 25, 3) := by decide +kernel
theorem dX7_overtakes_27 : decode cX7_overtakes 27 = .ok (.iload_n 1, 1) := by decide +kernel
theorem dX7_overtakes_28 : decode cX7_overtakes 28 = .ok (.iaload, 1) := by decide +kernel
theorem dX7_overtakes_29 : decode cX7_overtakes 29 = .ok (.if_icmp .ge 9, 3) := by decide +kernel
theorem dX7_overtakes_32 : decode cX7_overtakes 32 = .ok (.iconst 1, 1) := by decide +kernel
theorem dX7_overtakes_33 : decode cX7_overtakes 33 = .ok (.iload_n 3, 1) := by decide +kernel
theorem dX7_overtakes_34 : decode cX7_overtakes 34 = .ok (.ishl, 1) := by decide +kernel
theorem dX7_overtakes_35 : decode cX7_overtakes 35 = .ok (.goto 4, 3) := by decide +kernel
theorem dX7_overtakes_38 : decode cX7_overtakes 38 = .ok (.iconst 0, 1) := by decide +kernel
theorem dX7_overtakes_39 : decode cX7_overtakes 39 = .ok (.ior, 1) := by decide +kernel
theorem dX7_overtakes_40 : decode cX7_overtakes 40 = .ok (.istore_n 2, 1) := by decide +kernel
theorem dX7_overtakes_41 : decode cX7_overtakes 41 = .ok (.iinc 3 1, 3) := by decide +kernel
theorem dX7_overtakes_44 : decode cX7_overtakes 44 = .ok (.goto (-38), 3) := by decide +kernel
theorem dX7_overtakes_47 : decode cX7_overtakes 47 = .ok (.iload_n 2, 1) := by decide +kernel
theorem dX7_overtakes_48 : decode cX7_overtakes 48 = .ok (.ireturn, 1) := by decide +kernel
set_option maxRecDepth 20000 in
theorem ggX7_overtakings_X7_overtakes : GoodIn wsX7_overtakings wsX7_overtakes := goodIn_r _ [6, 1, 7, 11, 12, 13, 14, 15, 16, 17, 18, 19, 20, 21, 22, 23, 24, 25, 26, 27] (by decide +kernel) (by decide +kernel)
set_option maxRecDepth 20000 in
theorem gX7_overtakings_X7_overtakes : GoodIn wsX7_overtakings (wsV RX7 138 RX7 yX7_overtakes wsX7_overtakes) := goodIn_app (goodIn_of _ (by decide +kernel)) ggX7_overtakings_X7_overtakes
set_option maxRecDepth 20000 in
theorem ggX7_overtakings_X7_many : GoodIn wsX7_overtakings wsX7_many := goodIn_r _ [10] (by decide +kernel) (by decide +kernel)
set_option maxRecDepth 20000 in
theorem gX7_overtakings_X7_many : GoodIn wsX7_overtakings (va_wsS RX7 122 yX7_many wsX7_many) := goodIn_app (goodIn_of _ (by decide +kernel)) ggX7_overtakings_X7_many
theorem dX7_overtakings_0 : decode cX7_overtakings 0 = .ok (.iconst 0, 1) := by decide +kernel
theorem dX7_overtakings_1 : decode cX7_overtakings 1 = .ok (.istore_n 1, 1) := by decide +kernel
theorem dX7_overtakings_2 : decode cX7_overtakings 2 = .ok (.iconst 0, 1) := by decide +kernel
theorem dX7_overtakings_3 : decode cX7_overtakings 3 = .ok (.istore_n 2, 1) := by decide +kernel
theorem dX7_overtakings_4 : decode cX7_overtakings 4 = .ok (.iload_n 2, 1) := by decide +kernel
theorem dX7_overtakings_5 : decode cX7_overtakings 5 = .ok (.aload_n 0, 1) := by decide +kernel
theorem dX7_overtakings_6 : decode cX7_overtakings 6 = .ok (.getfield 7, 3) := by decide +kernel
theorem dX7_overtakings_9 : decode cX7_overtakings 9 = .ok (.iconst 0, 1) := by decide +kernel
theorem dX7_overtakings_10 : decode cX7_overtakings 10 = .ok (.iaload, 1) := by decide +kernel
theorem dX7_overtakings_11 : decode cX7_overtakings 11 = .ok (.if_icmp .ge 20, 3) := by decide +kernel
theorem dX7_overtakings_14 : decode cX7_overtakings 14 = .ok (.iload_n 1, 1) := by decide +kernel
theorem dX7_overtakings_15 : decode cX7_overtakings 15 = .ok (.aload_n 0, 1) := by decide +kernel
theorem dX7_overtakings_16 : decode cX7_overtakings 16 = .ok (.iload_n 2, 1) := by decide +kernel
theorem dX7_overtakings_17 : decode cX7_overtakings 17 = .ok (.invokevirtual 138, 3) := by decide +kernel
theorem dX7_overtakings_20 : decode cX7_overtakings 20 = .ok (.invokestatic 122, 3) := by decide +kernel
theorem dX7_overtakings_23 : decode cX7_overtakings 23 = .ok (.iadd, 1) := by decide +kernel
theorem dX7_overtakings_24 : decode cX7_overtakings 24 = .ok (.istore_n 1, 1) := by decide +kernel
theorem dX7_overtakings_25 : decode cX7_overtakings 25 = .ok (.iinc 2 1, 3) := by decide +kernel
theorem dX7_overtakings_28 : decode cX7_overtakings 28 = .ok (.goto (-24), 3) := by decide +kernel
theorem dX7_overtakings_31 : decode cX7_overtakings 31 = .ok (.iload_n 1, 1) := by decide +kernel
theorem dX7_overtakings_32 : decode cX7_overtakings 32 = .ok (.ireturn, 1) := by decide +kernel
set_option maxRecDepth 20000 in
theorem ggX7_goes_X7_in : GoodIn wsX7_goes wsX7_in := goodIn_r _ [9] (by decide +kernel) (by decide +kernel)
set_option maxRecDepth 20000 in
theorem gX7_goes_X7_in : GoodIn wsX7_goes (va_wsS RX7 44 yX7_in wsX7_in) := goodIn_app (goodIn_of _ (by decide +kernel)) ggX7_goes_X7_in
set_option maxRecDepth 20000 in
theorem ggX7_goes_X7_opens : GoodIn wsX7_goes wsX7_opens := goodIn_r _ [13, 3, 4, 5, 14, 15, 16, 17, 8, 18, 19, 20, 21, 22, 23, 24, 25, 26, 27, 28, 29, 30, 31, 32, 33, 34, 35, 36, 37, 38, 39, 40, 41, 42, 43, 44, 45, 46, 47, 48, 49, 50, 51, 52, 53, 54, 55, 56, 57, 58, 59, 60, 61, 62] (by decide +kernel) (by decide +kernel)
set_option maxRecDepth 20000 in
theorem gX7_goes_X7_opens : GoodIn wsX7_goes (wsV RX7 145 RX7 yX7_opens wsX7_opens) := goodIn_app (goodIn_of _ (by decide +kernel)) ggX7_goes_X7_opens
theorem dX7_goes_0 : decode cX7_goes 0 = .ok (.iload_n 1, 1) := by decide +kernel
theorem dX7_goes_1 : decode cX7_goes 1 = .ok (.i2l, 1) := by decide +kernel
theorem dX7_goes_2 : decode cX7_goes 2 = .ok (.ldc2_w 141, 3) := by decide +kernel
theorem dX7_goes_5 : decode cX7_goes 5 = .ok (.ldc2_w 143, 3) := by decide +kernel
theorem dX7_goes_8 : decode cX7_goes 8 = .ok (.invokestatic 44, 3) := by decide +kernel
theorem dX7_goes_11 : decode cX7_goes 11 = .ok (.ifCond .ne 5, 3) := by decide +kernel
theorem dX7_goes_14 : decode cX7_goes 14 = .ok (.iconst (-1), 1) := by decide +kernel
theorem dX7_goes_15 : decode cX7_goes 15 = .ok (.ireturn, 1) := by decide +kernel
theorem dX7_goes_16 : decode cX7_goes 16 = .ok (.aload_n 0, 1) := by decide +kernel
theorem dX7_goes_17 : decode cX7_goes 17 = .ok (.invokevirtual 145, 3) := by decide +kernel
theorem dX7_goes_20 : decode cX7_goes 20 = .ok (.iload_n 1, 1) := by decide +kernel
theorem dX7_goes_21 : decode cX7_goes 21 = .ok (.ifCond .ge 8, 3) := by decide +kernel
theorem dX7_goes_24 : decode cX7_goes 24 = .ok (.aload_n 0, 1) := by decide +kernel
theorem dX7_goes_25 : decode cX7_goes 25 = .ok (.getfield 119, 3) := by decide +kernel
theorem dX7_goes_28 : decode cX7_goes 28 = .ok (.ireturn, 1) := by decide +kernel
theorem dX7_goes_29 : decode cX7_goes 29 = .ok (.iconst 0, 1) := by decide +kernel
theorem dX7_goes_30 : decode cX7_goes 30 = .ok (.istore_n 2, 1) := by decide +kernel
theorem dX7_goes_31 : decode cX7_goes 31 = .ok (.bipush (-4), 2) := by decide +kernel
theorem dX7_goes_33 : decode cX7_goes 33 = .ok (.istore_n 3, 1) := by decide +kernel
theorem dX7_goes_34 : decode cX7_goes 34 = .ok (.iconst 0, 1) := by decide +kernel
theorem dX7_goes_35 : decode cX7_goes 35 = .ok (.istore 4, 2) := by decide +kernel
theorem dX7_goes_37 : decode cX7_goes 37 = .ok (.iload 4, 2) := by decide +kernel
theorem dX7_goes_39 : decode cX7_goes 39 = .ok (.aload_n 0, 1) := by decide +kernel
theorem dX7_goes_40 : decode cX7_goes 40 = .ok (.getfield 7, 3) := by decide +kernel
theorem dX7_goes_43 : decode cX7_goes 43 = .ok (.iconst 0, 1) := by decide +kernel
theorem dX7_goes_44 : decode cX7_goes 44 = .ok (.iaload, 1) := by decide +kernel
theorem dX7_goes_45 : decode cX7_goes 45 = .ok (.if_icmp .ge 69, 3) := by decide +kernel
theorem dX7_goes_48 : decode cX7_goes 48 = .ok (.aload_n 0, 1) := by decide +kernel
theorem dX7_goes_49 : decode cX7_goes 49 = .ok (.getfield 119, 3) := by decide +kernel
theorem dX7_goes_52 : decode cX7_goes 52 = .ok (.aload_n 0, 1) := by decide +kernel
theorem dX7_goes_53 : decode cX7_goes 53 = .ok (.getfield 22, 3) := by decide +kernel
theorem dX7_goes_56 : decode cX7_goes 56 = .ok (.iload 4, 2) := by decide +kernel
theorem dX7_goes_58 : decode cX7_goes 58 = .ok (.iaload, 1) := by decide +kernel
theorem dX7_goes_59 : decode cX7_goes 59 = .ok (.ishr, 1) := by decide +kernel
theorem dX7_goes_60 : decode cX7_goes 60 = .ok (.iconst 1, 1) := by decide +kernel
theorem dX7_goes_61 : decode cX7_goes 61 = .ok (.iand, 1) := by decide +kernel
theorem dX7_goes_62 : decode cX7_goes 62 = .ok (.iconst 1, 1) := by decide +kernel
theorem dX7_goes_63 : decode cX7_goes 63 = .ok (.if_icmp .ne 7, 3) := by decide +kernel
theorem dX7_goes_66 : decode cX7_goes 66 = .ok (.iconst 1, 1) := by decide +kernel
theorem dX7_goes_67 : decode cX7_goes 67 = .ok (.goto 4, 3) := by decide +kernel
theorem dX7_goes_70 : decode cX7_goes 70 = .ok (.iconst 0, 1) := by decide +kernel
theorem dX7_goes_71 : decode cX7_goes 71 = .ok (.istore 5, 2) := by decide +kernel
theorem dX7_goes_73 : decode cX7_goes 73 = .ok (.iload 5, 2) := by decide +kernel
theorem dX7_goes_75 : decode cX7_goes 75 = .ok (.ifCond .eq 18, 3) := by decide +kernel
theorem dX7_goes_78 : decode cX7_goes 78 = .ok (.iload_n 2, 1) := by decide +kernel
theorem dX7_goes_79 : decode cX7_goes 79 = .ok (.iload_n 1, 1) := by decide +kernel
theorem dX7_goes_80 : decode cX7_goes 80 = .ok (.if_icmp .ne 13, 3) := by decide +kernel
theorem dX7_goes_83 : decode cX7_goes 83 = .ok (.aload_n 0, 1) := by decide +kernel
theorem dX7_goes_84 : decode cX7_goes 84 = .ok (.getfield 22, 3) := by decide +kernel
theorem dX7_goes_87 : decode cX7_goes 87 = .ok (.iload 4, 2) := by decide +kernel
theorem dX7_goes_89 : decode cX7_goes 89 = .ok (.iaload, 1) := by decide +kernel
theorem dX7_goes_90 : decode cX7_goes 90 = .ok (.goto 4, 3) := by decide +kernel
theorem dX7_goes_93 : decode cX7_goes 93 = .ok (.iload_n 3, 1) := by decide +kernel
theorem dX7_goes_94 : decode cX7_goes 94 = .ok (.istore_n 3, 1) := by decide +kernel
theorem dX7_goes_95 : decode cX7_goes 95 = .ok (.iload_n 2, 1) := by decide +kernel
theorem dX7_goes_96 : decode cX7_goes 96 = .ok (.iload 5, 2) := by decide +kernel
theorem dX7_goes_98 : decode cX7_goes 98 = .ok (.ifCond .eq 7, 3) := by decide +kernel
theorem dX7_goes_101 : decode cX7_goes 101 = .ok (.iconst 1, 1) := by decide +kernel
theorem dX7_goes_102 : decode cX7_goes 102 = .ok (.goto 4, 3) := by decide +kernel
theorem dX7_goes_105 : decode cX7_goes 105 = .ok (.iconst 0, 1) := by decide +kernel
theorem dX7_goes_106 : decode cX7_goes 106 = .ok (.iadd, 1) := by decide +kernel
theorem dX7_goes_107 : decode cX7_goes 107 = .ok (.istore_n 2, 1) := by decide +kernel
theorem dX7_goes_108 : decode cX7_goes 108 = .ok (.iinc 4 1, 3) := by decide +kernel
theorem dX7_goes_111 : decode cX7_goes 111 = .ok (.goto (-74), 3) := by decide +kernel
theorem dX7_goes_114 : decode cX7_goes 114 = .ok (.iload_n 3, 1) := by decide +kernel
theorem dX7_goes_115 : decode cX7_goes 115 = .ok (.ireturn, 1) := by decide +kernel
set_option maxRecDepth 20000 in
theorem ggX7_isAsked_X7_isPerson : GoodIn wsX7_isAsked wsX7_isPerson := goodIn_r _ [5, 6, 7, 8, 4, 9, 10, 11, 12, 13, 14, 15, 16, 17, 18, 19, 20, 21, 22, 23, 24, 25, 26] (by decide +kernel) (by decide +kernel)
set_option maxRecDepth 20000 in
theorem gX7_isAsked_X7_isPerson : GoodIn wsX7_isAsked (wsV RX7 48 RX7 yX7_isPerson wsX7_isPerson) := goodIn_app (goodIn_of _ (by decide +kernel)) ggX7_isAsked_X7_isPerson
theorem dX7_isAsked_0 : decode cX7_isAsked 0 = .ok (.iload_n 1, 1) := by decide +kernel
theorem dX7_isAsked_1 : decode cX7_isAsked 1 = .ok (.iconst (-1), 1) := by decide +kernel
theorem dX7_isAsked_2 : decode cX7_isAsked 2 = .ok (.if_icmp .eq 17, 3) := by decide +kernel
theorem dX7_isAsked_5 : decode cX7_isAsked 5 = .ok (.iload_n 1, 1) := by decide +kernel
theorem dX7_isAsked_6 : decode cX7_isAsked 6 = .ok (.bipush (-2), 2) := by decide +kernel
theorem dX7_isAsked_8 : decode cX7_isAsked 8 = .ok (.if_icmp .eq 11, 3) := by decide +kernel
theorem dX7_isAsked_11 : decode cX7_isAsked 11 = .ok (.aload_n 0, 1) := by decide +kernel
theorem dX7_isAsked_12 : decode cX7_isAsked 12 = .ok (.iload_n 1, 1) := by decide +kernel
theorem dX7_isAsked_13 : decode cX7_isAsked 13 = .ok (.invokevirtual 48, 3) := by decide +kernel
theorem dX7_isAsked_16 : decode cX7_isAsked 16 = .ok (.ifCond .eq 7, 3) := by decide +kernel
theorem dX7_isAsked_19 : decode cX7_isAsked 19 = .ok (.iconst 1, 1) := by decide +kernel
theorem dX7_isAsked_20 : decode cX7_isAsked 20 = .ok (.goto 4, 3) := by decide +kernel
theorem dX7_isAsked_23 : decode cX7_isAsked 23 = .ok (.iconst 0, 1) := by decide +kernel
theorem dX7_isAsked_24 : decode cX7_isAsked 24 = .ok (.ireturn, 1) := by decide +kernel
set_option maxRecDepth 20000 in
theorem ggX7_asked_X7_latest : GoodIn wsX7_asked wsX7_latest := goodIn_r _ [6, 7, 1, 12, 13, 14, 15, 16, 17, 18, 19, 20, 21, 22, 23, 24, 25, 26, 27, 28] (by decide +kernel) (by decide +kernel)
set_option maxRecDepth 20000 in
theorem gX7_asked_X7_latest : GoodIn wsX7_asked (wsV RX7 148 RX7 yX7_latest wsX7_latest) := goodIn_app (goodIn_of _ (by decide +kernel)) ggX7_asked_X7_latest
set_option maxRecDepth 20000 in
theorem ggX7_asked_X7_sum : GoodIn wsX7_asked wsX7_sum := goodIn_r _ [11, 7, 1, 12, 13, 14, 15, 16, 17, 18, 19, 20, 21, 22, 23, 24, 25, 26, 27, 28] (by decide +kernel) (by decide +kernel)
set_option maxRecDepth 20000 in
theorem gX7_asked_X7_sum : GoodIn wsX7_asked (wsV RX7 151 RX7 yX7_sum wsX7_sum) := goodIn_app (goodIn_of _ (by decide +kernel)) ggX7_asked_X7_sum
theorem dX7_asked_0 : decode cX7_asked 0 = .ok (.iload_n 1, 1) := by decide +kernel
theorem dX7_asked_1 : decode cX7_asked 1 = .ok (.iconst (-1), 1) := by decide +kernel
theorem dX7_asked_2 : decode cX7_asked 2 = .ok (.if_icmp .ne 10, 3) := by decide +kernel
theorem dX7_asked_5 : decode cX7_asked 5 = .ok (.aload_n 0, 1) := by decide +kernel
theorem dX7_asked_6 : decode cX7_asked 6 = .ok (.invokevirtual 148, 3) := by decide +kernel
theorem dX7_asked_9 : decode cX7_asked 9 = .ok (.goto 22, 3) := by decide +kernel
theorem dX7_asked_12 : decode cX7_asked 12 = .ok (.iload_n 1, 1) := by decide +kernel
theorem dX7_asked_13 : decode cX7_asked 13 = .ok (.bipush (-2), 2) := by decide +kernel
theorem dX7_asked_15 : decode cX7_asked 15 = .ok (.if_icmp .ne 10, 3) := by decide +kernel
theorem dX7_asked_18 : decode cX7_asked 18 = .ok (.aload_n 0, 1) := by decide +kernel
theorem dX7_asked_19 : decode cX7_asked 19 = .ok (.invokevirtual 151, 3) := by decide +kernel
theorem dX7_asked_22 : decode cX7_asked 22 = .ok (.goto 9, 3) := by decide +kernel
theorem dX7_asked_25 : decode cX7_asked 25 = .ok (.aload_n 0, 1) := by decide +kernel
theorem dX7_asked_26 : decode cX7_asked 26 = .ok (.getfield 25, 3) := by decide +kernel
theorem dX7_asked_29 : decode cX7_asked 29 = .ok (.iload_n 1, 1) := by decide +kernel
theorem dX7_asked_30 : decode cX7_asked 30 = .ok (.iaload, 1) := by decide +kernel
theorem dX7_asked_31 : decode cX7_asked 31 = .ok (.ireturn, 1) := by decide +kernel
set_option maxRecDepth 20000 in
theorem ggX7_done_X7_isAsked : GoodIn wsX7_done wsX7_isAsked := goodIn_r _ [5, 6, 7, 8, 4, 9, 10, 11, 12, 13, 68, 69, 70, 71, 72, 73, 74, 75, 76, 77, 78, 79, 80, 81, 82, 83, 84] (by decide +kernel) (by decide +kernel)
set_option maxRecDepth 20000 in
theorem gX7_done_X7_isAsked : GoodIn wsX7_done (wsV RX7 154 RX7 yX7_isAsked wsX7_isAsked) := goodIn_app (goodIn_of _ (by decide +kernel)) ggX7_done_X7_isAsked
set_option maxRecDepth 20000 in
theorem ggX7_done_X7_in : GoodIn wsX7_done wsX7_in := goodIn_r _ [13] (by decide +kernel) (by decide +kernel)
set_option maxRecDepth 20000 in
theorem gX7_done_X7_in : GoodIn wsX7_done (va_wsS RX7 44 yX7_in wsX7_in) := goodIn_app (goodIn_of _ (by decide +kernel)) ggX7_done_X7_in
set_option maxRecDepth 20000 in
theorem ggX7_done_X7_opens : GoodIn wsX7_done wsX7_opens := goodIn_r _ [17, 18, 10, 19, 20, 21, 22, 23, 4, 24, 25, 26, 27, 28, 29, 30, 31, 32, 33, 34, 35, 36, 37, 38, 39, 40, 41, 42, 43, 44, 45, 46, 47, 48, 49, 50, 51, 68, 69, 70, 71, 72, 73, 74, 75, 76, 77, 78, 79, 80, 81, 82, 83, 84] (by decide +kernel) (by decide +kernel)
set_option maxRecDepth 20000 in
theorem gX7_done_X7_opens : GoodIn wsX7_done (wsV RX7 145 RX7 yX7_opens wsX7_opens) := goodIn_app (goodIn_of _ (by decide +kernel)) ggX7_done_X7_opens
set_option maxRecDepth 20000 in
theorem ggX7_done_X7_sends : GoodIn wsX7_done wsX7_sends := goodIn_r _ [55, 18, 10, 19, 20, 21, 22, 23, 4, 24, 25, 26, 27, 28, 32, 33, 34, 35, 36, 37, 38, 39, 48, 49, 50, 51, 40, 41, 42, 43, 68, 69, 70, 71, 72, 73, 74, 75, 76, 77, 78, 79, 80, 81, 82, 83, 84] (by decide +kernel) (by decide +kernel)
set_option maxRecDepth 20000 in
theorem gX7_done_X7_sends : GoodIn wsX7_done (wsV RX7 157 RX7 yX7_sends wsX7_sends) := goodIn_app (goodIn_of _ (by decide +kernel)) ggX7_done_X7_sends
set_option maxRecDepth 20000 in
theorem ggX7_done_X7_asked : GoodIn wsX7_done wsX7_asked := goodIn_r _ [59, 20, 60, 61, 62, 4, 63, 10, 64, 65, 66, 67, 68, 69, 70, 71, 72, 73, 74, 75, 76, 77, 78, 79, 80, 81, 82, 83, 84] (by decide +kernel) (by decide +kernel)
set_option maxRecDepth 20000 in
theorem gX7_done_X7_asked : GoodIn wsX7_done (wsV RX7 160 RX7 yX7_asked wsX7_asked) := goodIn_app (goodIn_of _ (by decide +kernel)) ggX7_done_X7_asked
theorem dX7_done_0 : decode cX7_done 0 = .ok (.aload_n 0, 1) := by decide +kernel
theorem dX7_done_1 : decode cX7_done 1 = .ok (.iload_n 1, 1) := by decide +kernel
theorem dX7_done_2 : decode cX7_done 2 = .ok (.invokevirtual 154, 3) := by decide +kernel
theorem dX7_done_5 : decode cX7_done 5 = .ok (.ifCond .eq 13, 3) := by decide +kernel
theorem dX7_done_8 : decode cX7_done 8 = .ok (.iload_n 2, 1) := by decide +kernel
theorem dX7_done_9 : decode cX7_done 9 = .ok (.i2l, 1) := by decide +kernel
theorem dX7_done_10 : decode cX7_done 10 = .ok (.lconst 0, 1) := by decide +kernel
theorem dX7_done_11 : decode cX7_done 11 = .ok (.lconst 1, 1) := by decide +kernel
theorem dX7_done_12 : decode cX7_done 12 = .ok (.invokestatic 44, 3) := by decide +kernel
theorem dX7_done_15 : decode cX7_done 15 = .ok (.ifCond .ne 5, 3) := by decide +kernel
theorem dX7_done_18 : decode cX7_done 18 = .ok (.iconst (-1), 1) := by decide +kernel
theorem dX7_done_19 : decode cX7_done 19 = .ok (.ireturn, 1) := by decide +kernel
theorem dX7_done_20 : decode cX7_done 20 = .ok (.iload_n 2, 1) := by decide +kernel
theorem dX7_done_21 : decode cX7_done 21 = .ok (.iconst 1, 1) := by decide +kernel
theorem dX7_done_22 : decode cX7_done 22 = .ok (.if_icmp .ne 10, 3) := by decide +kernel
theorem dX7_done_25 : decode cX7_done 25 = .ok (.aload_n 0, 1) := by decide +kernel
theorem dX7_done_26 : decode cX7_done 26 = .ok (.invokevirtual 145, 3) := by decide +kernel
theorem dX7_done_29 : decode cX7_done 29 = .ok (.goto 8, 3) := by decide +kernel
theorem dX7_done_32 : decode cX7_done 32 = .ok (.aload_n 0, 1) := by decide +kernel
theorem dX7_done_33 : decode cX7_done 33 = .ok (.iconst 0, 1) := by decide +kernel
theorem dX7_done_34 : decode cX7_done 34 = .ok (.invokevirtual 157, 3) := by decide +kernel
theorem dX7_done_37 : decode cX7_done 37 = .ok (.aload_n 0, 1) := by decide +kernel
theorem dX7_done_38 : decode cX7_done 38 = .ok (.iload_n 1, 1) := by decide +kernel
theorem dX7_done_39 : decode cX7_done 39 = .ok (.invokevirtual 160, 3) := by decide +kernel
theorem dX7_done_42 : decode cX7_done 42 = .ok (.ireturn, 1) := by decide +kernel
set_option maxRecDepth 20000 in
theorem ggX7_overtaken_X7_isPerson : GoodIn wsX7_overtaken wsX7_isPerson := goodIn_r _ [5, 6, 7, 8, 4, 9, 56, 57, 58, 59, 60, 61, 62, 63, 64, 65, 66, 67, 68, 69, 70, 71, 72] (by decide +kernel) (by decide +kernel)
set_option maxRecDepth 20000 in
theorem gX7_overtaken_X7_isPerson : GoodIn wsX7_overtaken (wsV RX7 48 RX7 yX7_isPerson wsX7_isPerson) := goodIn_app (goodIn_of _ (by decide +kernel)) ggX7_overtaken_X7_isPerson
set_option maxRecDepth 20000 in
theorem ggX7_overtaken_X7_opens : GoodIn wsX7_overtaken wsX7_opens := goodIn_r _ [13, 14, 6, 15, 16, 17, 18, 19, 4, 20, 21, 22, 23, 24, 25, 26, 27, 28, 29, 30, 31, 32, 33, 34, 35, 36, 37, 38, 39, 40, 41, 42, 43, 44, 45, 46, 47, 56, 57, 58, 59, 60, 61, 62, 63, 64, 65, 66, 67, 68, 69, 70, 71, 72] (by decide +kernel) (by decide +kernel)
set_option maxRecDepth 20000 in
theorem gX7_overtaken_X7_opens : GoodIn wsX7_overtaken (wsV RX7 145 RX7 yX7_opens wsX7_opens) := goodIn_app (goodIn_of _ (by decide +kernel)) ggX7_overtaken_X7_opens
set_option maxRecDepth 20000 in
theorem ggX7_overtaken_X7_overtakings : GoodIn wsX7_overtaken wsX7_overtakings := goodIn_r _ [51, 6, 52, 53, 54, 4, 55, 16, 25, 26, 27, 56, 57, 58, 59, 60, 61, 62, 63, 64, 65, 66, 67, 68, 69, 70, 71, 72] (by decide +kernel) (by decide +kernel)
set_option maxRecDepth 20000 in
theorem gX7_overtaken_X7_overtakings : GoodIn wsX7_overtaken (wsV RX7 163 RX7 yX7_overtakings wsX7_overtakings) := goodIn_app (goodIn_of _ (by decide +kernel)) ggX7_overtaken_X7_overtakings
set_option maxRecDepth 20000 in
theorem ggX7_overtaken_X7_overtakes : GoodIn wsX7_overtaken wsX7_overtakes := goodIn_r _ [55, 6, 16, 56, 57, 58, 59, 60, 61, 62, 63, 64, 65, 66, 67, 68, 69, 70, 71, 72] (by decide +kernel) (by decide +kernel)
set_option maxRecDepth 20000 in
theorem gX7_overtaken_X7_overtakes : GoodIn wsX7_overtaken (wsV RX7 138 RX7 yX7_overtakes wsX7_overtakes) := goodIn_app (goodIn_of _ (by decide +kernel)) ggX7_overtaken_X7_overtakes
theorem dX7_overtaken_0 : decode cX7_overtaken 0 = .ok (.iload_n 1, 1) := by decide +kernel
theorem dX7_overtaken_1 : decode cX7_overtaken 1 = .ok (.iconst (-1), 1) := by decide +kernel
theorem dX7_overtaken_2 : decode cX7_overtaken 2 = .ok (.if_icmp .eq 13, 3) := by decide +kernel
theorem dX7_overtaken_5 : decode cX7_overtaken 5 = .ok (.aload_n 0, 1) := by decide +kernel
theorem dX7_overtaken_6 : decode cX7_overtaken 6 = .ok (.iload_n 1, 1) := by decide +kernel
theorem dX7_overtaken_7 : decode cX7_overtaken 7 = .ok (.invokevirtual 48, 3) := by decide +kernel
theorem dX7_overtaken_10 : decode cX7_overtaken 10 = .ok (.ifCond .ne 5, 3) := by decide +kernel
theorem dX7_overtaken_13 : decode cX7_overtaken 13 = .ok (.iconst (-1), 1) := by decide +kernel
theorem dX7_overtaken_14 : decode cX7_overtaken 14 = .ok (.ireturn, 1) := by decide +kernel
theorem dX7_overtaken_15 : decode cX7_overtaken 15 = .ok (.aload_n 0, 1) := by decide +kernel
theorem dX7_overtaken_16 : decode cX7_overtaken 16 = .ok (.invokevirtual 145, 3) := by decide +kernel
theorem dX7_overtaken_19 : decode cX7_overtaken 19 = .ok (.iload_n 1, 1) := by decide +kernel
theorem dX7_overtaken_20 : decode cX7_overtaken 20 = .ok (.ifCond .ge 10, 3) := by decide +kernel
theorem dX7_overtaken_23 : decode cX7_overtaken 23 = .ok (.aload_n 0, 1) := by decide +kernel
theorem dX7_overtaken_24 : decode cX7_overtaken 24 = .ok (.invokevirtual 163, 3) := by decide +kernel
theorem dX7_overtaken_27 : decode cX7_overtaken 27 = .ok (.goto 8, 3) := by decide +kernel
theorem dX7_overtaken_30 : decode cX7_overtaken 30 = .ok (.aload_n 0, 1) := by decide +kernel
theorem dX7_overtaken_31 : decode cX7_overtaken 31 = .ok (.iload_n 1, 1) := by decide +kernel
theorem dX7_overtaken_32 : decode cX7_overtaken 32 = .ok (.invokevirtual 138, 3) := by decide +kernel
theorem dX7_overtaken_35 : decode cX7_overtaken 35 = .ok (.ireturn, 1) := by decide +kernel
set_option maxRecDepth 20000 in
theorem ggX7_leastOf_X7_sends : GoodIn wsX7_leastOf wsX7_sends := goodIn_r _ [7, 8, 1, 9, 10, 11, 12, 13, 6, 14, 15, 16, 17, 18, 19, 20, 21, 22, 23, 24, 25, 26, 27, 28, 29, 30, 31, 32, 33, 34, 54, 55, 56, 57, 58, 59, 60, 61, 62, 63, 64, 65, 66, 67, 68, 69, 70] (by decide +kernel) (by decide +kernel)
set_option maxRecDepth 20000 in
theorem gX7_leastOf_X7_sends : GoodIn wsX7_leastOf (wsV RX7 157 RX7 yX7_sends wsX7_sends) := goodIn_app (goodIn_of _ (by decide +kernel)) ggX7_leastOf_X7_sends
set_option maxRecDepth 20000 in
theorem ggX7_leastOf_X7_latest : GoodIn wsX7_leastOf wsX7_latest := goodIn_r _ [38, 1, 10, 54, 55, 56, 57, 58, 59, 60, 61, 62, 63, 64, 65, 66, 67, 68, 69, 70] (by decide +kernel) (by decide +kernel)
set_option maxRecDepth 20000 in
theorem gX7_leastOf_X7_latest : GoodIn wsX7_leastOf (wsV RX7 148 RX7 yX7_latest wsX7_latest) := goodIn_app (goodIn_of _ (by decide +kernel)) ggX7_leastOf_X7_latest
set_option maxRecDepth 20000 in
theorem ggX7_leastOf_X7_sum : GoodIn wsX7_leastOf wsX7_sum := goodIn_r _ [42, 1, 10, 54, 55, 56, 57, 58, 59, 60, 61, 62, 63, 64, 65, 66, 67, 68, 69, 70] (by decide +kernel) (by decide +kernel)
set_option maxRecDepth 20000 in
theorem gX7_leastOf_X7_sum : GoodIn wsX7_leastOf (wsV RX7 151 RX7 yX7_sum wsX7_sum) := goodIn_app (goodIn_of _ (by decide +kernel)) ggX7_leastOf_X7_sum
set_option maxRecDepth 20000 in
theorem ggX7_leastOf_X7_overtakings : GoodIn wsX7_leastOf wsX7_overtakings := goodIn_r _ [46, 1, 47, 48, 49, 6, 50, 10, 51, 52, 53, 54, 55, 56, 57, 58, 59, 60, 61, 62, 63, 64, 65, 66, 67, 68, 69, 70] (by decide +kernel) (by decide +kernel)
set_option maxRecDepth 20000 in
theorem gX7_leastOf_X7_overtakings : GoodIn wsX7_leastOf (wsV RX7 163 RX7 yX7_overtakings wsX7_overtakings) := goodIn_app (goodIn_of _ (by decide +kernel)) ggX7_leastOf_X7_overtakings
theorem dX7_leastOf_0 : decode cX7_leastOf 0 = .ok (.iconst (-1), 1) := by decide +kernel
theorem dX7_leastOf_1 : decode cX7_leastOf 1 = .ok (.istore_n 3, 1) := by decide +kernel
theorem dX7_leastOf_2 : decode cX7_leastOf 2 = .ok (.iconst 0, 1) := by decide +kernel
theorem dX7_leastOf_3 : decode cX7_leastOf 3 = .ok (.istore 4, 2) := by decide +kernel
theorem dX7_leastOf_5 : decode cX7_leastOf 5 = .ok (.iload 4, 2) := by decide +kernel
theorem dX7_leastOf_7 : decode cX7_leastOf 7 = .ok (.iconst 1, 1) := by decide +kernel
theorem dX7_leastOf_8 : decode cX7_leastOf 8 = .ok (.aload_n 0, 1) := by decide +kernel
theorem dX7_leastOf_9 : decode cX7_leastOf 9 = .ok (.getfield 7, 3) := by decide +kernel
theorem dX7_leastOf_12 : decode cX7_leastOf 12 = .ok (.iconst 0, 1) := by decide +kernel
theorem dX7_leastOf_13 : decode cX7_leastOf 13 = .ok (.iaload, 1) := by decide +kernel
theorem dX7_leastOf_14 : decode cX7_leastOf 14 = .ok (.ishl, 1) := by decide +kernel
theorem dX7_leastOf_15 : decode cX7_leastOf 15 = .ok (.if_icmp .ge 62, 3) := by decide +kernel
theorem dX7_leastOf_18 : decode cX7_leastOf 18 = .ok (.aload_n 0, 1) := by decide +kernel
theorem dX7_leastOf_19 : decode cX7_leastOf 19 = .ok (.iload 4, 2) := by decide +kernel
theorem dX7_leastOf_21 : decode cX7_leastOf 21 = .ok (.invokevirtual 157, 3) := by decide +kernel
theorem dX7_leastOf_24 : decode cX7_leastOf 24 = .ok (.iload_n 1, 1) := by decide +kernel
theorem dX7_leastOf_25 : decode cX7_leastOf 25 = .ok (.ifCond .ne 10, 3) := by decide +kernel
theorem dX7_leastOf_28 : decode cX7_leastOf 28 = .ok (.aload_n 0, 1) := by decide +kernel
theorem dX7_leastOf_29 : decode cX7_leastOf 29 = .ok (.invokevirtual 148, 3) := by decide +kernel
theorem dX7_leastOf_32 : decode cX7_leastOf 32 = .ok (.goto 7, 3) := by decide +kernel
theorem dX7_leastOf_35 : decode cX7_leastOf 35 = .ok (.aload_n 0, 1) := by decide +kernel
theorem dX7_leastOf_36 : decode cX7_leastOf 36 = .ok (.invokevirtual 151, 3) := by decide +kernel
theorem dX7_leastOf_39 : decode cX7_leastOf 39 = .ok (.istore 5, 2) := by decide +kernel
theorem dX7_leastOf_41 : decode cX7_leastOf 41 = .ok (.iload_n 2, 1) := by decide +kernel
theorem dX7_leastOf_42 : decode cX7_leastOf 42 = .ok (.ifCond .eq 10, 3) := by decide +kernel
theorem dX7_leastOf_45 : decode cX7_leastOf 45 = .ok (.aload_n 0, 1) := by decide +kernel
theorem dX7_leastOf_46 : decode cX7_leastOf 46 = .ok (.invokevirtual 163, 3) := by decide +kernel
theorem dX7_leastOf_49 : decode cX7_leastOf 49 = .ok (.ifCond .ne 22, 3) := by decide +kernel
theorem dX7_leastOf_52 : decode cX7_leastOf 52 = .ok (.iload_n 3, 1) := by decide +kernel
theorem dX7_leastOf_53 : decode cX7_leastOf 53 = .ok (.ifCond .lt 9, 3) := by decide +kernel
theorem dX7_leastOf_56 : decode cX7_leastOf 56 = .ok (.iload 5, 2) := by decide +kernel
theorem dX7_leastOf_58 : decode cX7_leastOf 58 = .ok (.iload_n 3, 1) := by decide +kernel
theorem dX7_leastOf_59 : decode cX7_leastOf 59 = .ok (.if_icmp .ge 12, 3) := by decide +kernel
theorem dX7_leastOf_62 : decode cX7_leastOf 62 = .ok (.iload 5, 2) := by decide +kernel
theorem dX7_leastOf_64 : decode cX7_leastOf 64 = .ok (.istore_n 3, 1) := by decide +kernel
theorem dX7_leastOf_65 : decode cX7_leastOf 65 = .ok (.aload_n 0, 1) := by decide +kernel
theorem dX7_leastOf_66 : decode cX7_leastOf 66 = .ok (.iload 4, 2) := by decide +kernel
theorem dX7_leastOf_68 : decode cX7_leastOf 68 = .ok (.putfield 166, 3) := by decide +kernel
theorem dX7_leastOf_71 : decode cX7_leastOf 71 = .ok (.iinc 4 1, 3) := by decide +kernel
theorem dX7_leastOf_74 : decode cX7_leastOf 74 = .ok (.goto (-69), 3) := by decide +kernel
theorem dX7_leastOf_77 : decode cX7_leastOf 77 = .ok (.iload_n 3, 1) := by decide +kernel
theorem dX7_leastOf_78 : decode cX7_leastOf 78 = .ok (.ireturn, 1) := by decide +kernel
set_option maxRecDepth 20000 in
theorem ggX7_best_X7_in : GoodIn wsX7_best wsX7_in := goodIn_r _ [5] (by decide +kernel) (by decide +kernel)
set_option maxRecDepth 20000 in
theorem gX7_best_X7_in : GoodIn wsX7_best (va_wsS RX7 44 yX7_in wsX7_in) := goodIn_app (goodIn_of _ (by decide +kernel)) ggX7_best_X7_in
set_option maxRecDepth 20000 in
theorem ggX7_best_X7_leastOf : GoodIn wsX7_best wsX7_leastOf := goodIn_r _ [9, 10, 1, 11, 12, 13, 4, 14, 15, 16, 17, 18, 19, 20, 21, 22, 23, 24, 25, 26, 27, 28, 29, 30, 31, 32, 33, 34, 35, 36, 37, 38, 39, 40, 41, 42, 43, 44, 45, 46, 47, 48, 49, 50, 51, 52, 53, 54, 55, 56, 57, 58, 59, 60, 61, 62, 63, 64, 65, 66, 67, 68, 69, 70, 71, 72, 73, 74, 75, 76, 77] (by decide +kernel) (by decide +kernel)
set_option maxRecDepth 20000 in
theorem gX7_best_X7_leastOf : GoodIn wsX7_best (wsV RX7 169 RX7 yX7_leastOf wsX7_leastOf) := goodIn_app (goodIn_of _ (by decide +kernel)) ggX7_best_X7_leastOf
theorem dX7_best_0 : decode cX7_best 0 = .ok (.iload_n 1, 1) := by decide +kernel
theorem dX7_best_1 : decode cX7_best 1 = .ok (.i2l, 1) := by decide +kernel
theorem dX7_best_2 : decode cX7_best 2 = .ok (.lconst 0, 1) := by decide +kernel
theorem dX7_best_3 : decode cX7_best 3 = .ok (.lconst 1, 1) := by decide +kernel
theorem dX7_best_4 : decode cX7_best 4 = .ok (.invokestatic 44, 3) := by decide +kernel
theorem dX7_best_7 : decode cX7_best 7 = .ok (.ifCond .eq 13, 3) := by decide +kernel
theorem dX7_best_10 : decode cX7_best 10 = .ok (.iload_n 2, 1) := by decide +kernel
theorem dX7_best_11 : decode cX7_best 11 = .ok (.i2l, 1) := by decide +kernel
theorem dX7_best_12 : decode cX7_best 12 = .ok (.lconst 0, 1) := by decide +kernel
theorem dX7_best_13 : decode cX7_best 13 = .ok (.lconst 1, 1) := by decide +kernel
theorem dX7_best_14 : decode cX7_best 14 = .ok (.invokestatic 44, 3) := by decide +kernel
theorem dX7_best_17 : decode cX7_best 17 = .ok (.ifCond .ne 5, 3) := by decide +kernel
theorem dX7_best_20 : decode cX7_best 20 = .ok (.iconst (-1), 1) := by decide +kernel
theorem dX7_best_21 : decode cX7_best 21 = .ok (.ireturn, 1) := by decide +kernel
theorem dX7_best_22 : decode cX7_best 22 = .ok (.aload_n 0, 1) := by decide +kernel
theorem dX7_best_23 : decode cX7_best 23 = .ok (.iload_n 1, 1) := by decide +kernel
theorem dX7_best_24 : decode cX7_best 24 = .ok (.iconst 0, 1) := by decide +kernel
theorem dX7_best_25 : decode cX7_best 25 = .ok (.invokevirtual 169, 3) := by decide +kernel
theorem dX7_best_28 : decode cX7_best 28 = .ok (.istore_n 3, 1) := by decide +kernel
theorem dX7_best_29 : decode cX7_best 29 = .ok (.iload_n 2, 1) := by decide +kernel
theorem dX7_best_30 : decode cX7_best 30 = .ok (.ifCond .ne 10, 3) := by decide +kernel
theorem dX7_best_33 : decode cX7_best 33 = .ok (.aload_n 0, 1) := by decide +kernel
theorem dX7_best_34 : decode cX7_best 34 = .ok (.getfield 166, 3) := by decide +kernel
theorem dX7_best_37 : decode cX7_best 37 = .ok (.goto 4, 3) := by decide +kernel
theorem dX7_best_40 : decode cX7_best 40 = .ok (.iload_n 3, 1) := by decide +kernel
theorem dX7_best_41 : decode cX7_best 41 = .ok (.ireturn, 1) := by decide +kernel
set_option maxRecDepth 20000 in
theorem ggX7_fair_X7_in : GoodIn wsX7_fair wsX7_in := goodIn_r _ [5] (by decide +kernel) (by decide +kernel)
set_option maxRecDepth 20000 in
theorem gX7_fair_X7_in : GoodIn wsX7_fair (va_wsS RX7 44 yX7_in wsX7_in) := goodIn_app (goodIn_of _ (by decide +kernel)) ggX7_fair_X7_in
set_option maxRecDepth 20000 in
theorem ggX7_fair_X7_leastOf : GoodIn wsX7_fair wsX7_leastOf := goodIn_r _ [9, 10, 1, 11, 12, 13, 4, 14, 15, 16, 17, 18, 19, 20, 21, 22, 23, 24, 25, 26, 27, 28, 29, 30, 31, 32, 33, 34, 35, 36, 37, 38, 39, 40, 41, 42, 43, 44, 45, 46, 47, 48, 49, 50, 51, 52, 53, 54, 55, 56, 57, 58, 59, 60, 61, 62, 63, 64, 65, 66, 67, 68, 69, 70, 71, 72, 73, 74, 75, 76, 77] (by decide +kernel) (by decide +kernel)
set_option maxRecDepth 20000 in
theorem gX7_fair_X7_leastOf : GoodIn wsX7_fair (wsV RX7 169 RX7 yX7_leastOf wsX7_leastOf) := goodIn_app (goodIn_of _ (by decide +kernel)) ggX7_fair_X7_leastOf
theorem dX7_fair_0 : decode cX7_fair 0 = .ok (.iload_n 1, 1) := by decide +kernel
theorem dX7_fair_1 : decode cX7_fair 1 = .ok (.i2l, 1) := by decide +kernel
theorem dX7_fair_2 : decode cX7_fair 2 = .ok (.lconst 0, 1) := by decide +kernel
theorem dX7_fair_3 : decode cX7_fair 3 = .ok (.lconst 1, 1) := by decide +kernel
theorem dX7_fair_4 : decode cX7_fair 4 = .ok (.invokestatic 44, 3) := by decide +kernel
theorem dX7_fair_7 : decode cX7_fair 7 = .ok (.ifCond .ne 5, 3) := by decide +kernel
theorem dX7_fair_10 : decode cX7_fair 10 = .ok (.iconst (-1), 1) := by decide +kernel
theorem dX7_fair_11 : decode cX7_fair 11 = .ok (.ireturn, 1) := by decide +kernel
theorem dX7_fair_12 : decode cX7_fair 12 = .ok (.aload_n 0, 1) := by decide +kernel
theorem dX7_fair_13 : decode cX7_fair 13 = .ok (.iconst 1, 1) := by decide +kernel
theorem dX7_fair_14 : decode cX7_fair 14 = .ok (.iconst 1, 1) := by decide +kernel
theorem dX7_fair_15 : decode cX7_fair 15 = .ok (.invokevirtual 169, 3) := by decide +kernel
theorem dX7_fair_18 : decode cX7_fair 18 = .ok (.istore_n 2, 1) := by decide +kernel
theorem dX7_fair_19 : decode cX7_fair 19 = .ok (.iload_n 1, 1) := by decide +kernel
theorem dX7_fair_20 : decode cX7_fair 20 = .ok (.ifCond .ne 10, 3) := by decide +kernel
theorem dX7_fair_23 : decode cX7_fair 23 = .ok (.aload_n 0, 1) := by decide +kernel
theorem dX7_fair_24 : decode cX7_fair 24 = .ok (.getfield 166, 3) := by decide +kernel
theorem dX7_fair_27 : decode cX7_fair 27 = .ok (.goto 4, 3) := by decide +kernel
theorem dX7_fair_30 : decode cX7_fair 30 = .ok (.iload_n 2, 1) := by decide +kernel
theorem dX7_fair_31 : decode cX7_fair 31 = .ok (.ireturn, 1) := by decide +kernel
set_option maxRecDepth 20000 in
theorem ggX7_oneRow_X7_isAsked : GoodIn wsX7_oneRow wsX7_isAsked := goodIn_r _ [7, 8, 9, 10, 6, 11, 1, 12, 13, 14, 31, 32, 33, 34, 35, 36, 37, 38, 39, 40, 41, 42, 43, 44, 45, 46, 47] (by decide +kernel) (by decide +kernel)
set_option maxRecDepth 20000 in
theorem gX7_oneRow_X7_isAsked : GoodIn wsX7_oneRow (wsV RX7 154 RX7 yX7_isAsked wsX7_isAsked) := goodIn_app (goodIn_of _ (by decide +kernel)) ggX7_oneRow_X7_isAsked
set_option maxRecDepth 20000 in
theorem ggX7_oneRow_X7_things : GoodIn wsX7_oneRow wsX7_things := goodIn_r _ [18, 1, 31, 32, 33, 34, 35, 36, 37, 38, 39, 40, 41, 42, 43, 44, 45, 46, 47] (by decide +kernel) (by decide +kernel)
set_option maxRecDepth 20000 in
theorem gX7_oneRow_X7_things : GoodIn wsX7_oneRow (wsV RX7 108 RX7 yX7_things wsX7_things) := goodIn_app (goodIn_of _ (by decide +kernel)) ggX7_oneRow_X7_things
set_option maxRecDepth 20000 in
theorem ggX7_oneRow_X7_asked : GoodIn wsX7_oneRow wsX7_asked := goodIn_r _ [22, 2, 23, 24, 25, 6, 26, 1, 27, 28, 29, 30, 31, 32, 33, 34, 35, 36, 37, 38, 39, 40, 41, 42, 43, 44, 45, 46, 47] (by decide +kernel) (by decide +kernel)
set_option maxRecDepth 20000 in
theorem gX7_oneRow_X7_asked : GoodIn wsX7_oneRow (wsV RX7 160 RX7 yX7_asked wsX7_asked) := goodIn_app (goodIn_of _ (by decide +kernel)) ggX7_oneRow_X7_asked
theorem dX7_oneRow_0 : decode cX7_oneRow 0 = .ok (.aload_n 0, 1) := by decide +kernel
theorem dX7_oneRow_1 : decode cX7_oneRow 1 = .ok (.iload_n 1, 1) := by decide +kernel
theorem dX7_oneRow_2 : decode cX7_oneRow 2 = .ok (.invokevirtual 154, 3) := by decide +kernel
theorem dX7_oneRow_5 : decode cX7_oneRow 5 = .ok (.ifCond .ne 5, 3) := by decide +kernel
theorem dX7_oneRow_8 : decode cX7_oneRow 8 = .ok (.iconst (-1), 1) := by decide +kernel
theorem dX7_oneRow_9 : decode cX7_oneRow 9 = .ok (.ireturn, 1) := by decide +kernel
theorem dX7_oneRow_10 : decode cX7_oneRow 10 = .ok (.iconst 0, 1) := by decide +kernel
theorem dX7_oneRow_11 : decode cX7_oneRow 11 = .ok (.istore_n 2, 1) := by decide +kernel
theorem dX7_oneRow_12 : decode cX7_oneRow 12 = .ok (.iconst 0, 1) := by decide +kernel
theorem dX7_oneRow_13 : decode cX7_oneRow 13 = .ok (.istore_n 3, 1) := by decide +kernel
theorem dX7_oneRow_14 : decode cX7_oneRow 14 = .ok (.iconst 0, 1) := by decide +kernel
theorem dX7_oneRow_15 : decode cX7_oneRow 15 = .ok (.istore 4, 2) := by decide +kernel
theorem dX7_oneRow_17 : decode cX7_oneRow 17 = .ok (.iload 4, 2) := by decide +kernel
theorem dX7_oneRow_19 : decode cX7_oneRow 19 = .ok (.aload_n 0, 1) := by decide +kernel
theorem dX7_oneRow_20 : decode cX7_oneRow 20 = .ok (.getfield 7, 3) := by decide +kernel
theorem dX7_oneRow_23 : decode cX7_oneRow 23 = .ok (.iconst 0, 1) := by decide +kernel
theorem dX7_oneRow_24 : decode cX7_oneRow 24 = .ok (.iaload, 1) := by decide +kernel
theorem dX7_oneRow_25 : decode cX7_oneRow 25 = .ok (.if_icmp .ge 88, 3) := by decide +kernel
theorem dX7_oneRow_28 : decode cX7_oneRow 28 = .ok (.iload_n 2, 1) := by decide +kernel
theorem dX7_oneRow_29 : decode cX7_oneRow 29 = .ok (.iload_n 3, 1) := by decide +kernel
theorem dX7_oneRow_30 : decode cX7_oneRow 30 = .ok (.if_icmp .gt 7, 3) := by decide +kernel
theorem dX7_oneRow_33 : decode cX7_oneRow 33 = .ok (.iconst 1, 1) := by decide +kernel
theorem dX7_oneRow_34 : decode cX7_oneRow 34 = .ok (.goto 4, 3) := by decide +kernel
theorem dX7_oneRow_37 : decode cX7_oneRow 37 = .ok (.iconst 0, 1) := by decide +kernel
theorem dX7_oneRow_38 : decode cX7_oneRow 38 = .ok (.istore 5, 2) := by decide +kernel
theorem dX7_oneRow_40 : decode cX7_oneRow 40 = .ok (.iload_n 2, 1) := by decide +kernel
theorem dX7_oneRow_41 : decode cX7_oneRow 41 = .ok (.iload 5, 2) := by decide +kernel
theorem dX7_oneRow_43 : decode cX7_oneRow 43 = .ok (.ifCond .eq 19, 3) := by decide +kernel
theorem dX7_oneRow_46 : decode cX7_oneRow 46 = .ok (.aload_n 0, 1) := by decide +kernel
theorem dX7_oneRow_47 : decode cX7_oneRow 47 = .ok (.getfield 7, 3) := by decide +kernel
theorem dX7_oneRow_50 : decode cX7_oneRow 50 = .ok (.iconst 1, 1) := by decide +kernel
theorem dX7_oneRow_51 : decode cX7_oneRow 51 = .ok (.iaload, 1) := by decide +kernel
theorem dX7_oneRow_52 : decode cX7_oneRow 52 = .ok (.aload_n 0, 1) := by decide +kernel
theorem dX7_oneRow_53 : decode cX7_oneRow 53 = .ok (.iload 4, 2) := by decide +kernel
theorem dX7_oneRow_55 : decode cX7_oneRow 55 = .ok (.invokevirtual 108, 3) := by decide +kernel
theorem dX7_oneRow_58 : decode cX7_oneRow 58 = .ok (.imul, 1) := by decide +kernel
theorem dX7_oneRow_59 : decode cX7_oneRow 59 = .ok (.goto 4, 3) := by decide +kernel
theorem dX7_oneRow_62 : decode cX7_oneRow 62 = .ok (.iconst 0, 1) := by decide +kernel
theorem dX7_oneRow_63 : decode cX7_oneRow 63 = .ok (.iadd, 1) := by decide +kernel
theorem dX7_oneRow_64 : decode cX7_oneRow 64 = .ok (.istore_n 2, 1) := by decide +kernel
theorem dX7_oneRow_65 : decode cX7_oneRow 65 = .ok (.iload_n 3, 1) := by decide +kernel
theorem dX7_oneRow_66 : decode cX7_oneRow 66 = .ok (.iload 5, 2) := by decide +kernel
theorem dX7_oneRow_68 : decode cX7_oneRow 68 = .ok (.ifCond .eq 7, 3) := by decide +kernel
theorem dX7_oneRow_71 : decode cX7_oneRow 71 = .ok (.iconst 0, 1) := by decide +kernel
theorem dX7_oneRow_72 : decode cX7_oneRow 72 = .ok (.goto 16, 3) := by decide +kernel
theorem dX7_oneRow_75 : decode cX7_oneRow 75 = .ok (.aload_n 0, 1) := by decide +kernel
theorem dX7_oneRow_76 : decode cX7_oneRow 76 = .ok (.getfield 7, 3) := by decide +kernel
theorem dX7_oneRow_79 : decode cX7_oneRow 79 = .ok (.iconst 2, 1) := by decide +kernel
theorem dX7_oneRow_80 : decode cX7_oneRow 80 = .ok (.iaload, 1) := by decide +kernel
theorem dX7_oneRow_81 : decode cX7_oneRow 81 = .ok (.aload_n 0, 1) := by decide +kernel
theorem dX7_oneRow_82 : decode cX7_oneRow 82 = .ok (.iload 4, 2) := by decide +kernel
theorem dX7_oneRow_84 : decode cX7_oneRow 84 = .ok (.invokevirtual 108, 3) := by decide +kernel
theorem dX7_oneRow_87 : decode cX7_oneRow 87 = .ok (.imul, 1) := by decide +kernel
theorem dX7_oneRow_88 : decode cX7_oneRow 88 = .ok (.iadd, 1) := by decide +kernel
theorem dX7_oneRow_89 : decode cX7_oneRow 89 = .ok (.istore_n 3, 1) := by decide +kernel
theorem dX7_oneRow_90 : decode cX7_oneRow 90 = .ok (.aload_n 0, 1) := by decide +kernel
theorem dX7_oneRow_91 : decode cX7_oneRow 91 = .ok (.getfield 25, 3) := by decide +kernel
theorem dX7_oneRow_94 : decode cX7_oneRow 94 = .ok (.iload 4, 2) := by decide +kernel
theorem dX7_oneRow_96 : decode cX7_oneRow 96 = .ok (.iload 5, 2) := by decide +kernel
theorem dX7_oneRow_98 : decode cX7_oneRow 98 = .ok (.ifCond .eq 7, 3) := by decide +kernel
theorem dX7_oneRow_101 : decode cX7_oneRow 101 = .ok (.iload_n 2, 1) := by decide +kernel
theorem dX7_oneRow_102 : decode cX7_oneRow 102 = .ok (.goto 4, 3) := by decide +kernel
theorem dX7_oneRow_105 : decode cX7_oneRow 105 = .ok (.iload_n 3, 1) := by decide +kernel
theorem dX7_oneRow_106 : decode cX7_oneRow 106 = .ok (.iastore, 1) := by decide +kernel
theorem dX7_oneRow_107 : decode cX7_oneRow 107 = .ok (.iinc 4 1, 3) := by decide +kernel
theorem dX7_oneRow_110 : decode cX7_oneRow 110 = .ok (.goto (-93), 3) := by decide +kernel
theorem dX7_oneRow_113 : decode cX7_oneRow 113 = .ok (.aload_n 0, 1) := by decide +kernel
theorem dX7_oneRow_114 : decode cX7_oneRow 114 = .ok (.iload_n 1, 1) := by decide +kernel
theorem dX7_oneRow_115 : decode cX7_oneRow 115 = .ok (.invokevirtual 160, 3) := by decide +kernel
theorem dX7_oneRow_118 : decode cX7_oneRow 118 = .ok (.ireturn, 1) := by decide +kernel
set_option maxRecDepth 20000 in
theorem ggX7_called_X7_in : GoodIn wsX7_called wsX7_in := goodIn_r _ [6] (by decide +kernel) (by decide +kernel)
set_option maxRecDepth 20000 in
theorem gX7_called_X7_in : GoodIn wsX7_called (va_wsS RX7 44 yX7_in wsX7_in) := goodIn_app (goodIn_of _ (by decide +kernel)) ggX7_called_X7_in
set_option maxRecDepth 20000 in
theorem ggX7_called_X7_sends : GoodIn wsX7_called wsX7_sends := goodIn_r _ [10, 11, 2, 12, 13, 14, 15, 16, 5, 17, 18, 19, 20, 21, 22, 23, 24, 25, 26, 27, 28, 29, 30, 31, 32, 33, 34, 35, 36, 37, 46, 47, 48, 49, 50, 51, 52, 53, 54, 55, 56, 57, 58, 59, 60, 61, 62] (by decide +kernel) (by decide +kernel)
set_option maxRecDepth 20000 in
theorem gX7_called_X7_sends : GoodIn wsX7_called (wsV RX7 157 RX7 yX7_sends wsX7_sends) := goodIn_app (goodIn_of _ (by decide +kernel)) ggX7_called_X7_sends
set_option maxRecDepth 20000 in
theorem ggX7_called_X7_latest : GoodIn wsX7_called wsX7_latest := goodIn_r _ [41, 2, 13, 46, 47, 48, 49, 50, 51, 52, 53, 54, 55, 56, 57, 58, 59, 60, 61, 62] (by decide +kernel) (by decide +kernel)
set_option maxRecDepth 20000 in
theorem gX7_called_X7_latest : GoodIn wsX7_called (wsV RX7 148 RX7 yX7_latest wsX7_latest) := goodIn_app (goodIn_of _ (by decide +kernel)) ggX7_called_X7_latest
set_option maxRecDepth 20000 in
theorem ggX7_called_X7_sum : GoodIn wsX7_called wsX7_sum := goodIn_r _ [45, 2, 13, 46, 47, 48, 49, 50, 51, 52, 53, 54, 55, 56, 57, 58, 59, 60, 61, 62] (by decide +kernel) (by decide +kernel)
set_option maxRecDepth 20000 in
theorem gX7_called_X7_sum : GoodIn wsX7_called (wsV RX7 151 RX7 yX7_sum wsX7_sum) := goodIn_app (goodIn_of _ (by decide +kernel)) ggX7_called_X7_sum
theorem dX7_called_0 : decode cX7_called 0 = .ok (.iload_n 1, 1) := by decide +kernel
theorem dX7_called_1 : decode cX7_called 1 = .ok (.i2l, 1) := by decide +kernel
theorem dX7_called_2 : decode cX7_called 2 = .ok (.lconst 0, 1) := by decide +kernel
theorem dX7_called_3 : decode cX7_called 3 = .ok (.ldc2_w 173, 3) := by decide +kernel
theorem dX7_called_6 : decode cX7_called 6 = .ok (.invokestatic 44, 3) := by decide +kernel
theorem dX7_called_9 : decode cX7_called 9 = .ok (.ifCond .eq 13, 3) := by decide +kernel
theorem dX7_called_12 : decode cX7_called 12 = .ok (.iload_n 2, 1) := by decide +kernel
theorem dX7_called_13 : decode cX7_called 13 = .ok (.i2l, 1) := by decide +kernel
theorem dX7_called_14 : decode cX7_called 14 = .ok (.lconst 0, 1) := by decide +kernel
theorem dX7_called_15 : decode cX7_called 15 = .ok (.lconst 1, 1) := by decide +kernel
theorem dX7_called_16 : decode cX7_called 16 = .ok (.invokestatic 44, 3) := by decide +kernel
theorem dX7_called_19 : decode cX7_called 19 = .ok (.ifCond .ne 5, 3) := by decide +kernel
theorem dX7_called_22 : decode cX7_called 22 = .ok (.iconst (-1), 1) := by decide +kernel
theorem dX7_called_23 : decode cX7_called 23 = .ok (.ireturn, 1) := by decide +kernel
theorem dX7_called_24 : decode cX7_called 24 = .ok (.aload_n 0, 1) := by decide +kernel
theorem dX7_called_25 : decode cX7_called 25 = .ok (.getfield 7, 3) := by decide +kernel
theorem dX7_called_28 : decode cX7_called 28 = .ok (.iconst 0, 1) := by decide +kernel
theorem dX7_called_29 : decode cX7_called 29 = .ok (.iaload, 1) := by decide +kernel
theorem dX7_called_30 : decode cX7_called 30 = .ok (.istore_n 3, 1) := by decide +kernel
theorem dX7_called_31 : decode cX7_called 31 = .ok (.iconst 0, 1) := by decide +kernel
theorem dX7_called_32 : decode cX7_called 32 = .ok (.istore 4, 2) := by decide +kernel
theorem dX7_called_34 : decode cX7_called 34 = .ok (.iconst 0, 1) := by decide +kernel
theorem dX7_called_35 : decode cX7_called 35 = .ok (.istore 5, 2) := by decide +kernel
theorem dX7_called_37 : decode cX7_called 37 = .ok (.iload 5, 2) := by decide +kernel
theorem dX7_called_39 : decode cX7_called 39 = .ok (.iload_n 3, 1) := by decide +kernel
theorem dX7_called_40 : decode cX7_called 40 = .ok (.if_icmp .ge 90, 3) := by decide +kernel
theorem dX7_called_43 : decode cX7_called 43 = .ok (.iload_n 1, 1) := by decide +kernel
theorem dX7_called_44 : decode cX7_called 44 = .ok (.ifCond .ne 19, 3) := by decide +kernel
theorem dX7_called_47 : decode cX7_called 47 = .ok (.iload 5, 2) := by decide +kernel
theorem dX7_called_49 : decode cX7_called 49 = .ok (.iconst 2, 1) := by decide +kernel
theorem dX7_called_50 : decode cX7_called 50 = .ok (.irem, 1) := by decide +kernel
theorem dX7_called_51 : decode cX7_called 51 = .ok (.iconst 1, 1) := by decide +kernel
theorem dX7_called_52 : decode cX7_called 52 = .ok (.if_icmp .ne 7, 3) := by decide +kernel
theorem dX7_called_55 : decode cX7_called 55 = .ok (.iconst 1, 1) := by decide +kernel
theorem dX7_called_56 : decode cX7_called 56 = .ok (.goto 48, 3) := by decide +kernel
theorem dX7_called_59 : decode cX7_called 59 = .ok (.iconst 0, 1) := by decide +kernel
theorem dX7_called_60 : decode cX7_called 60 = .ok (.goto 44, 3) := by decide +kernel
theorem dX7_called_63 : decode cX7_called 63 = .ok (.iload_n 1, 1) := by decide +kernel
theorem dX7_called_64 : decode cX7_called 64 = .ok (.iconst 1, 1) := by decide +kernel
theorem dX7_called_65 : decode cX7_called 65 = .ok (.if_icmp .ne 24, 3) := by decide +kernel
theorem dX7_called_68 : decode cX7_called 68 = .ok (.iload 5, 2) := by decide +kernel
theorem dX7_called_70 : decode cX7_called 70 = .ok (.ifCond .le 15, 3) := by decide +kernel
theorem dX7_called_73 : decode cX7_called 73 = .ok (.iload 5, 2) := by decide +kernel
theorem dX7_called_75 : decode cX7_called 75 = .ok (.iload_n 3, 1) := by decide +kernel
theorem dX7_called_76 : decode cX7_called 76 = .ok (.iconst 2, 1) := by decide +kernel
theorem dX7_called_77 : decode cX7_called 77 = .ok (.idiv, 1) := by decide +kernel
theorem dX7_called_78 : decode cX7_called 78 = .ok (.if_icmp .gt 7, 3) := by decide +kernel
theorem dX7_called_81 : decode cX7_called 81 = .ok (.iconst 1, 1) := by decide +kernel
theorem dX7_called_82 : decode cX7_called 82 = .ok (.goto 22, 3) := by decide +kernel
theorem dX7_called_85 : decode cX7_called 85 = .ok (.iconst 0, 1) := by decide +kernel
theorem dX7_called_86 : decode cX7_called 86 = .ok (.goto 18, 3) := by decide +kernel
theorem dX7_called_89 : decode cX7_called 89 = .ok (.iload 5, 2) := by decide +kernel
theorem dX7_called_91 : decode cX7_called 91 = .ok (.iload_n 3, 1) := by decide +kernel
theorem dX7_called_92 : decode cX7_called 92 = .ok (.iconst 1, 1) := by decide +kernel
theorem dX7_called_93 : decode cX7_called 93 = .ok (.iadd, 1) := by decide +kernel
theorem dX7_called_94 : decode cX7_called 94 = .ok (.iconst 2, 1) := by decide +kernel
theorem dX7_called_95 : decode cX7_called 95 = .ok (.idiv, 1) := by decide +kernel
theorem dX7_called_96 : decode cX7_called 96 = .ok (.if_icmp .lt 7, 3) := by decide +kernel
theorem dX7_called_99 : decode cX7_called 99 = .ok (.iconst 1, 1) := by decide +kernel
theorem dX7_called_100 : decode cX7_called 100 = .ok (.goto 4, 3) := by decide +kernel
theorem dX7_called_103 : decode cX7_called 103 = .ok (.iconst 0, 1) := by decide +kernel
theorem dX7_called_104 : decode cX7_called 104 = .ok (.istore 6, 2) := by decide +kernel
theorem dX7_called_106 : decode cX7_called 106 = .ok (.iload 4, 2) := by decide +kernel
theorem dX7_called_108 : decode cX7_called 108 = .ok (.iload 6, 2) := by decide +kernel
theorem dX7_called_110 : decode cX7_called 110 = .ok (.ifCond .eq 10, 3) := by decide +kernel
theorem dX7_called_113 : decode cX7_called 113 = .ok (.iconst 1, 1) := by decide +kernel
theorem dX7_called_114 : decode cX7_called 114 = .ok (.iload 5, 2) := by decide +kernel
theorem dX7_called_116 : decode cX7_called 116 = .ok (.ishl, 1) := by decide +kernel
theorem dX7_called_117 : decode cX7_called 117 = .ok (.goto 4, 3) := by decide +kernel
theorem dX7_called_120 : decode cX7_called 120 = .ok (.iconst 0, 1) := by decide +kernel
theorem dX7_called_121 : decode cX7_called 121 = .ok (.ior, 1) := by decide +kernel
theorem dX7_called_122 : decode cX7_called 122 = .ok (.istore 4, 2) := by decide +kernel
theorem dX7_called_124 : decode cX7_called 124 = .ok (.iinc 5 1, 3) := by decide +kernel
theorem dX7_called_127 : decode cX7_called 127 = .ok (.goto (-90), 3) := by decide +kernel
theorem dX7_called_130 : decode cX7_called 130 = .ok (.aload_n 0, 1) := by decide +kernel
theorem dX7_called_131 : decode cX7_called 131 = .ok (.iload 4, 2) := by decide +kernel
theorem dX7_called_133 : decode cX7_called 133 = .ok (.invokevirtual 157, 3) := by decide +kernel
theorem dX7_called_136 : decode cX7_called 136 = .ok (.iload_n 2, 1) := by decide +kernel
theorem dX7_called_137 : decode cX7_called 137 = .ok (.ifCond .ne 10, 3) := by decide +kernel
theorem dX7_called_140 : decode cX7_called 140 = .ok (.aload_n 0, 1) := by decide +kernel
theorem dX7_called_141 : decode cX7_called 141 = .ok (.invokevirtual 148, 3) := by decide +kernel
theorem dX7_called_144 : decode cX7_called 144 = .ok (.goto 7, 3) := by decide +kernel
theorem dX7_called_147 : decode cX7_called 147 = .ok (.aload_n 0, 1) := by decide +kernel
theorem dX7_called_148 : decode cX7_called 148 = .ok (.invokevirtual 151, 3) := by decide +kernel
theorem dX7_called_151 : decode cX7_called 151 = .ok (.ireturn, 1) := by decide +kernel
theorem dX7_asides_0 : decode cX7_asides 0 = .ok (.iconst 0, 1) := by decide +kernel
theorem dX7_asides_1 : decode cX7_asides 1 = .ok (.istore_n 1, 1) := by decide +kernel
theorem dX7_asides_2 : decode cX7_asides 2 = .ok (.iload_n 1, 1) := by decide +kernel
theorem dX7_asides_3 : decode cX7_asides 3 = .ok (.bipush 28, 2) := by decide +kernel
theorem dX7_asides_5 : decode cX7_asides 5 = .ok (.if_icmp .ge 21, 3) := by decide +kernel
theorem dX7_asides_8 : decode cX7_asides 8 = .ok (.aload_n 0, 1) := by decide +kernel
theorem dX7_asides_9 : decode cX7_asides 9 = .ok (.getfield 28, 3) := by decide +kernel
theorem dX7_asides_12 : decode cX7_asides 12 = .ok (.iload_n 1, 1) := by decide +kernel
theorem dX7_asides_13 : decode cX7_asides 13 = .ok (.aload_n 0, 1) := by decide +kernel
theorem dX7_asides_14 : decode cX7_asides 14 = .ok (.getfield 7, 3) := by decide +kernel
theorem dX7_asides_17 : decode cX7_asides 17 = .ok (.iload_n 1, 1) := by decide +kernel
theorem dX7_asides_18 : decode cX7_asides 18 = .ok (.iaload, 1) := by decide +kernel
theorem dX7_asides_19 : decode cX7_asides 19 = .ok (.iastore, 1) := by decide +kernel
theorem dX7_asides_20 : decode cX7_asides 20 = .ok (.iinc 1 1, 3) := by decide +kernel
theorem dX7_asides_23 : decode cX7_asides 23 = .ok (.goto (-21), 3) := by decide +kernel
theorem dX7_asides_26 : decode cX7_asides 26 = .ok (.return_, 1) := by decide +kernel
theorem dX7_backs_0 : decode cX7_backs 0 = .ok (.iconst 0, 1) := by decide +kernel
theorem dX7_backs_1 : decode cX7_backs 1 = .ok (.istore_n 1, 1) := by decide +kernel
theorem dX7_backs_2 : decode cX7_backs 2 = .ok (.iload_n 1, 1) := by decide +kernel
theorem dX7_backs_3 : decode cX7_backs 3 = .ok (.bipush 28, 2) := by decide +kernel
theorem dX7_backs_5 : decode cX7_backs 5 = .ok (.if_icmp .ge 21, 3) := by decide +kernel
theorem dX7_backs_8 : decode cX7_backs 8 = .ok (.aload_n 0, 1) := by decide +kernel
theorem dX7_backs_9 : decode cX7_backs 9 = .ok (.getfield 7, 3) := by decide +kernel
theorem dX7_backs_12 : decode cX7_backs 12 = .ok (.iload_n 1, 1) := by decide +kernel
theorem dX7_backs_13 : decode cX7_backs 13 = .ok (.aload_n 0, 1) := by decide +kernel
theorem dX7_backs_14 : decode cX7_backs 14 = .ok (.getfield 28, 3) := by decide +kernel
theorem dX7_backs_17 : decode cX7_backs 17 = .ok (.iload_n 1, 1) := by decide +kernel
theorem dX7_backs_18 : decode cX7_backs 18 = .ok (.iaload, 1) := by decide +kernel
theorem dX7_backs_19 : decode cX7_backs 19 = .ok (.iastore, 1) := by decide +kernel
theorem dX7_backs_20 : decode cX7_backs 20 = .ok (.iinc 1 1, 3) := by decide +kernel
theorem dX7_backs_23 : decode cX7_backs 23 = .ok (.goto (-21), 3) := by decide +kernel
theorem dX7_backs_26 : decode cX7_backs 26 = .ok (.return_, 1) := by decide +kernel
set_option maxRecDepth 20000 in
theorem ggX7_open_X7_in : GoodIn wsX7_open wsX7_in := goodIn_r _ [7] (by decide +kernel) (by decide +kernel)
set_option maxRecDepth 20000 in
theorem gX7_open_X7_in : GoodIn wsX7_open (va_wsS RX7 44 yX7_in wsX7_in) := goodIn_app (goodIn_of _ (by decide +kernel)) ggX7_open_X7_in
set_option maxRecDepth 20000 in
theorem ggX7_open_X7_asides : GoodIn wsX7_open wsX7_asides := goodIn_r _ [11, 2, 3, 79, 80, 81, 82, 83, 84, 85, 86, 87, 88, 89, 90, 91, 92, 93, 94, 95] (by decide +kernel) (by decide +kernel)
set_option maxRecDepth 20000 in
theorem gX7_open_X7_asides : GoodIn wsX7_open (wsV RX7 175 RX7 yX7_asides wsX7_asides) := goodIn_app (goodIn_of _ (by decide +kernel)) ggX7_open_X7_asides
set_option maxRecDepth 20000 in
theorem ggX7_open_X7_goesBy : GoodIn wsX7_open wsX7_goesBy := goodIn_r _ [15, 3, 16, 17, 18, 6, 19, 20, 21, 22, 23, 79, 80, 81, 82, 83, 84, 85, 86, 87, 88, 89, 90, 91, 92, 93, 94, 95] (by decide +kernel) (by decide +kernel)
set_option maxRecDepth 20000 in
theorem gX7_open_X7_goesBy : GoodIn wsX7_open (wsV RX7 113 RX7 yX7_goesBy wsX7_goesBy) := goodIn_app (goodIn_of _ (by decide +kernel)) ggX7_open_X7_goesBy
set_option maxRecDepth 20000 in
theorem ggX7_open_X7_leastOf : GoodIn wsX7_open wsX7_leastOf := goodIn_r _ [27, 3, 28, 29, 30, 31, 6, 32, 33, 34, 35, 36, 37, 38, 39, 40, 41, 42, 43, 44, 45, 46, 47, 16, 17, 18, 19, 48, 49, 50, 51, 52, 53, 54, 55, 56, 57, 58, 59, 60, 61, 62, 63, 64, 65, 66, 67, 68, 69, 70, 71, 72, 73, 74, 79, 80, 81, 82, 83, 84, 85, 86, 87, 88, 89, 90, 91, 92, 93, 94, 95] (by decide +kernel) (by decide +kernel)
set_option maxRecDepth 20000 in
theorem gX7_open_X7_leastOf : GoodIn wsX7_open (wsV RX7 169 RX7 yX7_leastOf wsX7_leastOf) := goodIn_app (goodIn_of _ (by decide +kernel)) ggX7_open_X7_leastOf
set_option maxRecDepth 20000 in
theorem ggX7_open_X7_backs : GoodIn wsX7_open wsX7_backs := goodIn_r _ [78, 3, 2, 79, 80, 81, 82, 83, 84, 85, 86, 87, 88, 89, 90, 91, 92, 93, 94, 95] (by decide +kernel) (by decide +kernel)
set_option maxRecDepth 20000 in
theorem gX7_open_X7_backs : GoodIn wsX7_open (wsV RX7 178 RX7 yX7_backs wsX7_backs) := goodIn_app (goodIn_of _ (by decide +kernel)) ggX7_open_X7_backs
theorem dX7_open_0 : decode cX7_open 0 = .ok (.iload_n 1, 1) := by decide +kernel
theorem dX7_open_1 : decode cX7_open 1 = .ok (.i2l, 1) := by decide +kernel
theorem dX7_open_2 : decode cX7_open 2 = .ok (.lconst 0, 1) := by decide +kernel
theorem dX7_open_3 : decode cX7_open 3 = .ok (.ldc2_w 97, 3) := by decide +kernel
theorem dX7_open_6 : decode cX7_open 6 = .ok (.invokestatic 44, 3) := by decide +kernel
theorem dX7_open_9 : decode cX7_open 9 = .ok (.ifCond .eq 13, 3) := by decide +kernel
theorem dX7_open_12 : decode cX7_open 12 = .ok (.iload_n 2, 1) := by decide +kernel
theorem dX7_open_13 : decode cX7_open 13 = .ok (.i2l, 1) := by decide +kernel
theorem dX7_open_14 : decode cX7_open 14 = .ok (.lconst 0, 1) := by decide +kernel
theorem dX7_open_15 : decode cX7_open 15 = .ok (.lconst 1, 1) := by decide +kernel
theorem dX7_open_16 : decode cX7_open 16 = .ok (.invokestatic 44, 3) := by decide +kernel
theorem dX7_open_19 : decode cX7_open 19 = .ok (.ifCond .ne 5, 3) := by decide +kernel
theorem dX7_open_22 : decode cX7_open 22 = .ok (.iconst (-1), 1) := by decide +kernel
theorem dX7_open_23 : decode cX7_open 23 = .ok (.ireturn, 1) := by decide +kernel
theorem dX7_open_24 : decode cX7_open 24 = .ok (.aload_n 0, 1) := by decide +kernel
theorem dX7_open_25 : decode cX7_open 25 = .ok (.invokevirtual 175, 3) := by decide +kernel
theorem dX7_open_28 : decode cX7_open 28 = .ok (.iconst 0, 1) := by decide +kernel
theorem dX7_open_29 : decode cX7_open 29 = .ok (.istore_n 3, 1) := by decide +kernel
theorem dX7_open_30 : decode cX7_open 30 = .ok (.iconst (-1), 1) := by decide +kernel
theorem dX7_open_31 : decode cX7_open 31 = .ok (.istore 4, 2) := by decide +kernel
theorem dX7_open_33 : decode cX7_open 33 = .ok (.iconst 0, 1) := by decide +kernel
theorem dX7_open_34 : decode cX7_open 34 = .ok (.istore 5, 2) := by decide +kernel
theorem dX7_open_36 : decode cX7_open 36 = .ok (.iload 5, 2) := by decide +kernel
theorem dX7_open_38 : decode cX7_open 38 = .ok (.bipush 31, 2) := by decide +kernel
theorem dX7_open_40 : decode cX7_open 40 = .ok (.if_icmp .ge 142, 3) := by decide +kernel
theorem dX7_open_43 : decode cX7_open 43 = .ok (.iload_n 1, 1) := by decide +kernel
theorem dX7_open_44 : decode cX7_open 44 = .ok (.bipush 30, 2) := by decide +kernel
theorem dX7_open_46 : decode cX7_open 46 = .ok (.iload 5, 2) := by decide +kernel
theorem dX7_open_48 : decode cX7_open 48 = .ok (.isub, 1) := by decide +kernel
theorem dX7_open_49 : decode cX7_open 49 = .ok (.imul, 1) := by decide +kernel
theorem dX7_open_50 : decode cX7_open 50 = .ok (.istore 6, 2) := by decide +kernel
theorem dX7_open_52 : decode cX7_open 52 = .ok (.aload_n 0, 1) := by decide +kernel
theorem dX7_open_53 : decode cX7_open 53 = .ok (.iload 5, 2) := by decide +kernel
theorem dX7_open_55 : decode cX7_open 55 = .ok (.invokevirtual 113, 3) := by decide +kernel
theorem dX7_open_58 : decode cX7_open 58 = .ok (.istore 7, 2) := by decide +kernel
theorem dX7_open_60 : decode cX7_open 60 = .ok (.iconst 0, 1) := by decide +kernel
theorem dX7_open_61 : decode cX7_open 61 = .ok (.istore 8, 2) := by decide +kernel
theorem dX7_open_63 : decode cX7_open 63 = .ok (.iconst 0, 1) := by decide +kernel
theorem dX7_open_64 : decode cX7_open 64 = .ok (.istore 9, 2) := by decide +kernel
theorem dX7_open_66 : decode cX7_open 66 = .ok (.iload 9, 2) := by decide +kernel
theorem dX7_open_68 : decode cX7_open 68 = .ok (.iload 7, 2) := by decide +kernel
theorem dX7_open_70 : decode cX7_open 70 = .ok (.if_icmp .ge 41, 3) := by decide +kernel
theorem dX7_open_73 : decode cX7_open 73 = .ok (.iload 8, 2) := by decide +kernel
theorem dX7_open_75 : decode cX7_open 75 = .ok (.aload_n 0, 1) := by decide +kernel
theorem dX7_open_76 : decode cX7_open 76 = .ok (.getfield 28, 3) := by decide +kernel
theorem dX7_open_79 : decode cX7_open 79 = .ok (.iconst 4, 1) := by decide +kernel
theorem dX7_open_80 : decode cX7_open 80 = .ok (.iconst 3, 1) := by decide +kernel
theorem dX7_open_81 : decode cX7_open 81 = .ok (.iload 9, 2) := by decide +kernel
theorem dX7_open_83 : decode cX7_open 83 = .ok (.imul, 1) := by decide +kernel
theorem dX7_open_84 : decode cX7_open 84 = .ok (.iadd, 1) := by decide +kernel
theorem dX7_open_85 : decode cX7_open 85 = .ok (.iconst 1, 1) := by decide +kernel
theorem dX7_open_86 : decode cX7_open 86 = .ok (.iadd, 1) := by decide +kernel
theorem dX7_open_87 : decode cX7_open 87 = .ok (.iaload, 1) := by decide +kernel
theorem dX7_open_88 : decode cX7_open 88 = .ok (.iadd, 1) := by decide +kernel
theorem dX7_open_89 : decode cX7_open 89 = .ok (.istore 8, 2) := by decide +kernel
theorem dX7_open_91 : decode cX7_open 91 = .ok (.iload 6, 2) := by decide +kernel
theorem dX7_open_93 : decode cX7_open 93 = .ok (.iload 8, 2) := by decide +kernel
theorem dX7_open_95 : decode cX7_open 95 = .ok (.aload_n 0, 1) := by decide +kernel
theorem dX7_open_96 : decode cX7_open 96 = .ok (.getfield 7, 3) := by decide +kernel
theorem dX7_open_99 : decode cX7_open 99 = .ok (.iconst 1, 1) := by decide +kernel
theorem dX7_open_100 : decode cX7_open 100 = .ok (.iaload, 1) := by decide +kernel
theorem dX7_open_101 : decode cX7_open 101 = .ok (.imul, 1) := by decide +kernel
theorem dX7_open_102 : decode cX7_open 102 = .ok (.iadd, 1) := by decide +kernel
theorem dX7_open_103 : decode cX7_open 103 = .ok (.istore 6, 2) := by decide +kernel
theorem dX7_open_105 : decode cX7_open 105 = .ok (.iinc 9 1, 3) := by decide +kernel
theorem dX7_open_108 : decode cX7_open 108 = .ok (.goto (-42), 3) := by decide +kernel
theorem dX7_open_111 : decode cX7_open 111 = .ok (.iload 6, 2) := by decide +kernel
theorem dX7_open_113 : decode cX7_open 113 = .ok (.iload 5, 2) := by decide +kernel
theorem dX7_open_115 : decode cX7_open 115 = .ok (.aload_n 0, 1) := by decide +kernel
theorem dX7_open_116 : decode cX7_open 116 = .ok (.getfield 7, 3) := by decide +kernel
theorem dX7_open_119 : decode cX7_open 119 = .ok (.iconst 0, 1) := by decide +kernel
theorem dX7_open_120 : decode cX7_open 120 = .ok (.iaload, 1) := by decide +kernel
theorem dX7_open_121 : decode cX7_open 121 = .ok (.imul, 1) := by decide +kernel
theorem dX7_open_122 : decode cX7_open 122 = .ok (.aload_n 0, 1) := by decide +kernel
theorem dX7_open_123 : decode cX7_open 123 = .ok (.iconst 1, 1) := by decide +kernel
theorem dX7_open_124 : decode cX7_open 124 = .ok (.iconst 0, 1) := by decide +kernel
theorem dX7_open_125 : decode cX7_open 125 = .ok (.invokevirtual 169, 3) := by decide +kernel
theorem dX7_open_128 : decode cX7_open 128 = .ok (.iadd, 1) := by decide +kernel
theorem dX7_open_129 : decode cX7_open 129 = .ok (.iadd, 1) := by decide +kernel
theorem dX7_open_130 : decode cX7_open 130 = .ok (.istore 6, 2) := by decide +kernel
theorem dX7_open_132 : decode cX7_open 132 = .ok (.aload_n 0, 1) := by decide +kernel
theorem dX7_open_133 : decode cX7_open 133 = .ok (.invokevirtual 178, 3) := by decide +kernel
theorem dX7_open_136 : decode cX7_open 136 = .ok (.iload 4, 2) := by decide +kernel
theorem dX7_open_138 : decode cX7_open 138 = .ok (.ifCond .lt 10, 3) := by decide +kernel
theorem dX7_open_141 : decode cX7_open 141 = .ok (.iload 6, 2) := by decide +kernel
theorem dX7_open_143 : decode cX7_open 143 = .ok (.iload 4, 2) := by decide +kernel
theorem dX7_open_145 : decode cX7_open 145 = .ok (.if_icmp .ge 8, 3) := by decide +kernel
theorem dX7_open_148 : decode cX7_open 148 = .ok (.iload 5, 2) := by decide +kernel
theorem dX7_open_150 : decode cX7_open 150 = .ok (.goto 4, 3) := by decide +kernel
theorem dX7_open_153 : decode cX7_open 153 = .ok (.iload_n 3, 1) := by decide +kernel
theorem dX7_open_154 : decode cX7_open 154 = .ok (.istore_n 3, 1) := by decide +kernel
theorem dX7_open_155 : decode cX7_open 155 = .ok (.iload 4, 2) := by decide +kernel
theorem dX7_open_157 : decode cX7_open 157 = .ok (.ifCond .lt 10, 3) := by decide +kernel
theorem dX7_open_160 : decode cX7_open 160 = .ok (.iload 6, 2) := by decide +kernel
theorem dX7_open_162 : decode cX7_open 162 = .ok (.iload 4, 2) := by decide +kernel
theorem dX7_open_164 : decode cX7_open 164 = .ok (.if_icmp .ge 8, 3) := by decide +kernel
theorem dX7_open_167 : decode cX7_open 167 = .ok (.iload 6, 2) := by decide +kernel
theorem dX7_open_169 : decode cX7_open 169 = .ok (.goto 5, 3) := by decide +kernel
theorem dX7_open_172 : decode cX7_open 172 = .ok (.iload 4, 2) := by decide +kernel
theorem dX7_open_174 : decode cX7_open 174 = .ok (.istore 4, 2) := by decide +kernel
theorem dX7_open_176 : decode cX7_open 176 = .ok (.iinc 5 1, 3) := by decide +kernel
theorem dX7_open_179 : decode cX7_open 179 = .ok (.goto (-143), 3) := by decide +kernel
theorem dX7_open_182 : decode cX7_open 182 = .ok (.iload_n 2, 1) := by decide +kernel
theorem dX7_open_183 : decode cX7_open 183 = .ok (.ifCond .ne 7, 3) := by decide +kernel
theorem dX7_open_186 : decode cX7_open 186 = .ok (.iload_n 3, 1) := by decide +kernel
theorem dX7_open_187 : decode cX7_open 187 = .ok (.goto 5, 3) := by decide +kernel
theorem dX7_open_190 : decode cX7_open 190 = .ok (.iload 4, 2) := by decide +kernel
theorem dX7_open_192 : decode cX7_open 192 = .ok (.ireturn, 1) := by decide +kernel
set_option maxRecDepth 20000 in
theorem ggX7_tape_X7_isPerson : GoodIn wsX7_tape wsX7_isPerson := goodIn_r _ [8, 9, 10, 11, 7, 12, 13, 14, 15, 16, 17, 18, 19, 20, 21, 22, 23, 24, 25, 26, 27, 28, 29] (by decide +kernel) (by decide +kernel)
set_option maxRecDepth 20000 in
theorem gX7_tape_X7_isPerson : GoodIn wsX7_tape (wsV RX7 48 RX7 yX7_isPerson wsX7_isPerson) := goodIn_app (goodIn_of _ (by decide +kernel)) ggX7_tape_X7_isPerson
set_option maxRecDepth 20000 in
theorem ggX7_tape_X7_in : GoodIn wsX7_tape wsX7_in := goodIn_r _ [12] (by decide +kernel) (by decide +kernel)
set_option maxRecDepth 20000 in
theorem gX7_tape_X7_in : GoodIn wsX7_tape (va_wsS RX7 44 yX7_in wsX7_in) := goodIn_app (goodIn_of _ (by decide +kernel)) ggX7_tape_X7_in
theorem dX7_tape_0 : decode cX7_tape 0 = .ok (.aload_n 0, 1) := by decide +kernel
theorem dX7_tape_1 : decode cX7_tape 1 = .ok (.iload_n 1, 1) := by decide +kernel
theorem dX7_tape_2 : decode cX7_tape 2 = .ok (.invokevirtual 48, 3) := by decide +kernel
theorem dX7_tape_5 : decode cX7_tape 5 = .ok (.ifCond .eq 13, 3) := by decide +kernel
theorem dX7_tape_8 : decode cX7_tape 8 = .ok (.iload_n 2, 1) := by decide +kernel
theorem dX7_tape_9 : decode cX7_tape 9 = .ok (.i2l, 1) := by decide +kernel
theorem dX7_tape_10 : decode cX7_tape 10 = .ok (.lconst 0, 1) := by decide +kernel
theorem dX7_tape_11 : decode cX7_tape 11 = .ok (.lconst 1, 1) := by decide +kernel
theorem dX7_tape_12 : decode cX7_tape 12 = .ok (.invokestatic 44, 3) := by decide +kernel
theorem dX7_tape_15 : decode cX7_tape 15 = .ok (.ifCond .ne 5, 3) := by decide +kernel
theorem dX7_tape_18 : decode cX7_tape 18 = .ok (.iconst (-1), 1) := by decide +kernel
theorem dX7_tape_19 : decode cX7_tape 19 = .ok (.ireturn, 1) := by decide +kernel
theorem dX7_tape_20 : decode cX7_tape 20 = .ok (.aload_n 0, 1) := by decide +kernel
theorem dX7_tape_21 : decode cX7_tape 21 = .ok (.getfield 88, 3) := by decide +kernel
theorem dX7_tape_24 : decode cX7_tape 24 = .ok (.bipush 8, 2) := by decide +kernel
theorem dX7_tape_26 : decode cX7_tape 26 = .ok (.if_icmp .ne 6, 3) := by decide +kernel
theorem dX7_tape_29 : decode cX7_tape 29 = .ok (.bipush (-3), 2) := by decide +kernel
theorem dX7_tape_31 : decode cX7_tape 31 = .ok (.ireturn, 1) := by decide +kernel
theorem dX7_tape_32 : decode cX7_tape 32 = .ok (.aload_n 0, 1) := by decide +kernel
theorem dX7_tape_33 : decode cX7_tape 33 = .ok (.getfield 31, 3) := by decide +kernel
theorem dX7_tape_36 : decode cX7_tape 36 = .ok (.aload_n 0, 1) := by decide +kernel
theorem dX7_tape_37 : decode cX7_tape 37 = .ok (.getfield 88, 3) := by decide +kernel
theorem dX7_tape_40 : decode cX7_tape 40 = .ok (.iload_n 1, 1) := by decide +kernel
theorem dX7_tape_41 : decode cX7_tape 41 = .ok (.iastore, 1) := by decide +kernel
theorem dX7_tape_42 : decode cX7_tape 42 = .ok (.aload_n 0, 1) := by decide +kernel
theorem dX7_tape_43 : decode cX7_tape 43 = .ok (.getfield 34, 3) := by decide +kernel
theorem dX7_tape_46 : decode cX7_tape 46 = .ok (.aload_n 0, 1) := by decide +kernel
theorem dX7_tape_47 : decode cX7_tape 47 = .ok (.getfield 88, 3) := by decide +kernel
theorem dX7_tape_50 : decode cX7_tape 50 = .ok (.iload_n 2, 1) := by decide +kernel
theorem dX7_tape_51 : decode cX7_tape 51 = .ok (.iastore, 1) := by decide +kernel
theorem dX7_tape_52 : decode cX7_tape 52 = .ok (.aload_n 0, 1) := by decide +kernel
theorem dX7_tape_53 : decode cX7_tape 53 = .ok (.dup, 1) := by decide +kernel
theorem dX7_tape_54 : decode cX7_tape 54 = .ok (.getfield 88, 3) := by decide +kernel
theorem dX7_tape_57 : decode cX7_tape 57 = .ok (.iconst 1, 1) := by decide +kernel
theorem dX7_tape_58 : decode cX7_tape 58 = .ok (.iadd, 1) := by decide +kernel
theorem dX7_tape_59 : decode cX7_tape 59 = .ok (.putfield 88, 3) := by decide +kernel
theorem dX7_tape_62 : decode cX7_tape 62 = .ok (.aload_n 0, 1) := by decide +kernel
theorem dX7_tape_63 : decode cX7_tape 63 = .ok (.getfield 88, 3) := by decide +kernel
theorem dX7_tape_66 : decode cX7_tape 66 = .ok (.ireturn, 1) := by decide +kernel
theorem dX7_forget_0 : decode cX7_forget 0 = .ok (.aload_n 0, 1) := by decide +kernel
theorem dX7_forget_1 : decode cX7_forget 1 = .ok (.getfield 88, 3) := by decide +kernel
theorem dX7_forget_4 : decode cX7_forget 4 = .ok (.istore_n 1, 1) := by decide +kernel
theorem dX7_forget_5 : decode cX7_forget 5 = .ok (.aload_n 0, 1) := by decide +kernel
theorem dX7_forget_6 : decode cX7_forget 6 = .ok (.iconst 0, 1) := by decide +kernel
theorem dX7_forget_7 : decode cX7_forget 7 = .ok (.putfield 88, 3) := by decide +kernel
theorem dX7_forget_10 : decode cX7_forget 10 = .ok (.iload_n 1, 1) := by decide +kernel
theorem dX7_forget_11 : decode cX7_forget 11 = .ok (.ireturn, 1) := by decide +kernel
set_option maxRecDepth 20000 in
theorem ggX7_kinds_X7_isPerson : GoodIn wsX7_kinds wsX7_isPerson := goodIn_r _ [10, 1, 11, 12, 9, 13, 51, 52, 53, 54, 55, 56, 57, 58, 59, 60, 61, 62, 63, 64, 65, 66, 67] (by decide +kernel) (by decide +kernel)
set_option maxRecDepth 20000 in
theorem gX7_kinds_X7_isPerson : GoodIn wsX7_kinds (wsV RX7 48 RX7 yX7_isPerson wsX7_isPerson) := goodIn_app (goodIn_of _ (by decide +kernel)) ggX7_kinds_X7_isPerson
set_option maxRecDepth 20000 in
theorem ggX7_kinds_X7_kind : GoodIn wsX7_kinds wsX7_kind := goodIn_r _ [17, 1, 51, 52, 53, 54, 55, 56, 57, 58, 59, 60, 61, 62, 63, 64, 65, 66, 67] (by decide +kernel) (by decide +kernel)
set_option maxRecDepth 20000 in
theorem gX7_kinds_X7_kind : GoodIn wsX7_kinds (wsV RX7 132 RX7 yX7_kind wsX7_kind) := goodIn_app (goodIn_of _ (by decide +kernel)) ggX7_kinds_X7_kind
set_option maxRecDepth 20000 in
theorem ggX7_kinds_X7_opens : GoodIn wsX7_kinds wsX7_opens := goodIn_r _ [21, 3, 1, 22, 23, 24, 25, 26, 9, 27, 28, 29, 30, 31, 32, 33, 34, 35, 36, 37, 38, 39, 40, 41, 42, 43, 44, 45, 46, 14, 15, 16, 17, 47, 48, 49, 50, 51, 52, 53, 54, 55, 56, 57, 58, 59, 60, 61, 62, 63, 64, 65, 66, 67] (by decide +kernel) (by decide +kernel)
set_option maxRecDepth 20000 in
theorem gX7_kinds_X7_opens : GoodIn wsX7_kinds (wsV RX7 145 RX7 yX7_opens wsX7_opens) := goodIn_app (goodIn_of _ (by decide +kernel)) ggX7_kinds_X7_opens
theorem dX7_kinds_0 : decode cX7_kinds 0 = .ok (.aload_n 0, 1) := by decide +kernel
theorem dX7_kinds_1 : decode cX7_kinds 1 = .ok (.iload_n 1, 1) := by decide +kernel
theorem dX7_kinds_2 : decode cX7_kinds 2 = .ok (.invokevirtual 48, 3) := by decide +kernel
theorem dX7_kinds_5 : decode cX7_kinds 5 = .ok (.ifCond .ne 5, 3) := by decide +kernel
theorem dX7_kinds_8 : decode cX7_kinds 8 = .ok (.iconst (-1), 1) := by decide +kernel
theorem dX7_kinds_9 : decode cX7_kinds 9 = .ok (.ireturn, 1) := by decide +kernel
theorem dX7_kinds_10 : decode cX7_kinds 10 = .ok (.aload_n 0, 1) := by decide +kernel
theorem dX7_kinds_11 : decode cX7_kinds 11 = .ok (.iload_n 1, 1) := by decide +kernel
theorem dX7_kinds_12 : decode cX7_kinds 12 = .ok (.invokevirtual 132, 3) := by decide +kernel
theorem dX7_kinds_15 : decode cX7_kinds 15 = .ok (.istore_n 2, 1) := by decide +kernel
theorem dX7_kinds_16 : decode cX7_kinds 16 = .ok (.iconst 0, 1) := by decide +kernel
theorem dX7_kinds_17 : decode cX7_kinds 17 = .ok (.istore_n 3, 1) := by decide +kernel
theorem dX7_kinds_18 : decode cX7_kinds 18 = .ok (.iconst 0, 1) := by decide +kernel
theorem dX7_kinds_19 : decode cX7_kinds 19 = .ok (.istore 4, 2) := by decide +kernel
theorem dX7_kinds_21 : decode cX7_kinds 21 = .ok (.iload 4, 2) := by decide +kernel
theorem dX7_kinds_23 : decode cX7_kinds 23 = .ok (.iconst 4, 1) := by decide +kernel
theorem dX7_kinds_24 : decode cX7_kinds 24 = .ok (.if_icmp .ge 98, 3) := by decide +kernel
theorem dX7_kinds_27 : decode cX7_kinds 27 = .ok (.aload_n 0, 1) := by decide +kernel
theorem dX7_kinds_28 : decode cX7_kinds 28 = .ok (.getfield 7, 3) := by decide +kernel
theorem dX7_kinds_31 : decode cX7_kinds 31 = .ok (.iconst 4, 1) := by decide +kernel
theorem dX7_kinds_32 : decode cX7_kinds 32 = .ok (.iconst 3, 1) := by decide +kernel
theorem dX7_kinds_33 : decode cX7_kinds 33 = .ok (.iload_n 1, 1) := by decide +kernel
theorem dX7_kinds_34 : decode cX7_kinds 34 = .ok (.imul, 1) := by decide +kernel
theorem dX7_kinds_35 : decode cX7_kinds 35 = .ok (.iadd, 1) := by decide +kernel
theorem dX7_kinds_36 : decode cX7_kinds 36 = .ok (.iload 4, 2) := by decide +kernel
theorem dX7_kinds_38 : decode cX7_kinds 38 = .ok (.iastore, 1) := by decide +kernel
theorem dX7_kinds_39 : decode cX7_kinds 39 = .ok (.aload_n 0, 1) := by decide +kernel
theorem dX7_kinds_40 : decode cX7_kinds 40 = .ok (.invokevirtual 145, 3) := by decide +kernel
theorem dX7_kinds_43 : decode cX7_kinds 43 = .ok (.iconst 1, 1) := by decide +kernel
theorem dX7_kinds_44 : decode cX7_kinds 44 = .ok (.istore 5, 2) := by decide +kernel
theorem dX7_kinds_46 : decode cX7_kinds 46 = .ok (.iconst 0, 1) := by decide +kernel
theorem dX7_kinds_47 : decode cX7_kinds 47 = .ok (.istore 6, 2) := by decide +kernel
theorem dX7_kinds_49 : decode cX7_kinds 49 = .ok (.iload 6, 2) := by decide +kernel
theorem dX7_kinds_51 : decode cX7_kinds 51 = .ok (.aload_n 0, 1) := by decide +kernel
theorem dX7_kinds_52 : decode cX7_kinds 52 = .ok (.getfield 88, 3) := by decide +kernel
theorem dX7_kinds_55 : decode cX7_kinds 55 = .ok (.if_icmp .ge 45, 3) := by decide +kernel
theorem dX7_kinds_58 : decode cX7_kinds 58 = .ok (.iload 5, 2) := by decide +kernel
theorem dX7_kinds_60 : decode cX7_kinds 60 = .ok (.ifCond .eq 31, 3) := by decide +kernel
theorem dX7_kinds_63 : decode cX7_kinds 63 = .ok (.aload_n 0, 1) := by decide +kernel
theorem dX7_kinds_64 : decode cX7_kinds 64 = .ok (.getfield 119, 3) := by decide +kernel
theorem dX7_kinds_67 : decode cX7_kinds 67 = .ok (.aload_n 0, 1) := by decide +kernel
theorem dX7_kinds_68 : decode cX7_kinds 68 = .ok (.getfield 31, 3) := by decide +kernel
theorem dX7_kinds_71 : decode cX7_kinds 71 = .ok (.iload 6, 2) := by decide +kernel
theorem dX7_kinds_73 : decode cX7_kinds 73 = .ok (.iaload, 1) := by decide +kernel
theorem dX7_kinds_74 : decode cX7_kinds 74 = .ok (.ishr, 1) := by decide +kernel
theorem dX7_kinds_75 : decode cX7_kinds 75 = .ok (.iconst 1, 1) := by decide +kernel
theorem dX7_kinds_76 : decode cX7_kinds 76 = .ok (.iand, 1) := by decide +kernel
theorem dX7_kinds_77 : decode cX7_kinds 77 = .ok (.aload_n 0, 1) := by decide +kernel
theorem dX7_kinds_78 : decode cX7_kinds 78 = .ok (.getfield 34, 3) := by decide +kernel
theorem dX7_kinds_81 : decode cX7_kinds 81 = .ok (.iload 6, 2) := by decide +kernel
theorem dX7_kinds_83 : decode cX7_kinds 83 = .ok (.iaload, 1) := by decide +kernel
theorem dX7_kinds_84 : decode cX7_kinds 84 = .ok (.if_icmp .ne 7, 3) := by decide +kernel
theorem dX7_kinds_87 : decode cX7_kinds 87 = .ok (.iconst 1, 1) := by decide +kernel
theorem dX7_kinds_88 : decode cX7_kinds 88 = .ok (.goto 4, 3) := by decide +kernel
theorem dX7_kinds_91 : decode cX7_kinds 91 = .ok (.iconst 0, 1) := by decide +kernel
theorem dX7_kinds_92 : decode cX7_kinds 92 = .ok (.istore 5, 2) := by decide +kernel
theorem dX7_kinds_94 : decode cX7_kinds 94 = .ok (.iinc 6 1, 3) := by decide +kernel
theorem dX7_kinds_97 : decode cX7_kinds 97 = .ok (.goto (-48), 3) := by decide +kernel
theorem dX7_kinds_100 : decode cX7_kinds 100 = .ok (.iload_n 3, 1) := by decide +kernel
theorem dX7_kinds_101 : decode cX7_kinds 101 = .ok (.iload 5, 2) := by decide +kernel
theorem dX7_kinds_103 : decode cX7_kinds 103 = .ok (.ifCond .eq 10, 3) := by decide +kernel
theorem dX7_kinds_106 : decode cX7_kinds 106 = .ok (.iconst 1, 1) := by decide +kernel
theorem dX7_kinds_107 : decode cX7_kinds 107 = .ok (.iload 4, 2) := by decide +kernel
theorem dX7_kinds_109 : decode cX7_kinds 109 = .ok (.ishl, 1) := by decide +kernel
theorem dX7_kinds_110 : decode cX7_kinds 110 = .ok (.goto 4, 3) := by decide +kernel
theorem dX7_kinds_113 : decode cX7_kinds 113 = .ok (.iconst 0, 1) := by decide +kernel
theorem dX7_kinds_114 : decode cX7_kinds 114 = .ok (.ior, 1) := by decide +kernel
theorem dX7_kinds_115 : decode cX7_kinds 115 = .ok (.istore_n 3, 1) := by decide +kernel
theorem dX7_kinds_116 : decode cX7_kinds 116 = .ok (.iinc 4 1, 3) := by decide +kernel
theorem dX7_kinds_119 : decode cX7_kinds 119 = .ok (.goto (-98), 3) := by decide +kernel
theorem dX7_kinds_122 : decode cX7_kinds 122 = .ok (.aload_n 0, 1) := by decide +kernel
theorem dX7_kinds_123 : decode cX7_kinds 123 = .ok (.getfield 7, 3) := by decide +kernel
theorem dX7_kinds_126 : decode cX7_kinds 126 = .ok (.iconst 4, 1) := by decide +kernel
theorem dX7_kinds_127 : decode cX7_kinds 127 = .ok (.iconst 3, 1) := by decide +kernel
theorem dX7_kinds_128 : decode cX7_kinds 128 = .ok (.iload_n 1, 1) := by decide +kernel
theorem dX7_kinds_129 : decode cX7_kinds 129 = .ok (.imul, 1) := by decide +kernel
theorem dX7_kinds_130 : decode cX7_kinds 130 = .ok (.iadd, 1) := by decide +kernel
theorem dX7_kinds_131 : decode cX7_kinds 131 = .ok (.iload_n 2, 1) := by decide +kernel
theorem dX7_kinds_132 : decode cX7_kinds 132 = .ok (.iastore, 1) := by decide +kernel
theorem dX7_kinds_133 : decode cX7_kinds 133 = .ok (.iload_n 3, 1) := by decide +kernel
theorem dX7_kinds_134 : decode cX7_kinds 134 = .ok (.ireturn, 1) := by decide +kernel
set_option maxRecDepth 20000 in
theorem ggX7_beaten_X7_isPerson : GoodIn wsX7_beaten wsX7_isPerson := goodIn_r _ [7, 8, 9, 10, 6, 11, 20, 21, 22, 23, 24, 25, 26, 27, 28, 29, 30, 31, 32, 33, 34, 35, 36] (by decide +kernel) (by decide +kernel)
set_option maxRecDepth 20000 in
theorem gX7_beaten_X7_isPerson : GoodIn wsX7_beaten (wsV RX7 48 RX7 yX7_isPerson wsX7_isPerson) := goodIn_app (goodIn_of _ (by decide +kernel)) ggX7_beaten_X7_isPerson
set_option maxRecDepth 20000 in
theorem ggX7_beaten_X7_in : GoodIn wsX7_beaten wsX7_in := goodIn_r _ [11] (by decide +kernel) (by decide +kernel)
set_option maxRecDepth 20000 in
theorem gX7_beaten_X7_in : GoodIn wsX7_beaten (va_wsS RX7 44 yX7_in wsX7_in) := goodIn_app (goodIn_of _ (by decide +kernel)) ggX7_beaten_X7_in
set_option maxRecDepth 20000 in
theorem ggX7_beaten_X7_orders : GoodIn wsX7_beaten wsX7_orders := goodIn_r _ [15, 8, 2, 16, 17, 18, 6, 19, 20, 21, 22, 23, 24, 25, 26, 27, 28, 29, 30, 31, 32, 33, 34, 35, 36] (by decide +kernel) (by decide +kernel)
set_option maxRecDepth 20000 in
theorem gX7_beaten_X7_orders : GoodIn wsX7_beaten (wsV RX7 116 RX7 yX7_orders wsX7_orders) := goodIn_app (goodIn_of _ (by decide +kernel)) ggX7_beaten_X7_orders
theorem dX7_beaten_0 : decode cX7_beaten 0 = .ok (.aload_n 0, 1) := by decide +kernel
theorem dX7_beaten_1 : decode cX7_beaten 1 = .ok (.iload_n 1, 1) := by decide +kernel
theorem dX7_beaten_2 : decode cX7_beaten 2 = .ok (.invokevirtual 48, 3) := by decide +kernel
theorem dX7_beaten_5 : decode cX7_beaten 5 = .ok (.ifCond .eq 25, 3) := by decide +kernel
theorem dX7_beaten_8 : decode cX7_beaten 8 = .ok (.iload_n 2, 1) := by decide +kernel
theorem dX7_beaten_9 : decode cX7_beaten 9 = .ok (.i2l, 1) := by decide +kernel
theorem dX7_beaten_10 : decode cX7_beaten 10 = .ok (.lconst 0, 1) := by decide +kernel
theorem dX7_beaten_11 : decode cX7_beaten 11 = .ok (.ldc2_w 181, 3) := by decide +kernel
theorem dX7_beaten_14 : decode cX7_beaten 14 = .ok (.invokestatic 44, 3) := by decide +kernel
theorem dX7_beaten_17 : decode cX7_beaten 17 = .ok (.ifCond .eq 13, 3) := by decide +kernel
theorem dX7_beaten_20 : decode cX7_beaten 20 = .ok (.iload_n 3, 1) := by decide +kernel
theorem dX7_beaten_21 : decode cX7_beaten 21 = .ok (.i2l, 1) := by decide +kernel
theorem dX7_beaten_22 : decode cX7_beaten 22 = .ok (.lconst 0, 1) := by decide +kernel
theorem dX7_beaten_23 : decode cX7_beaten 23 = .ok (.lconst 1, 1) := by decide +kernel
theorem dX7_beaten_24 : decode cX7_beaten 24 = .ok (.invokestatic 44, 3) := by decide +kernel
theorem dX7_beaten_27 : decode cX7_beaten 27 = .ok (.ifCond .ne 5, 3) := by decide +kernel
theorem dX7_beaten_30 : decode cX7_beaten 30 = .ok (.iconst (-1), 1) := by decide +kernel
theorem dX7_beaten_31 : decode cX7_beaten 31 = .ok (.ireturn, 1) := by decide +kernel
theorem dX7_beaten_32 : decode cX7_beaten 32 = .ok (.aload_n 0, 1) := by decide +kernel
theorem dX7_beaten_33 : decode cX7_beaten 33 = .ok (.invokevirtual 116, 3) := by decide +kernel
theorem dX7_beaten_36 : decode cX7_beaten 36 = .ok (.iconst 1, 1) := by decide +kernel
theorem dX7_beaten_37 : decode cX7_beaten 37 = .ok (.istore 4, 2) := by decide +kernel
theorem dX7_beaten_39 : decode cX7_beaten 39 = .ok (.iconst 1, 1) := by decide +kernel
theorem dX7_beaten_40 : decode cX7_beaten 40 = .ok (.istore 5, 2) := by decide +kernel
theorem dX7_beaten_42 : decode cX7_beaten 42 = .ok (.iconst 0, 1) := by decide +kernel
theorem dX7_beaten_43 : decode cX7_beaten 43 = .ok (.istore 6, 2) := by decide +kernel
theorem dX7_beaten_45 : decode cX7_beaten 45 = .ok (.aload_n 0, 1) := by decide +kernel
theorem dX7_beaten_46 : decode cX7_beaten 46 = .ok (.getfield 22, 3) := by decide +kernel
theorem dX7_beaten_49 : decode cX7_beaten 49 = .ok (.iload 6, 2) := by decide +kernel
theorem dX7_beaten_51 : decode cX7_beaten 51 = .ok (.iaload, 1) := by decide +kernel
theorem dX7_beaten_52 : decode cX7_beaten 52 = .ok (.iload_n 1, 1) := by decide +kernel
theorem dX7_beaten_53 : decode cX7_beaten 53 = .ok (.if_icmp .eq 25, 3) := by decide +kernel
theorem dX7_beaten_56 : decode cX7_beaten 56 = .ok (.iload 4, 2) := by decide +kernel
theorem dX7_beaten_58 : decode cX7_beaten 58 = .ok (.bipush 10, 2) := by decide +kernel
theorem dX7_beaten_60 : decode cX7_beaten 60 = .ok (.iload_n 2, 1) := by decide +kernel
theorem dX7_beaten_61 : decode cX7_beaten 61 = .ok (.isub, 1) := by decide +kernel
theorem dX7_beaten_62 : decode cX7_beaten 62 = .ok (.imul, 1) := by decide +kernel
theorem dX7_beaten_63 : decode cX7_beaten 63 = .ok (.istore 4, 2) := by decide +kernel
theorem dX7_beaten_65 : decode cX7_beaten 65 = .ok (.iload 5, 2) := by decide +kernel
theorem dX7_beaten_67 : decode cX7_beaten 67 = .ok (.bipush 10, 2) := by decide +kernel
theorem dX7_beaten_69 : decode cX7_beaten 69 = .ok (.imul, 1) := by decide +kernel
theorem dX7_beaten_70 : decode cX7_beaten 70 = .ok (.istore 5, 2) := by decide +kernel
theorem dX7_beaten_72 : decode cX7_beaten 72 = .ok (.iinc 6 1, 3) := by decide +kernel
theorem dX7_beaten_75 : decode cX7_beaten 75 = .ok (.goto (-30), 3) := by decide +kernel
theorem dX7_beaten_78 : decode cX7_beaten 78 = .ok (.iload 4, 2) := by decide +kernel
theorem dX7_beaten_80 : decode cX7_beaten 80 = .ok (.istore 6, 2) := by decide +kernel
theorem dX7_beaten_82 : decode cX7_beaten 82 = .ok (.iload 5, 2) := by decide +kernel
theorem dX7_beaten_84 : decode cX7_beaten 84 = .ok (.istore 7, 2) := by decide +kernel
theorem dX7_beaten_86 : decode cX7_beaten 86 = .ok (.iload 7, 2) := by decide +kernel
theorem dX7_beaten_88 : decode cX7_beaten 88 = .ok (.ifCond .eq 21, 3) := by decide +kernel
theorem dX7_beaten_91 : decode cX7_beaten 91 = .ok (.iload 6, 2) := by decide +kernel
theorem dX7_beaten_93 : decode cX7_beaten 93 = .ok (.iload 7, 2) := by decide +kernel
theorem dX7_beaten_95 : decode cX7_beaten 95 = .ok (.irem, 1) := by decide +kernel
theorem dX7_beaten_96 : decode cX7_beaten 96 = .ok (.istore 8, 2) := by decide +kernel
theorem dX7_beaten_98 : decode cX7_beaten 98 = .ok (.iload 7, 2) := by decide +kernel
theorem dX7_beaten_100 : decode cX7_beaten 100 = .ok (.istore 6, 2) := by decide +kernel
theorem dX7_beaten_102 : decode cX7_beaten 102 = .ok (.iload 8, 2) := by decide +kernel
theorem dX7_beaten_104 : decode cX7_beaten 104 = .ok (.istore 7, 2) := by decide +kernel
theorem dX7_beaten_106 : decode cX7_beaten 106 = .ok (.goto (-20), 3) := by decide +kernel
theorem dX7_beaten_109 : decode cX7_beaten 109 = .ok (.iload_n 3, 1) := by decide +kernel
theorem dX7_beaten_110 : decode cX7_beaten 110 = .ok (.ifCond .ne 11, 3) := by decide +kernel
theorem dX7_beaten_113 : decode cX7_beaten 113 = .ok (.iload 4, 2) := by decide +kernel
theorem dX7_beaten_115 : decode cX7_beaten 115 = .ok (.iload 6, 2) := by decide +kernel
theorem dX7_beaten_117 : decode cX7_beaten 117 = .ok (.idiv, 1) := by decide +kernel
theorem dX7_beaten_118 : decode cX7_beaten 118 = .ok (.goto 8, 3) := by decide +kernel
theorem dX7_beaten_121 : decode cX7_beaten 121 = .ok (.iload 5, 2) := by decide +kernel
theorem dX7_beaten_123 : decode cX7_beaten 123 = .ok (.iload 6, 2) := by decide +kernel
theorem dX7_beaten_125 : decode cX7_beaten 125 = .ok (.idiv, 1) := by decide +kernel
theorem dX7_beaten_126 : decode cX7_beaten 126 = .ok (.ireturn, 1) := by decide +kernel
set_option maxRecDepth 20000 in
theorem ggX7_learner_X7_sends : GoodIn wsX7_learner wsX7_sends := goodIn_r _ [6, 7, 1, 8, 9, 10, 11, 12, 5, 13, 14, 15, 16, 17, 18, 19, 20, 21, 22, 23, 24, 25, 26, 27, 28, 29, 30, 31, 32, 33, 58, 59, 60, 61, 62, 63, 64, 65, 66, 67, 68, 69, 70, 71, 72, 73, 74] (by decide +kernel) (by decide +kernel)
set_option maxRecDepth 20000 in
theorem gX7_learner_X7_sends : GoodIn wsX7_learner (wsV RX7 157 RX7 yX7_sends wsX7_sends) := goodIn_app (goodIn_of _ (by decide +kernel)) ggX7_learner_X7_sends
set_option maxRecDepth 20000 in
theorem ggX7_learner_X7_sum : GoodIn wsX7_learner wsX7_sum := goodIn_r _ [37, 1, 9, 58, 59, 60, 61, 62, 63, 64, 65, 66, 67, 68, 69, 70, 71, 72, 73, 74] (by decide +kernel) (by decide +kernel)
set_option maxRecDepth 20000 in
theorem gX7_learner_X7_sum : GoodIn wsX7_learner (wsV RX7 151 RX7 yX7_sum wsX7_sum) := goodIn_app (goodIn_of _ (by decide +kernel)) ggX7_learner_X7_sum
set_option maxRecDepth 20000 in
theorem ggX7_learner_X7_leastOf : GoodIn wsX7_learner wsX7_leastOf := goodIn_r _ [41, 1, 42, 2, 3, 4, 5, 6, 7, 8, 9, 10, 11, 12, 13, 14, 15, 16, 17, 18, 19, 20, 21, 22, 23, 24, 25, 26, 27, 28, 29, 30, 31, 32, 33, 43, 44, 45, 46, 34, 35, 36, 37, 47, 48, 49, 50, 51, 52, 53, 54, 55, 56, 57, 58, 59, 60, 61, 62, 63, 64, 65, 66, 67, 68, 69, 70, 71, 72, 73, 74] (by decide +kernel) (by decide +kernel)
set_option maxRecDepth 20000 in
theorem gX7_learner_X7_leastOf : GoodIn wsX7_learner (wsV RX7 169 RX7 yX7_leastOf wsX7_leastOf) := goodIn_app (goodIn_of _ (by decide +kernel)) ggX7_learner_X7_leastOf
theorem dX7_learner_0 : decode cX7_learner 0 = .ok (.aload_n 0, 1) := by decide +kernel
theorem dX7_learner_1 : decode cX7_learner 1 = .ok (.getfield 7, 3) := by decide +kernel
theorem dX7_learner_4 : decode cX7_learner 4 = .ok (.iconst 2, 1) := by decide +kernel
theorem dX7_learner_5 : decode cX7_learner 5 = .ok (.iaload, 1) := by decide +kernel
theorem dX7_learner_6 : decode cX7_learner 6 = .ok (.istore_n 1, 1) := by decide +kernel
theorem dX7_learner_7 : decode cX7_learner 7 = .ok (.bipush (-4), 2) := by decide +kernel
theorem dX7_learner_9 : decode cX7_learner 9 = .ok (.istore_n 2, 1) := by decide +kernel
theorem dX7_learner_10 : decode cX7_learner 10 = .ok (.iconst 1, 1) := by decide +kernel
theorem dX7_learner_11 : decode cX7_learner 11 = .ok (.istore_n 3, 1) := by decide +kernel
theorem dX7_learner_12 : decode cX7_learner 12 = .ok (.iload_n 3, 1) := by decide +kernel
theorem dX7_learner_13 : decode cX7_learner 13 = .ok (.bipush 10, 2) := by decide +kernel
theorem dX7_learner_15 : decode cX7_learner 15 = .ok (.if_icmp .ge 44, 3) := by decide +kernel
theorem dX7_learner_18 : decode cX7_learner 18 = .ok (.aload_n 0, 1) := by decide +kernel
theorem dX7_learner_19 : decode cX7_learner 19 = .ok (.getfield 7, 3) := by decide +kernel
theorem dX7_learner_22 : decode cX7_learner 22 = .ok (.iconst 2, 1) := by decide +kernel
theorem dX7_learner_23 : decode cX7_learner 23 = .ok (.iload_n 3, 1) := by decide +kernel
theorem dX7_learner_24 : decode cX7_learner 24 = .ok (.iastore, 1) := by decide +kernel
theorem dX7_learner_25 : decode cX7_learner 25 = .ok (.aload_n 0, 1) := by decide +kernel
theorem dX7_learner_26 : decode cX7_learner 26 = .ok (.iconst 0, 1) := by decide +kernel
theorem dX7_learner_27 : decode cX7_learner 27 = .ok (.invokevirtual 157, 3) := by decide +kernel
theorem dX7_learner_30 : decode cX7_learner 30 = .ok (.aload_n 0, 1) := by decide +kernel
theorem dX7_learner_31 : decode cX7_learner 31 = .ok (.invokevirtual 151, 3) := by decide +kernel
theorem dX7_learner_34 : decode cX7_learner 34 = .ok (.istore 4, 2) := by decide +kernel
theorem dX7_learner_36 : decode cX7_learner 36 = .ok (.aload_n 0, 1) := by decide +kernel
theorem dX7_learner_37 : decode cX7_learner 37 = .ok (.iconst 1, 1) := by decide +kernel
theorem dX7_learner_38 : decode cX7_learner 38 = .ok (.iconst 0, 1) := by decide +kernel
theorem dX7_learner_39 : decode cX7_learner 39 = .ok (.invokevirtual 169, 3) := by decide +kernel
theorem dX7_learner_42 : decode cX7_learner 42 = .ok (.iload 4, 2) := by decide +kernel
theorem dX7_learner_44 : decode cX7_learner 44 = .ok (.if_icmp .ge 7, 3) := by decide +kernel
theorem dX7_learner_47 : decode cX7_learner 47 = .ok (.iload_n 3, 1) := by decide +kernel
theorem dX7_learner_48 : decode cX7_learner 48 = .ok (.goto 4, 3) := by decide +kernel
theorem dX7_learner_51 : decode cX7_learner 51 = .ok (.iload_n 2, 1) := by decide +kernel
theorem dX7_learner_52 : decode cX7_learner 52 = .ok (.istore_n 2, 1) := by decide +kernel
theorem dX7_learner_53 : decode cX7_learner 53 = .ok (.iinc 3 1, 3) := by decide +kernel
theorem dX7_learner_56 : decode cX7_learner 56 = .ok (.goto (-44), 3) := by decide +kernel
theorem dX7_learner_59 : decode cX7_learner 59 = .ok (.aload_n 0, 1) := by decide +kernel
theorem dX7_learner_60 : decode cX7_learner 60 = .ok (.getfield 7, 3) := by decide +kernel
theorem dX7_learner_63 : decode cX7_learner 63 = .ok (.iconst 2, 1) := by decide +kernel
theorem dX7_learner_64 : decode cX7_learner 64 = .ok (.iload_n 1, 1) := by decide +kernel
theorem dX7_learner_65 : decode cX7_learner 65 = .ok (.iastore, 1) := by decide +kernel
theorem dX7_learner_66 : decode cX7_learner 66 = .ok (.iload_n 2, 1) := by decide +kernel
theorem dX7_learner_67 : decode cX7_learner 67 = .ok (.ireturn, 1) := by decide +kernel
set_option maxRecDepth 20000 in
theorem ggX7_day_X7_in : GoodIn wsX7_day wsX7_in := goodIn_r _ [10] (by decide +kernel) (by decide +kernel)
set_option maxRecDepth 20000 in
theorem gX7_day_X7_in : GoodIn wsX7_day (va_wsS RX7 44 yX7_in wsX7_in) := goodIn_app (goodIn_of _ (by decide +kernel)) ggX7_day_X7_in
set_option maxRecDepth 20000 in
theorem ggX7_day_X7_asides : GoodIn wsX7_day wsX7_asides := goodIn_r _ [14, 15, 6, 36, 37, 38, 39, 40, 41, 42, 43, 44, 45, 46, 47, 48, 49, 50, 51, 52] (by decide +kernel) (by decide +kernel)
set_option maxRecDepth 20000 in
theorem gX7_day_X7_asides : GoodIn wsX7_day (wsV RX7 175 RX7 yX7_asides wsX7_asides) := goodIn_app (goodIn_of _ (by decide +kernel)) ggX7_day_X7_asides
set_option maxRecDepth 20000 in
theorem ggX7_day_X7_stands : GoodIn wsX7_day wsX7_stands := goodIn_r _ [19, 6, 36, 37, 38, 39, 40, 41, 42, 43, 44, 45, 46, 47, 48, 49, 50, 51, 52] (by decide +kernel) (by decide +kernel)
set_option maxRecDepth 20000 in
theorem gX7_day_X7_stands : GoodIn wsX7_day (wsV RX7 40 RX7 yX7_stands wsX7_stands) := goodIn_app (goodIn_of _ (by decide +kernel)) ggX7_day_X7_stands
set_option maxRecDepth 20000 in
theorem ggX7_day_X7_goesBy : GoodIn wsX7_day wsX7_goesBy := goodIn_r _ [23, 6, 24, 25, 26, 9, 27, 28, 29, 30, 31, 36, 37, 38, 39, 40, 41, 42, 43, 44, 45, 46, 47, 48, 49, 50, 51, 52] (by decide +kernel) (by decide +kernel)
set_option maxRecDepth 20000 in
theorem gX7_day_X7_goesBy : GoodIn wsX7_day (wsV RX7 113 RX7 yX7_goesBy wsX7_goesBy) := goodIn_app (goodIn_of _ (by decide +kernel)) ggX7_day_X7_goesBy
set_option maxRecDepth 20000 in
theorem ggX7_day_X7_backs : GoodIn wsX7_day wsX7_backs := goodIn_r _ [35, 6, 15, 36, 37, 38, 39, 40, 41, 42, 43, 44, 45, 46, 47, 48, 49, 50, 51, 52] (by decide +kernel) (by decide +kernel)
set_option maxRecDepth 20000 in
theorem gX7_day_X7_backs : GoodIn wsX7_day (wsV RX7 178 RX7 yX7_backs wsX7_backs) := goodIn_app (goodIn_of _ (by decide +kernel)) ggX7_day_X7_backs
theorem dX7_day_0 : decode cX7_day 0 = .ok (.iload_n 1, 1) := by decide +kernel
theorem dX7_day_1 : decode cX7_day 1 = .ok (.i2l, 1) := by decide +kernel
theorem dX7_day_2 : decode cX7_day 2 = .ok (.lconst 0, 1) := by decide +kernel
theorem dX7_day_3 : decode cX7_day 3 = .ok (.ldc2_w 183, 3) := by decide +kernel
theorem dX7_day_6 : decode cX7_day 6 = .ok (.invokestatic 44, 3) := by decide +kernel
theorem dX7_day_9 : decode cX7_day 9 = .ok (.ifCond .eq 25, 3) := by decide +kernel
theorem dX7_day_12 : decode cX7_day 12 = .ok (.iload_n 2, 1) := by decide +kernel
theorem dX7_day_13 : decode cX7_day 13 = .ok (.i2l, 1) := by decide +kernel
theorem dX7_day_14 : decode cX7_day 14 = .ok (.lconst 1, 1) := by decide +kernel
theorem dX7_day_15 : decode cX7_day 15 = .ok (.ldc2_w 185, 3) := by decide +kernel
theorem dX7_day_18 : decode cX7_day 18 = .ok (.invokestatic 44, 3) := by decide +kernel
theorem dX7_day_21 : decode cX7_day 21 = .ok (.ifCond .eq 13, 3) := by decide +kernel
theorem dX7_day_24 : decode cX7_day 24 = .ok (.iload_n 3, 1) := by decide +kernel
theorem dX7_day_25 : decode cX7_day 25 = .ok (.i2l, 1) := by decide +kernel
theorem dX7_day_26 : decode cX7_day 26 = .ok (.lconst 0, 1) := by decide +kernel
theorem dX7_day_27 : decode cX7_day 27 = .ok (.lconst 1, 1) := by decide +kernel
theorem dX7_day_28 : decode cX7_day 28 = .ok (.invokestatic 44, 3) := by decide +kernel
theorem dX7_day_31 : decode cX7_day 31 = .ok (.ifCond .ne 5, 3) := by decide +kernel
theorem dX7_day_34 : decode cX7_day 34 = .ok (.iconst (-1), 1) := by decide +kernel
theorem dX7_day_35 : decode cX7_day 35 = .ok (.ireturn, 1) := by decide +kernel
theorem dX7_day_36 : decode cX7_day 36 = .ok (.aload_n 0, 1) := by decide +kernel
theorem dX7_day_37 : decode cX7_day 37 = .ok (.invokevirtual 175, 3) := by decide +kernel
theorem dX7_day_40 : decode cX7_day 40 = .ok (.iconst 0, 1) := by decide +kernel
theorem dX7_day_41 : decode cX7_day 41 = .ok (.istore 4, 2) := by decide +kernel
theorem dX7_day_43 : decode cX7_day 43 = .ok (.iconst 0, 1) := by decide +kernel
theorem dX7_day_44 : decode cX7_day 44 = .ok (.istore 5, 2) := by decide +kernel
theorem dX7_day_46 : decode cX7_day 46 = .ok (.iload 5, 2) := by decide +kernel
theorem dX7_day_48 : decode cX7_day 48 = .ok (.iload_n 2, 1) := by decide +kernel
theorem dX7_day_49 : decode cX7_day 49 = .ok (.if_icmp .ge 93, 3) := by decide +kernel
theorem dX7_day_52 : decode cX7_day 52 = .ok (.ldc2_w 187, 3) := by decide +kernel
theorem dX7_day_55 : decode cX7_day 55 = .ok (.iload_n 1, 1) := by decide +kernel
theorem dX7_day_56 : decode cX7_day 56 = .ok (.i2l, 1) := by decide +kernel
theorem dX7_day_57 : decode cX7_day 57 = .ok (.lmul, 1) := by decide +kernel
theorem dX7_day_58 : decode cX7_day 58 = .ok (.ldc2_w 189, 3) := by decide +kernel
theorem dX7_day_61 : decode cX7_day 61 = .ok (.iload 5, 2) := by decide +kernel
theorem dX7_day_63 : decode cX7_day 63 = .ok (.i2l, 1) := by decide +kernel
theorem dX7_day_64 : decode cX7_day 64 = .ok (.lmul, 1) := by decide +kernel
theorem dX7_day_65 : decode cX7_day 65 = .ok (.ladd, 1) := by decide +kernel
theorem dX7_day_66 : decode cX7_day 66 = .ok (.lconst 1, 1) := by decide +kernel
theorem dX7_day_67 : decode cX7_day 67 = .ok (.ladd, 1) := by decide +kernel
theorem dX7_day_68 : decode cX7_day 68 = .ok (.lstore 6, 2) := by decide +kernel
theorem dX7_day_70 : decode cX7_day 70 = .ok (.lload 6, 2) := by decide +kernel
theorem dX7_day_72 : decode cX7_day 72 = .ok (.lload 6, 2) := by decide +kernel
theorem dX7_day_74 : decode cX7_day 74 = .ok (.lmul, 1) := by decide +kernel
theorem dX7_day_75 : decode cX7_day 75 = .ok (.ldc2_w 191, 3) := by decide +kernel
theorem dX7_day_78 : decode cX7_day 78 = .ok (.lrem, 1) := by decide +kernel
theorem dX7_day_79 : decode cX7_day 79 = .ok (.l2i, 1) := by decide +kernel
theorem dX7_day_80 : decode cX7_day 80 = .ok (.istore 8, 2) := by decide +kernel
theorem dX7_day_82 : decode cX7_day 82 = .ok (.aload_n 0, 1) := by decide +kernel
theorem dX7_day_83 : decode cX7_day 83 = .ok (.getfield 7, 3) := by decide +kernel
theorem dX7_day_86 : decode cX7_day 86 = .ok (.iconst 0, 1) := by decide +kernel
theorem dX7_day_87 : decode cX7_day 87 = .ok (.iaload, 1) := by decide +kernel
theorem dX7_day_88 : decode cX7_day 88 = .ok (.bipush 8, 2) := by decide +kernel
theorem dX7_day_90 : decode cX7_day 90 = .ok (.if_icmp .ge 29, 3) := by decide +kernel
theorem dX7_day_93 : decode cX7_day 93 = .ok (.aload_n 0, 1) := by decide +kernel
theorem dX7_day_94 : decode cX7_day 94 = .ok (.iload 8, 2) := by decide +kernel
theorem dX7_day_96 : decode cX7_day 96 = .ok (.iconst 4, 1) := by decide +kernel
theorem dX7_day_97 : decode cX7_day 97 = .ok (.irem, 1) := by decide +kernel
theorem dX7_day_98 : decode cX7_day 98 = .ok (.iload 8, 2) := by decide +kernel
theorem dX7_day_100 : decode cX7_day 100 = .ok (.iconst 4, 1) := by decide +kernel
theorem dX7_day_101 : decode cX7_day 101 = .ok (.idiv, 1) := by decide +kernel
theorem dX7_day_102 : decode cX7_day 102 = .ok (.bipush 9, 2) := by decide +kernel
theorem dX7_day_104 : decode cX7_day 104 = .ok (.irem, 1) := by decide +kernel
theorem dX7_day_105 : decode cX7_day 105 = .ok (.iconst 1, 1) := by decide +kernel
theorem dX7_day_106 : decode cX7_day 106 = .ok (.iadd, 1) := by decide +kernel
theorem dX7_day_107 : decode cX7_day 107 = .ok (.iload 8, 2) := by decide +kernel
theorem dX7_day_109 : decode cX7_day 109 = .ok (.bipush 64, 2) := by decide +kernel
theorem dX7_day_111 : decode cX7_day 111 = .ok (.idiv, 1) := by decide +kernel
theorem dX7_day_112 : decode cX7_day 112 = .ok (.iconst 5, 1) := by decide +kernel
theorem dX7_day_113 : decode cX7_day 113 = .ok (.irem, 1) := by decide +kernel
theorem dX7_day_114 : decode cX7_day 114 = .ok (.iconst 1, 1) := by decide +kernel
theorem dX7_day_115 : decode cX7_day 115 = .ok (.iadd, 1) := by decide +kernel
theorem dX7_day_116 : decode cX7_day 116 = .ok (.invokevirtual 40, 3) := by decide +kernel
theorem dX7_day_119 : decode cX7_day 119 = .ok (.iload 4, 2) := by decide +kernel
theorem dX7_day_121 : decode cX7_day 121 = .ok (.aload_n 0, 1) := by decide +kernel
theorem dX7_day_122 : decode cX7_day 122 = .ok (.iload 8, 2) := by decide +kernel
theorem dX7_day_124 : decode cX7_day 124 = .ok (.bipush 16, 2) := by decide +kernel
theorem dX7_day_126 : decode cX7_day 126 = .ok (.idiv, 1) := by decide +kernel
theorem dX7_day_127 : decode cX7_day 127 = .ok (.bipush 20, 2) := by decide +kernel
theorem dX7_day_129 : decode cX7_day 129 = .ok (.irem, 1) := by decide +kernel
theorem dX7_day_130 : decode cX7_day 130 = .ok (.invokevirtual 113, 3) := by decide +kernel
theorem dX7_day_133 : decode cX7_day 133 = .ok (.iadd, 1) := by decide +kernel
theorem dX7_day_134 : decode cX7_day 134 = .ok (.istore 4, 2) := by decide +kernel
theorem dX7_day_136 : decode cX7_day 136 = .ok (.iinc 5 1, 3) := by decide +kernel
theorem dX7_day_139 : decode cX7_day 139 = .ok (.goto (-93), 3) := by decide +kernel
theorem dX7_day_142 : decode cX7_day 142 = .ok (.aload_n 0, 1) := by decide +kernel
theorem dX7_day_143 : decode cX7_day 143 = .ok (.getfield 7, 3) := by decide +kernel
theorem dX7_day_146 : decode cX7_day 146 = .ok (.iconst 0, 1) := by decide +kernel
theorem dX7_day_147 : decode cX7_day 147 = .ok (.iaload, 1) := by decide +kernel
theorem dX7_day_148 : decode cX7_day 148 = .ok (.istore 5, 2) := by decide +kernel
theorem dX7_day_150 : decode cX7_day 150 = .ok (.aload_n 0, 1) := by decide +kernel
theorem dX7_day_151 : decode cX7_day 151 = .ok (.invokevirtual 178, 3) := by decide +kernel
theorem dX7_day_154 : decode cX7_day 154 = .ok (.iload_n 3, 1) := by decide +kernel
theorem dX7_day_155 : decode cX7_day 155 = .ok (.ifCond .ne 8, 3) := by decide +kernel
theorem dX7_day_158 : decode cX7_day 158 = .ok (.iload 4, 2) := by decide +kernel
theorem dX7_day_160 : decode cX7_day 160 = .ok (.goto 5, 3) := by decide +kernel
theorem dX7_day_163 : decode cX7_day 163 = .ok (.iload 5, 2) := by decide +kernel
theorem dX7_day_165 : decode cX7_day 165 = .ok (.ireturn, 1) := by decide +kernel
theorem dX7_keep_0 : decode cX7_keep 0 = .ok (.aload_n 0, 1) := by decide +kernel
theorem dX7_keep_1 : decode cX7_keep 1 = .ok (.getfield 94, 3) := by decide +kernel
theorem dX7_keep_4 : decode cX7_keep 4 = .ok (.iconst 2, 1) := by decide +kernel
theorem dX7_keep_5 : decode cX7_keep 5 = .ok (.if_icmp .ne 6, 3) := by decide +kernel
theorem dX7_keep_8 : decode cX7_keep 8 = .ok (.bipush (-3), 2) := by decide +kernel
theorem dX7_keep_10 : decode cX7_keep 10 = .ok (.ireturn, 1) := by decide +kernel
theorem dX7_keep_11 : decode cX7_keep 11 = .ok (.iconst 0, 1) := by decide +kernel
theorem dX7_keep_12 : decode cX7_keep 12 = .ok (.istore_n 1, 1) := by decide +kernel
theorem dX7_keep_13 : decode cX7_keep 13 = .ok (.iload_n 1, 1) := by decide +kernel
theorem dX7_keep_14 : decode cX7_keep 14 = .ok (.bipush 28, 2) := by decide +kernel
theorem dX7_keep_16 : decode cX7_keep 16 = .ok (.if_icmp .ge 29, 3) := by decide +kernel
theorem dX7_keep_19 : decode cX7_keep 19 = .ok (.aload_n 0, 1) := by decide +kernel
theorem dX7_keep_20 : decode cX7_keep 20 = .ok (.getfield 37, 3) := by decide +kernel
theorem dX7_keep_23 : decode cX7_keep 23 = .ok (.bipush 28, 2) := by decide +kernel
theorem dX7_keep_25 : decode cX7_keep 25 = .ok (.aload_n 0, 1) := by decide +kernel
theorem dX7_keep_26 : decode cX7_keep 26 = .ok (.getfield 94, 3) := by decide +kernel
theorem dX7_keep_29 : decode cX7_keep 29 = .ok (.imul, 1) := by decide +kernel
theorem dX7_keep_30 : decode cX7_keep 30 = .ok (.iload_n 1, 1) := by decide +kernel
theorem dX7_keep_31 : decode cX7_keep 31 = .ok (.iadd, 1) := by decide +kernel
theorem dX7_keep_32 : decode cX7_keep 32 = .ok (.aload_n 0, 1) := by decide +kernel
theorem dX7_keep_33 : decode cX7_keep 33 = .ok (.getfield 7, 3) := by decide +kernel
theorem dX7_keep_36 : decode cX7_keep 36 = .ok (.iload_n 1, 1) := by decide +kernel
theorem dX7_keep_37 : decode cX7_keep 37 = .ok (.iaload, 1) := by decide +kernel
theorem dX7_keep_38 : decode cX7_keep 38 = .ok (.iastore, 1) := by decide +kernel
theorem dX7_keep_39 : decode cX7_keep 39 = .ok (.iinc 1 1, 3) := by decide +kernel
theorem dX7_keep_42 : decode cX7_keep 42 = .ok (.goto (-29), 3) := by decide +kernel
theorem dX7_keep_45 : decode cX7_keep 45 = .ok (.aload_n 0, 1) := by decide +kernel
theorem dX7_keep_46 : decode cX7_keep 46 = .ok (.dup, 1) := by decide +kernel
theorem dX7_keep_47 : decode cX7_keep 47 = .ok (.getfield 94, 3) := by decide +kernel
theorem dX7_keep_50 : decode cX7_keep 50 = .ok (.iconst 1, 1) := by decide +kernel
theorem dX7_keep_51 : decode cX7_keep 51 = .ok (.iadd, 1) := by decide +kernel
theorem dX7_keep_52 : decode cX7_keep 52 = .ok (.putfield 94, 3) := by decide +kernel
theorem dX7_keep_55 : decode cX7_keep 55 = .ok (.aload_n 0, 1) := by decide +kernel
theorem dX7_keep_56 : decode cX7_keep 56 = .ok (.getfield 94, 3) := by decide +kernel
theorem dX7_keep_59 : decode cX7_keep 59 = .ok (.ireturn, 1) := by decide +kernel
theorem dX7_back_0 : decode cX7_back 0 = .ok (.aload_n 0, 1) := by decide +kernel
theorem dX7_back_1 : decode cX7_back 1 = .ok (.getfield 94, 3) := by decide +kernel
theorem dX7_back_4 : decode cX7_back 4 = .ok (.ifCond .ne 6, 3) := by decide +kernel
theorem dX7_back_7 : decode cX7_back 7 = .ok (.bipush (-2), 2) := by decide +kernel
theorem dX7_back_9 : decode cX7_back 9 = .ok (.ireturn, 1) := by decide +kernel
theorem dX7_back_10 : decode cX7_back 10 = .ok (.aload_n 0, 1) := by decide +kernel
theorem dX7_back_11 : decode cX7_back 11 = .ok (.dup, 1) := by decide +kernel
theorem dX7_back_12 : decode cX7_back 12 = .ok (.getfield 94, 3) := by decide +kernel
theorem dX7_back_15 : decode cX7_back 15 = .ok (.iconst 1, 1) := by decide +kernel
theorem dX7_back_16 : decode cX7_back 16 = .ok (.isub, 1) := by decide +kernel
theorem dX7_back_17 : decode cX7_back 17 = .ok (.putfield 94, 3) := by decide +kernel
theorem dX7_back_20 : decode cX7_back 20 = .ok (.iconst 0, 1) := by decide +kernel
theorem dX7_back_21 : decode cX7_back 21 = .ok (.istore_n 1, 1) := by decide +kernel
theorem dX7_back_22 : decode cX7_back 22 = .ok (.iload_n 1, 1) := by decide +kernel
theorem dX7_back_23 : decode cX7_back 23 = .ok (.bipush 28, 2) := by decide +kernel
theorem dX7_back_25 : decode cX7_back 25 = .ok (.if_icmp .ge 29, 3) := by decide +kernel
theorem dX7_back_28 : decode cX7_back 28 = .ok (.aload_n 0, 1) := by decide +kernel
theorem dX7_back_29 : decode cX7_back 29 = .ok (.getfield 7, 3) := by decide +kernel
theorem dX7_back_32 : decode cX7_back 32 = .ok (.iload_n 1, 1) := by decide +kernel
theorem dX7_back_33 : decode cX7_back 33 = .ok (.aload_n 0, 1) := by decide +kernel
theorem dX7_back_34 : decode cX7_back 34 = .ok (.getfield 37, 3) := by decide +kernel
theorem dX7_back_37 : decode cX7_back 37 = .ok (.bipush 28, 2) := by decide +kernel
theorem dX7_back_39 : decode cX7_back 39 = .ok (.aload_n 0, 1) := by decide +kernel
theorem dX7_back_40 : decode cX7_back 40 = .ok (.getfield 94, 3) := by decide +kernel
theorem dX7_back_43 : decode cX7_back 43 = .ok (.imul, 1) := by decide +kernel
theorem dX7_back_44 : decode cX7_back 44 = .ok (.iload_n 1, 1) := by decide +kernel
theorem dX7_back_45 : decode cX7_back 45 = .ok (.iadd, 1) := by decide +kernel
theorem dX7_back_46 : decode cX7_back 46 = .ok (.iaload, 1) := by decide +kernel
theorem dX7_back_47 : decode cX7_back 47 = .ok (.iastore, 1) := by decide +kernel
theorem dX7_back_48 : decode cX7_back 48 = .ok (.iinc 1 1, 3) := by decide +kernel
theorem dX7_back_51 : decode cX7_back 51 = .ok (.goto (-29), 3) := by decide +kernel
theorem dX7_back_54 : decode cX7_back 54 = .ok (.aload_n 0, 1) := by decide +kernel
theorem dX7_back_55 : decode cX7_back 55 = .ok (.iconst 0, 1) := by decide +kernel
theorem dX7_back_56 : decode cX7_back 56 = .ok (.putfield 88, 3) := by decide +kernel
theorem dX7_back_59 : decode cX7_back 59 = .ok (.aload_n 0, 1) := by decide +kernel
theorem dX7_back_60 : decode cX7_back 60 = .ok (.iconst 0, 1) := by decide +kernel
theorem dX7_back_61 : decode cX7_back 61 = .ok (.putfield 91, 3) := by decide +kernel
theorem dX7_back_64 : decode cX7_back 64 = .ok (.aload_n 0, 1) := by decide +kernel
theorem dX7_back_65 : decode cX7_back 65 = .ok (.getfield 94, 3) := by decide +kernel
theorem dX7_back_68 : decode cX7_back 68 = .ok (.ireturn, 1) := by decide +kernel
theorem dX7_count_0 : decode cX7_count 0 = .ok (.iload_n 1, 1) := by decide +kernel
theorem dX7_count_1 : decode cX7_count 1 = .ok (.tableswitch 74 0 7 #[47, 47, 47, 47, 54, 59, 64, 69], 47) := by decide +kernel
theorem dX7_count_48 : decode cX7_count 48 = .ok (.aload_n 0, 1) := by decide +kernel
theorem dX7_count_49 : decode cX7_count 49 = .ok (.getfield 7, 3) := by decide +kernel
theorem dX7_count_52 : decode cX7_count 52 = .ok (.iload_n 1, 1) := by decide +kernel
theorem dX7_count_53 : decode cX7_count 53 = .ok (.iaload, 1) := by decide +kernel
theorem dX7_count_54 : decode cX7_count 54 = .ok (.ireturn, 1) := by decide +kernel
theorem dX7_count_55 : decode cX7_count 55 = .ok (.aload_n 0, 1) := by decide +kernel
theorem dX7_count_56 : decode cX7_count 56 = .ok (.getfield 88, 3) := by decide +kernel
theorem dX7_count_59 : decode cX7_count 59 = .ok (.ireturn, 1) := by decide +kernel
theorem dX7_count_60 : decode cX7_count 60 = .ok (.aload_n 0, 1) := by decide +kernel
theorem dX7_count_61 : decode cX7_count 61 = .ok (.getfield 91, 3) := by decide +kernel
theorem dX7_count_64 : decode cX7_count 64 = .ok (.ireturn, 1) := by decide +kernel
theorem dX7_count_65 : decode cX7_count 65 = .ok (.aload_n 0, 1) := by decide +kernel
theorem dX7_count_66 : decode cX7_count 66 = .ok (.getfield 94, 3) := by decide +kernel
theorem dX7_count_69 : decode cX7_count 69 = .ok (.ireturn, 1) := by decide +kernel
theorem dX7_count_70 : decode cX7_count 70 = .ok (.aload_n 0, 1) := by decide +kernel
theorem dX7_count_71 : decode cX7_count 71 = .ok (.getfield 62, 3) := by decide +kernel
theorem dX7_count_74 : decode cX7_count 74 = .ok (.ireturn, 1) := by decide +kernel
theorem dX7_count_75 : decode cX7_count 75 = .ok (.iconst (-1), 1) := by decide +kernel
theorem dX7_count_76 : decode cX7_count 76 = .ok (.ireturn, 1) := by decide +kernel
theorem dJ6_bitCount_0f7a4_0 : decode cJ6_bitCount_0f7a4 0 = .ok (.iload_n 0, 1) := by decide +kernel
theorem dJ6_bitCount_0f7a4_1 : decode cJ6_bitCount_0f7a4 1 = .ok (.iload_n 0, 1) := by decide +kernel
theorem dJ6_bitCount_0f7a4_2 : decode cJ6_bitCount_0f7a4 2 = .ok (.iconst 1, 1) := by decide +kernel
theorem dJ6_bitCount_0f7a4_3 : decode cJ6_bitCount_0f7a4 3 = .ok (.iushr, 1) := by decide +kernel
theorem dJ6_bitCount_0f7a4_4 : decode cJ6_bitCount_0f7a4 4 = .ok (.ldc_w 265, 3) := by decide +kernel
theorem dJ6_bitCount_0f7a4_7 : decode cJ6_bitCount_0f7a4 7 = .ok (.iand, 1) := by decide +kernel
theorem dJ6_bitCount_0f7a4_8 : decode cJ6_bitCount_0f7a4 8 = .ok (.isub, 1) := by decide +kernel
theorem dJ6_bitCount_0f7a4_9 : decode cJ6_bitCount_0f7a4 9 = .ok (.istore_n 0, 1) := by decide +kernel
theorem dJ6_bitCount_0f7a4_10 : decode cJ6_bitCount_0f7a4 10 = .ok (.iload_n 0, 1) := by decide +kernel
theorem dJ6_bitCount_0f7a4_11 : decode cJ6_bitCount_0f7a4 11 = .ok (.ldc_w 266, 3) := by decide +kernel
theorem dJ6_bitCount_0f7a4_14 : decode cJ6_bitCount_0f7a4 14 = .ok (.iand, 1) := by decide +kernel
theorem dJ6_bitCount_0f7a4_15 : decode cJ6_bitCount_0f7a4 15 = .ok (.iload_n 0, 1) := by decide +kernel
theorem dJ6_bitCount_0f7a4_16 : decode cJ6_bitCount_0f7a4 16 = .ok (.iconst 2, 1) := by decide +kernel
theorem dJ6_bitCount_0f7a4_17 : decode cJ6_bitCount_0f7a4 17 = .ok (.iushr, 1) := by decide +kernel
theorem dJ6_bitCount_0f7a4_18 : decode cJ6_bitCount_0f7a4 18 = .ok (.ldc_w 266, 3) := by decide +kernel
theorem dJ6_bitCount_0f7a4_21 : decode cJ6_bitCount_0f7a4 21 = .ok (.iand, 1) := by decide +kernel
theorem dJ6_bitCount_0f7a4_22 : decode cJ6_bitCount_0f7a4 22 = .ok (.iadd, 1) := by decide +kernel
theorem dJ6_bitCount_0f7a4_23 : decode cJ6_bitCount_0f7a4 23 = .ok (.istore_n 0, 1) := by decide +kernel
theorem dJ6_bitCount_0f7a4_24 : decode cJ6_bitCount_0f7a4 24 = .ok (.iload_n 0, 1) := by decide +kernel
theorem dJ6_bitCount_0f7a4_25 : decode cJ6_bitCount_0f7a4 25 = .ok (.iload_n 0, 1) := by decide +kernel
theorem dJ6_bitCount_0f7a4_26 : decode cJ6_bitCount_0f7a4 26 = .ok (.iconst 4, 1) := by decide +kernel
theorem dJ6_bitCount_0f7a4_27 : decode cJ6_bitCount_0f7a4 27 = .ok (.iushr, 1) := by decide +kernel
theorem dJ6_bitCount_0f7a4_28 : decode cJ6_bitCount_0f7a4 28 = .ok (.iadd, 1) := by decide +kernel
theorem dJ6_bitCount_0f7a4_29 : decode cJ6_bitCount_0f7a4 29 = .ok (.ldc_w 267, 3) := by decide +kernel
theorem dJ6_bitCount_0f7a4_32 : decode cJ6_bitCount_0f7a4 32 = .ok (.iand, 1) := by decide +kernel
theorem dJ6_bitCount_0f7a4_33 : decode cJ6_bitCount_0f7a4 33 = .ok (.istore_n 0, 1) := by decide +kernel
theorem dJ6_bitCount_0f7a4_34 : decode cJ6_bitCount_0f7a4 34 = .ok (.iload_n 0, 1) := by decide +kernel
theorem dJ6_bitCount_0f7a4_35 : decode cJ6_bitCount_0f7a4 35 = .ok (.iload_n 0, 1) := by decide +kernel
theorem dJ6_bitCount_0f7a4_36 : decode cJ6_bitCount_0f7a4 36 = .ok (.bipush 8, 2) := by decide +kernel
theorem dJ6_bitCount_0f7a4_38 : decode cJ6_bitCount_0f7a4 38 = .ok (.iushr, 1) := by decide +kernel
theorem dJ6_bitCount_0f7a4_39 : decode cJ6_bitCount_0f7a4 39 = .ok (.iadd, 1) := by decide +kernel
theorem dJ6_bitCount_0f7a4_40 : decode cJ6_bitCount_0f7a4 40 = .ok (.istore_n 0, 1) := by decide +kernel
theorem dJ6_bitCount_0f7a4_41 : decode cJ6_bitCount_0f7a4 41 = .ok (.iload_n 0, 1) := by decide +kernel
theorem dJ6_bitCount_0f7a4_42 : decode cJ6_bitCount_0f7a4 42 = .ok (.iload_n 0, 1) := by decide +kernel
theorem dJ6_bitCount_0f7a4_43 : decode cJ6_bitCount_0f7a4 43 = .ok (.bipush 16, 2) := by decide +kernel
theorem dJ6_bitCount_0f7a4_45 : decode cJ6_bitCount_0f7a4 45 = .ok (.iushr, 1) := by decide +kernel
theorem dJ6_bitCount_0f7a4_46 : decode cJ6_bitCount_0f7a4 46 = .ok (.iadd, 1) := by decide +kernel
theorem dJ6_bitCount_0f7a4_47 : decode cJ6_bitCount_0f7a4 47 = .ok (.istore_n 0, 1) := by decide +kernel
theorem dJ6_bitCount_0f7a4_48 : decode cJ6_bitCount_0f7a4 48 = .ok (.iload_n 0, 1) := by decide +kernel
theorem dJ6_bitCount_0f7a4_49 : decode cJ6_bitCount_0f7a4 49 = .ok (.bipush 63, 2) := by decide +kernel
theorem dJ6_bitCount_0f7a4_51 : decode cJ6_bitCount_0f7a4 51 = .ok (.iand, 1) := by decide +kernel
theorem dJ6_bitCount_0f7a4_52 : decode cJ6_bitCount_0f7a4 52 = .ok (.ireturn, 1) := by decide +kernel
theorem dJ9_max_7cf53_0 : decode cJ9_max_7cf53 0 = .ok (.iload_n 0, 1) := by decide +kernel
theorem dJ9_max_7cf53_1 : decode cJ9_max_7cf53 1 = .ok (.iload_n 1, 1) := by decide +kernel
theorem dJ9_max_7cf53_2 : decode cJ9_max_7cf53 2 = .ok (.if_icmp .lt 7, 3) := by decide +kernel
theorem dJ9_max_7cf53_5 : decode cJ9_max_7cf53 5 = .ok (.iload_n 0, 1) := by decide +kernel
theorem dJ9_max_7cf53_6 : decode cJ9_max_7cf53 6 = .ok (.goto 4, 3) := by decide +kernel
theorem dJ9_max_7cf53_9 : decode cJ9_max_7cf53 9 = .ok (.iload_n 1, 1) := by decide +kernel
theorem dJ9_max_7cf53_10 : decode cJ9_max_7cf53 10 = .ok (.ireturn, 1) := by decide +kernel
set_option maxRecDepth 20000 in
theorem ggJ0_length_8abf5_J0_coder_7d493 : GoodIn wsJ0_length_8abf5 wsJ0_coder_7d493 := goodIn_r _ [6, 7, 8] (by decide +kernel) (by decide +kernel)
set_option maxRecDepth 20000 in
theorem gJ0_length_8abf5_J0_coder_7d493 : GoodIn wsJ0_length_8abf5 (wsV RJ0 335 RJ0 yJ0_coder_7d493 wsJ0_coder_7d493) := goodIn_app (goodIn_of _ (by decide +kernel)) ggJ0_length_8abf5_J0_coder_7d493
theorem dJ0_length_8abf5_0 : decode cJ0_length_8abf5 0 = .ok (.aload_n 0, 1) := by decide +kernel
theorem dJ0_length_8abf5_1 : decode cJ0_length_8abf5 1 = .ok (.getfield 9, 3) := by decide +kernel
theorem dJ0_length_8abf5_4 : decode cJ0_length_8abf5 4 = .ok (.arraylength, 1) := by decide +kernel
theorem dJ0_length_8abf5_5 : decode cJ0_length_8abf5 5 = .ok (.aload_n 0, 1) := by decide +kernel
theorem dJ0_length_8abf5_6 : decode cJ0_length_8abf5 6 = .ok (.invokevirtual 335, 3) := by decide +kernel
theorem dJ0_length_8abf5_9 : decode cJ0_length_8abf5 9 = .ok (.ishr, 1) := by decide +kernel
theorem dJ0_length_8abf5_10 : decode cJ0_length_8abf5 10 = .ok (.ireturn, 1) := by decide +kernel
set_option maxRecDepth 20000 in
theorem ggJ0_charAt_5068e_J0_isLatin1_aae02 : GoodIn wsJ0_charAt_5068e wsJ0_isLatin1_aae02 := goodIn_r _ [6, 7, 8] (by decide +kernel) (by decide +kernel)
set_option maxRecDepth 20000 in
theorem gJ0_charAt_5068e_J0_isLatin1_aae02 : GoodIn wsJ0_charAt_5068e (wsV RJ0 492 RJ0 yJ0_isLatin1_aae02 wsJ0_isLatin1_aae02) := goodIn_app (goodIn_of _ (by decide +kernel)) ggJ0_charAt_5068e_J0_isLatin1_aae02
set_option maxRecDepth 20000 in
theorem ggJ0_charAt_5068e_J1_charAt_3b067 : GoodIn wsJ0_charAt_5068e wsJ1_charAt_3b067 := goodIn_r _ [12, 13, 14, 5, 15, 16, 17, 18, 19, 20] (by decide +kernel) (by decide +kernel)
set_option maxRecDepth 20000 in
theorem gJ0_charAt_5068e_J1_charAt_3b067 : GoodIn wsJ0_charAt_5068e (va_wsS RJ0 495 yJ1_charAt_3b067 wsJ1_charAt_3b067) := goodIn_app (goodIn_of _ (by decide +kernel)) ggJ0_charAt_5068e_J1_charAt_3b067
set_option maxRecDepth 20000 in
theorem ggJ0_charAt_5068e_J2_charAt_3b067 : GoodIn wsJ0_charAt_5068e wsJ2_charAt_3b067 := goodIn_r _ [24, 25, 26, 23, 27, 28, 29, 30, 31, 14, 5, 15, 16, 17, 18, 19, 20, 32, 33, 34, 35, 36, 37] (by decide +kernel) (by decide +kernel)
set_option maxRecDepth 20000 in
theorem gJ0_charAt_5068e_J2_charAt_3b067 : GoodIn wsJ0_charAt_5068e (va_wsS RJ0 498 yJ2_charAt_3b067 wsJ2_charAt_3b067) := goodIn_app (goodIn_of _ (by decide +kernel)) ggJ0_charAt_5068e_J2_charAt_3b067
theorem dJ0_charAt_5068e_0 : decode cJ0_charAt_5068e 0 = .ok (.aload_n 0, 1) := by decide +kernel
theorem dJ0_charAt_5068e_1 : decode cJ0_charAt_5068e 1 = .ok (.invokevirtual 492, 3) := by decide +kernel
theorem dJ0_charAt_5068e_4 : decode cJ0_charAt_5068e 4 = .ok (.ifCond .eq 12, 3) := by decide +kernel
theorem dJ0_charAt_5068e_7 : decode cJ0_charAt_5068e 7 = .ok (.aload_n 0, 1) := by decide +kernel
theorem dJ0_charAt_5068e_8 : decode cJ0_charAt_5068e 8 = .ok (.getfield 9, 3) := by decide +kernel
theorem dJ0_charAt_5068e_11 : decode cJ0_charAt_5068e 11 = .ok (.iload_n 1, 1) := by decide +kernel
theorem dJ0_charAt_5068e_12 : decode cJ0_charAt_5068e 12 = .ok (.invokestatic 495, 3) := by decide +kernel
theorem dJ0_charAt_5068e_15 : decode cJ0_charAt_5068e 15 = .ok (.ireturn, 1) := by decide +kernel
theorem dJ0_charAt_5068e_16 : decode cJ0_charAt_5068e 16 = .ok (.aload_n 0, 1) := by decide +kernel
theorem dJ0_charAt_5068e_17 : decode cJ0_charAt_5068e 17 = .ok (.getfield 9, 3) := by decide +kernel
theorem dJ0_charAt_5068e_20 : decode cJ0_charAt_5068e 20 = .ok (.iload_n 1, 1) := by decide +kernel
theorem dJ0_charAt_5068e_21 : decode cJ0_charAt_5068e 21 = .ok (.invokestatic 498, 3) := by decide +kernel
theorem dJ0_charAt_5068e_24 : decode cJ0_charAt_5068e 24 = .ok (.ireturn, 1) := by decide +kernel
theorem dJ0_coder_7d493_0 : decode cJ0_coder_7d493 0 = .ok (.getstatic 38, 3) := by decide +kernel
theorem dJ0_coder_7d493_3 : decode cJ0_coder_7d493 3 = .ok (.ifCond .eq 10, 3) := by decide +kernel
theorem dJ0_coder_7d493_6 : decode cJ0_coder_7d493 6 = .ok (.aload_n 0, 1) := by decide +kernel
theorem dJ0_coder_7d493_7 : decode cJ0_coder_7d493 7 = .ok (.getfield 15, 3) := by decide +kernel
theorem dJ0_coder_7d493_10 : decode cJ0_coder_7d493 10 = .ok (.goto 4, 3) := by decide +kernel
theorem dJ0_coder_7d493_13 : decode cJ0_coder_7d493 13 = .ok (.iconst 1, 1) := by decide +kernel
theorem dJ0_coder_7d493_14 : decode cJ0_coder_7d493 14 = .ok (.ireturn, 1) := by decide +kernel
theorem dJ0_isLatin1_aae02_0 : decode cJ0_isLatin1_aae02 0 = .ok (.getstatic 38, 3) := by decide +kernel
theorem dJ0_isLatin1_aae02_3 : decode cJ0_isLatin1_aae02 3 = .ok (.ifCond .eq 14, 3) := by decide +kernel
theorem dJ0_isLatin1_aae02_6 : decode cJ0_isLatin1_aae02 6 = .ok (.aload_n 0, 1) := by decide +kernel
theorem dJ0_isLatin1_aae02_7 : decode cJ0_isLatin1_aae02 7 = .ok (.getfield 15, 3) := by decide +kernel
theorem dJ0_isLatin1_aae02_10 : decode cJ0_isLatin1_aae02 10 = .ok (.ifCond .ne 7, 3) := by decide +kernel
theorem dJ0_isLatin1_aae02_13 : decode cJ0_isLatin1_aae02 13 = .ok (.iconst 1, 1) := by decide +kernel
theorem dJ0_isLatin1_aae02_14 : decode cJ0_isLatin1_aae02 14 = .ok (.goto 4, 3) := by decide +kernel
theorem dJ0_isLatin1_aae02_17 : decode cJ0_isLatin1_aae02 17 = .ok (.iconst 0, 1) := by decide +kernel
theorem dJ0_isLatin1_aae02_18 : decode cJ0_isLatin1_aae02 18 = .ok (.ireturn, 1) := by decide +kernel
set_option maxRecDepth 20000 in
theorem ggJ0_checkIndex_df160_J3_checkIndex_8e157 : GoodIn wsJ0_checkIndex_df160 wsJ3_checkIndex_8e157 := goodIn_r _ [5] (by decide +kernel) (by decide +kernel)
set_option maxRecDepth 20000 in
theorem gJ0_checkIndex_df160_J3_checkIndex_8e157 : GoodIn wsJ0_checkIndex_df160 (va_wsS RJ0 1059 yJ3_checkIndex_8e157 wsJ3_checkIndex_8e157) := goodIn_app (goodIn_of _ (by decide +kernel)) ggJ0_checkIndex_df160_J3_checkIndex_8e157
theorem dJ0_checkIndex_df160_0 : decode cJ0_checkIndex_df160 0 = .ok (.iload_n 0, 1) := by decide +kernel
theorem dJ0_checkIndex_df160_1 : decode cJ0_checkIndex_df160 1 = .ok (.iload_n 1, 1) := by decide +kernel
theorem dJ0_checkIndex_df160_2 : decode cJ0_checkIndex_df160 2 = .ok (.getstatic 1053, 3) := by decide +kernel
theorem dJ0_checkIndex_df160_5 : decode cJ0_checkIndex_df160 5 = .ok (.invokestatic 1059, 3) := by decide +kernel
theorem dJ0_checkIndex_df160_8 : decode cJ0_checkIndex_df160 8 = .ok (.pop, 1) := by decide +kernel
theorem dJ0_checkIndex_df160_9 : decode cJ0_checkIndex_df160 9 = .ok (.return_, 1) := by decide +kernel
set_option maxRecDepth 20000 in
theorem ggJ1_charAt_3b067_J0_checkIndex_df160 : GoodIn wsJ1_charAt_3b067 wsJ0_checkIndex_df160 := goodIn_r _ [4, 5, 6, 7, 8, 9] (by decide +kernel) (by decide +kernel)
set_option maxRecDepth 20000 in
theorem gJ1_charAt_3b067_J0_checkIndex_df160 : GoodIn wsJ1_charAt_3b067 (va_wsS RJ1 9 yJ0_checkIndex_df160 wsJ0_checkIndex_df160) := goodIn_app (goodIn_of _ (by decide +kernel)) ggJ1_charAt_3b067_J0_checkIndex_df160
theorem dJ1_charAt_3b067_0 : decode cJ1_charAt_3b067 0 = .ok (.iload_n 1, 1) := by decide +kernel
theorem dJ1_charAt_3b067_1 : decode cJ1_charAt_3b067 1 = .ok (.aload_n 0, 1) := by decide +kernel
theorem dJ1_charAt_3b067_2 : decode cJ1_charAt_3b067 2 = .ok (.arraylength, 1) := by decide +kernel
theorem dJ1_charAt_3b067_3 : decode cJ1_charAt_3b067 3 = .ok (.invokestatic 9, 3) := by decide +kernel
theorem dJ1_charAt_3b067_6 : decode cJ1_charAt_3b067 6 = .ok (.aload_n 0, 1) := by decide +kernel
theorem dJ1_charAt_3b067_7 : decode cJ1_charAt_3b067 7 = .ok (.iload_n 1, 1) := by decide +kernel
theorem dJ1_charAt_3b067_8 : decode cJ1_charAt_3b067 8 = .ok (.baload, 1) := by decide +kernel
theorem dJ1_charAt_3b067_9 : decode cJ1_charAt_3b067 9 = .ok (.sipush 255, 3) := by decide +kernel
theorem dJ1_charAt_3b067_12 : decode cJ1_charAt_3b067 12 = .ok (.iand, 1) := by decide +kernel
theorem dJ1_charAt_3b067_13 : decode cJ1_charAt_3b067 13 = .ok (.i2c, 1) := by decide +kernel
theorem dJ1_charAt_3b067_14 : decode cJ1_charAt_3b067 14 = .ok (.ireturn, 1) := by decide +kernel
set_option maxRecDepth 20000 in
theorem ggJ2_getChar_3b067_J2_length_9d52b : GoodIn wsJ2_getChar_3b067 wsJ2_length_9d52b := goodIn_r _ [7] (by decide +kernel) (by decide +kernel)
set_option maxRecDepth 20000 in
theorem gJ2_getChar_3b067_J2_length_9d52b : GoodIn wsJ2_getChar_3b067 (va_wsS RJ2 48 yJ2_length_9d52b wsJ2_length_9d52b) := goodIn_app (goodIn_of _ (by decide +kernel)) ggJ2_getChar_3b067_J2_length_9d52b
theorem dJ2_getChar_3b067_0 : decode cJ2_getChar_3b067 0 = .ok (.getstatic 44, 3) := by decide +kernel
theorem dJ2_getChar_3b067_3 : decode cJ2_getChar_3b067 3 = .ok (.ifCond .ne 25, 3) := by decide +kernel
theorem dJ2_getChar_3b067_6 : decode cJ2_getChar_3b067 6 = .ok (.iload_n 1, 1) := by decide +kernel
theorem dJ2_getChar_3b067_7 : decode cJ2_getChar_3b067 7 = .ok (.ifCond .lt 11, 3) := by decide +kernel
theorem dJ2_getChar_3b067_10 : decode cJ2_getChar_3b067 10 = .ok (.iload_n 1, 1) := by decide +kernel
theorem dJ2_getChar_3b067_11 : decode cJ2_getChar_3b067 11 = .ok (.aload_n 0, 1) := by decide +kernel
theorem dJ2_getChar_3b067_12 : decode cJ2_getChar_3b067 12 = .ok (.invokestatic 48, 3) := by decide +kernel
theorem dJ2_getChar_3b067_15 : decode cJ2_getChar_3b067 15 = .ok (.if_icmp .lt 13, 3) := by decide +kernel
theorem dJ2_getChar_3b067_18 : decode cJ2_getChar_3b067 18 = .ok (.new 52, 3) := by decide +kernel
theorem dJ2_getChar_3b067_21 : decode cJ2_getChar_3b067 21 = .ok (.dup, 1) := by decide +kernel
theorem dJ2_getChar_3b067_22 : decode cJ2_getChar_3b067 22 = .ok (.ldc 54, 2) := by decide +kernel
theorem dJ2_getChar_3b067_24 : decode cJ2_getChar_3b067 24 = .ok (.invokespecial 56, 3) := by decide +kernel
theorem dJ2_getChar_3b067_27 : decode cJ2_getChar_3b067 27 = .ok (.athrow, 1) := by decide +kernel
theorem dJ2_getChar_3b067_28 : decode cJ2_getChar_3b067 28 = .ok (.iload_n 1, 1) := by decide +kernel
theorem dJ2_getChar_3b067_29 : decode cJ2_getChar_3b067 29 = .ok (.iconst 1, 1) := by decide +kernel
theorem dJ2_getChar_3b067_30 : decode cJ2_getChar_3b067 30 = .ok (.ishl, 1) := by decide +kernel
theorem dJ2_getChar_3b067_31 : decode cJ2_getChar_3b067 31 = .ok (.istore_n 1, 1) := by decide +kernel
theorem dJ2_getChar_3b067_32 : decode cJ2_getChar_3b067 32 = .ok (.aload_n 0, 1) := by decide +kernel
theorem dJ2_getChar_3b067_33 : decode cJ2_getChar_3b067 33 = .ok (.iload_n 1, 1) := by decide +kernel
theorem dJ2_getChar_3b067_34 : decode cJ2_getChar_3b067 34 = .ok (.iinc 1 1, 3) := by decide +kernel
theorem dJ2_getChar_3b067_37 : decode cJ2_getChar_3b067 37 = .ok (.baload, 1) := by decide +kernel
theorem dJ2_getChar_3b067_38 : decode cJ2_getChar_3b067 38 = .ok (.sipush 255, 3) := by decide +kernel
theorem dJ2_getChar_3b067_41 : decode cJ2_getChar_3b067 41 = .ok (.iand, 1) := by decide +kernel
theorem dJ2_getChar_3b067_42 : decode cJ2_getChar_3b067 42 = .ok (.getstatic 59, 3) := by decide +kernel
theorem dJ2_getChar_3b067_45 : decode cJ2_getChar_3b067 45 = .ok (.ishl, 1) := by decide +kernel
theorem dJ2_getChar_3b067_46 : decode cJ2_getChar_3b067 46 = .ok (.aload_n 0, 1) := by decide +kernel
theorem dJ2_getChar_3b067_47 : decode cJ2_getChar_3b067 47 = .ok (.iload_n 1, 1) := by decide +kernel
theorem dJ2_getChar_3b067_48 : decode cJ2_getChar_3b067 48 = .ok (.baload, 1) := by decide +kernel
theorem dJ2_getChar_3b067_49 : decode cJ2_getChar_3b067 49 = .ok (.sipush 255, 3) := by decide +kernel
theorem dJ2_getChar_3b067_52 : decode cJ2_getChar_3b067 52 = .ok (.iand, 1) := by decide +kernel
theorem dJ2_getChar_3b067_53 : decode cJ2_getChar_3b067 53 = .ok (.getstatic 63, 3) := by decide +kernel
theorem dJ2_getChar_3b067_56 : decode cJ2_getChar_3b067 56 = .ok (.ishl, 1) := by decide +kernel
theorem dJ2_getChar_3b067_57 : decode cJ2_getChar_3b067 57 = .ok (.ior, 1) := by decide +kernel
theorem dJ2_getChar_3b067_58 : decode cJ2_getChar_3b067 58 = .ok (.i2c, 1) := by decide +kernel
theorem dJ2_getChar_3b067_59 : decode cJ2_getChar_3b067 59 = .ok (.ireturn, 1) := by decide +kernel
theorem dJ2_length_9d52b_0 : decode cJ2_length_9d52b 0 = .ok (.aload_n 0, 1) := by decide +kernel
theorem dJ2_length_9d52b_1 : decode cJ2_length_9d52b 1 = .ok (.arraylength, 1) := by decide +kernel
theorem dJ2_length_9d52b_2 : decode cJ2_length_9d52b 2 = .ok (.iconst 1, 1) := by decide +kernel
theorem dJ2_length_9d52b_3 : decode cJ2_length_9d52b 3 = .ok (.ishr, 1) := by decide +kernel
theorem dJ2_length_9d52b_4 : decode cJ2_length_9d52b 4 = .ok (.ireturn, 1) := by decide +kernel
set_option maxRecDepth 20000 in
theorem ggJ2_charAt_3b067_J2_checkIndex_2214a : GoodIn wsJ2_charAt_3b067 wsJ2_checkIndex_2214a := goodIn_r _ [4, 5, 6, 3, 7, 8, 9, 10, 11, 12, 13, 14, 15, 16] (by decide +kernel) (by decide +kernel)
set_option maxRecDepth 20000 in
theorem gJ2_charAt_3b067_J2_checkIndex_2214a : GoodIn wsJ2_charAt_3b067 (va_wsS RJ2 67 yJ2_checkIndex_2214a wsJ2_checkIndex_2214a) := goodIn_app (goodIn_of _ (by decide +kernel)) ggJ2_charAt_3b067_J2_checkIndex_2214a
set_option maxRecDepth 20000 in
theorem ggJ2_charAt_3b067_J2_getChar_3b067 : GoodIn wsJ2_charAt_3b067 wsJ2_getChar_3b067 := goodIn_r _ [19, 20, 21, 22, 5, 6, 3, 7] (by decide +kernel) (by decide +kernel)
set_option maxRecDepth 20000 in
theorem gJ2_charAt_3b067_J2_getChar_3b067 : GoodIn wsJ2_charAt_3b067 (va_wsS RJ2 71 yJ2_getChar_3b067 wsJ2_getChar_3b067) := goodIn_app (goodIn_of _ (by decide +kernel)) ggJ2_charAt_3b067_J2_getChar_3b067
theorem dJ2_charAt_3b067_0 : decode cJ2_charAt_3b067 0 = .ok (.iload_n 1, 1) := by decide +kernel
theorem dJ2_charAt_3b067_1 : decode cJ2_charAt_3b067 1 = .ok (.aload_n 0, 1) := by decide +kernel
theorem dJ2_charAt_3b067_2 : decode cJ2_charAt_3b067 2 = .ok (.invokestatic 67, 3) := by decide +kernel
theorem dJ2_charAt_3b067_5 : decode cJ2_charAt_3b067 5 = .ok (.aload_n 0, 1) := by decide +kernel
theorem dJ2_charAt_3b067_6 : decode cJ2_charAt_3b067 6 = .ok (.iload_n 1, 1) := by decide +kernel
theorem dJ2_charAt_3b067_7 : decode cJ2_charAt_3b067 7 = .ok (.invokestatic 71, 3) := by decide +kernel
theorem dJ2_charAt_3b067_10 : decode cJ2_charAt_3b067 10 = .ok (.ireturn, 1) := by decide +kernel
set_option maxRecDepth 20000 in
theorem ggJ2_checkIndex_2214a_J2_length_9d52b : GoodIn wsJ2_checkIndex_2214a wsJ2_length_9d52b := goodIn_r _ [4] (by decide +kernel) (by decide +kernel)
set_option maxRecDepth 20000 in
theorem gJ2_checkIndex_2214a_J2_length_9d52b : GoodIn wsJ2_checkIndex_2214a (va_wsS RJ2 48 yJ2_length_9d52b wsJ2_length_9d52b) := goodIn_app (goodIn_of _ (by decide +kernel)) ggJ2_checkIndex_2214a_J2_length_9d52b
set_option maxRecDepth 20000 in
theorem ggJ2_checkIndex_2214a_J0_checkIndex_df160 : GoodIn wsJ2_checkIndex_2214a wsJ0_checkIndex_df160 := goodIn_r _ [8, 9, 10, 11, 12, 13] (by decide +kernel) (by decide +kernel)
set_option maxRecDepth 20000 in
theorem gJ2_checkIndex_2214a_J0_checkIndex_df160 : GoodIn wsJ2_checkIndex_2214a (va_wsS RJ2 414 yJ0_checkIndex_df160 wsJ0_checkIndex_df160) := goodIn_app (goodIn_of _ (by decide +kernel)) ggJ2_checkIndex_2214a_J0_checkIndex_df160
theorem dJ2_checkIndex_2214a_0 : decode cJ2_checkIndex_2214a 0 = .ok (.iload_n 0, 1) := by decide +kernel
theorem dJ2_checkIndex_2214a_1 : decode cJ2_checkIndex_2214a 1 = .ok (.aload_n 1, 1) := by decide +kernel
theorem dJ2_checkIndex_2214a_2 : decode cJ2_checkIndex_2214a 2 = .ok (.invokestatic 48, 3) := by decide +kernel
theorem dJ2_checkIndex_2214a_5 : decode cJ2_checkIndex_2214a 5 = .ok (.invokestatic 414, 3) := by decide +kernel
theorem dJ2_checkIndex_2214a_8 : decode cJ2_checkIndex_2214a 8 = .ok (.return_, 1) := by decide +kernel
theorem dJ3_checkIndex_8e157_0 : decode cJ3_checkIndex_8e157 0 = .ok (.iload_n 0, 1) := by decide +kernel
theorem dJ3_checkIndex_8e157_1 : decode cJ3_checkIndex_8e157 1 = .ok (.ifCond .lt 8, 3) := by decide +kernel
theorem dJ3_checkIndex_8e157_4 : decode cJ3_checkIndex_8e157 4 = .ok (.iload_n 0, 1) := by decide +kernel
theorem dJ3_checkIndex_8e157_5 : decode cJ3_checkIndex_8e157 5 = .ok (.iload_n 1, 1) := by decide +kernel
theorem dJ3_checkIndex_8e157_6 : decode cJ3_checkIndex_8e157 6 = .ok (.if_icmp .lt 10, 3) := by decide +kernel
theorem dJ3_checkIndex_8e157_9 : decode cJ3_checkIndex_8e157 9 = .ok (.aload_n 2, 1) := by decide +kernel
theorem dJ3_checkIndex_8e157_10 : decode cJ3_checkIndex_8e157 10 = .ok (.iload_n 0, 1) := by decide +kernel
theorem dJ3_checkIndex_8e157_11 : decode cJ3_checkIndex_8e157 11 = .ok (.iload_n 1, 1) := by decide +kernel
theorem dJ3_checkIndex_8e157_12 : decode cJ3_checkIndex_8e157 12 = .ok (.invokestatic 95, 3) := by decide +kernel
theorem dJ3_checkIndex_8e157_15 : decode cJ3_checkIndex_8e157 15 = .ok (.athrow, 1) := by decide +kernel
theorem dJ3_checkIndex_8e157_16 : decode cJ3_checkIndex_8e157 16 = .ok (.iload_n 0, 1) := by decide +kernel
theorem dJ3_checkIndex_8e157_17 : decode cJ3_checkIndex_8e157 17 = .ok (.ireturn, 1) := by decide +kernel
set_option maxRecDepth 20000 in
theorem ggL_law_X6_init : GoodIn wsL_law wsX6_init := goodIn_r _ [8, 9, 10, 11, 12, 13, 14, 15, 16, 17, 18, 19, 20, 21, 22, 23, 24, 25, 26, 27, 28, 29, 30, 31, 32, 33, 34, 35, 36, 37, 38, 39, 40, 41, 42, 43, 44, 45, 46, 47, 48, 49, 50, 51, 52, 53, 54, 55, 56, 57, 58, 59, 60, 61, 62, 63, 64, 65, 66, 67, 68, 69, 70, 71, 72, 73, 74, 75, 76, 77, 78, 79, 80, 81, 82, 83, 84, 85, 86, 87, 88, 89, 90, 91, 92, 93, 94, 95, 96, 97, 98, 99, 100, 101, 102, 103, 104, 105, 106, 107, 108, 109, 110, 111, 112, 113, 114, 115, 116, 117, 118, 119, 120, 121, 122, 123, 124, 125, 126, 127, 128, 129, 130, 131, 132, 133, 134, 135, 136, 137, 138, 139, 140, 141, 142, 143, 144, 145, 146, 147, 148, 149, 150, 151, 152, 153, 154, 155, 156, 157, 158, 159, 160, 161, 162, 163, 164, 165, 166, 167, 168, 169, 170, 171, 172, 173, 174, 175, 176, 177, 2, 178, 179, 180, 181, 182, 183, 184, 185, 186, 187, 188, 189, 787, 788, 789, 762, 763, 764, 765, 766, 767, 768, 769, 790, 791, 792, 793, 794, 795, 796, 797, 798, 799, 800, 801, 802, 803, 804, 805, 806, 807, 808, 809, 810, 811, 812] (by decide +kernel) (by decide +kernel)
set_option maxRecDepth 20000 in
theorem gL_law_X6_init : GoodIn wsL_law (wsX6_init) := ggL_law_X6_init
set_option maxRecDepth 20000 in
theorem ggL_law_X7_init : GoodIn wsL_law wsX7_init := goodIn_r _ [192, 193, 10, 11, 44, 194, 195, 196, 197, 198, 199, 200, 201, 202, 203, 204, 205, 206, 5, 207, 770, 771, 772, 773, 774, 775, 776, 777, 778, 779, 780, 781, 782, 783, 784, 785, 786] (by decide +kernel) (by decide +kernel)
set_option maxRecDepth 20000 in
theorem gL_law_X7_init : GoodIn wsL_law (wsX7_init) := ggL_law_X7_init
set_option maxRecDepth 20000 in
theorem ggL_law_X6_write : GoodIn wsL_law wsX6_write := goodIn_r _ [211, 15, 38, 179, 180, 2, 181, 133, 134, 135, 14, 136, 137, 43, 762, 763, 764, 765, 766, 767, 768, 769, 787, 788, 789] (by decide +kernel) (by decide +kernel)
set_option maxRecDepth 20000 in
theorem gL_law_X6_write : GoodIn wsL_law (wsV RL 13 RX6 yX6_write wsX6_write) := goodIn_app (goodIn_of _ (by decide +kernel)) ggL_law_X6_write
set_option maxRecDepth 20000 in
theorem ggL_law_X7_write : GoodIn wsL_law wsX7_write := goodIn_r _ [215, 216, 217, 218, 195, 219, 220, 5, 221, 770, 771, 772, 773, 774, 775, 776, 777, 778, 779, 780, 781, 782, 783, 784, 785, 786] (by decide +kernel) (by decide +kernel)
set_option maxRecDepth 20000 in
theorem gL_law_X7_write : GoodIn wsL_law (wsV RL 17 RX7 yX7_write wsX7_write) := goodIn_app (goodIn_of _ (by decide +kernel)) ggL_law_X7_write
set_option maxRecDepth 20000 in
theorem ggL_law_X6_wipe : GoodIn wsL_law wsX6_wipe := goodIn_r _ [225, 15, 38, 762, 763, 764, 765, 766, 767, 768, 769, 787, 788, 789] (by decide +kernel) (by decide +kernel)
set_option maxRecDepth 20000 in
theorem gL_law_X6_wipe : GoodIn wsL_law (wsV RL 18 RX6 yX6_wipe wsX6_wipe) := goodIn_app (goodIn_of _ (by decide +kernel)) ggL_law_X6_wipe
set_option maxRecDepth 20000 in
theorem ggL_law_X7_wipe : GoodIn wsL_law wsX7_wipe := goodIn_r _ [229, 218, 770, 771, 772, 773, 774, 775, 776, 777, 778, 779, 780, 781, 782, 783, 784, 785, 786] (by decide +kernel) (by decide +kernel)
set_option maxRecDepth 20000 in
theorem gL_law_X7_wipe : GoodIn wsL_law (wsV RL 22 RX7 yX7_wipe wsX7_wipe) := goodIn_app (goodIn_of _ (by decide +kernel)) ggL_law_X7_wipe
set_option maxRecDepth 20000 in
theorem ggL_law_X6_fault : GoodIn wsL_law wsX6_fault := goodIn_r _ [233, 15, 20, 138, 139, 140, 14, 141, 137, 142, 143, 144, 18, 145, 146, 52, 53, 54, 147, 148, 149, 150, 45, 151, 152, 153, 154, 43, 155, 156, 157, 158, 159, 160, 161, 162, 163, 164, 165, 166, 167, 168, 169, 170, 171, 172, 173, 174, 175, 176, 49, 50, 51, 177, 2, 178, 179, 180, 181, 182, 183, 184, 185, 186, 187, 188, 189, 762, 763, 764, 765, 766, 767, 768, 769, 787, 788, 789, 790, 791, 792, 793, 794, 795, 796] (by decide +kernel) (by decide +kernel)
set_option maxRecDepth 20000 in
theorem gL_law_X6_fault : GoodIn wsL_law (wsV RL 23 RX6 yX6_fault wsX6_fault) := goodIn_app (goodIn_of _ (by decide +kernel)) ggL_law_X6_fault
set_option maxRecDepth 20000 in
theorem ggL_law_X7_fault : GoodIn wsL_law wsX7_fault := goodIn_r _ [237, 196, 238, 218, 239, 240, 241, 5, 242, 195, 243, 244, 245, 246, 247, 248, 249, 250, 251, 252, 219, 220, 221, 770, 771, 772, 773, 774, 775, 776, 777, 778, 779, 780, 781, 782, 783, 784, 785, 786] (by decide +kernel) (by decide +kernel)
set_option maxRecDepth 20000 in
theorem gL_law_X7_fault : GoodIn wsL_law (wsV RL 26 RX7 yX7_fault wsX7_fault) := goodIn_app (goodIn_of _ (by decide +kernel)) ggL_law_X7_fault
set_option maxRecDepth 20000 in
theorem ggL_law_X6_lay : GoodIn wsL_law wsX6_lay := goodIn_r _ [256, 15, 20, 257, 19, 29, 258, 24, 259, 25, 138, 139, 140, 14, 141, 137, 142, 143, 144, 18, 145, 146, 52, 53, 54, 147, 148, 149, 150, 45, 151, 152, 153, 154, 43, 155, 156, 157, 158, 159, 160, 161, 162, 163, 164, 165, 166, 167, 168, 169, 170, 171, 172, 173, 174, 175, 176, 49, 50, 51, 177, 2, 178, 179, 180, 181, 182, 183, 184, 185, 186, 187, 188, 189, 260, 261, 262, 263, 762, 763, 764, 765, 766, 767, 768, 769, 790, 791, 792, 793, 794, 795, 796, 799, 800, 801, 797, 798, 787, 788, 789] (by decide +kernel) (by decide +kernel)
set_option maxRecDepth 20000 in
theorem gL_law_X6_lay : GoodIn wsL_law (wsV RL 27 RX6 yX6_lay wsX6_lay) := goodIn_app (goodIn_of _ (by decide +kernel)) ggL_law_X6_lay
set_option maxRecDepth 20000 in
theorem ggL_law_X7_lay : GoodIn wsL_law wsX7_lay := goodIn_r _ [267, 196, 194, 268, 269, 270, 271, 235, 236, 5, 237, 238, 218, 239, 240, 241, 242, 195, 243, 244, 245, 246, 247, 248, 249, 250, 251, 252, 219, 220, 221, 770, 771, 772, 773, 774, 775, 776, 777, 778, 779, 780, 781, 782, 783, 784, 785, 786] (by decide +kernel) (by decide +kernel)
set_option maxRecDepth 20000 in
theorem gL_law_X7_lay : GoodIn wsL_law (wsV RL 30 RX7 yX7_lay wsX7_lay) := goodIn_app (goodIn_of _ (by decide +kernel)) ggL_law_X7_lay
set_option maxRecDepth 20000 in
theorem ggL_law_X6_person : GoodIn wsL_law wsX6_person := goodIn_r _ [275, 19, 276, 277, 278, 279, 280, 281, 18, 282, 146, 283, 284, 285, 286, 51, 54, 287, 762, 763, 764, 765, 766, 767, 768, 769, 790, 791, 792, 793, 794, 795, 796] (by decide +kernel) (by decide +kernel)
set_option maxRecDepth 20000 in
theorem gL_law_X6_person : GoodIn wsL_law (wsV RL 31 RX6 yX6_person wsX6_person) := goodIn_app (goodIn_of _ (by decide +kernel)) ggL_law_X6_person
set_option maxRecDepth 20000 in
theorem ggL_law_X7_person : GoodIn wsL_law wsX7_person := goodIn_r _ [291, 292, 194, 293, 294, 295, 5, 296, 219, 220, 221, 297, 298, 299, 300, 770, 771, 772, 773, 774, 775, 776, 777, 778, 779, 780, 781, 782, 783, 784, 785, 786] (by decide +kernel) (by decide +kernel)
set_option maxRecDepth 20000 in
theorem gL_law_X7_person : GoodIn wsL_law (wsV RL 35 RX7 yX7_person wsX7_person) := goodIn_app (goodIn_of _ (by decide +kernel)) ggL_law_X7_person
set_option maxRecDepth 20000 in
theorem ggL_law_X6_come : GoodIn wsL_law wsX6_come := goodIn_r _ [304, 19, 257, 305, 177, 2, 178, 179, 180, 181, 306, 307, 308, 309, 24, 29, 258, 310, 311, 312, 23, 313, 314, 64, 315, 316, 317, 318, 319, 261, 262, 18, 263, 146, 52, 53, 54, 49, 50, 51, 320, 174, 175, 176, 762, 763, 764, 765, 766, 767, 768, 769, 790, 791, 792, 793, 794, 795, 796, 799, 800, 801, 797, 798] (by decide +kernel) (by decide +kernel)
set_option maxRecDepth 20000 in
theorem gL_law_X6_come : GoodIn wsL_law (wsV RL 36 RX6 yX6_come wsX6_come) := goodIn_app (goodIn_of _ (by decide +kernel)) ggL_law_X6_come
set_option maxRecDepth 20000 in
theorem ggL_law_X7_come : GoodIn wsL_law wsX7_come := goodIn_r _ [324, 292, 325, 326, 194, 268, 219, 220, 5, 221, 327, 328, 329, 330, 269, 197, 204, 205, 206, 207, 770, 771, 772, 773, 774, 775, 776, 777, 778, 779, 780, 781, 782, 783, 784, 785, 786] (by decide +kernel) (by decide +kernel)
set_option maxRecDepth 20000 in
theorem gL_law_X7_come : GoodIn wsL_law (wsV RL 40 RX7 yX7_come wsX7_come) := goodIn_app (goodIn_of _ (by decide +kernel)) ggL_law_X7_come
set_option maxRecDepth 20000 in
theorem ggL_law_X6_leave : GoodIn wsL_law wsX6_leave := goodIn_r _ [334, 19, 257, 279, 280, 281, 18, 282, 146, 306, 307, 308, 2, 309, 24, 29, 258, 310, 311, 312, 23, 313, 314, 64, 315, 316, 317, 318, 319, 261, 262, 263, 52, 53, 54, 49, 50, 51, 335, 336, 337, 338, 287, 762, 763, 764, 765, 766, 767, 768, 769, 790, 791, 792, 793, 794, 795, 796, 799, 800, 801, 797, 798] (by decide +kernel) (by decide +kernel)
set_option maxRecDepth 20000 in
theorem gL_law_X6_leave : GoodIn wsL_law (wsV RL 41 RX6 yX6_leave wsX6_leave) := goodIn_app (goodIn_of _ (by decide +kernel)) ggL_law_X6_leave
set_option maxRecDepth 20000 in
theorem ggL_law_X7_leave : GoodIn wsL_law wsX7_leave := goodIn_r _ [342, 268, 194, 293, 294, 295, 5, 296, 219, 220, 221, 327, 328, 329, 330, 269, 197, 343, 344, 345, 346, 770, 771, 772, 773, 774, 775, 776, 777, 778, 779, 780, 781, 782, 783, 784, 785, 786] (by decide +kernel) (by decide +kernel)
set_option maxRecDepth 20000 in
theorem gL_law_X7_leave : GoodIn wsL_law (wsV RL 44 RX7 yX7_leave wsX7_leave) := goodIn_app (goodIn_of _ (by decide +kernel)) ggL_law_X7_leave
set_option maxRecDepth 20000 in
theorem ggL_law_X6_pass : GoodIn wsL_law wsX6_pass := goodIn_r _ [350, 19, 257, 179, 180, 2, 181, 306, 307, 308, 309, 24, 29, 258, 310, 311, 312, 23, 313, 314, 64, 315, 316, 317, 318, 319, 261, 262, 18, 263, 146, 52, 53, 54, 49, 50, 51, 351, 352, 353, 354, 355, 356, 357, 358, 359, 336, 337, 338, 287, 280, 281, 282, 762, 763, 764, 765, 766, 767, 768, 769, 790, 791, 792, 793, 794, 795, 796, 799, 800, 801, 797, 798] (by decide +kernel) (by decide +kernel)
set_option maxRecDepth 20000 in
theorem gL_law_X6_pass : GoodIn wsL_law (wsV RL 45 RX6 yX6_pass wsX6_pass) := goodIn_app (goodIn_of _ (by decide +kernel)) ggL_law_X6_pass
set_option maxRecDepth 20000 in
theorem ggL_law_X7_pass : GoodIn wsL_law wsX7_pass := goodIn_r _ [363, 364, 268, 194, 219, 220, 5, 221, 327, 328, 329, 330, 269, 197, 365, 366, 367, 368, 369, 370, 371, 372, 343, 344, 345, 346, 770, 771, 772, 773, 774, 775, 776, 777, 778, 779, 780, 781, 782, 783, 784, 785, 786] (by decide +kernel) (by decide +kernel)
set_option maxRecDepth 20000 in
theorem gL_law_X7_pass : GoodIn wsL_law (wsV RL 48 RX7 yX7_pass wsX7_pass) := goodIn_app (goodIn_of _ (by decide +kernel)) ggL_law_X7_pass
set_option maxRecDepth 20000 in
theorem ggL_law_X6_slow : GoodIn wsL_law wsX6_slow := goodIn_r _ [376, 19, 377, 24, 179, 180, 2, 181, 310, 311, 312, 23, 313, 314, 64, 315, 316, 317, 318, 319, 261, 262, 18, 263, 146, 52, 53, 54, 49, 50, 51, 762, 763, 764, 765, 766, 767, 768, 769, 790, 791, 792, 793, 794, 795, 796, 797, 798] (by decide +kernel) (by decide +kernel)
set_option maxRecDepth 20000 in
theorem gL_law_X6_slow : GoodIn wsL_law (wsV RL 49 RX6 yX6_slow wsX6_slow) := goodIn_app (goodIn_of _ (by decide +kernel)) ggL_law_X6_slow
set_option maxRecDepth 20000 in
theorem ggL_law_X7_slow : GoodIn wsL_law wsX7_slow := goodIn_r _ [381, 326, 194, 219, 220, 5, 221, 327, 328, 329, 330, 269, 197, 770, 771, 772, 773, 774, 775, 776, 777, 778, 779, 780, 781, 782, 783, 784, 785, 786] (by decide +kernel) (by decide +kernel)
set_option maxRecDepth 20000 in
theorem gL_law_X7_slow : GoodIn wsL_law (wsV RL 52 RX7 yX7_slow wsX7_slow) := goodIn_app (goodIn_of _ (by decide +kernel)) ggL_law_X7_slow
set_option maxRecDepth 20000 in
theorem ggL_law_X6_undo : GoodIn wsL_law wsX6_undo := goodIn_r _ [385, 24, 19, 29, 258, 259, 386, 387, 388, 23, 389, 314, 64, 319, 261, 262, 18, 263, 146, 52, 53, 54, 49, 50, 51, 762, 763, 764, 765, 766, 767, 768, 769, 799, 800, 801, 797, 798, 790, 791, 792, 793, 794, 795, 796] (by decide +kernel) (by decide +kernel)
set_option maxRecDepth 20000 in
theorem gL_law_X6_undo : GoodIn wsL_law (wsV RL 53 RX6 yX6_undo wsX6_undo) := goodIn_app (goodIn_of _ (by decide +kernel)) ggL_law_X6_undo
set_option maxRecDepth 20000 in
theorem ggL_law_X7_undo : GoodIn wsL_law wsX7_undo := goodIn_r _ [393, 269, 194, 197, 268, 770, 771, 772, 773, 774, 775, 776, 777, 778, 779, 780, 781, 782, 783, 784, 785, 786] (by decide +kernel) (by decide +kernel)
set_option maxRecDepth 20000 in
theorem gL_law_X7_undo : GoodIn wsL_law (wsV RL 56 RX7 yX7_undo wsX7_undo) := goodIn_app (goodIn_of _ (by decide +kernel)) ggL_law_X7_undo
set_option maxRecDepth 20000 in
theorem ggL_law_X6_goes : GoodIn wsL_law wsX6_goes := goodIn_r _ [397, 33, 19, 398, 179, 180, 2, 181, 399, 400, 401, 32, 402, 403, 404, 73, 405, 74, 75, 406, 407, 76, 408, 409, 284, 285, 18, 286, 51, 54, 146, 287, 280, 281, 282, 410, 411, 412, 413, 77, 414, 415, 416, 417, 418, 419, 60, 61, 62, 78, 420, 421, 422, 423, 424, 425, 426, 427, 428, 429, 430, 431, 432, 433, 434, 435, 436, 437, 438, 439, 440, 441, 442, 443, 444, 445, 446, 447, 448, 449, 450, 451, 452, 453, 454, 762, 763, 764, 765, 766, 767, 768, 769, 802, 803, 804, 805, 806, 807, 808, 809, 790, 791, 792, 793, 794, 795, 796] (by decide +kernel) (by decide +kernel)
set_option maxRecDepth 20000 in
theorem gL_law_X6_goes : GoodIn wsL_law (wsV RL 57 RX6 yX6_goes wsX6_goes) := goodIn_app (goodIn_of _ (by decide +kernel)) ggL_law_X6_goes
set_option maxRecDepth 20000 in
theorem ggL_law_X7_goes : GoodIn wsL_law wsX7_goes := goodIn_r _ [458, 459, 460, 461, 194, 198, 219, 220, 5, 221, 462, 463, 464, 465, 199, 466, 467, 468, 469, 297, 298, 299, 300, 470, 471, 472, 473, 474, 475, 476, 369, 370, 371, 372, 477, 478, 479, 480, 481, 482, 483, 484, 485, 486, 487, 488, 770, 771, 772, 773, 774, 775, 776, 777, 778, 779, 780, 781, 782, 783, 784, 785, 786] (by decide +kernel) (by decide +kernel)
set_option maxRecDepth 20000 in
theorem gL_law_X7_goes : GoodIn wsL_law (wsV RL 60 RX7 yX7_goes wsX7_goes) := goodIn_app (goodIn_of _ (by decide +kernel)) ggL_law_X7_goes
set_option maxRecDepth 20000 in
theorem ggL_law_X6_done : GoodIn wsL_law wsX6_done := goodIn_r _ [492, 33, 19, 493, 494, 495, 2, 496, 279, 280, 281, 18, 282, 146, 179, 180, 181, 399, 400, 401, 32, 402, 403, 404, 73, 405, 74, 75, 406, 407, 76, 408, 409, 284, 285, 286, 51, 54, 287, 410, 411, 412, 413, 77, 414, 415, 416, 417, 418, 419, 60, 61, 62, 78, 420, 421, 422, 423, 424, 425, 426, 427, 428, 429, 430, 431, 432, 433, 434, 435, 436, 437, 438, 439, 440, 441, 442, 443, 444, 445, 446, 447, 448, 449, 450, 497, 498, 499, 500, 501, 502, 503, 504, 505, 506, 507, 508, 509, 510, 511, 512, 513, 514, 515, 516, 762, 763, 764, 765, 766, 767, 768, 769, 790, 791, 792, 793, 794, 795, 796, 802, 803, 804, 805, 806, 807, 808, 809] (by decide +kernel) (by decide +kernel)
set_option maxRecDepth 20000 in
theorem gL_law_X6_done : GoodIn wsL_law (wsV RL 61 RX6 yX6_done wsX6_done) := goodIn_app (goodIn_of _ (by decide +kernel)) ggL_law_X6_done
set_option maxRecDepth 20000 in
theorem ggL_law_X7_done : GoodIn wsL_law wsX7_done := goodIn_r _ [520, 521, 522, 523, 5, 524, 293, 294, 295, 296, 194, 219, 220, 221, 462, 463, 464, 465, 461, 198, 199, 466, 467, 468, 469, 297, 298, 299, 300, 470, 471, 472, 473, 474, 475, 476, 369, 370, 371, 372, 477, 478, 479, 480, 481, 482, 483, 484, 485, 486, 487, 488, 525, 526, 527, 528, 529, 530, 531, 532, 533, 534, 535, 536, 537, 538, 539, 540, 770, 771, 772, 773, 774, 775, 776, 777, 778, 779, 780, 781, 782, 783, 784, 785, 786] (by decide +kernel) (by decide +kernel)
set_option maxRecDepth 20000 in
theorem gL_law_X7_done : GoodIn wsL_law (wsV RL 64 RX7 yX7_done wsX7_done) := goodIn_app (goodIn_of _ (by decide +kernel)) ggL_law_X7_done
set_option maxRecDepth 20000 in
theorem ggL_law_X6_overtaken : GoodIn wsL_law wsX6_overtaken := goodIn_r _ [544, 19, 33, 279, 280, 281, 18, 282, 146, 399, 400, 401, 32, 402, 403, 404, 73, 405, 74, 75, 406, 407, 76, 408, 409, 284, 285, 286, 51, 54, 287, 410, 411, 412, 413, 77, 414, 415, 416, 417, 418, 419, 60, 61, 62, 78, 420, 421, 422, 423, 424, 425, 426, 427, 428, 429, 430, 431, 432, 433, 434, 435, 436, 437, 438, 439, 440, 441, 442, 443, 444, 445, 446, 447, 448, 449, 450, 545, 546, 547, 548, 549, 550, 551, 552, 553, 762, 763, 764, 765, 766, 767, 768, 769, 790, 791, 792, 793, 794, 795, 796, 802, 803, 804, 805, 806, 807, 808, 809] (by decide +kernel) (by decide +kernel)
set_option maxRecDepth 20000 in
theorem gL_law_X6_overtaken : GoodIn wsL_law (wsV RL 65 RX6 yX6_overtaken wsX6_overtaken) := goodIn_app (goodIn_of _ (by decide +kernel)) ggL_law_X6_overtaken
set_option maxRecDepth 20000 in
theorem ggL_law_X7_overtaken : GoodIn wsL_law wsX7_overtaken := goodIn_r _ [557, 293, 294, 295, 5, 296, 194, 219, 220, 221, 462, 463, 464, 465, 461, 198, 199, 466, 467, 468, 469, 297, 298, 299, 300, 470, 471, 472, 473, 474, 475, 476, 369, 370, 371, 372, 477, 478, 479, 480, 481, 482, 483, 484, 485, 486, 487, 488, 558, 559, 560, 561, 562, 563, 564, 565, 770, 771, 772, 773, 774, 775, 776, 777, 778, 779, 780, 781, 782, 783, 784, 785, 786] (by decide +kernel) (by decide +kernel)
set_option maxRecDepth 20000 in
theorem gL_law_X7_overtaken : GoodIn wsL_law (wsV RL 68 RX7 yX7_overtaken wsX7_overtaken) := goodIn_app (goodIn_of _ (by decide +kernel)) ggL_law_X7_overtaken
set_option maxRecDepth 20000 in
theorem ggL_law_X6_best : GoodIn wsL_law wsX6_best := goodIn_r _ [569, 37, 19, 570, 571, 179, 180, 2, 181, 572, 573, 574, 36, 575, 83, 576, 577, 578, 579, 400, 401, 32, 402, 403, 404, 73, 405, 74, 75, 406, 407, 76, 408, 409, 284, 285, 18, 286, 51, 54, 146, 287, 280, 281, 282, 410, 411, 412, 413, 77, 580, 498, 499, 500, 418, 419, 60, 61, 62, 78, 439, 440, 441, 442, 447, 448, 449, 450, 581, 582, 583, 584, 585, 514, 515, 516, 586, 506, 507, 508, 509, 510, 511, 512, 587, 546, 547, 548, 549, 550, 551, 552, 428, 429, 430, 431, 432, 433, 434, 762, 763, 764, 765, 766, 767, 768, 769, 810, 811, 812, 790, 791, 792, 793, 794, 795, 796, 802, 803, 804, 805, 806, 807, 808, 809] (by decide +kernel) (by decide +kernel)
set_option maxRecDepth 20000 in
theorem gL_law_X6_best : GoodIn wsL_law (wsV RL 69 RX6 yX6_best wsX6_best) := goodIn_app (goodIn_of _ (by decide +kernel)) ggL_law_X6_best
set_option maxRecDepth 20000 in
theorem ggL_law_X7_best : GoodIn wsL_law wsX7_best := goodIn_r _ [591, 592, 219, 220, 5, 221, 593, 594, 595, 596, 194, 525, 526, 527, 528, 461, 198, 199, 466, 467, 468, 469, 297, 298, 299, 300, 473, 474, 475, 476, 369, 370, 371, 372, 485, 486, 487, 488, 477, 478, 479, 480, 533, 534, 535, 536, 537, 538, 539, 540, 558, 559, 560, 561, 562, 563, 564, 565, 470, 471, 472, 770, 771, 772, 773, 774, 775, 776, 777, 778, 779, 780, 781, 782, 783, 784, 785, 786] (by decide +kernel) (by decide +kernel)
set_option maxRecDepth 20000 in
theorem gL_law_X7_best : GoodIn wsL_law (wsV RL 72 RX7 yX7_best wsX7_best) := goodIn_app (goodIn_of _ (by decide +kernel)) ggL_law_X7_best
set_option maxRecDepth 20000 in
theorem ggL_law_X6_fair : GoodIn wsL_law wsX6_fair := goodIn_r _ [600, 37, 19, 570, 571, 179, 180, 2, 181, 572, 573, 574, 36, 575, 83, 576, 577, 578, 579, 400, 401, 32, 402, 403, 404, 73, 405, 74, 75, 406, 407, 76, 408, 409, 284, 285, 18, 286, 51, 54, 146, 287, 280, 281, 282, 410, 411, 412, 413, 77, 580, 498, 499, 500, 418, 419, 60, 61, 62, 78, 439, 440, 441, 442, 447, 448, 449, 450, 581, 582, 583, 584, 585, 514, 515, 516, 586, 506, 507, 508, 509, 510, 511, 512, 587, 546, 547, 548, 549, 550, 551, 552, 428, 429, 430, 431, 432, 433, 434, 762, 763, 764, 765, 766, 767, 768, 769, 810, 811, 812, 790, 791, 792, 793, 794, 795, 796, 802, 803, 804, 805, 806, 807, 808, 809] (by decide +kernel) (by decide +kernel)
set_option maxRecDepth 20000 in
theorem gL_law_X6_fair : GoodIn wsL_law (wsV RL 73 RX6 yX6_fair wsX6_fair) := goodIn_app (goodIn_of _ (by decide +kernel)) ggL_law_X6_fair
set_option maxRecDepth 20000 in
theorem ggL_law_X7_fair : GoodIn wsL_law wsX7_fair := goodIn_r _ [604, 592, 219, 220, 5, 221, 593, 594, 595, 596, 194, 525, 526, 527, 528, 461, 198, 199, 466, 467, 468, 469, 297, 298, 299, 300, 473, 474, 475, 476, 369, 370, 371, 372, 485, 486, 487, 488, 477, 478, 479, 480, 533, 534, 535, 536, 537, 538, 539, 540, 558, 559, 560, 561, 562, 563, 564, 565, 470, 471, 472, 770, 771, 772, 773, 774, 775, 776, 777, 778, 779, 780, 781, 782, 783, 784, 785, 786] (by decide +kernel) (by decide +kernel)
set_option maxRecDepth 20000 in
theorem gL_law_X7_fair : GoodIn wsL_law (wsV RL 76 RX7 yX7_fair wsX7_fair) := goodIn_app (goodIn_of _ (by decide +kernel)) ggL_law_X7_fair
set_option maxRecDepth 20000 in
theorem ggL_law_X6_oneRow : GoodIn wsL_law wsX6_oneRow := goodIn_r _ [608, 33, 19, 493, 494, 495, 2, 496, 279, 280, 281, 18, 282, 146, 399, 400, 401, 32, 402, 403, 404, 73, 405, 74, 75, 406, 407, 76, 408, 409, 284, 285, 286, 51, 54, 287, 410, 411, 412, 413, 77, 609, 610, 611, 612, 78, 501, 502, 503, 504, 505, 506, 507, 508, 509, 510, 511, 512, 513, 514, 515, 516, 419, 60, 61, 62, 762, 763, 764, 765, 766, 767, 768, 769, 790, 791, 792, 793, 794, 795, 796, 802, 803, 804, 805, 806, 807, 808, 809] (by decide +kernel) (by decide +kernel)
set_option maxRecDepth 20000 in
theorem gL_law_X6_oneRow : GoodIn wsL_law (wsV RL 77 RX6 yX6_oneRow wsX6_oneRow) := goodIn_app (goodIn_of _ (by decide +kernel)) ggL_law_X6_oneRow
set_option maxRecDepth 20000 in
theorem ggL_law_X7_oneRow : GoodIn wsL_law wsX7_oneRow := goodIn_r _ [616, 194, 199, 521, 522, 523, 5, 524, 293, 294, 295, 296, 219, 220, 221, 369, 370, 371, 372, 529, 530, 531, 532, 533, 534, 535, 536, 537, 538, 539, 540, 770, 771, 772, 773, 774, 775, 776, 777, 778, 779, 780, 781, 782, 783, 784, 785, 786] (by decide +kernel) (by decide +kernel)
set_option maxRecDepth 20000 in
theorem gL_law_X7_oneRow : GoodIn wsL_law (wsV RL 80 RX7 yX7_oneRow wsX7_oneRow) := goodIn_app (goodIn_of _ (by decide +kernel)) ggL_law_X7_oneRow
set_option maxRecDepth 20000 in
theorem ggL_law_X6_called : GoodIn wsL_law wsX6_called := goodIn_r _ [620, 33, 19, 257, 179, 180, 2, 181, 399, 400, 401, 32, 402, 403, 404, 73, 405, 74, 75, 406, 407, 76, 408, 409, 284, 285, 18, 286, 51, 54, 146, 287, 280, 281, 282, 410, 411, 412, 413, 77, 621, 622, 623, 624, 625, 626, 497, 498, 499, 500, 418, 419, 60, 61, 62, 78, 439, 440, 441, 442, 447, 448, 449, 450, 627, 514, 515, 516, 628, 506, 507, 508, 509, 510, 511, 512, 762, 763, 764, 765, 766, 767, 768, 769, 790, 791, 792, 793, 794, 795, 796, 802, 803, 804, 805, 806, 807, 808, 809] (by decide +kernel) (by decide +kernel)
set_option maxRecDepth 20000 in
theorem gL_law_X6_called : GoodIn wsL_law (wsV RL 81 RX6 yX6_called wsX6_called) := goodIn_app (goodIn_of _ (by decide +kernel)) ggL_law_X6_called
set_option maxRecDepth 20000 in
theorem ggL_law_X7_called : GoodIn wsL_law wsX7_called := goodIn_r _ [632, 633, 194, 219, 220, 5, 221, 525, 526, 527, 528, 461, 198, 199, 466, 467, 468, 469, 297, 298, 299, 300, 473, 474, 475, 476, 369, 370, 371, 372, 485, 486, 487, 488, 477, 478, 479, 480, 533, 534, 535, 536, 537, 538, 539, 540, 770, 771, 772, 773, 774, 775, 776, 777, 778, 779, 780, 781, 782, 783, 784, 785, 786] (by decide +kernel) (by decide +kernel)
set_option maxRecDepth 20000 in
theorem gL_law_X7_called : GoodIn wsL_law (wsV RL 84 RX7 yX7_called wsX7_called) := goodIn_app (goodIn_of _ (by decide +kernel)) ggL_law_X7_called
set_option maxRecDepth 20000 in
theorem ggL_law_X6_open : GoodIn wsL_law wsX6_open := goodIn_r _ [637, 33, 19, 179, 180, 2, 181, 399, 400, 401, 32, 402, 403, 404, 73, 405, 74, 75, 406, 407, 76, 408, 409, 284, 285, 18, 286, 51, 54, 146, 287, 280, 281, 282, 410, 411, 412, 413, 77, 497, 498, 499, 500, 418, 419, 60, 61, 62, 78, 439, 440, 441, 442, 447, 448, 449, 450, 638, 639, 640, 641, 20, 37, 257, 571, 260, 261, 262, 263, 52, 53, 49, 50, 351, 352, 353, 354, 355, 356, 357, 358, 359, 336, 337, 338, 642, 572, 573, 574, 36, 575, 83, 576, 577, 578, 579, 580, 581, 582, 583, 584, 585, 514, 515, 516, 586, 506, 507, 508, 509, 510, 511, 512, 587, 546, 547, 548, 549, 550, 551, 552, 428, 429, 430, 431, 432, 433, 434, 643, 762, 763, 764, 765, 766, 767, 768, 769, 790, 791, 792, 793, 794, 795, 796, 802, 803, 804, 805, 806, 807, 808, 809, 810, 811, 812] (by decide +kernel) (by decide +kernel)
set_option maxRecDepth 20000 in
theorem gL_law_X6_open : GoodIn wsL_law (wsV RL 85 RX6 yX6_open wsX6_open) := goodIn_app (goodIn_of _ (by decide +kernel)) ggL_law_X6_open
set_option maxRecDepth 20000 in
theorem ggL_law_X7_open : GoodIn wsL_law wsX7_open := goodIn_r _ [647, 325, 200, 194, 219, 220, 5, 221, 648, 649, 650, 651, 365, 366, 367, 368, 369, 370, 371, 372, 343, 344, 345, 346, 593, 594, 595, 596, 592, 525, 526, 527, 528, 461, 198, 199, 466, 467, 468, 469, 297, 298, 299, 300, 473, 474, 475, 476, 485, 486, 487, 488, 477, 478, 479, 480, 533, 534, 535, 536, 537, 538, 539, 540, 558, 559, 560, 561, 562, 563, 564, 565, 470, 471, 472, 652, 653, 654, 655, 770, 771, 772, 773, 774, 775, 776, 777, 778, 779, 780, 781, 782, 783, 784, 785, 786] (by decide +kernel) (by decide +kernel)
set_option maxRecDepth 20000 in
theorem gL_law_X7_open : GoodIn wsL_law (wsV RL 88 RX7 yX7_open wsX7_open) := goodIn_app (goodIn_of _ (by decide +kernel)) ggL_law_X7_open
set_option maxRecDepth 20000 in
theorem ggL_law_X6_tape : GoodIn wsL_law wsX6_tape := goodIn_r _ [659, 19, 29, 258, 279, 280, 281, 18, 282, 146, 179, 180, 2, 181, 660, 661, 662, 28, 663, 664, 68, 69, 762, 763, 764, 765, 766, 767, 768, 769, 799, 800, 801, 790, 791, 792, 793, 794, 795, 796] (by decide +kernel) (by decide +kernel)
set_option maxRecDepth 20000 in
theorem gL_law_X6_tape : GoodIn wsL_law (wsV RL 89 RX6 yX6_tape wsX6_tape) := goodIn_app (goodIn_of _ (by decide +kernel)) ggL_law_X6_tape
set_option maxRecDepth 20000 in
theorem ggL_law_X7_tape : GoodIn wsL_law wsX7_tape := goodIn_r _ [668, 268, 201, 202, 293, 294, 295, 5, 296, 194, 219, 220, 221, 770, 771, 772, 773, 774, 775, 776, 777, 778, 779, 780, 781, 782, 783, 784, 785, 786] (by decide +kernel) (by decide +kernel)
set_option maxRecDepth 20000 in
theorem gL_law_X7_tape : GoodIn wsL_law (wsV RL 92 RX7 yX7_tape wsX7_tape) := goodIn_app (goodIn_of _ (by decide +kernel)) ggL_law_X7_tape
