theorem dX2_findLeast_68 : decode cX2_findLeast 68 = .ok (.if_icmp .ge 30, 3) := by decide +kernel
theorem dX2_findLeast_71 : decode cX2_findLeast 71 = .ok (.iload_n 2, 1) := by decide +kernel
theorem dX2_findLeast_72 : decode cX2_findLeast 72 = .ok (.iconst 2, 1) := by decide +kernel
theorem dX2_findLeast_73 : decode cX2_findLeast 73 = .ok (.if_icmp .ne 13, 3) := by decide +kernel
theorem dX2_findLeast_76 : decode cX2_findLeast 76 = .ok (.aload_n 0, 1) := by decide +kernel
theorem dX2_findLeast_77 : decode cX2_findLeast 77 = .ok (.getfield 12, 3) := by decide +kernel
theorem dX2_findLeast_80 : decode cX2_findLeast 80 = .ok (.invokevirtual 42, 3) := by decide +kernel
theorem dX2_findLeast_83 : decode cX2_findLeast 83 = .ok (.ifCond .ne 15, 3) := by decide +kernel
theorem dX2_findLeast_86 : decode cX2_findLeast 86 = .ok (.aload_n 0, 1) := by decide +kernel
theorem dX2_findLeast_87 : decode cX2_findLeast 87 = .ok (.iload 4, 2) := by decide +kernel
theorem dX2_findLeast_89 : decode cX2_findLeast 89 = .ok (.putfield 26, 3) := by decide +kernel
theorem dX2_findLeast_92 : decode cX2_findLeast 92 = .ok (.aload_n 0, 1) := by decide +kernel
theorem dX2_findLeast_93 : decode cX2_findLeast 93 = .ok (.iload 5, 2) := by decide +kernel
theorem dX2_findLeast_95 : decode cX2_findLeast 95 = .ok (.putfield 34, 3) := by decide +kernel
theorem dX2_findLeast_98 : decode cX2_findLeast 98 = .ok (.iinc 4 1, 3) := by decide +kernel
theorem dX2_findLeast_101 : decode cX2_findLeast 101 = .ok (.goto (-61), 3) := by decide +kernel
theorem dX2_findLeast_104 : decode cX2_findLeast 104 = .ok (.return_, 1) := by decide +kernel
set_option maxRecDepth 20000 in
theorem ggX2_worth_X0_latest : GoodIn wsX2_worth wsX0_latest := goodIn_r _ [6, 7, 8, 9, 10, 11, 12, 24, 25, 26, 27, 28, 29, 30, 31] (by decide +kernel) (by decide +kernel)
set_option maxRecDepth 20000 in
theorem gX2_worth_X0_latest : GoodIn wsX2_worth (wsV RX2 46 RX0 yX0_latest wsX0_latest) := goodIn_app (goodIn_of _ (by decide +kernel)) ggX2_worth_X0_latest
set_option maxRecDepth 20000 in
theorem ggX2_worth_X0_sum : GoodIn wsX2_worth wsX0_sum := goodIn_r _ [16, 7, 17, 18, 19, 5, 20, 8, 24, 25, 26, 27, 28, 29, 30, 31] (by decide +kernel) (by decide +kernel)
set_option maxRecDepth 20000 in
theorem gX2_worth_X0_sum : GoodIn wsX2_worth (wsV RX2 49 RX0 yX0_sum wsX0_sum) := goodIn_app (goodIn_of _ (by decide +kernel)) ggX2_worth_X0_sum
theorem dX2_worth_0 : decode cX2_worth 0 = .ok (.iload_n 1, 1) := by decide +kernel
theorem dX2_worth_1 : decode cX2_worth 1 = .ok (.ifCond .ne 13, 3) := by decide +kernel
theorem dX2_worth_4 : decode cX2_worth 4 = .ok (.aload_n 0, 1) := by decide +kernel
theorem dX2_worth_5 : decode cX2_worth 5 = .ok (.getfield 12, 3) := by decide +kernel
theorem dX2_worth_8 : decode cX2_worth 8 = .ok (.invokevirtual 46, 3) := by decide +kernel
theorem dX2_worth_11 : decode cX2_worth 11 = .ok (.goto 10, 3) := by decide +kernel
theorem dX2_worth_14 : decode cX2_worth 14 = .ok (.aload_n 0, 1) := by decide +kernel
theorem dX2_worth_15 : decode cX2_worth 15 = .ok (.getfield 12, 3) := by decide +kernel
theorem dX2_worth_18 : decode cX2_worth 18 = .ok (.invokevirtual 49, 3) := by decide +kernel
theorem dX2_worth_21 : decode cX2_worth 21 = .ok (.ireturn, 1) := by decide +kernel
theorem dX3_init_0 : decode cX3_init 0 = .ok (.aload_n 0, 1) := by decide +kernel
theorem dX3_init_1 : decode cX3_init 1 = .ok (.invokespecial 3, 3) := by decide +kernel
theorem dX3_init_4 : decode cX3_init 4 = .ok (.aload_n 0, 1) := by decide +kernel
theorem dX3_init_5 : decode cX3_init 5 = .ok (.bipush 8, 2) := by decide +kernel
theorem dX3_init_7 : decode cX3_init 7 = .ok (.newarray .int, 2) := by decide +kernel
theorem dX3_init_9 : decode cX3_init 9 = .ok (.putfield 9, 3) := by decide +kernel
theorem dX3_init_12 : decode cX3_init 12 = .ok (.aload_n 0, 1) := by decide +kernel
theorem dX3_init_13 : decode cX3_init 13 = .ok (.bipush 8, 2) := by decide +kernel
theorem dX3_init_15 : decode cX3_init 15 = .ok (.newarray .int, 2) := by decide +kernel
theorem dX3_init_17 : decode cX3_init 17 = .ok (.putfield 15, 3) := by decide +kernel
theorem dX3_init_20 : decode cX3_init 20 = .ok (.aload_n 0, 1) := by decide +kernel
theorem dX3_init_21 : decode cX3_init 21 = .ok (.bipush 8, 2) := by decide +kernel
theorem dX3_init_23 : decode cX3_init 23 = .ok (.newarray .int, 2) := by decide +kernel
theorem dX3_init_25 : decode cX3_init 25 = .ok (.putfield 18, 3) := by decide +kernel
theorem dX3_init_28 : decode cX3_init 28 = .ok (.aload_n 0, 1) := by decide +kernel
theorem dX3_init_29 : decode cX3_init 29 = .ok (.iconst 2, 1) := by decide +kernel
theorem dX3_init_30 : decode cX3_init 30 = .ok (.putfield 21, 3) := by decide +kernel
theorem dX3_init_33 : decode cX3_init 33 = .ok (.aload_n 0, 1) := by decide +kernel
theorem dX3_init_34 : decode cX3_init 34 = .ok (.iconst 2, 1) := by decide +kernel
theorem dX3_init_35 : decode cX3_init 35 = .ok (.putfield 25, 3) := by decide +kernel
theorem dX3_init_38 : decode cX3_init 38 = .ok (.aload_n 0, 1) := by decide +kernel
theorem dX3_init_39 : decode cX3_init 39 = .ok (.iconst 2, 1) := by decide +kernel
theorem dX3_init_40 : decode cX3_init 40 = .ok (.putfield 28, 3) := by decide +kernel
theorem dX3_init_43 : decode cX3_init 43 = .ok (.return_, 1) := by decide +kernel
theorem dX3_becomeUntold_0 : decode cX3_becomeUntold 0 = .ok (.aload_n 0, 1) := by decide +kernel
theorem dX3_becomeUntold_1 : decode cX3_becomeUntold 1 = .ok (.iconst 0, 1) := by decide +kernel
theorem dX3_becomeUntold_2 : decode cX3_becomeUntold 2 = .ok (.putfield 31, 3) := by decide +kernel
theorem dX3_becomeUntold_5 : decode cX3_becomeUntold 5 = .ok (.aload_n 0, 1) := by decide +kernel
theorem dX3_becomeUntold_6 : decode cX3_becomeUntold 6 = .ok (.iconst 2, 1) := by decide +kernel
theorem dX3_becomeUntold_7 : decode cX3_becomeUntold 7 = .ok (.putfield 21, 3) := by decide +kernel
theorem dX3_becomeUntold_10 : decode cX3_becomeUntold 10 = .ok (.aload_n 0, 1) := by decide +kernel
theorem dX3_becomeUntold_11 : decode cX3_becomeUntold 11 = .ok (.iconst 2, 1) := by decide +kernel
theorem dX3_becomeUntold_12 : decode cX3_becomeUntold 12 = .ok (.putfield 25, 3) := by decide +kernel
theorem dX3_becomeUntold_15 : decode cX3_becomeUntold 15 = .ok (.aload_n 0, 1) := by decide +kernel
theorem dX3_becomeUntold_16 : decode cX3_becomeUntold 16 = .ok (.iconst 2, 1) := by decide +kernel
theorem dX3_becomeUntold_17 : decode cX3_becomeUntold 17 = .ok (.putfield 28, 3) := by decide +kernel
theorem dX3_becomeUntold_20 : decode cX3_becomeUntold 20 = .ok (.return_, 1) := by decide +kernel
theorem dX3_becomeLike_0 : decode cX3_becomeLike 0 = .ok (.aload_n 0, 1) := by decide +kernel
theorem dX3_becomeLike_1 : decode cX3_becomeLike 1 = .ok (.aload_n 1, 1) := by decide +kernel
theorem dX3_becomeLike_2 : decode cX3_becomeLike 2 = .ok (.getfield 31, 3) := by decide +kernel
theorem dX3_becomeLike_5 : decode cX3_becomeLike 5 = .ok (.putfield 31, 3) := by decide +kernel
theorem dX3_becomeLike_8 : decode cX3_becomeLike 8 = .ok (.aload_n 0, 1) := by decide +kernel
theorem dX3_becomeLike_9 : decode cX3_becomeLike 9 = .ok (.aload_n 1, 1) := by decide +kernel
theorem dX3_becomeLike_10 : decode cX3_becomeLike 10 = .ok (.getfield 21, 3) := by decide +kernel
theorem dX3_becomeLike_13 : decode cX3_becomeLike 13 = .ok (.putfield 21, 3) := by decide +kernel
theorem dX3_becomeLike_16 : decode cX3_becomeLike 16 = .ok (.aload_n 0, 1) := by decide +kernel
theorem dX3_becomeLike_17 : decode cX3_becomeLike 17 = .ok (.aload_n 1, 1) := by decide +kernel
theorem dX3_becomeLike_18 : decode cX3_becomeLike 18 = .ok (.getfield 25, 3) := by decide +kernel
theorem dX3_becomeLike_21 : decode cX3_becomeLike 21 = .ok (.putfield 25, 3) := by decide +kernel
theorem dX3_becomeLike_24 : decode cX3_becomeLike 24 = .ok (.aload_n 0, 1) := by decide +kernel
theorem dX3_becomeLike_25 : decode cX3_becomeLike 25 = .ok (.aload_n 1, 1) := by decide +kernel
theorem dX3_becomeLike_26 : decode cX3_becomeLike 26 = .ok (.getfield 28, 3) := by decide +kernel
theorem dX3_becomeLike_29 : decode cX3_becomeLike 29 = .ok (.putfield 28, 3) := by decide +kernel
theorem dX3_becomeLike_32 : decode cX3_becomeLike 32 = .ok (.iconst 0, 1) := by decide +kernel
theorem dX3_becomeLike_33 : decode cX3_becomeLike 33 = .ok (.istore_n 2, 1) := by decide +kernel
theorem dX3_becomeLike_34 : decode cX3_becomeLike 34 = .ok (.iload_n 2, 1) := by decide +kernel
theorem dX3_becomeLike_35 : decode cX3_becomeLike 35 = .ok (.bipush 8, 2) := by decide +kernel
theorem dX3_becomeLike_37 : decode cX3_becomeLike 37 = .ok (.if_icmp .ge 45, 3) := by decide +kernel
theorem dX3_becomeLike_40 : decode cX3_becomeLike 40 = .ok (.aload_n 0, 1) := by decide +kernel
theorem dX3_becomeLike_41 : decode cX3_becomeLike 41 = .ok (.getfield 9, 3) := by decide +kernel
theorem dX3_becomeLike_44 : decode cX3_becomeLike 44 = .ok (.iload_n 2, 1) := by decide +kernel
theorem dX3_becomeLike_45 : decode cX3_becomeLike 45 = .ok (.aload_n 1, 1) := by decide +kernel
theorem dX3_becomeLike_46 : decode cX3_becomeLike 46 = .ok (.getfield 9, 3) := by decide +kernel
theorem dX3_becomeLike_49 : decode cX3_becomeLike 49 = .ok (.iload_n 2, 1) := by decide +kernel
theorem dX3_becomeLike_50 : decode cX3_becomeLike 50 = .ok (.iaload, 1) := by decide +kernel
theorem dX3_becomeLike_51 : decode cX3_becomeLike 51 = .ok (.iastore, 1) := by decide +kernel
theorem dX3_becomeLike_52 : decode cX3_becomeLike 52 = .ok (.aload_n 0, 1) := by decide +kernel
theorem dX3_becomeLike_53 : decode cX3_becomeLike 53 = .ok (.getfield 15, 3) := by decide +kernel
theorem dX3_becomeLike_56 : decode cX3_becomeLike 56 = .ok (.iload_n 2, 1) := by decide +kernel
theorem dX3_becomeLike_57 : decode cX3_becomeLike 57 = .ok (.aload_n 1, 1) := by decide +kernel
theorem dX3_becomeLike_58 : decode cX3_becomeLike 58 = .ok (.getfield 15, 3) := by decide +kernel
theorem dX3_becomeLike_61 : decode cX3_becomeLike 61 = .ok (.iload_n 2, 1) := by decide +kernel
theorem dX3_becomeLike_62 : decode cX3_becomeLike 62 = .ok (.iaload, 1) := by decide +kernel
theorem dX3_becomeLike_63 : decode cX3_becomeLike 63 = .ok (.iastore, 1) := by decide +kernel
theorem dX3_becomeLike_64 : decode cX3_becomeLike 64 = .ok (.aload_n 0, 1) := by decide +kernel
theorem dX3_becomeLike_65 : decode cX3_becomeLike 65 = .ok (.getfield 18, 3) := by decide +kernel
theorem dX3_becomeLike_68 : decode cX3_becomeLike 68 = .ok (.iload_n 2, 1) := by decide +kernel
theorem dX3_becomeLike_69 : decode cX3_becomeLike 69 = .ok (.aload_n 1, 1) := by decide +kernel
theorem dX3_becomeLike_70 : decode cX3_becomeLike 70 = .ok (.getfield 18, 3) := by decide +kernel
theorem dX3_becomeLike_73 : decode cX3_becomeLike 73 = .ok (.iload_n 2, 1) := by decide +kernel
theorem dX3_becomeLike_74 : decode cX3_becomeLike 74 = .ok (.iaload, 1) := by decide +kernel
theorem dX3_becomeLike_75 : decode cX3_becomeLike 75 = .ok (.iastore, 1) := by decide +kernel
theorem dX3_becomeLike_76 : decode cX3_becomeLike 76 = .ok (.iinc 2 1, 3) := by decide +kernel
theorem dX3_becomeLike_79 : decode cX3_becomeLike 79 = .ok (.goto (-45), 3) := by decide +kernel
theorem dX3_becomeLike_82 : decode cX3_becomeLike 82 = .ok (.return_, 1) := by decide +kernel
theorem dX3_has_0 : decode cX3_has 0 = .ok (.iload_n 1, 1) := by decide +kernel
theorem dX3_has_1 : decode cX3_has 1 = .ok (.ifCond .lt 15, 3) := by decide +kernel
theorem dX3_has_4 : decode cX3_has 4 = .ok (.iload_n 1, 1) := by decide +kernel
theorem dX3_has_5 : decode cX3_has 5 = .ok (.aload_n 0, 1) := by decide +kernel
theorem dX3_has_6 : decode cX3_has 6 = .ok (.getfield 31, 3) := by decide +kernel
theorem dX3_has_9 : decode cX3_has 9 = .ok (.if_icmp .ge 7, 3) := by decide +kernel
theorem dX3_has_12 : decode cX3_has 12 = .ok (.iconst 1, 1) := by decide +kernel
theorem dX3_has_13 : decode cX3_has 13 = .ok (.goto 4, 3) := by decide +kernel
theorem dX3_has_16 : decode cX3_has 16 = .ok (.iconst 0, 1) := by decide +kernel
theorem dX3_has_17 : decode cX3_has 17 = .ok (.ireturn, 1) := by decide +kernel
set_option maxRecDepth 20000 in
theorem ggX3_append_X6_isPerson : GoodIn wsX3_append wsX6_isPerson := goodIn_r _ [7, 8, 9, 6, 10] (by decide +kernel) (by decide +kernel)
set_option maxRecDepth 20000 in
theorem gX3_append_X6_isPerson_n34 : GoodIn wsX3_append (wsX6_isPerson) := ggX3_append_X6_isPerson
theorem dX3_append_0 : decode cX3_append 0 = .ok (.aload_n 0, 1) := by decide +kernel
theorem dX3_append_1 : decode cX3_append 1 = .ok (.getfield 31, 3) := by decide +kernel
theorem dX3_append_4 : decode cX3_append 4 = .ok (.bipush 8, 2) := by decide +kernel
theorem dX3_append_6 : decode cX3_append 6 = .ok (.if_icmp .ge 12, 3) := by decide +kernel
theorem dX3_append_9 : decode cX3_append 9 = .ok (.iload_n 1, 1) := by decide +kernel
theorem dX3_append_10 : decode cX3_append 10 = .ok (.iload_n 2, 1) := by decide +kernel
theorem dX3_append_11 : decode cX3_append 11 = .ok (.iload_n 3, 1) := by decide +kernel
theorem dX3_append_12 : decode cX3_append 12 = .ok (.invokestatic 34, 3) := by decide +kernel
theorem dX3_append_15 : decode cX3_append 15 = .ok (.ifCond .ne 5, 3) := by decide +kernel
theorem dX3_append_18 : decode cX3_append 18 = .ok (.iconst 0, 1) := by decide +kernel
theorem dX3_append_19 : decode cX3_append 19 = .ok (.ireturn, 1) := by decide +kernel
theorem dX3_append_20 : decode cX3_append 20 = .ok (.aload_n 0, 1) := by decide +kernel
theorem dX3_append_21 : decode cX3_append 21 = .ok (.getfield 9, 3) := by decide +kernel
theorem dX3_append_24 : decode cX3_append 24 = .ok (.aload_n 0, 1) := by decide +kernel
theorem dX3_append_25 : decode cX3_append 25 = .ok (.getfield 31, 3) := by decide +kernel
theorem dX3_append_28 : decode cX3_append 28 = .ok (.iload_n 1, 1) := by decide +kernel
theorem dX3_append_29 : decode cX3_append 29 = .ok (.iastore, 1) := by decide +kernel
theorem dX3_append_30 : decode cX3_append 30 = .ok (.aload_n 0, 1) := by decide +kernel
theorem dX3_append_31 : decode cX3_append 31 = .ok (.getfield 15, 3) := by decide +kernel
theorem dX3_append_34 : decode cX3_append 34 = .ok (.aload_n 0, 1) := by decide +kernel
theorem dX3_append_35 : decode cX3_append 35 = .ok (.getfield 31, 3) := by decide +kernel
theorem dX3_append_38 : decode cX3_append 38 = .ok (.iload_n 2, 1) := by decide +kernel
theorem dX3_append_39 : decode cX3_append 39 = .ok (.iastore, 1) := by decide +kernel
theorem dX3_append_40 : decode cX3_append 40 = .ok (.aload_n 0, 1) := by decide +kernel
theorem dX3_append_41 : decode cX3_append 41 = .ok (.getfield 18, 3) := by decide +kernel
theorem dX3_append_44 : decode cX3_append 44 = .ok (.aload_n 0, 1) := by decide +kernel
theorem dX3_append_45 : decode cX3_append 45 = .ok (.getfield 31, 3) := by decide +kernel
theorem dX3_append_48 : decode cX3_append 48 = .ok (.iload_n 3, 1) := by decide +kernel
theorem dX3_append_49 : decode cX3_append 49 = .ok (.iastore, 1) := by decide +kernel
theorem dX3_append_50 : decode cX3_append 50 = .ok (.aload_n 0, 1) := by decide +kernel
theorem dX3_append_51 : decode cX3_append 51 = .ok (.dup, 1) := by decide +kernel
theorem dX3_append_52 : decode cX3_append 52 = .ok (.getfield 31, 3) := by decide +kernel
theorem dX3_append_55 : decode cX3_append 55 = .ok (.iconst 1, 1) := by decide +kernel
theorem dX3_append_56 : decode cX3_append 56 = .ok (.iadd, 1) := by decide +kernel
theorem dX3_append_57 : decode cX3_append 57 = .ok (.putfield 31, 3) := by decide +kernel
theorem dX3_append_60 : decode cX3_append 60 = .ok (.iconst 1, 1) := by decide +kernel
theorem dX3_append_61 : decode cX3_append 61 = .ok (.ireturn, 1) := by decide +kernel
set_option maxRecDepth 20000 in
theorem ggX3_setPaces_X6_within : GoodIn wsX3_setPaces wsX6_within := goodIn_r _ [5] (by decide +kernel) (by decide +kernel)
set_option maxRecDepth 20000 in
theorem gX3_setPaces_X6_within_n38 : GoodIn wsX3_setPaces (wsX6_within) := ggX3_setPaces_X6_within
theorem dX3_setPaces_0 : decode cX3_setPaces 0 = .ok (.iload_n 1, 1) := by decide +kernel
theorem dX3_setPaces_1 : decode cX3_setPaces 1 = .ok (.iconst 1, 1) := by decide +kernel
theorem dX3_setPaces_2 : decode cX3_setPaces 2 = .ok (.bipush 9, 2) := by decide +kernel
theorem dX3_setPaces_4 : decode cX3_setPaces 4 = .ok (.invokestatic 38, 3) := by decide +kernel
theorem dX3_setPaces_7 : decode cX3_setPaces 7 = .ok (.ifCond .eq 13, 3) := by decide +kernel
theorem dX3_setPaces_10 : decode cX3_setPaces 10 = .ok (.iload_n 2, 1) := by decide +kernel
theorem dX3_setPaces_11 : decode cX3_setPaces 11 = .ok (.iconst 1, 1) := by decide +kernel
theorem dX3_setPaces_12 : decode cX3_setPaces 12 = .ok (.bipush 9, 2) := by decide +kernel
theorem dX3_setPaces_14 : decode cX3_setPaces 14 = .ok (.invokestatic 38, 3) := by decide +kernel
theorem dX3_setPaces_17 : decode cX3_setPaces 17 = .ok (.ifCond .ne 5, 3) := by decide +kernel
theorem dX3_setPaces_20 : decode cX3_setPaces 20 = .ok (.iconst 0, 1) := by decide +kernel
theorem dX3_setPaces_21 : decode cX3_setPaces 21 = .ok (.ireturn, 1) := by decide +kernel
theorem dX3_setPaces_22 : decode cX3_setPaces 22 = .ok (.aload_n 0, 1) := by decide +kernel
theorem dX3_setPaces_23 : decode cX3_setPaces 23 = .ok (.iload_n 1, 1) := by decide +kernel
theorem dX3_setPaces_24 : decode cX3_setPaces 24 = .ok (.putfield 21, 3) := by decide +kernel
theorem dX3_setPaces_27 : decode cX3_setPaces 27 = .ok (.aload_n 0, 1) := by decide +kernel
theorem dX3_setPaces_28 : decode cX3_setPaces 28 = .ok (.iload_n 2, 1) := by decide +kernel
theorem dX3_setPaces_29 : decode cX3_setPaces 29 = .ok (.putfield 25, 3) := by decide +kernel
theorem dX3_setPaces_32 : decode cX3_setPaces 32 = .ok (.iconst 1, 1) := by decide +kernel
theorem dX3_setPaces_33 : decode cX3_setPaces 33 = .ok (.ireturn, 1) := by decide +kernel
set_option maxRecDepth 20000 in
theorem ggX3_setSteps_X6_within : GoodIn wsX3_setSteps wsX6_within := goodIn_r _ [4] (by decide +kernel) (by decide +kernel)
set_option maxRecDepth 20000 in
theorem gX3_setSteps_X6_within_n38 : GoodIn wsX3_setSteps (wsX6_within) := ggX3_setSteps_X6_within
theorem dX3_setSteps_0 : decode cX3_setSteps 0 = .ok (.iload_n 1, 1) := by decide +kernel
theorem dX3_setSteps_1 : decode cX3_setSteps 1 = .ok (.iconst 0, 1) := by decide +kernel
theorem dX3_setSteps_2 : decode cX3_setSteps 2 = .ok (.bipush 20, 2) := by decide +kernel
theorem dX3_setSteps_4 : decode cX3_setSteps 4 = .ok (.invokestatic 38, 3) := by decide +kernel
theorem dX3_setSteps_7 : decode cX3_setSteps 7 = .ok (.ifCond .ne 5, 3) := by decide +kernel
theorem dX3_setSteps_10 : decode cX3_setSteps 10 = .ok (.iconst 0, 1) := by decide +kernel
theorem dX3_setSteps_11 : decode cX3_setSteps 11 = .ok (.ireturn, 1) := by decide +kernel
theorem dX3_setSteps_12 : decode cX3_setSteps 12 = .ok (.aload_n 0, 1) := by decide +kernel
theorem dX3_setSteps_13 : decode cX3_setSteps 13 = .ok (.iload_n 1, 1) := by decide +kernel
theorem dX3_setSteps_14 : decode cX3_setSteps 14 = .ok (.putfield 28, 3) := by decide +kernel
theorem dX3_setSteps_17 : decode cX3_setSteps 17 = .ok (.iconst 1, 1) := by decide +kernel
theorem dX3_setSteps_18 : decode cX3_setSteps 18 = .ok (.ireturn, 1) := by decide +kernel
set_option maxRecDepth 20000 in
theorem ggX3_removeAt_X3_has : GoodIn wsX3_removeAt wsX3_has := goodIn_r _ [9, 1, 10, 11, 12, 13, 14, 15, 16] (by decide +kernel) (by decide +kernel)
set_option maxRecDepth 20000 in
theorem gX3_removeAt_X3_has : GoodIn wsX3_removeAt (wsV RX3 41 RX3 yX3_has wsX3_has) := goodIn_app (goodIn_of _ (by decide +kernel)) ggX3_removeAt_X3_has
theorem dX3_removeAt_0 : decode cX3_removeAt 0 = .ok (.aload_n 0, 1) := by decide +kernel
theorem dX3_removeAt_1 : decode cX3_removeAt 1 = .ok (.iload_n 1, 1) := by decide +kernel
theorem dX3_removeAt_2 : decode cX3_removeAt 2 = .ok (.invokevirtual 41, 3) := by decide +kernel
theorem dX3_removeAt_5 : decode cX3_removeAt 5 = .ok (.ifCond .ne 4, 3) := by decide +kernel
theorem dX3_removeAt_8 : decode cX3_removeAt 8 = .ok (.return_, 1) := by decide +kernel
theorem dX3_removeAt_9 : decode cX3_removeAt 9 = .ok (.iload_n 1, 1) := by decide +kernel
theorem dX3_removeAt_10 : decode cX3_removeAt 10 = .ok (.istore_n 2, 1) := by decide +kernel
theorem dX3_removeAt_11 : decode cX3_removeAt 11 = .ok (.iload_n 2, 1) := by decide +kernel
theorem dX3_removeAt_12 : decode cX3_removeAt 12 = .ok (.iconst 1, 1) := by decide +kernel
theorem dX3_removeAt_13 : decode cX3_removeAt 13 = .ok (.iadd, 1) := by decide +kernel
theorem dX3_removeAt_14 : decode cX3_removeAt 14 = .ok (.aload_n 0, 1) := by decide +kernel
theorem dX3_removeAt_15 : decode cX3_removeAt 15 = .ok (.getfield 31, 3) := by decide +kernel
theorem dX3_removeAt_18 : decode cX3_removeAt 18 = .ok (.if_icmp .ge 51, 3) := by decide +kernel
theorem dX3_removeAt_21 : decode cX3_removeAt 21 = .ok (.aload_n 0, 1) := by decide +kernel
theorem dX3_removeAt_22 : decode cX3_removeAt 22 = .ok (.getfield 9, 3) := by decide +kernel
theorem dX3_removeAt_25 : decode cX3_removeAt 25 = .ok (.iload_n 2, 1) := by decide +kernel
theorem dX3_removeAt_26 : decode cX3_removeAt 26 = .ok (.aload_n 0, 1) := by decide +kernel
theorem dX3_removeAt_27 : decode cX3_removeAt 27 = .ok (.getfield 9, 3) := by decide +kernel
theorem dX3_removeAt_30 : decode cX3_removeAt 30 = .ok (.iload_n 2, 1) := by decide +kernel
theorem dX3_removeAt_31 : decode cX3_removeAt 31 = .ok (.iconst 1, 1) := by decide +kernel
theorem dX3_removeAt_32 : decode cX3_removeAt 32 = .ok (.iadd, 1) := by decide +kernel
theorem dX3_removeAt_33 : decode cX3_removeAt 33 = .ok (.iaload, 1) := by decide +kernel
theorem dX3_removeAt_34 : decode cX3_removeAt 34 = .ok (.iastore, 1) := by decide +kernel
theorem dX3_removeAt_35 : decode cX3_removeAt 35 = .ok (.aload_n 0, 1) := by decide +kernel
theorem dX3_removeAt_36 : decode cX3_removeAt 36 = .ok (.getfield 15, 3) := by decide +kernel
theorem dX3_removeAt_39 : decode cX3_removeAt 39 = .ok (.iload_n 2, 1) := by decide +kernel
theorem dX3_removeAt_40 : decode cX3_removeAt 40 = .ok (.aload_n 0, 1) := by decide +kernel
theorem dX3_removeAt_41 : decode cX3_removeAt 41 = .ok (.getfield 15, 3) := by decide +kernel
theorem dX3_removeAt_44 : decode cX3_removeAt 44 = .ok (.iload_n 2, 1) := by decide +kernel
theorem dX3_removeAt_45 : decode cX3_removeAt 45 = .ok (.iconst 1, 1) := by decide +kernel
theorem dX3_removeAt_46 : decode cX3_removeAt 46 = .ok (.iadd, 1) := by decide +kernel
theorem dX3_removeAt_47 : decode cX3_removeAt 47 = .ok (.iaload, 1) := by decide +kernel
theorem dX3_removeAt_48 : decode cX3_removeAt 48 = .ok (.iastore, 1) := by decide +kernel
theorem dX3_removeAt_49 : decode cX3_removeAt 49 = .ok (.aload_n 0, 1) := by decide +kernel
theorem dX3_removeAt_50 : decode cX3_removeAt 50 = .ok (.getfield 18, 3) := by decide +kernel
theorem dX3_removeAt_53 : decode cX3_removeAt 53 = .ok (.iload_n 2, 1) := by decide +kernel
theorem dX3_removeAt_54 : decode cX3_removeAt 54 = .ok (.aload_n 0, 1) := by decide +kernel
theorem dX3_removeAt_55 : decode cX3_removeAt 55 = .ok (.getfield 18, 3) := by decide +kernel
theorem dX3_removeAt_58 : decode cX3_removeAt 58 = .ok (.iload_n 2, 1) := by decide +kernel
theorem dX3_removeAt_59 : decode cX3_removeAt 59 = .ok (.iconst 1, 1) := by decide +kernel
theorem dX3_removeAt_60 : decode cX3_removeAt 60 = .ok (.iadd, 1) := by decide +kernel
theorem dX3_removeAt_61 : decode cX3_removeAt 61 = .ok (.iaload, 1) := by decide +kernel
theorem dX3_removeAt_62 : decode cX3_removeAt 62 = .ok (.iastore, 1) := by decide +kernel
theorem dX3_removeAt_63 : decode cX3_removeAt 63 = .ok (.iinc 2 1, 3) := by decide +kernel
theorem dX3_removeAt_66 : decode cX3_removeAt 66 = .ok (.goto (-55), 3) := by decide +kernel
theorem dX3_removeAt_69 : decode cX3_removeAt 69 = .ok (.aload_n 0, 1) := by decide +kernel
theorem dX3_removeAt_70 : decode cX3_removeAt 70 = .ok (.dup, 1) := by decide +kernel
theorem dX3_removeAt_71 : decode cX3_removeAt 71 = .ok (.getfield 31, 3) := by decide +kernel
theorem dX3_removeAt_74 : decode cX3_removeAt 74 = .ok (.iconst 1, 1) := by decide +kernel
theorem dX3_removeAt_75 : decode cX3_removeAt 75 = .ok (.isub, 1) := by decide +kernel
theorem dX3_removeAt_76 : decode cX3_removeAt 76 = .ok (.putfield 31, 3) := by decide +kernel
theorem dX3_removeAt_79 : decode cX3_removeAt 79 = .ok (.return_, 1) := by decide +kernel
theorem dX3_thingsThrough_0 : decode cX3_thingsThrough 0 = .ok (.aload_n 0, 1) := by decide +kernel
theorem dX3_thingsThrough_1 : decode cX3_thingsThrough 1 = .ok (.getfield 21, 3) := by decide +kernel
theorem dX3_thingsThrough_4 : decode cX3_thingsThrough 4 = .ok (.ifCond .le 12, 3) := by decide +kernel
theorem dX3_thingsThrough_7 : decode cX3_thingsThrough 7 = .ok (.iload_n 1, 1) := by decide +kernel
theorem dX3_thingsThrough_8 : decode cX3_thingsThrough 8 = .ok (.aload_n 0, 1) := by decide +kernel
theorem dX3_thingsThrough_9 : decode cX3_thingsThrough 9 = .ok (.getfield 21, 3) := by decide +kernel
theorem dX3_thingsThrough_12 : decode cX3_thingsThrough 12 = .ok (.idiv, 1) := by decide +kernel
theorem dX3_thingsThrough_13 : decode cX3_thingsThrough 13 = .ok (.goto 4, 3) := by decide +kernel
theorem dX3_thingsThrough_16 : decode cX3_thingsThrough 16 = .ok (.iconst 0, 1) := by decide +kernel
theorem dX3_thingsThrough_17 : decode cX3_thingsThrough 17 = .ok (.ireturn, 1) := by decide +kernel
set_option maxRecDepth 20000 in
theorem ggX3_letGoBy_X3_thingsThrough : GoodIn wsX3_letGoBy wsX3_thingsThrough := goodIn_r _ [7, 8, 19, 20, 21, 22, 23, 24, 25] (by decide +kernel) (by decide +kernel)
set_option maxRecDepth 20000 in
theorem gX3_letGoBy_X3_thingsThrough : GoodIn wsX3_letGoBy (wsV RX3 45 RX3 yX3_thingsThrough wsX3_thingsThrough) := goodIn_app (goodIn_of _ (by decide +kernel)) ggX3_letGoBy_X3_thingsThrough
set_option maxRecDepth 20000 in
theorem ggX3_letGoBy_X3_removeAt : GoodIn wsX3_letGoBy wsX3_removeAt := goodIn_r _ [12, 1, 13, 2, 14, 15, 16, 17, 6, 18, 19, 20, 21, 22, 23, 24, 25] (by decide +kernel) (by decide +kernel)
set_option maxRecDepth 20000 in
theorem gX3_letGoBy_X3_removeAt : GoodIn wsX3_letGoBy (wsV RX3 49 RX3 yX3_removeAt wsX3_removeAt) := goodIn_app (goodIn_of _ (by decide +kernel)) ggX3_letGoBy_X3_removeAt
theorem dX3_letGoBy_0 : decode cX3_letGoBy 0 = .ok (.aload_n 0, 1) := by decide +kernel
theorem dX3_letGoBy_1 : decode cX3_letGoBy 1 = .ok (.iload_n 1, 1) := by decide +kernel
theorem dX3_letGoBy_2 : decode cX3_letGoBy 2 = .ok (.invokevirtual 45, 3) := by decide +kernel
theorem dX3_letGoBy_5 : decode cX3_letGoBy 5 = .ok (.istore_n 2, 1) := by decide +kernel
theorem dX3_letGoBy_6 : decode cX3_letGoBy 6 = .ok (.iconst 0, 1) := by decide +kernel
theorem dX3_letGoBy_7 : decode cX3_letGoBy 7 = .ok (.istore_n 3, 1) := by decide +kernel
theorem dX3_letGoBy_8 : decode cX3_letGoBy 8 = .ok (.aload_n 0, 1) := by decide +kernel
theorem dX3_letGoBy_9 : decode cX3_letGoBy 9 = .ok (.getfield 31, 3) := by decide +kernel
theorem dX3_letGoBy_12 : decode cX3_letGoBy 12 = .ok (.istore 4, 2) := by decide +kernel
theorem dX3_letGoBy_14 : decode cX3_letGoBy 14 = .ok (.iconst 0, 1) := by decide +kernel
theorem dX3_letGoBy_15 : decode cX3_letGoBy 15 = .ok (.istore 5, 2) := by decide +kernel
theorem dX3_letGoBy_17 : decode cX3_letGoBy 17 = .ok (.iload 5, 2) := by decide +kernel
theorem dX3_letGoBy_19 : decode cX3_letGoBy 19 = .ok (.iload 4, 2) := by decide +kernel
theorem dX3_letGoBy_21 : decode cX3_letGoBy 21 = .ok (.if_icmp .ge 36, 3) := by decide +kernel
theorem dX3_letGoBy_24 : decode cX3_letGoBy 24 = .ok (.aload_n 0, 1) := by decide +kernel
theorem dX3_letGoBy_25 : decode cX3_letGoBy 25 = .ok (.getfield 15, 3) := by decide +kernel
theorem dX3_letGoBy_28 : decode cX3_letGoBy 28 = .ok (.iconst 0, 1) := by decide +kernel
theorem dX3_letGoBy_29 : decode cX3_letGoBy 29 = .ok (.iaload, 1) := by decide +kernel
theorem dX3_letGoBy_30 : decode cX3_letGoBy 30 = .ok (.iload_n 2, 1) := by decide +kernel
theorem dX3_letGoBy_31 : decode cX3_letGoBy 31 = .ok (.if_icmp .gt 26, 3) := by decide +kernel
theorem dX3_letGoBy_34 : decode cX3_letGoBy 34 = .ok (.iload_n 2, 1) := by decide +kernel
theorem dX3_letGoBy_35 : decode cX3_letGoBy 35 = .ok (.aload_n 0, 1) := by decide +kernel
theorem dX3_letGoBy_36 : decode cX3_letGoBy 36 = .ok (.getfield 15, 3) := by decide +kernel
theorem dX3_letGoBy_39 : decode cX3_letGoBy 39 = .ok (.iconst 0, 1) := by decide +kernel
theorem dX3_letGoBy_40 : decode cX3_letGoBy 40 = .ok (.iaload, 1) := by decide +kernel
theorem dX3_letGoBy_41 : decode cX3_letGoBy 41 = .ok (.isub, 1) := by decide +kernel
theorem dX3_letGoBy_42 : decode cX3_letGoBy 42 = .ok (.istore_n 2, 1) := by decide +kernel
theorem dX3_letGoBy_43 : decode cX3_letGoBy 43 = .ok (.aload_n 0, 1) := by decide +kernel
theorem dX3_letGoBy_44 : decode cX3_letGoBy 44 = .ok (.iconst 0, 1) := by decide +kernel
theorem dX3_letGoBy_45 : decode cX3_letGoBy 45 = .ok (.invokevirtual 49, 3) := by decide +kernel
theorem dX3_letGoBy_48 : decode cX3_letGoBy 48 = .ok (.iinc 3 1, 3) := by decide +kernel
theorem dX3_letGoBy_51 : decode cX3_letGoBy 51 = .ok (.iinc 5 1, 3) := by decide +kernel
theorem dX3_letGoBy_54 : decode cX3_letGoBy 54 = .ok (.goto (-37), 3) := by decide +kernel
theorem dX3_letGoBy_57 : decode cX3_letGoBy 57 = .ok (.aload_n 0, 1) := by decide +kernel
theorem dX3_letGoBy_58 : decode cX3_letGoBy 58 = .ok (.getfield 31, 3) := by decide +kernel
theorem dX3_letGoBy_61 : decode cX3_letGoBy 61 = .ok (.ifCond .le 13, 3) := by decide +kernel
theorem dX3_letGoBy_64 : decode cX3_letGoBy 64 = .ok (.aload_n 0, 1) := by decide +kernel
theorem dX3_letGoBy_65 : decode cX3_letGoBy 65 = .ok (.getfield 15, 3) := by decide +kernel
theorem dX3_letGoBy_68 : decode cX3_letGoBy 68 = .ok (.iconst 0, 1) := by decide +kernel
theorem dX3_letGoBy_69 : decode cX3_letGoBy 69 = .ok (.dup2, 1) := by decide +kernel
theorem dX3_letGoBy_70 : decode cX3_letGoBy 70 = .ok (.iaload, 1) := by decide +kernel
theorem dX3_letGoBy_71 : decode cX3_letGoBy 71 = .ok (.iload_n 2, 1) := by decide +kernel
theorem dX3_letGoBy_72 : decode cX3_letGoBy 72 = .ok (.isub, 1) := by decide +kernel
theorem dX3_letGoBy_73 : decode cX3_letGoBy 73 = .ok (.iastore, 1) := by decide +kernel
theorem dX3_letGoBy_74 : decode cX3_letGoBy 74 = .ok (.iload_n 3, 1) := by decide +kernel
theorem dX3_letGoBy_75 : decode cX3_letGoBy 75 = .ok (.ireturn, 1) := by decide +kernel
set_option maxRecDepth 20000 in
theorem ggX3_walk_X3_has : GoodIn wsX3_walk wsX3_has := goodIn_r _ [8, 3, 9, 10, 11, 12, 13, 14, 15] (by decide +kernel) (by decide +kernel)
set_option maxRecDepth 20000 in
theorem gX3_walk_X3_has : GoodIn wsX3_walk (wsV RX3 41 RX3 yX3_has wsX3_has) := goodIn_app (goodIn_of _ (by decide +kernel)) ggX3_walk_X3_has
theorem dX3_walk_0 : decode cX3_walk 0 = .ok (.aload_n 0, 1) := by decide +kernel
theorem dX3_walk_1 : decode cX3_walk 1 = .ok (.iload_n 1, 1) := by decide +kernel
theorem dX3_walk_2 : decode cX3_walk 2 = .ok (.invokevirtual 41, 3) := by decide +kernel
theorem dX3_walk_5 : decode cX3_walk 5 = .ok (.ifCond .eq 24, 3) := by decide +kernel
theorem dX3_walk_8 : decode cX3_walk 8 = .ok (.aload_n 0, 1) := by decide +kernel
theorem dX3_walk_9 : decode cX3_walk 9 = .ok (.getfield 18, 3) := by decide +kernel
theorem dX3_walk_12 : decode cX3_walk 12 = .ok (.iload_n 1, 1) := by decide +kernel
theorem dX3_walk_13 : decode cX3_walk 13 = .ok (.iaload, 1) := by decide +kernel
theorem dX3_walk_14 : decode cX3_walk 14 = .ok (.aload_n 0, 1) := by decide +kernel
theorem dX3_walk_15 : decode cX3_walk 15 = .ok (.getfield 28, 3) := by decide +kernel
theorem dX3_walk_18 : decode cX3_walk 18 = .ok (.aload_n 0, 1) := by decide +kernel
theorem dX3_walk_19 : decode cX3_walk 19 = .ok (.getfield 31, 3) := by decide +kernel
theorem dX3_walk_22 : decode cX3_walk 22 = .ok (.iadd, 1) := by decide +kernel
theorem dX3_walk_23 : decode cX3_walk 23 = .ok (.iload_n 1, 1) := by decide +kernel
theorem dX3_walk_24 : decode cX3_walk 24 = .ok (.isub, 1) := by decide +kernel
theorem dX3_walk_25 : decode cX3_walk 25 = .ok (.imul, 1) := by decide +kernel
theorem dX3_walk_26 : decode cX3_walk 26 = .ok (.goto 4, 3) := by decide +kernel
theorem dX3_walk_29 : decode cX3_walk 29 = .ok (.iconst 0, 1) := by decide +kernel
theorem dX3_walk_30 : decode cX3_walk 30 = .ok (.ireturn, 1) := by decide +kernel
theorem dX4_init_0 : decode cX4_init 0 = .ok (.aload_n 0, 1) := by decide +kernel
theorem dX4_init_1 : decode cX4_init 1 = .ok (.invokespecial 3, 3) := by decide +kernel
theorem dX4_init_4 : decode cX4_init 4 = .ok (.aload_n 0, 1) := by decide +kernel
theorem dX4_init_5 : decode cX4_init 5 = .ok (.bipush 8, 2) := by decide +kernel
theorem dX4_init_7 : decode cX4_init 7 = .ok (.newarray .int, 2) := by decide +kernel
theorem dX4_init_9 : decode cX4_init 9 = .ok (.putfield 9, 3) := by decide +kernel
theorem dX4_init_12 : decode cX4_init 12 = .ok (.aload_n 0, 1) := by decide +kernel
theorem dX4_init_13 : decode cX4_init 13 = .ok (.bipush 8, 2) := by decide +kernel
theorem dX4_init_15 : decode cX4_init 15 = .ok (.newarray .int, 2) := by decide +kernel
theorem dX4_init_17 : decode cX4_init 17 = .ok (.putfield 15, 3) := by decide +kernel
theorem dX4_init_20 : decode cX4_init 20 = .ok (.return_, 1) := by decide +kernel
theorem dX4_append_0 : decode cX4_append 0 = .ok (.aload_n 0, 1) := by decide +kernel
theorem dX4_append_1 : decode cX4_append 1 = .ok (.getfield 18, 3) := by decide +kernel
theorem dX4_append_4 : decode cX4_append 4 = .ok (.bipush 8, 2) := by decide +kernel
theorem dX4_append_6 : decode cX4_append 6 = .ok (.if_icmp .lt 5, 3) := by decide +kernel
theorem dX4_append_9 : decode cX4_append 9 = .ok (.iconst 0, 1) := by decide +kernel
theorem dX4_append_10 : decode cX4_append 10 = .ok (.ireturn, 1) := by decide +kernel
theorem dX4_append_11 : decode cX4_append 11 = .ok (.aload_n 0, 1) := by decide +kernel
theorem dX4_append_12 : decode cX4_append 12 = .ok (.getfield 9, 3) := by decide +kernel
theorem dX4_append_15 : decode cX4_append 15 = .ok (.aload_n 0, 1) := by decide +kernel
theorem dX4_append_16 : decode cX4_append 16 = .ok (.getfield 18, 3) := by decide +kernel
theorem dX4_append_19 : decode cX4_append 19 = .ok (.iload_n 1, 1) := by decide +kernel
theorem dX4_append_20 : decode cX4_append 20 = .ok (.iastore, 1) := by decide +kernel
theorem dX4_append_21 : decode cX4_append 21 = .ok (.aload_n 0, 1) := by decide +kernel
theorem dX4_append_22 : decode cX4_append 22 = .ok (.getfield 15, 3) := by decide +kernel
theorem dX4_append_25 : decode cX4_append 25 = .ok (.aload_n 0, 1) := by decide +kernel
theorem dX4_append_26 : decode cX4_append 26 = .ok (.getfield 18, 3) := by decide +kernel
theorem dX4_append_29 : decode cX4_append 29 = .ok (.iload_n 2, 1) := by decide +kernel
theorem dX4_append_30 : decode cX4_append 30 = .ok (.iastore, 1) := by decide +kernel
theorem dX4_append_31 : decode cX4_append 31 = .ok (.aload_n 0, 1) := by decide +kernel
theorem dX4_append_32 : decode cX4_append 32 = .ok (.dup, 1) := by decide +kernel
theorem dX4_append_33 : decode cX4_append 33 = .ok (.getfield 18, 3) := by decide +kernel
theorem dX4_append_36 : decode cX4_append 36 = .ok (.iconst 1, 1) := by decide +kernel
theorem dX4_append_37 : decode cX4_append 37 = .ok (.iadd, 1) := by decide +kernel
theorem dX4_append_38 : decode cX4_append 38 = .ok (.putfield 18, 3) := by decide +kernel
theorem dX4_append_41 : decode cX4_append 41 = .ok (.iconst 1, 1) := by decide +kernel
theorem dX4_append_42 : decode cX4_append 42 = .ok (.ireturn, 1) := by decide +kernel
theorem dX4_agreesWith_0 : decode cX4_agreesWith 0 = .ok (.iconst 0, 1) := by decide +kernel
theorem dX4_agreesWith_1 : decode cX4_agreesWith 1 = .ok (.istore_n 2, 1) := by decide +kernel
theorem dX4_agreesWith_2 : decode cX4_agreesWith 2 = .ok (.iload_n 2, 1) := by decide +kernel
theorem dX4_agreesWith_3 : decode cX4_agreesWith 3 = .ok (.aload_n 0, 1) := by decide +kernel
theorem dX4_agreesWith_4 : decode cX4_agreesWith 4 = .ok (.getfield 18, 3) := by decide +kernel
theorem dX4_agreesWith_7 : decode cX4_agreesWith 7 = .ok (.if_icmp .ge 30, 3) := by decide +kernel
theorem dX4_agreesWith_10 : decode cX4_agreesWith 10 = .ok (.iload_n 1, 1) := by decide +kernel
theorem dX4_agreesWith_11 : decode cX4_agreesWith 11 = .ok (.aload_n 0, 1) := by decide +kernel
theorem dX4_agreesWith_12 : decode cX4_agreesWith 12 = .ok (.getfield 9, 3) := by decide +kernel
theorem dX4_agreesWith_15 : decode cX4_agreesWith 15 = .ok (.iload_n 2, 1) := by decide +kernel
theorem dX4_agreesWith_16 : decode cX4_agreesWith 16 = .ok (.iaload, 1) := by decide +kernel
theorem dX4_agreesWith_17 : decode cX4_agreesWith 17 = .ok (.ishr, 1) := by decide +kernel
theorem dX4_agreesWith_18 : decode cX4_agreesWith 18 = .ok (.iconst 1, 1) := by decide +kernel
theorem dX4_agreesWith_19 : decode cX4_agreesWith 19 = .ok (.iand, 1) := by decide +kernel
theorem dX4_agreesWith_20 : decode cX4_agreesWith 20 = .ok (.aload_n 0, 1) := by decide +kernel
theorem dX4_agreesWith_21 : decode cX4_agreesWith 21 = .ok (.getfield 15, 3) := by decide +kernel
theorem dX4_agreesWith_24 : decode cX4_agreesWith 24 = .ok (.iload_n 2, 1) := by decide +kernel
theorem dX4_agreesWith_25 : decode cX4_agreesWith 25 = .ok (.iaload, 1) := by decide +kernel
theorem dX4_agreesWith_26 : decode cX4_agreesWith 26 = .ok (.if_icmp .eq 5, 3) := by decide +kernel
theorem dX4_agreesWith_29 : decode cX4_agreesWith 29 = .ok (.iconst 0, 1) := by decide +kernel
theorem dX4_agreesWith_30 : decode cX4_agreesWith 30 = .ok (.ireturn, 1) := by decide +kernel
theorem dX4_agreesWith_31 : decode cX4_agreesWith 31 = .ok (.iinc 2 1, 3) := by decide +kernel
theorem dX4_agreesWith_34 : decode cX4_agreesWith 34 = .ok (.goto (-32), 3) := by decide +kernel
theorem dX4_agreesWith_37 : decode cX4_agreesWith 37 = .ok (.iconst 1, 1) := by decide +kernel
theorem dX4_agreesWith_38 : decode cX4_agreesWith 38 = .ok (.ireturn, 1) := by decide +kernel
theorem dX5_init_0 : decode cX5_init 0 = .ok (.aload_n 0, 1) := by decide +kernel
theorem dX5_init_1 : decode cX5_init 1 = .ok (.invokespecial 3, 3) := by decide +kernel
theorem dX5_init_4 : decode cX5_init 4 = .ok (.aload_n 0, 1) := by decide +kernel
theorem dX5_init_5 : decode cX5_init 5 = .ok (.sipush 200, 3) := by decide +kernel
theorem dX5_init_8 : decode cX5_init 8 = .ok (.newarray .char, 2) := by decide +kernel
theorem dX5_init_10 : decode cX5_init 10 = .ok (.putfield 9, 3) := by decide +kernel
theorem dX5_init_13 : decode cX5_init 13 = .ok (.aload_n 0, 1) := by decide +kernel
theorem dX5_init_14 : decode cX5_init 14 = .ok (.iconst 3, 1) := by decide +kernel
theorem dX5_init_15 : decode cX5_init 15 = .ok (.newarray .int, 2) := by decide +kernel
theorem dX5_init_17 : decode cX5_init 17 = .ok (.putfield 15, 3) := by decide +kernel
theorem dX5_init_20 : decode cX5_init 20 = .ok (.return_, 1) := by decide +kernel
theorem dX5_append_0 : decode cX5_append 0 = .ok (.aload_n 0, 1) := by decide +kernel
theorem dX5_append_1 : decode cX5_append 1 = .ok (.getfield 19, 3) := by decide +kernel
theorem dX5_append_4 : decode cX5_append 4 = .ok (.sipush 200, 3) := by decide +kernel
theorem dX5_append_7 : decode cX5_append 7 = .ok (.if_icmp .lt 5, 3) := by decide +kernel
theorem dX5_append_10 : decode cX5_append 10 = .ok (.iconst 0, 1) := by decide +kernel
theorem dX5_append_11 : decode cX5_append 11 = .ok (.ireturn, 1) := by decide +kernel
theorem dX5_append_12 : decode cX5_append 12 = .ok (.aload_n 0, 1) := by decide +kernel
theorem dX5_append_13 : decode cX5_append 13 = .ok (.getfield 9, 3) := by decide +kernel
theorem dX5_append_16 : decode cX5_append 16 = .ok (.aload_n 0, 1) := by decide +kernel
theorem dX5_append_17 : decode cX5_append 17 = .ok (.getfield 19, 3) := by decide +kernel
theorem dX5_append_20 : decode cX5_append 20 = .ok (.iload_n 1, 1) := by decide +kernel
theorem dX5_append_21 : decode cX5_append 21 = .ok (.castore, 1) := by decide +kernel
theorem dX5_append_22 : decode cX5_append 22 = .ok (.aload_n 0, 1) := by decide +kernel
theorem dX5_append_23 : decode cX5_append 23 = .ok (.dup, 1) := by decide +kernel
theorem dX5_append_24 : decode cX5_append 24 = .ok (.getfield 19, 3) := by decide +kernel
theorem dX5_append_27 : decode cX5_append 27 = .ok (.iconst 1, 1) := by decide +kernel
theorem dX5_append_28 : decode cX5_append 28 = .ok (.iadd, 1) := by decide +kernel
theorem dX5_append_29 : decode cX5_append 29 = .ok (.putfield 19, 3) := by decide +kernel
theorem dX5_append_32 : decode cX5_append 32 = .ok (.iconst 1, 1) := by decide +kernel
theorem dX5_append_33 : decode cX5_append 33 = .ok (.ireturn, 1) := by decide +kernel
set_option maxRecDepth 20000 in
theorem ggX5_readInto_X3_becomeUntold : GoodIn wsX5_readInto wsX3_becomeUntold := goodIn_r _ [6, 7, 8, 9, 10, 64, 65, 66, 67, 68, 69, 70] (by decide +kernel) (by decide +kernel)
set_option maxRecDepth 20000 in
theorem gX5_readInto_X3_becomeUntold : GoodIn wsX5_readInto (wsV RX5 23 RX3 yX3_becomeUntold wsX3_becomeUntold) := goodIn_app (goodIn_of _ (by decide +kernel)) ggX5_readInto_X3_becomeUntold
set_option maxRecDepth 20000 in
theorem ggX5_readInto_X5_endOfItem : GoodIn wsX5_readInto wsX5_endOfItem := goodIn_r _ [15, 16, 17, 18, 19, 14, 20, 1, 21, 22, 23, 24, 25, 26, 27, 28, 29, 30, 31, 32, 33, 34, 35, 61, 62, 63] (by decide +kernel) (by decide +kernel)
set_option maxRecDepth 20000 in
theorem gX5_readInto_X5_endOfItem : GoodIn wsX5_readInto (wsV RX5 28 RX5 yX5_endOfItem wsX5_endOfItem) := goodIn_app (goodIn_of _ (by decide +kernel)) ggX5_readInto_X5_endOfItem
set_option maxRecDepth 20000 in
theorem ggX5_readInto_X5_letterAt : GoodIn wsX5_readInto wsX5_letterAt := goodIn_r _ [20, 1, 21, 61, 62, 63] (by decide +kernel) (by decide +kernel)
set_option maxRecDepth 20000 in
theorem gX5_readInto_X5_letterAt : GoodIn wsX5_readInto (wsV RX5 32 RX5 yX5_letterAt wsX5_letterAt) := goodIn_app (goodIn_of _ (by decide +kernel)) ggX5_readInto_X5_letterAt
set_option maxRecDepth 20000 in
theorem ggX5_readInto_X5_tell : GoodIn wsX5_readInto wsX5_tell := goodIn_r _ [39, 16, 40, 41, 42, 5, 43, 7, 44, 45, 46, 47, 48, 49, 50, 51, 52, 53, 54, 55, 56, 8, 9, 57, 58, 59, 60, 10, 61, 62, 63, 64, 65, 66, 67, 68, 69, 70] (by decide +kernel) (by decide +kernel)
set_option maxRecDepth 20000 in
theorem gX5_readInto_X5_tell : GoodIn wsX5_readInto (wsV RX5 36 RX5 yX5_tell wsX5_tell) := goodIn_app (goodIn_of _ (by decide +kernel)) ggX5_readInto_X5_tell
theorem dX5_readInto_0 : decode cX5_readInto 0 = .ok (.aload_n 1, 1) := by decide +kernel
theorem dX5_readInto_1 : decode cX5_readInto 1 = .ok (.invokevirtual 23, 3) := by decide +kernel
theorem dX5_readInto_4 : decode cX5_readInto 4 = .ok (.iconst 0, 1) := by decide +kernel
theorem dX5_readInto_5 : decode cX5_readInto 5 = .ok (.istore_n 2, 1) := by decide +kernel
theorem dX5_readInto_6 : decode cX5_readInto 6 = .ok (.iconst 0, 1) := by decide +kernel
theorem dX5_readInto_7 : decode cX5_readInto 7 = .ok (.istore_n 3, 1) := by decide +kernel
theorem dX5_readInto_8 : decode cX5_readInto 8 = .ok (.iload_n 3, 1) := by decide +kernel
theorem dX5_readInto_9 : decode cX5_readInto 9 = .ok (.sipush 200, 3) := by decide +kernel
theorem dX5_readInto_12 : decode cX5_readInto 12 = .ok (.if_icmp .ge 48, 3) := by decide +kernel
theorem dX5_readInto_15 : decode cX5_readInto 15 = .ok (.iload_n 2, 1) := by decide +kernel
theorem dX5_readInto_16 : decode cX5_readInto 16 = .ok (.aload_n 0, 1) := by decide +kernel
theorem dX5_readInto_17 : decode cX5_readInto 17 = .ok (.getfield 19, 3) := by decide +kernel
theorem dX5_readInto_20 : decode cX5_readInto 20 = .ok (.if_icmp .ge 40, 3) := by decide +kernel
theorem dX5_readInto_23 : decode cX5_readInto 23 = .ok (.aload_n 0, 1) := by decide +kernel
theorem dX5_readInto_24 : decode cX5_readInto 24 = .ok (.iload_n 2, 1) := by decide +kernel
theorem dX5_readInto_25 : decode cX5_readInto 25 = .ok (.invokevirtual 28, 3) := by decide +kernel
theorem dX5_readInto_28 : decode cX5_readInto 28 = .ok (.istore 4, 2) := by decide +kernel
theorem dX5_readInto_30 : decode cX5_readInto 30 = .ok (.iload 4, 2) := by decide +kernel
theorem dX5_readInto_32 : decode cX5_readInto 32 = .ok (.iload_n 2, 1) := by decide +kernel
theorem dX5_readInto_33 : decode cX5_readInto 33 = .ok (.if_icmp .eq 16, 3) := by decide +kernel
theorem dX5_readInto_36 : decode cX5_readInto 36 = .ok (.aload_n 0, 1) := by decide +kernel
theorem dX5_readInto_37 : decode cX5_readInto 37 = .ok (.aload_n 0, 1) := by decide +kernel
theorem dX5_readInto_38 : decode cX5_readInto 38 = .ok (.iload_n 2, 1) := by decide +kernel
theorem dX5_readInto_39 : decode cX5_readInto 39 = .ok (.invokevirtual 32, 3) := by decide +kernel
theorem dX5_readInto_42 : decode cX5_readInto 42 = .ok (.aload_n 1, 1) := by decide +kernel
theorem dX5_readInto_43 : decode cX5_readInto 43 = .ok (.invokevirtual 36, 3) := by decide +kernel
theorem dX5_readInto_46 : decode cX5_readInto 46 = .ok (.ifCond .ne 5, 3) := by decide +kernel
theorem dX5_readInto_49 : decode cX5_readInto 49 = .ok (.iload_n 2, 1) := by decide +kernel
theorem dX5_readInto_50 : decode cX5_readInto 50 = .ok (.ireturn, 1) := by decide +kernel
theorem dX5_readInto_51 : decode cX5_readInto 51 = .ok (.iload 4, 2) := by decide +kernel
theorem dX5_readInto_53 : decode cX5_readInto 53 = .ok (.istore_n 2, 1) := by decide +kernel
theorem dX5_readInto_54 : decode cX5_readInto 54 = .ok (.iinc 3 1, 3) := by decide +kernel
theorem dX5_readInto_57 : decode cX5_readInto 57 = .ok (.goto (-49), 3) := by decide +kernel
theorem dX5_readInto_60 : decode cX5_readInto 60 = .ok (.bipush (-4), 2) := by decide +kernel
theorem dX5_readInto_62 : decode cX5_readInto 62 = .ok (.ireturn, 1) := by decide +kernel
set_option maxRecDepth 20000 in
theorem ggX5_endOfItem_X5_letterAt : GoodIn wsX5_endOfItem wsX5_letterAt := goodIn_r _ [6, 7, 8, 23, 24, 25] (by decide +kernel) (by decide +kernel)
set_option maxRecDepth 20000 in
theorem gX5_endOfItem_X5_letterAt : GoodIn wsX5_endOfItem (wsV RX5 32 RX5 yX5_letterAt wsX5_letterAt) := goodIn_app (goodIn_of _ (by decide +kernel)) ggX5_endOfItem_X5_letterAt
set_option maxRecDepth 20000 in
theorem ggX5_endOfItem_X5_numbersBehind : GoodIn wsX5_endOfItem wsX5_numbersBehind := goodIn_r _ [11] (by decide +kernel) (by decide +kernel)
set_option maxRecDepth 20000 in
theorem gX5_endOfItem_X5_numbersBehind : GoodIn wsX5_endOfItem (va_wsS RX5 40 yX5_numbersBehind wsX5_numbersBehind) := goodIn_app (goodIn_of _ (by decide +kernel)) ggX5_endOfItem_X5_numbersBehind
set_option maxRecDepth 20000 in
theorem ggX5_endOfItem_X5_endOfNumber : GoodIn wsX5_endOfItem wsX5_endOfNumber := goodIn_r _ [15, 2, 3, 4, 5, 6, 7, 8, 16, 17, 18, 23, 24, 25] (by decide +kernel) (by decide +kernel)
set_option maxRecDepth 20000 in
theorem gX5_endOfItem_X5_endOfNumber : GoodIn wsX5_endOfItem (wsV RX5 44 RX5 yX5_endOfNumber wsX5_endOfNumber) := goodIn_app (goodIn_of _ (by decide +kernel)) ggX5_endOfItem_X5_endOfNumber
set_option maxRecDepth 20000 in
theorem ggX5_endOfItem_X5_numberBetween : GoodIn wsX5_endOfItem wsX5_numberBetween := goodIn_r _ [22, 2, 3, 4, 5, 6, 7, 8, 23, 24, 25] (by decide +kernel) (by decide +kernel)
set_option maxRecDepth 20000 in
theorem gX5_endOfItem_X5_numberBetween : GoodIn wsX5_endOfItem (wsV RX5 47 RX5 yX5_numberBetween wsX5_numberBetween) := goodIn_app (goodIn_of _ (by decide +kernel)) ggX5_endOfItem_X5_numberBetween
theorem dX5_endOfItem_0 : decode cX5_endOfItem 0 = .ok (.aload_n 0, 1) := by decide +kernel
theorem dX5_endOfItem_1 : decode cX5_endOfItem 1 = .ok (.iload_n 1, 1) := by decide +kernel
theorem dX5_endOfItem_2 : decode cX5_endOfItem 2 = .ok (.invokevirtual 32, 3) := by decide +kernel
theorem dX5_endOfItem_5 : decode cX5_endOfItem 5 = .ok (.invokestatic 40, 3) := by decide +kernel
theorem dX5_endOfItem_8 : decode cX5_endOfItem 8 = .ok (.istore_n 2, 1) := by decide +kernel
theorem dX5_endOfItem_9 : decode cX5_endOfItem 9 = .ok (.iload_n 2, 1) := by decide +kernel
theorem dX5_endOfItem_10 : decode cX5_endOfItem 10 = .ok (.ifCond .ne 5, 3) := by decide +kernel
theorem dX5_endOfItem_13 : decode cX5_endOfItem 13 = .ok (.iload_n 1, 1) := by decide +kernel
theorem dX5_endOfItem_14 : decode cX5_endOfItem 14 = .ok (.ireturn, 1) := by decide +kernel
theorem dX5_endOfItem_15 : decode cX5_endOfItem 15 = .ok (.iload_n 1, 1) := by decide +kernel
theorem dX5_endOfItem_16 : decode cX5_endOfItem 16 = .ok (.iconst 1, 1) := by decide +kernel
theorem dX5_endOfItem_17 : decode cX5_endOfItem 17 = .ok (.iadd, 1) := by decide +kernel
theorem dX5_endOfItem_18 : decode cX5_endOfItem 18 = .ok (.istore_n 3, 1) := by decide +kernel
theorem dX5_endOfItem_19 : decode cX5_endOfItem 19 = .ok (.iconst 0, 1) := by decide +kernel
theorem dX5_endOfItem_20 : decode cX5_endOfItem 20 = .ok (.istore 4, 2) := by decide +kernel
theorem dX5_endOfItem_22 : decode cX5_endOfItem 22 = .ok (.iload 4, 2) := by decide +kernel
theorem dX5_endOfItem_24 : decode cX5_endOfItem 24 = .ok (.iload_n 2, 1) := by decide +kernel
theorem dX5_endOfItem_25 : decode cX5_endOfItem 25 = .ok (.if_icmp .ge 71, 3) := by decide +kernel
theorem dX5_endOfItem_28 : decode cX5_endOfItem 28 = .ok (.aload_n 0, 1) := by decide +kernel
theorem dX5_endOfItem_29 : decode cX5_endOfItem 29 = .ok (.iload_n 3, 1) := by decide +kernel
theorem dX5_endOfItem_30 : decode cX5_endOfItem 30 = .ok (.invokevirtual 44, 3) := by decide +kernel
theorem dX5_endOfItem_33 : decode cX5_endOfItem 33 = .ok (.istore 5, 2) := by decide +kernel
theorem dX5_endOfItem_35 : decode cX5_endOfItem 35 = .ok (.iload 4, 2) := by decide +kernel
theorem dX5_endOfItem_37 : decode cX5_endOfItem 37 = .ok (.iconst 1, 1) := by decide +kernel
theorem dX5_endOfItem_38 : decode cX5_endOfItem 38 = .ok (.iadd, 1) := by decide +kernel
theorem dX5_endOfItem_39 : decode cX5_endOfItem 39 = .ok (.iload_n 2, 1) := by decide +kernel
theorem dX5_endOfItem_40 : decode cX5_endOfItem 40 = .ok (.if_icmp .ge 8, 3) := by decide +kernel
theorem dX5_endOfItem_43 : decode cX5_endOfItem 43 = .ok (.bipush 44, 2) := by decide +kernel
theorem dX5_endOfItem_45 : decode cX5_endOfItem 45 = .ok (.goto 5, 3) := by decide +kernel
theorem dX5_endOfItem_48 : decode cX5_endOfItem 48 = .ok (.bipush 59, 2) := by decide +kernel
theorem dX5_endOfItem_50 : decode cX5_endOfItem 50 = .ok (.istore 6, 2) := by decide +kernel
theorem dX5_endOfItem_52 : decode cX5_endOfItem 52 = .ok (.iload 5, 2) := by decide +kernel
theorem dX5_endOfItem_54 : decode cX5_endOfItem 54 = .ok (.iload_n 3, 1) := by decide +kernel
theorem dX5_endOfItem_55 : decode cX5_endOfItem 55 = .ok (.if_icmp .eq 14, 3) := by decide +kernel
theorem dX5_endOfItem_58 : decode cX5_endOfItem 58 = .ok (.aload_n 0, 1) := by decide +kernel
theorem dX5_endOfItem_59 : decode cX5_endOfItem 59 = .ok (.iload 5, 2) := by decide +kernel
theorem dX5_endOfItem_61 : decode cX5_endOfItem 61 = .ok (.invokevirtual 32, 3) := by decide +kernel
theorem dX5_endOfItem_64 : decode cX5_endOfItem 64 = .ok (.iload 6, 2) := by decide +kernel
theorem dX5_endOfItem_66 : decode cX5_endOfItem 66 = .ok (.if_icmp .eq 5, 3) := by decide +kernel
theorem dX5_endOfItem_69 : decode cX5_endOfItem 69 = .ok (.iload_n 1, 1) := by decide +kernel
theorem dX5_endOfItem_70 : decode cX5_endOfItem 70 = .ok (.ireturn, 1) := by decide +kernel
theorem dX5_endOfItem_71 : decode cX5_endOfItem 71 = .ok (.aload_n 0, 1) := by decide +kernel
theorem dX5_endOfItem_72 : decode cX5_endOfItem 72 = .ok (.getfield 15, 3) := by decide +kernel
theorem dX5_endOfItem_75 : decode cX5_endOfItem 75 = .ok (.iload 4, 2) := by decide +kernel
theorem dX5_endOfItem_77 : decode cX5_endOfItem 77 = .ok (.aload_n 0, 1) := by decide +kernel
theorem dX5_endOfItem_78 : decode cX5_endOfItem 78 = .ok (.iload_n 3, 1) := by decide +kernel
theorem dX5_endOfItem_79 : decode cX5_endOfItem 79 = .ok (.iload 5, 2) := by decide +kernel
theorem dX5_endOfItem_81 : decode cX5_endOfItem 81 = .ok (.invokevirtual 47, 3) := by decide +kernel
theorem dX5_endOfItem_84 : decode cX5_endOfItem 84 = .ok (.iastore, 1) := by decide +kernel
theorem dX5_endOfItem_85 : decode cX5_endOfItem 85 = .ok (.iload 5, 2) := by decide +kernel
theorem dX5_endOfItem_87 : decode cX5_endOfItem 87 = .ok (.iconst 1, 1) := by decide +kernel
theorem dX5_endOfItem_88 : decode cX5_endOfItem 88 = .ok (.iadd, 1) := by decide +kernel
theorem dX5_endOfItem_89 : decode cX5_endOfItem 89 = .ok (.istore_n 3, 1) := by decide +kernel
theorem dX5_endOfItem_90 : decode cX5_endOfItem 90 = .ok (.iinc 4 1, 3) := by decide +kernel
theorem dX5_endOfItem_93 : decode cX5_endOfItem 93 = .ok (.goto (-71), 3) := by decide +kernel
theorem dX5_endOfItem_96 : decode cX5_endOfItem 96 = .ok (.iload_n 3, 1) := by decide +kernel
theorem dX5_endOfItem_97 : decode cX5_endOfItem 97 = .ok (.ireturn, 1) := by decide +kernel
theorem dX5_numbersBehind_0 : decode cX5_numbersBehind 0 = .ok (.iload_n 0, 1) := by decide +kernel
theorem dX5_numbersBehind_1 : decode cX5_numbersBehind 1 = .ok (.bipush 112, 2) := by decide +kernel
theorem dX5_numbersBehind_3 : decode cX5_numbersBehind 3 = .ok (.if_icmp .ne 5, 3) := by decide +kernel
theorem dX5_numbersBehind_6 : decode cX5_numbersBehind 6 = .ok (.iconst 3, 1) := by decide +kernel
theorem dX5_numbersBehind_7 : decode cX5_numbersBehind 7 = .ok (.ireturn, 1) := by decide +kernel
theorem dX5_numbersBehind_8 : decode cX5_numbersBehind 8 = .ok (.iload_n 0, 1) := by decide +kernel
theorem dX5_numbersBehind_9 : decode cX5_numbersBehind 9 = .ok (.bipush 115, 2) := by decide +kernel
theorem dX5_numbersBehind_11 : decode cX5_numbersBehind 11 = .ok (.if_icmp .ne 5, 3) := by decide +kernel
theorem dX5_numbersBehind_14 : decode cX5_numbersBehind 14 = .ok (.iconst 2, 1) := by decide +kernel
theorem dX5_numbersBehind_15 : decode cX5_numbersBehind 15 = .ok (.ireturn, 1) := by decide +kernel
theorem dX5_numbersBehind_16 : decode cX5_numbersBehind 16 = .ok (.iload_n 0, 1) := by decide +kernel
theorem dX5_numbersBehind_17 : decode cX5_numbersBehind 17 = .ok (.bipush 100, 2) := by decide +kernel
theorem dX5_numbersBehind_19 : decode cX5_numbersBehind 19 = .ok (.if_icmp .ne 7, 3) := by decide +kernel
theorem dX5_numbersBehind_22 : decode cX5_numbersBehind 22 = .ok (.iconst 1, 1) := by decide +kernel
theorem dX5_numbersBehind_23 : decode cX5_numbersBehind 23 = .ok (.goto 4, 3) := by decide +kernel
theorem dX5_numbersBehind_26 : decode cX5_numbersBehind 26 = .ok (.iconst 0, 1) := by decide +kernel
theorem dX5_numbersBehind_27 : decode cX5_numbersBehind 27 = .ok (.ireturn, 1) := by decide +kernel
set_option maxRecDepth 20000 in
theorem ggX5_endOfNumber_X5_letterAt : GoodIn wsX5_endOfNumber wsX5_letterAt := goodIn_r _ [5, 6, 7, 11, 12, 13] (by decide +kernel) (by decide +kernel)
set_option maxRecDepth 20000 in
theorem gX5_endOfNumber_X5_letterAt : GoodIn wsX5_endOfNumber (wsV RX5 32 RX5 yX5_letterAt wsX5_letterAt) := goodIn_app (goodIn_of _ (by decide +kernel)) ggX5_endOfNumber_X5_letterAt
set_option maxRecDepth 20000 in
theorem ggX5_endOfNumber_X5_isFigure : GoodIn wsX5_endOfNumber wsX5_isFigure := goodIn_r _ [10] (by decide +kernel) (by decide +kernel)
set_option maxRecDepth 20000 in
theorem gX5_endOfNumber_X5_isFigure : GoodIn wsX5_endOfNumber (va_wsS RX5 51 yX5_isFigure wsX5_isFigure) := goodIn_app (goodIn_of _ (by decide +kernel)) ggX5_endOfNumber_X5_isFigure
theorem dX5_endOfNumber_0 : decode cX5_endOfNumber 0 = .ok (.iload_n 1, 1) := by decide +kernel
theorem dX5_endOfNumber_1 : decode cX5_endOfNumber 1 = .ok (.istore_n 2, 1) := by decide +kernel
theorem dX5_endOfNumber_2 : decode cX5_endOfNumber 2 = .ok (.iload_n 2, 1) := by decide +kernel
theorem dX5_endOfNumber_3 : decode cX5_endOfNumber 3 = .ok (.iload_n 1, 1) := by decide +kernel
theorem dX5_endOfNumber_4 : decode cX5_endOfNumber 4 = .ok (.iconst 2, 1) := by decide +kernel
theorem dX5_endOfNumber_5 : decode cX5_endOfNumber 5 = .ok (.iadd, 1) := by decide +kernel
theorem dX5_endOfNumber_6 : decode cX5_endOfNumber 6 = .ok (.if_icmp .ge 20, 3) := by decide +kernel
theorem dX5_endOfNumber_9 : decode cX5_endOfNumber 9 = .ok (.aload_n 0, 1) := by decide +kernel
theorem dX5_endOfNumber_10 : decode cX5_endOfNumber 10 = .ok (.iload_n 2, 1) := by decide +kernel
theorem dX5_endOfNumber_11 : decode cX5_endOfNumber 11 = .ok (.invokevirtual 32, 3) := by decide +kernel
theorem dX5_endOfNumber_14 : decode cX5_endOfNumber 14 = .ok (.invokestatic 51, 3) := by decide +kernel
theorem dX5_endOfNumber_17 : decode cX5_endOfNumber 17 = .ok (.ifCond .eq 9, 3) := by decide +kernel
theorem dX5_endOfNumber_20 : decode cX5_endOfNumber 20 = .ok (.iinc 2 1, 3) := by decide +kernel
theorem dX5_endOfNumber_23 : decode cX5_endOfNumber 23 = .ok (.goto (-21), 3) := by decide +kernel
theorem dX5_endOfNumber_26 : decode cX5_endOfNumber 26 = .ok (.iload_n 2, 1) := by decide +kernel
theorem dX5_endOfNumber_27 : decode cX5_endOfNumber 27 = .ok (.ireturn, 1) := by decide +kernel
set_option maxRecDepth 20000 in
theorem ggX5_numberBetween_X5_letterAt : GoodIn wsX5_numberBetween wsX5_letterAt := goodIn_r _ [5, 6, 7, 8, 9, 10] (by decide +kernel) (by decide +kernel)
set_option maxRecDepth 20000 in
theorem gX5_numberBetween_X5_letterAt : GoodIn wsX5_numberBetween (wsV RX5 32 RX5 yX5_letterAt wsX5_letterAt) := goodIn_app (goodIn_of _ (by decide +kernel)) ggX5_numberBetween_X5_letterAt
theorem dX5_numberBetween_0 : decode cX5_numberBetween 0 = .ok (.iconst 0, 1) := by decide +kernel
theorem dX5_numberBetween_1 : decode cX5_numberBetween 1 = .ok (.istore_n 3, 1) := by decide +kernel
theorem dX5_numberBetween_2 : decode cX5_numberBetween 2 = .ok (.iload_n 1, 1) := by decide +kernel
theorem dX5_numberBetween_3 : decode cX5_numberBetween 3 = .ok (.istore 4, 2) := by decide +kernel
theorem dX5_numberBetween_5 : decode cX5_numberBetween 5 = .ok (.iload 4, 2) := by decide +kernel
theorem dX5_numberBetween_7 : decode cX5_numberBetween 7 = .ok (.iload_n 2, 1) := by decide +kernel
theorem dX5_numberBetween_8 : decode cX5_numberBetween 8 = .ok (.if_icmp .ge 24, 3) := by decide +kernel
theorem dX5_numberBetween_11 : decode cX5_numberBetween 11 = .ok (.iload_n 3, 1) := by decide +kernel
theorem dX5_numberBetween_12 : decode cX5_numberBetween 12 = .ok (.bipush 10, 2) := by decide +kernel
theorem dX5_numberBetween_14 : decode cX5_numberBetween 14 = .ok (.imul, 1) := by decide +kernel
theorem dX5_numberBetween_15 : decode cX5_numberBetween 15 = .ok (.aload_n 0, 1) := by decide +kernel
theorem dX5_numberBetween_16 : decode cX5_numberBetween 16 = .ok (.iload 4, 2) := by decide +kernel
theorem dX5_numberBetween_18 : decode cX5_numberBetween 18 = .ok (.invokevirtual 32, 3) := by decide +kernel
theorem dX5_numberBetween_21 : decode cX5_numberBetween 21 = .ok (.bipush 48, 2) := by decide +kernel
theorem dX5_numberBetween_23 : decode cX5_numberBetween 23 = .ok (.isub, 1) := by decide +kernel
theorem dX5_numberBetween_24 : decode cX5_numberBetween 24 = .ok (.iadd, 1) := by decide +kernel
theorem dX5_numberBetween_25 : decode cX5_numberBetween 25 = .ok (.istore_n 3, 1) := by decide +kernel
theorem dX5_numberBetween_26 : decode cX5_numberBetween 26 = .ok (.iinc 4 1, 3) := by decide +kernel
theorem dX5_numberBetween_29 : decode cX5_numberBetween 29 = .ok (.goto (-24), 3) := by decide +kernel
theorem dX5_numberBetween_32 : decode cX5_numberBetween 32 = .ok (.iload_n 3, 1) := by decide +kernel
theorem dX5_numberBetween_33 : decode cX5_numberBetween 33 = .ok (.ireturn, 1) := by decide +kernel
theorem dX5_isFigure_0 : decode cX5_isFigure 0 = .ok (.iload_n 0, 1) := by decide +kernel
theorem dX5_isFigure_1 : decode cX5_isFigure 1 = .ok (.bipush 48, 2) := by decide +kernel
theorem dX5_isFigure_3 : decode cX5_isFigure 3 = .ok (.if_icmp .lt 13, 3) := by decide +kernel
theorem dX5_isFigure_6 : decode cX5_isFigure 6 = .ok (.iload_n 0, 1) := by decide +kernel
theorem dX5_isFigure_7 : decode cX5_isFigure 7 = .ok (.bipush 57, 2) := by decide +kernel
theorem dX5_isFigure_9 : decode cX5_isFigure 9 = .ok (.if_icmp .gt 7, 3) := by decide +kernel
theorem dX5_isFigure_12 : decode cX5_isFigure 12 = .ok (.iconst 1, 1) := by decide +kernel
theorem dX5_isFigure_13 : decode cX5_isFigure 13 = .ok (.goto 4, 3) := by decide +kernel
theorem dX5_isFigure_16 : decode cX5_isFigure 16 = .ok (.iconst 0, 1) := by decide +kernel
theorem dX5_isFigure_17 : decode cX5_isFigure 17 = .ok (.ireturn, 1) := by decide +kernel
theorem dX5_letterAt_0 : decode cX5_letterAt 0 = .ok (.iload_n 1, 1) := by decide +kernel
theorem dX5_letterAt_1 : decode cX5_letterAt 1 = .ok (.ifCond .lt 20, 3) := by decide +kernel
theorem dX5_letterAt_4 : decode cX5_letterAt 4 = .ok (.iload_n 1, 1) := by decide +kernel
theorem dX5_letterAt_5 : decode cX5_letterAt 5 = .ok (.aload_n 0, 1) := by decide +kernel
theorem dX5_letterAt_6 : decode cX5_letterAt 6 = .ok (.getfield 19, 3) := by decide +kernel
theorem dX5_letterAt_9 : decode cX5_letterAt 9 = .ok (.if_icmp .ge 12, 3) := by decide +kernel
theorem dX5_letterAt_12 : decode cX5_letterAt 12 = .ok (.aload_n 0, 1) := by decide +kernel
theorem dX5_letterAt_13 : decode cX5_letterAt 13 = .ok (.getfield 9, 3) := by decide +kernel
theorem dX5_letterAt_16 : decode cX5_letterAt 16 = .ok (.iload_n 1, 1) := by decide +kernel
theorem dX5_letterAt_17 : decode cX5_letterAt 17 = .ok (.caload, 1) := by decide +kernel
theorem dX5_letterAt_18 : decode cX5_letterAt 18 = .ok (.goto 4, 3) := by decide +kernel
theorem dX5_letterAt_21 : decode cX5_letterAt 21 = .ok (.iconst 0, 1) := by decide +kernel
theorem dX5_letterAt_22 : decode cX5_letterAt 22 = .ok (.ireturn, 1) := by decide +kernel
set_option maxRecDepth 20000 in
theorem ggX5_tell_X3_append : GoodIn wsX5_tell wsX3_append := goodIn_r _ [6, 7, 8, 9, 10, 11, 12, 13, 14, 15, 16, 31, 32, 33, 34, 35, 36, 37] (by decide +kernel) (by decide +kernel)
set_option maxRecDepth 20000 in
theorem gX5_tell_X3_append : GoodIn wsX5_tell (wsV RX5 55 RX3 yX3_append wsX3_append) := goodIn_app (goodIn_of _ (by decide +kernel)) ggX5_tell_X3_append
set_option maxRecDepth 20000 in
theorem ggX5_tell_X3_setPaces : GoodIn wsX5_tell wsX3_setPaces := goodIn_r _ [20, 21, 22, 15, 12, 16, 31, 32, 33, 34, 35, 36, 37] (by decide +kernel) (by decide +kernel)
set_option maxRecDepth 20000 in
theorem gX5_tell_X3_setPaces : GoodIn wsX5_tell (wsV RX5 59 RX3 yX3_setPaces wsX3_setPaces) := goodIn_app (goodIn_of _ (by decide +kernel)) ggX5_tell_X3_setPaces
set_option maxRecDepth 20000 in
theorem ggX5_tell_X3_setSteps : GoodIn wsX5_tell wsX3_setSteps := goodIn_r _ [26, 27, 15, 12, 16, 31, 32, 33, 34, 35, 36, 37] (by decide +kernel) (by decide +kernel)
set_option maxRecDepth 20000 in
theorem gX5_tell_X3_setSteps : GoodIn wsX5_tell (wsV RX5 63 RX3 yX3_setSteps wsX3_setSteps) := goodIn_app (goodIn_of _ (by decide +kernel)) ggX5_tell_X3_setSteps
theorem dX5_tell_0 : decode cX5_tell 0 = .ok (.iload_n 1, 1) := by decide +kernel
theorem dX5_tell_1 : decode cX5_tell 1 = .ok (.bipush 112, 2) := by decide +kernel
theorem dX5_tell_3 : decode cX5_tell 3 = .ok (.if_icmp .ne 26, 3) := by decide +kernel
theorem dX5_tell_6 : decode cX5_tell 6 = .ok (.aload_n 2, 1) := by decide +kernel
theorem dX5_tell_7 : decode cX5_tell 7 = .ok (.aload_n 0, 1) := by decide +kernel
theorem dX5_tell_8 : decode cX5_tell 8 = .ok (.getfield 15, 3) := by decide +kernel
theorem dX5_tell_11 : decode cX5_tell 11 = .ok (.iconst 0, 1) := by decide +kernel
theorem dX5_tell_12 : decode cX5_tell 12 = .ok (.iaload, 1) := by decide +kernel
theorem dX5_tell_13 : decode cX5_tell 13 = .ok (.aload_n 0, 1) := by decide +kernel
theorem dX5_tell_14 : decode cX5_tell 14 = .ok (.getfield 15, 3) := by decide +kernel
theorem dX5_tell_17 : decode cX5_tell 17 = .ok (.iconst 1, 1) := by decide +kernel
theorem dX5_tell_18 : decode cX5_tell 18 = .ok (.iaload, 1) := by decide +kernel
theorem dX5_tell_19 : decode cX5_tell 19 = .ok (.aload_n 0, 1) := by decide +kernel
theorem dX5_tell_20 : decode cX5_tell 20 = .ok (.getfield 15, 3) := by decide +kernel
theorem dX5_tell_23 : decode cX5_tell 23 = .ok (.iconst 2, 1) := by decide +kernel
theorem dX5_tell_24 : decode cX5_tell 24 = .ok (.iaload, 1) := by decide +kernel
theorem dX5_tell_25 : decode cX5_tell 25 = .ok (.invokevirtual 55, 3) := by decide +kernel
theorem dX5_tell_28 : decode cX5_tell 28 = .ok (.ireturn, 1) := by decide +kernel
theorem dX5_tell_29 : decode cX5_tell 29 = .ok (.iload_n 1, 1) := by decide +kernel
theorem dX5_tell_30 : decode cX5_tell 30 = .ok (.bipush 115, 2) := by decide +kernel
theorem dX5_tell_32 : decode cX5_tell 32 = .ok (.if_icmp .ne 20, 3) := by decide +kernel
theorem dX5_tell_35 : decode cX5_tell 35 = .ok (.aload_n 2, 1) := by decide +kernel
theorem dX5_tell_36 : decode cX5_tell 36 = .ok (.aload_n 0, 1) := by decide +kernel
theorem dX5_tell_37 : decode cX5_tell 37 = .ok (.getfield 15, 3) := by decide +kernel
theorem dX5_tell_40 : decode cX5_tell 40 = .ok (.iconst 0, 1) := by decide +kernel
theorem dX5_tell_41 : decode cX5_tell 41 = .ok (.iaload, 1) := by decide +kernel
theorem dX5_tell_42 : decode cX5_tell 42 = .ok (.aload_n 0, 1) := by decide +kernel
theorem dX5_tell_43 : decode cX5_tell 43 = .ok (.getfield 15, 3) := by decide +kernel
theorem dX5_tell_46 : decode cX5_tell 46 = .ok (.iconst 1, 1) := by decide +kernel
theorem dX5_tell_47 : decode cX5_tell 47 = .ok (.iaload, 1) := by decide +kernel
theorem dX5_tell_48 : decode cX5_tell 48 = .ok (.invokevirtual 59, 3) := by decide +kernel
theorem dX5_tell_51 : decode cX5_tell 51 = .ok (.ireturn, 1) := by decide +kernel
theorem dX5_tell_52 : decode cX5_tell 52 = .ok (.iload_n 1, 1) := by decide +kernel
theorem dX5_tell_53 : decode cX5_tell 53 = .ok (.bipush 100, 2) := by decide +kernel
theorem dX5_tell_55 : decode cX5_tell 55 = .ok (.if_icmp .ne 20, 3) := by decide +kernel
theorem dX5_tell_58 : decode cX5_tell 58 = .ok (.aload_n 2, 1) := by decide +kernel
theorem dX5_tell_59 : decode cX5_tell 59 = .ok (.aload_n 0, 1) := by decide +kernel
theorem dX5_tell_60 : decode cX5_tell 60 = .ok (.getfield 15, 3) := by decide +kernel
theorem dX5_tell_63 : decode cX5_tell 63 = .ok (.iconst 0, 1) := by decide +kernel
theorem dX5_tell_64 : decode cX5_tell 64 = .ok (.iaload, 1) := by decide +kernel
theorem dX5_tell_65 : decode cX5_tell 65 = .ok (.invokevirtual 63, 3) := by decide +kernel
theorem dX5_tell_68 : decode cX5_tell 68 = .ok (.ifCond .eq 7, 3) := by decide +kernel
theorem dX5_tell_71 : decode cX5_tell 71 = .ok (.iconst 1, 1) := by decide +kernel
theorem dX5_tell_72 : decode cX5_tell 72 = .ok (.goto 4, 3) := by decide +kernel
theorem dX5_tell_75 : decode cX5_tell 75 = .ok (.iconst 0, 1) := by decide +kernel
theorem dX5_tell_76 : decode cX5_tell 76 = .ok (.ireturn, 1) := by decide +kernel
set_option maxRecDepth 20000 in
theorem ggX6_init_X5_init : GoodIn wsX6_init wsX5_init := goodIn_r _ [32, 33, 2, 3, 34, 35, 36, 37, 183, 184, 185] (by decide +kernel) (by decide +kernel)
set_option maxRecDepth 20000 in
theorem gX6_init_X5_init_n9 : GoodIn wsX6_init (wsX5_init) := ggX6_init_X5_init
set_option maxRecDepth 20000 in
theorem ggX6_init_X3_init : GoodIn wsX6_init wsX3_init := goodIn_r _ [39, 40, 2, 3, 36, 41, 42, 43, 44, 45, 46, 194, 195, 196, 197, 198, 199, 200] (by decide +kernel) (by decide +kernel)
set_option maxRecDepth 20000 in
theorem gX6_init_X3_init_n18 : GoodIn wsX6_init (wsX3_init) := ggX6_init_X3_init
set_option maxRecDepth 20000 in
theorem ggX6_init_X1_init : GoodIn wsX6_init wsX1_init := goodIn_r _ [49, 50, 2, 3, 51, 52, 53, 54, 55, 56, 9, 10, 38, 39, 40, 36, 41, 42, 43, 44, 45, 46, 201, 202, 194, 195, 196, 197, 198, 199, 200] (by decide +kernel) (by decide +kernel)
set_option maxRecDepth 20000 in
theorem gX6_init_X1_init : GoodIn wsX6_init (wsX1_init) := ggX6_init_X1_init
set_option maxRecDepth 20000 in
theorem ggX6_init_X4_init : GoodIn wsX6_init wsX4_init := goodIn_r _ [58, 59, 2, 3, 36, 60, 61, 203, 204, 205] (by decide +kernel) (by decide +kernel)
set_option maxRecDepth 20000 in
theorem gX6_init_X4_init_n40 : GoodIn wsX6_init (wsX4_init) := ggX6_init_X4_init
set_option maxRecDepth 20000 in
theorem ggX6_init_X0_init : GoodIn wsX6_init wsX0_init := goodIn_r _ [63, 64, 2, 3, 36, 65, 66, 67, 68, 69, 70, 206, 207, 208, 209, 210, 211, 212, 213] (by decide +kernel) (by decide +kernel)
set_option maxRecDepth 20000 in
theorem gX6_init_X0_init_n47 : GoodIn wsX6_init (wsX0_init) := ggX6_init_X0_init
set_option maxRecDepth 20000 in
theorem ggX6_init_X2_init : GoodIn wsX6_init wsX2_init := goodIn_r _ [72, 73, 2, 3, 74, 23, 24, 75, 62, 63, 64, 36, 65, 66, 67, 68, 69, 70, 206, 207, 208, 209, 210, 211, 212, 213, 214, 215, 216] (by decide +kernel) (by decide +kernel)
set_option maxRecDepth 20000 in
theorem gX6_init_X2_init_n54 : GoodIn wsX6_init (wsX2_init) := ggX6_init_X2_init
set_option maxRecDepth 20000 in
theorem ggX6_init_J0_length_8abf5 : GoodIn wsX6_init wsJ0_length_8abf5 := goodIn_r _ [80, 81, 82, 83, 84, 79, 85, 86, 87] (by decide +kernel) (by decide +kernel)
set_option maxRecDepth 20000 in
theorem gX6_init_J0_length_8abf5 : GoodIn wsX6_init (wsV RX6 61 RJ0 yJ0_length_8abf5 wsJ0_length_8abf5) := goodIn_app (goodIn_of _ (by decide +kernel)) ggX6_init_J0_length_8abf5
set_option maxRecDepth 20000 in
theorem ggX6_init_J0_charAt_5068e : GoodIn wsX6_init wsJ0_charAt_5068e := goodIn_r _ [91, 81, 92, 93, 94, 79, 95, 86, 87, 96, 97, 98, 99, 100, 101, 102, 103, 104, 105, 106, 107, 108, 109, 110, 111, 112, 113, 114, 115, 116, 117, 118, 119, 120, 121, 122, 123, 124] (by decide +kernel) (by decide +kernel)
set_option maxRecDepth 20000 in
theorem gX6_init_J0_charAt_5068e : GoodIn wsX6_init (wsV RX6 67 RJ0 yJ0_charAt_5068e wsJ0_charAt_5068e) := goodIn_app (goodIn_of _ (by decide +kernel)) ggX6_init_J0_charAt_5068e
set_option maxRecDepth 20000 in
theorem ggX6_init_X5_append : GoodIn wsX6_init wsX5_append := goodIn_r _ [128, 129, 35, 183, 184, 185] (by decide +kernel) (by decide +kernel)
set_option maxRecDepth 20000 in
theorem gX6_init_X5_append : GoodIn wsX6_init (wsV RX6 71 RX5 yX5_append wsX5_append) := goodIn_app (goodIn_of _ (by decide +kernel)) ggX6_init_X5_append
set_option maxRecDepth 20000 in
theorem ggX6_init_X5_readInto : GoodIn wsX6_init wsX5_readInto := goodIn_r _ [133, 129, 134, 135, 136, 10, 137, 138, 44, 45, 46, 139, 140, 141, 6, 142, 37, 143, 144, 145, 146, 35, 147, 148, 149, 150, 151, 152, 153, 154, 155, 156, 157, 158, 159, 160, 161, 162, 163, 164, 165, 166, 167, 168, 41, 42, 43, 169, 170, 171, 172, 173, 174, 175, 176, 177, 178, 179, 180, 181, 182, 183, 184, 185, 194, 195, 196, 197, 198, 199, 200] (by decide +kernel) (by decide +kernel)
set_option maxRecDepth 20000 in
theorem gX6_init_X5_readInto : GoodIn wsX6_init (wsV RX6 75 RX5 yX5_readInto wsX5_readInto) := goodIn_app (goodIn_of _ (by decide +kernel)) ggX6_init_X5_readInto
theorem dX6_init_0 : decode cX6_init 0 = .ok (.aload_n 0, 1) := by decide +kernel
theorem dX6_init_1 : decode cX6_init 1 = .ok (.invokespecial 1, 3) := by decide +kernel
theorem dX6_init_4 : decode cX6_init 4 = .ok (.aload_n 0, 1) := by decide +kernel
theorem dX6_init_5 : decode cX6_init 5 = .ok (.new 7, 3) := by decide +kernel
theorem dX6_init_8 : decode cX6_init 8 = .ok (.dup, 1) := by decide +kernel
theorem dX6_init_9 : decode cX6_init 9 = .ok (.invokespecial 9, 3) := by decide +kernel
theorem dX6_init_12 : decode cX6_init 12 = .ok (.putfield 10, 3) := by decide +kernel
theorem dX6_init_15 : decode cX6_init 15 = .ok (.aload_n 0, 1) := by decide +kernel
theorem dX6_init_16 : decode cX6_init 16 = .ok (.new 16, 3) := by decide +kernel
theorem dX6_init_19 : decode cX6_init 19 = .ok (.dup, 1) := by decide +kernel
theorem dX6_init_20 : decode cX6_init 20 = .ok (.invokespecial 18, 3) := by decide +kernel
theorem dX6_init_23 : decode cX6_init 23 = .ok (.putfield 19, 3) := by decide +kernel
theorem dX6_init_26 : decode cX6_init 26 = .ok (.aload_n 0, 1) := by decide +kernel
theorem dX6_init_27 : decode cX6_init 27 = .ok (.new 16, 3) := by decide +kernel
theorem dX6_init_30 : decode cX6_init 30 = .ok (.dup, 1) := by decide +kernel
theorem dX6_init_31 : decode cX6_init 31 = .ok (.invokespecial 18, 3) := by decide +kernel
theorem dX6_init_34 : decode cX6_init 34 = .ok (.putfield 23, 3) := by decide +kernel
theorem dX6_init_37 : decode cX6_init 37 = .ok (.aload_n 0, 1) := by decide +kernel
theorem dX6_init_38 : decode cX6_init 38 = .ok (.new 26, 3) := by decide +kernel
theorem dX6_init_41 : decode cX6_init 41 = .ok (.dup, 1) := by decide +kernel
theorem dX6_init_42 : decode cX6_init 42 = .ok (.bipush 8, 2) := by decide +kernel
theorem dX6_init_44 : decode cX6_init 44 = .ok (.invokespecial 28, 3) := by decide +kernel
theorem dX6_init_47 : decode cX6_init 47 = .ok (.putfield 31, 3) := by decide +kernel
theorem dX6_init_50 : decode cX6_init 50 = .ok (.aload_n 0, 1) := by decide +kernel
theorem dX6_init_51 : decode cX6_init 51 = .ok (.new 26, 3) := by decide +kernel
theorem dX6_init_54 : decode cX6_init 54 = .ok (.dup, 1) := by decide +kernel
theorem dX6_init_55 : decode cX6_init 55 = .ok (.iconst 2, 1) := by decide +kernel
theorem dX6_init_56 : decode cX6_init 56 = .ok (.invokespecial 28, 3) := by decide +kernel
theorem dX6_init_59 : decode cX6_init 59 = .ok (.putfield 35, 3) := by decide +kernel
theorem dX6_init_62 : decode cX6_init 62 = .ok (.aload_n 0, 1) := by decide +kernel
theorem dX6_init_63 : decode cX6_init 63 = .ok (.new 38, 3) := by decide +kernel
theorem dX6_init_66 : decode cX6_init 66 = .ok (.dup, 1) := by decide +kernel
theorem dX6_init_67 : decode cX6_init 67 = .ok (.invokespecial 40, 3) := by decide +kernel
theorem dX6_init_70 : decode cX6_init 70 = .ok (.putfield 41, 3) := by decide +kernel
theorem dX6_init_73 : decode cX6_init 73 = .ok (.aload_n 0, 1) := by decide +kernel
theorem dX6_init_74 : decode cX6_init 74 = .ok (.new 45, 3) := by decide +kernel
theorem dX6_init_77 : decode cX6_init 77 = .ok (.dup, 1) := by decide +kernel
theorem dX6_init_78 : decode cX6_init 78 = .ok (.invokespecial 47, 3) := by decide +kernel
theorem dX6_init_81 : decode cX6_init 81 = .ok (.putfield 48, 3) := by decide +kernel
theorem dX6_init_84 : decode cX6_init 84 = .ok (.aload_n 0, 1) := by decide +kernel
theorem dX6_init_85 : decode cX6_init 85 = .ok (.new 52, 3) := by decide +kernel
theorem dX6_init_88 : decode cX6_init 88 = .ok (.dup, 1) := by decide +kernel
theorem dX6_init_89 : decode cX6_init 89 = .ok (.invokespecial 54, 3) := by decide +kernel
theorem dX6_init_92 : decode cX6_init 92 = .ok (.putfield 55, 3) := by decide +kernel
theorem dX6_init_95 : decode cX6_init 95 = .ok (.iconst 0, 1) := by decide +kernel
theorem dX6_init_96 : decode cX6_init 96 = .ok (.istore_n 1, 1) := by decide +kernel
theorem dX6_init_97 : decode cX6_init 97 = .ok (.iload_n 1, 1) := by decide +kernel
theorem dX6_init_98 : decode cX6_init 98 = .ok (.ldc 59, 2) := by decide +kernel
theorem dX6_init_100 : decode cX6_init 100 = .ok (.invokevirtual 61, 3) := by decide +kernel
theorem dX6_init_103 : decode cX6_init 103 = .ok (.if_icmp .ge 23, 3) := by decide +kernel
theorem dX6_init_106 : decode cX6_init 106 = .ok (.aload_n 0, 1) := by decide +kernel
theorem dX6_init_107 : decode cX6_init 107 = .ok (.getfield 10, 3) := by decide +kernel
theorem dX6_init_110 : decode cX6_init 110 = .ok (.ldc 59, 2) := by decide +kernel
theorem dX6_init_112 : decode cX6_init 112 = .ok (.iload_n 1, 1) := by decide +kernel
theorem dX6_init_113 : decode cX6_init 113 = .ok (.invokevirtual 67, 3) := by decide +kernel
theorem dX6_init_116 : decode cX6_init 116 = .ok (.invokevirtual 71, 3) := by decide +kernel
theorem dX6_init_119 : decode cX6_init 119 = .ok (.pop, 1) := by decide +kernel
theorem dX6_init_120 : decode cX6_init 120 = .ok (.iinc 1 1, 3) := by decide +kernel
theorem dX6_init_123 : decode cX6_init 123 = .ok (.goto (-26), 3) := by decide +kernel
theorem dX6_init_126 : decode cX6_init 126 = .ok (.aload_n 0, 1) := by decide +kernel
theorem dX6_init_127 : decode cX6_init 127 = .ok (.getfield 10, 3) := by decide +kernel
theorem dX6_init_130 : decode cX6_init 130 = .ok (.aload_n 0, 1) := by decide +kernel
theorem dX6_init_131 : decode cX6_init 131 = .ok (.getfield 19, 3) := by decide +kernel
theorem dX6_init_134 : decode cX6_init 134 = .ok (.invokevirtual 75, 3) := by decide +kernel
theorem dX6_init_137 : decode cX6_init 137 = .ok (.pop, 1) := by decide +kernel
theorem dX6_init_138 : decode cX6_init 138 = .ok (.aload_n 0, 1) := by decide +kernel
theorem dX6_init_139 : decode cX6_init 139 = .ok (.getfield 10, 3) := by decide +kernel
theorem dX6_init_142 : decode cX6_init 142 = .ok (.iconst 0, 1) := by decide +kernel
theorem dX6_init_143 : decode cX6_init 143 = .ok (.putfield 79, 3) := by decide +kernel
theorem dX6_init_146 : decode cX6_init 146 = .ok (.return_, 1) := by decide +kernel
set_option maxRecDepth 20000 in
theorem ggX6_write_X6_within : GoodIn wsX6_write wsX6_within := goodIn_r _ [6] (by decide +kernel) (by decide +kernel)
set_option maxRecDepth 20000 in
theorem gX6_write_X6_within : GoodIn wsX6_write (va_wsS RX6 82 yX6_within wsX6_within) := goodIn_app (goodIn_of _ (by decide +kernel)) ggX6_write_X6_within
set_option maxRecDepth 20000 in
theorem ggX6_write_X5_append : GoodIn wsX6_write wsX5_append := goodIn_r _ [11, 12, 13, 22, 23, 24] (by decide +kernel) (by decide +kernel)
set_option maxRecDepth 20000 in
theorem gX6_write_X5_append : GoodIn wsX6_write (wsV RX6 71 RX5 yX5_append wsX5_append) := goodIn_app (goodIn_of _ (by decide +kernel)) ggX6_write_X5_append
theorem dX6_write_0 : decode cX6_write 0 = .ok (.iload_n 1, 1) := by decide +kernel
theorem dX6_write_1 : decode cX6_write 1 = .ok (.bipush 32, 2) := by decide +kernel
theorem dX6_write_3 : decode cX6_write 3 = .ok (.bipush 126, 2) := by decide +kernel
theorem dX6_write_5 : decode cX6_write 5 = .ok (.invokestatic 82, 3) := by decide +kernel
theorem dX6_write_8 : decode cX6_write 8 = .ok (.ifCond .ne 5, 3) := by decide +kernel
theorem dX6_write_11 : decode cX6_write 11 = .ok (.iconst (-1), 1) := by decide +kernel
theorem dX6_write_12 : decode cX6_write 12 = .ok (.ireturn, 1) := by decide +kernel
theorem dX6_write_13 : decode cX6_write 13 = .ok (.aload_n 0, 1) := by decide +kernel
theorem dX6_write_14 : decode cX6_write 14 = .ok (.getfield 10, 3) := by decide +kernel
theorem dX6_write_17 : decode cX6_write 17 = .ok (.iload_n 1, 1) := by decide +kernel
theorem dX6_write_18 : decode cX6_write 18 = .ok (.i2c, 1) := by decide +kernel
theorem dX6_write_19 : decode cX6_write 19 = .ok (.invokevirtual 71, 3) := by decide +kernel
theorem dX6_write_22 : decode cX6_write 22 = .ok (.ifCond .eq 13, 3) := by decide +kernel
theorem dX6_write_25 : decode cX6_write 25 = .ok (.aload_n 0, 1) := by decide +kernel
theorem dX6_write_26 : decode cX6_write 26 = .ok (.getfield 10, 3) := by decide +kernel
theorem dX6_write_29 : decode cX6_write 29 = .ok (.getfield 79, 3) := by decide +kernel
theorem dX6_write_32 : decode cX6_write 32 = .ok (.goto 5, 3) := by decide +kernel
theorem dX6_write_35 : decode cX6_write 35 = .ok (.bipush (-3), 2) := by decide +kernel
theorem dX6_write_37 : decode cX6_write 37 = .ok (.ireturn, 1) := by decide +kernel
theorem dX6_wipe_0 : decode cX6_wipe 0 = .ok (.aload_n 0, 1) := by decide +kernel
theorem dX6_wipe_1 : decode cX6_wipe 1 = .ok (.getfield 10, 3) := by decide +kernel
theorem dX6_wipe_4 : decode cX6_wipe 4 = .ok (.getfield 79, 3) := by decide +kernel
theorem dX6_wipe_7 : decode cX6_wipe 7 = .ok (.istore_n 1, 1) := by decide +kernel
theorem dX6_wipe_8 : decode cX6_wipe 8 = .ok (.aload_n 0, 1) := by decide +kernel
theorem dX6_wipe_9 : decode cX6_wipe 9 = .ok (.getfield 10, 3) := by decide +kernel
theorem dX6_wipe_12 : decode cX6_wipe 12 = .ok (.iconst 0, 1) := by decide +kernel
theorem dX6_wipe_13 : decode cX6_wipe 13 = .ok (.putfield 79, 3) := by decide +kernel
theorem dX6_wipe_16 : decode cX6_wipe 16 = .ok (.iload_n 1, 1) := by decide +kernel
theorem dX6_wipe_17 : decode cX6_wipe 17 = .ok (.ireturn, 1) := by decide +kernel
set_option maxRecDepth 20000 in
theorem ggX6_fault_X5_readInto : GoodIn wsX6_fault wsX5_readInto := goodIn_r _ [7, 8, 9, 10, 11, 12, 13, 14, 15, 16, 17, 18, 19, 20, 6, 21, 22, 23, 24, 25, 26, 27, 28, 29, 30, 31, 32, 33, 34, 35, 36, 37, 38, 39, 40, 41, 42, 43, 44, 45, 46, 47, 48, 49, 50, 51, 52, 53, 54, 55, 56, 57, 58, 59, 60, 61, 62, 63, 64, 65, 66, 75, 76, 77, 78, 79, 80, 81, 82, 83, 84] (by decide +kernel) (by decide +kernel)
set_option maxRecDepth 20000 in
theorem gX6_fault_X5_readInto : GoodIn wsX6_fault (wsV RX6 75 RX5 yX5_readInto wsX5_readInto) := goodIn_app (goodIn_of _ (by decide +kernel)) ggX6_fault_X5_readInto
theorem dX6_fault_0 : decode cX6_fault 0 = .ok (.aload_n 0, 1) := by decide +kernel
theorem dX6_fault_1 : decode cX6_fault 1 = .ok (.getfield 10, 3) := by decide +kernel
theorem dX6_fault_4 : decode cX6_fault 4 = .ok (.aload_n 0, 1) := by decide +kernel
theorem dX6_fault_5 : decode cX6_fault 5 = .ok (.getfield 23, 3) := by decide +kernel
theorem dX6_fault_8 : decode cX6_fault 8 = .ok (.invokevirtual 75, 3) := by decide +kernel
theorem dX6_fault_11 : decode cX6_fault 11 = .ok (.ireturn, 1) := by decide +kernel
set_option maxRecDepth 20000 in
theorem ggX6_lay_X5_readInto : GoodIn wsX6_lay wsX5_readInto := goodIn_r _ [14, 15, 16, 17, 18, 19, 20, 21, 22, 23, 24, 25, 26, 27, 13, 28, 29, 30, 31, 32, 33, 34, 35, 36, 37, 38, 39, 40, 41, 42, 43, 44, 45, 46, 47, 48, 49, 50, 51, 52, 53, 54, 55, 56, 57, 58, 59, 60, 61, 62, 63, 64, 65, 66, 67, 68, 69, 70, 71, 72, 73, 98, 99, 100, 86, 87, 88, 89, 90, 91, 92] (by decide +kernel) (by decide +kernel)
set_option maxRecDepth 20000 in
theorem gX6_lay_X5_readInto : GoodIn wsX6_lay (wsV RX6 75 RX5 yX5_readInto wsX5_readInto) := goodIn_app (goodIn_of _ (by decide +kernel)) ggX6_lay_X5_readInto
set_option maxRecDepth 20000 in
theorem ggX6_lay_X3_becomeLike : GoodIn wsX6_lay wsX3_becomeLike := goodIn_r _ [77, 21, 22, 23, 24, 57, 58, 59, 86, 87, 88, 89, 90, 91, 92] (by decide +kernel) (by decide +kernel)
set_option maxRecDepth 20000 in
theorem gX6_lay_X3_becomeLike : GoodIn wsX6_lay (wsV RX6 89 RX3 yX3_becomeLike wsX3_becomeLike) := goodIn_app (goodIn_of _ (by decide +kernel)) ggX6_lay_X3_becomeLike
theorem dX6_lay_0 : decode cX6_lay 0 = .ok (.aload_n 0, 1) := by decide +kernel
theorem dX6_lay_1 : decode cX6_lay 1 = .ok (.getfield 10, 3) := by decide +kernel
theorem dX6_lay_4 : decode cX6_lay 4 = .ok (.aload_n 0, 1) := by decide +kernel
theorem dX6_lay_5 : decode cX6_lay 5 = .ok (.getfield 23, 3) := by decide +kernel
theorem dX6_lay_8 : decode cX6_lay 8 = .ok (.invokevirtual 75, 3) := by decide +kernel
theorem dX6_lay_11 : decode cX6_lay 11 = .ok (.bipush (-4), 2) := by decide +kernel
theorem dX6_lay_13 : decode cX6_lay 13 = .ok (.if_icmp .ne 13, 3) := by decide +kernel
theorem dX6_lay_16 : decode cX6_lay 16 = .ok (.aload_n 0, 1) := by decide +kernel
theorem dX6_lay_17 : decode cX6_lay 17 = .ok (.getfield 23, 3) := by decide +kernel
theorem dX6_lay_20 : decode cX6_lay 20 = .ok (.getfield 86, 3) := by decide +kernel
theorem dX6_lay_23 : decode cX6_lay 23 = .ok (.ifCond .ne 6, 3) := by decide +kernel
theorem dX6_lay_26 : decode cX6_lay 26 = .ok (.bipush (-2), 2) := by decide +kernel
theorem dX6_lay_28 : decode cX6_lay 28 = .ok (.ireturn, 1) := by decide +kernel
theorem dX6_lay_29 : decode cX6_lay 29 = .ok (.aload_n 0, 1) := by decide +kernel
theorem dX6_lay_30 : decode cX6_lay 30 = .ok (.getfield 19, 3) := by decide +kernel
theorem dX6_lay_33 : decode cX6_lay 33 = .ok (.aload_n 0, 1) := by decide +kernel
theorem dX6_lay_34 : decode cX6_lay 34 = .ok (.getfield 23, 3) := by decide +kernel
theorem dX6_lay_37 : decode cX6_lay 37 = .ok (.invokevirtual 89, 3) := by decide +kernel
theorem dX6_lay_40 : decode cX6_lay 40 = .ok (.aload_n 0, 1) := by decide +kernel
theorem dX6_lay_41 : decode cX6_lay 41 = .ok (.getfield 41, 3) := by decide +kernel
theorem dX6_lay_44 : decode cX6_lay 44 = .ok (.iconst 0, 1) := by decide +kernel
theorem dX6_lay_45 : decode cX6_lay 45 = .ok (.putfield 93, 3) := by decide +kernel
theorem dX6_lay_48 : decode cX6_lay 48 = .ok (.aload_n 0, 1) := by decide +kernel
theorem dX6_lay_49 : decode cX6_lay 49 = .ok (.getfield 31, 3) := by decide +kernel
theorem dX6_lay_52 : decode cX6_lay 52 = .ok (.iconst 0, 1) := by decide +kernel
theorem dX6_lay_53 : decode cX6_lay 53 = .ok (.putfield 94, 3) := by decide +kernel
theorem dX6_lay_56 : decode cX6_lay 56 = .ok (.aload_n 0, 1) := by decide +kernel
theorem dX6_lay_57 : decode cX6_lay 57 = .ok (.getfield 35, 3) := by decide +kernel
theorem dX6_lay_60 : decode cX6_lay 60 = .ok (.iconst 0, 1) := by decide +kernel
theorem dX6_lay_61 : decode cX6_lay 61 = .ok (.putfield 94, 3) := by decide +kernel
theorem dX6_lay_64 : decode cX6_lay 64 = .ok (.aload_n 0, 1) := by decide +kernel
theorem dX6_lay_65 : decode cX6_lay 65 = .ok (.getfield 19, 3) := by decide +kernel
theorem dX6_lay_68 : decode cX6_lay 68 = .ok (.getfield 86, 3) := by decide +kernel
theorem dX6_lay_71 : decode cX6_lay 71 = .ok (.ireturn, 1) := by decide +kernel
set_option maxRecDepth 20000 in
theorem ggX6_person_X3_has : GoodIn wsX6_person wsX3_has := goodIn_r _ [9, 10, 26, 27, 28, 29, 30, 31, 32] (by decide +kernel) (by decide +kernel)
set_option maxRecDepth 20000 in
theorem gX6_person_X3_has : GoodIn wsX6_person (wsV RX6 97 RX3 yX3_has wsX3_has) := goodIn_app (goodIn_of _ (by decide +kernel)) ggX6_person_X3_has
set_option maxRecDepth 20000 in
theorem ggX6_person_X3_walk : GoodIn wsX6_person wsX3_walk := goodIn_r _ [14, 15, 16, 10, 17, 6, 7, 8, 9, 26, 27, 28, 29, 30, 31, 32] (by decide +kernel) (by decide +kernel)
set_option maxRecDepth 20000 in
theorem gX6_person_X3_walk : GoodIn wsX6_person (wsV RX6 111 RX3 yX3_walk wsX3_walk) := goodIn_app (goodIn_of _ (by decide +kernel)) ggX6_person_X3_walk
theorem dX6_person_0 : decode cX6_person 0 = .ok (.aload_n 0, 1) := by decide +kernel
theorem dX6_person_1 : decode cX6_person 1 = .ok (.getfield 19, 3) := by decide +kernel
theorem dX6_person_4 : decode cX6_person 4 = .ok (.iload_n 1, 1) := by decide +kernel
theorem dX6_person_5 : decode cX6_person 5 = .ok (.invokevirtual 97, 3) := by decide +kernel
theorem dX6_person_8 : decode cX6_person 8 = .ok (.ifCond .ne 5, 3) := by decide +kernel
theorem dX6_person_11 : decode cX6_person 11 = .ok (.iconst (-1), 1) := by decide +kernel
theorem dX6_person_12 : decode cX6_person 12 = .ok (.ireturn, 1) := by decide +kernel
theorem dX6_person_13 : decode cX6_person 13 = .ok (.iload_n 2, 1) := by decide +kernel
theorem dX6_person_14 : decode cX6_person 14 = .ok (.tableswitch 69 0 3 #[30, 40, 50, 60], 30) := by decide +kernel
theorem dX6_person_44 : decode cX6_person 44 = .ok (.aload_n 0, 1) := by decide +kernel
theorem dX6_person_45 : decode cX6_person 45 = .ok (.getfield 19, 3) := by decide +kernel
theorem dX6_person_48 : decode cX6_person 48 = .ok (.getfield 101, 3) := by decide +kernel
theorem dX6_person_51 : decode cX6_person 51 = .ok (.iload_n 1, 1) := by decide +kernel
theorem dX6_person_52 : decode cX6_person 52 = .ok (.iaload, 1) := by decide +kernel
theorem dX6_person_53 : decode cX6_person 53 = .ok (.ireturn, 1) := by decide +kernel
theorem dX6_person_54 : decode cX6_person 54 = .ok (.aload_n 0, 1) := by decide +kernel
theorem dX6_person_55 : decode cX6_person 55 = .ok (.getfield 19, 3) := by decide +kernel
theorem dX6_person_58 : decode cX6_person 58 = .ok (.getfield 105, 3) := by decide +kernel
theorem dX6_person_61 : decode cX6_person 61 = .ok (.iload_n 1, 1) := by decide +kernel
theorem dX6_person_62 : decode cX6_person 62 = .ok (.iaload, 1) := by decide +kernel
theorem dX6_person_63 : decode cX6_person 63 = .ok (.ireturn, 1) := by decide +kernel
theorem dX6_person_64 : decode cX6_person 64 = .ok (.aload_n 0, 1) := by decide +kernel
theorem dX6_person_65 : decode cX6_person 65 = .ok (.getfield 19, 3) := by decide +kernel
theorem dX6_person_68 : decode cX6_person 68 = .ok (.getfield 108, 3) := by decide +kernel
theorem dX6_person_71 : decode cX6_person 71 = .ok (.iload_n 1, 1) := by decide +kernel
theorem dX6_person_72 : decode cX6_person 72 = .ok (.iaload, 1) := by decide +kernel
theorem dX6_person_73 : decode cX6_person 73 = .ok (.ireturn, 1) := by decide +kernel
theorem dX6_person_74 : decode cX6_person 74 = .ok (.aload_n 0, 1) := by decide +kernel
theorem dX6_person_75 : decode cX6_person 75 = .ok (.getfield 19, 3) := by decide +kernel
theorem dX6_person_78 : decode cX6_person 78 = .ok (.iload_n 1, 1) := by decide +kernel
theorem dX6_person_79 : decode cX6_person 79 = .ok (.invokevirtual 111, 3) := by decide +kernel
theorem dX6_person_82 : decode cX6_person 82 = .ok (.ireturn, 1) := by decide +kernel
theorem dX6_person_83 : decode cX6_person 83 = .ok (.iconst (-1), 1) := by decide +kernel
theorem dX6_person_84 : decode cX6_person 84 = .ok (.ireturn, 1) := by decide +kernel
set_option maxRecDepth 20000 in
theorem ggX6_come_X6_isPerson : GoodIn wsX6_come wsX6_isPerson := goodIn_r _ [6, 7, 8, 5, 9] (by decide +kernel) (by decide +kernel)
set_option maxRecDepth 20000 in
theorem gX6_come_X6_isPerson : GoodIn wsX6_come (va_wsS RX6 115 yX6_isPerson wsX6_isPerson) := goodIn_app (goodIn_of _ (by decide +kernel)) ggX6_come_X6_isPerson
set_option maxRecDepth 20000 in
theorem ggX6_come_X6_beforeRowChanges : GoodIn wsX6_come wsX6_beforeRowChanges := goodIn_r _ [13, 14, 1, 15, 16, 17, 18, 19, 20, 21, 22, 23, 24, 25, 26, 27, 28, 29, 30, 31, 32, 33, 34, 35, 36, 37, 38, 39, 44, 45, 46, 47, 48, 49, 50, 51, 59, 60, 61, 62, 63, 52, 53, 54, 55, 56, 57, 58] (by decide +kernel) (by decide +kernel)
set_option maxRecDepth 20000 in
theorem gX6_come_X6_beforeRowChanges : GoodIn wsX6_come (wsV RX6 118 RX6 yX6_beforeRowChanges wsX6_beforeRowChanges) := goodIn_app (goodIn_of _ (by decide +kernel)) ggX6_come_X6_beforeRowChanges
set_option maxRecDepth 20000 in
theorem ggX6_come_X3_append : GoodIn wsX6_come wsX3_append := goodIn_r _ [43, 33, 37, 38, 39, 4, 5, 6, 7, 8, 9, 52, 53, 54, 55, 56, 57, 58] (by decide +kernel) (by decide +kernel)
set_option maxRecDepth 20000 in
theorem gX6_come_X3_append : GoodIn wsX6_come (wsV RX6 121 RX3 yX3_append wsX3_append) := goodIn_app (goodIn_of _ (by decide +kernel)) ggX6_come_X3_append
theorem dX6_come_0 : decode cX6_come 0 = .ok (.iload_n 1, 1) := by decide +kernel
theorem dX6_come_1 : decode cX6_come 1 = .ok (.iload_n 2, 1) := by decide +kernel
theorem dX6_come_2 : decode cX6_come 2 = .ok (.iload_n 3, 1) := by decide +kernel
theorem dX6_come_3 : decode cX6_come 3 = .ok (.invokestatic 115, 3) := by decide +kernel
theorem dX6_come_6 : decode cX6_come 6 = .ok (.ifCond .ne 5, 3) := by decide +kernel
theorem dX6_come_9 : decode cX6_come 9 = .ok (.iconst (-1), 1) := by decide +kernel
theorem dX6_come_10 : decode cX6_come 10 = .ok (.ireturn, 1) := by decide +kernel
theorem dX6_come_11 : decode cX6_come 11 = .ok (.aload_n 0, 1) := by decide +kernel
theorem dX6_come_12 : decode cX6_come 12 = .ok (.getfield 19, 3) := by decide +kernel
theorem dX6_come_15 : decode cX6_come 15 = .ok (.getfield 86, 3) := by decide +kernel
theorem dX6_come_18 : decode cX6_come 18 = .ok (.bipush 8, 2) := by decide +kernel
theorem dX6_come_20 : decode cX6_come 20 = .ok (.if_icmp .lt 6, 3) := by decide +kernel
theorem dX6_come_23 : decode cX6_come 23 = .ok (.bipush (-3), 2) := by decide +kernel
theorem dX6_come_25 : decode cX6_come 25 = .ok (.ireturn, 1) := by decide +kernel
theorem dX6_come_26 : decode cX6_come 26 = .ok (.aload_n 0, 1) := by decide +kernel
theorem dX6_come_27 : decode cX6_come 27 = .ok (.invokevirtual 118, 3) := by decide +kernel
theorem dX6_come_30 : decode cX6_come 30 = .ok (.aload_n 0, 1) := by decide +kernel
theorem dX6_come_31 : decode cX6_come 31 = .ok (.getfield 19, 3) := by decide +kernel
theorem dX6_come_34 : decode cX6_come 34 = .ok (.iload_n 1, 1) := by decide +kernel
theorem dX6_come_35 : decode cX6_come 35 = .ok (.iload_n 2, 1) := by decide +kernel
theorem dX6_come_36 : decode cX6_come 36 = .ok (.iload_n 3, 1) := by decide +kernel
theorem dX6_come_37 : decode cX6_come 37 = .ok (.invokevirtual 121, 3) := by decide +kernel
theorem dX6_come_40 : decode cX6_come 40 = .ok (.pop, 1) := by decide +kernel
theorem dX6_come_41 : decode cX6_come 41 = .ok (.aload_n 0, 1) := by decide +kernel
theorem dX6_come_42 : decode cX6_come 42 = .ok (.getfield 19, 3) := by decide +kernel
theorem dX6_come_45 : decode cX6_come 45 = .ok (.getfield 86, 3) := by decide +kernel
theorem dX6_come_48 : decode cX6_come 48 = .ok (.ireturn, 1) := by decide +kernel
set_option maxRecDepth 20000 in
theorem ggX6_leave_X3_has : GoodIn wsX6_leave wsX3_has := goodIn_r _ [7, 8, 51, 52, 53, 54, 55, 56, 57] (by decide +kernel) (by decide +kernel)
set_option maxRecDepth 20000 in
theorem gX6_leave_X3_has : GoodIn wsX6_leave (wsV RX6 97 RX3 yX3_has wsX3_has) := goodIn_app (goodIn_of _ (by decide +kernel)) ggX6_leave_X3_has
set_option maxRecDepth 20000 in
theorem ggX6_leave_X6_beforeRowChanges : GoodIn wsX6_leave wsX6_beforeRowChanges := goodIn_r _ [13, 14, 1, 15, 16, 17, 18, 19, 20, 21, 22, 23, 24, 25, 26, 27, 28, 29, 30, 6, 31, 8, 32, 33, 34, 35, 36, 37, 43, 44, 45, 46, 47, 48, 49, 50, 58, 59, 60, 61, 62, 51, 52, 53, 54, 55, 56, 57] (by decide +kernel) (by decide +kernel)
set_option maxRecDepth 20000 in
theorem gX6_leave_X6_beforeRowChanges : GoodIn wsX6_leave (wsV RX6 118 RX6 yX6_beforeRowChanges wsX6_beforeRowChanges) := goodIn_app (goodIn_of _ (by decide +kernel)) ggX6_leave_X6_beforeRowChanges
set_option maxRecDepth 20000 in
theorem ggX6_leave_X3_removeAt : GoodIn wsX6_leave wsX3_removeAt := goodIn_r _ [41, 8, 35, 36, 37, 42, 4, 5, 6, 7, 51, 52, 53, 54, 55, 56, 57] (by decide +kernel) (by decide +kernel)
set_option maxRecDepth 20000 in
theorem gX6_leave_X3_removeAt : GoodIn wsX6_leave (wsV RX6 123 RX3 yX3_removeAt wsX3_removeAt) := goodIn_app (goodIn_of _ (by decide +kernel)) ggX6_leave_X3_removeAt
theorem dX6_leave_0 : decode cX6_leave 0 = .ok (.aload_n 0, 1) := by decide +kernel
theorem dX6_leave_1 : decode cX6_leave 1 = .ok (.getfield 19, 3) := by decide +kernel
theorem dX6_leave_4 : decode cX6_leave 4 = .ok (.iload_n 1, 1) := by decide +kernel
theorem dX6_leave_5 : decode cX6_leave 5 = .ok (.invokevirtual 97, 3) := by decide +kernel
theorem dX6_leave_8 : decode cX6_leave 8 = .ok (.ifCond .ne 5, 3) := by decide +kernel
theorem dX6_leave_11 : decode cX6_leave 11 = .ok (.iconst (-1), 1) := by decide +kernel
theorem dX6_leave_12 : decode cX6_leave 12 = .ok (.ireturn, 1) := by decide +kernel
theorem dX6_leave_13 : decode cX6_leave 13 = .ok (.aload_n 0, 1) := by decide +kernel
theorem dX6_leave_14 : decode cX6_leave 14 = .ok (.invokevirtual 118, 3) := by decide +kernel
theorem dX6_leave_17 : decode cX6_leave 17 = .ok (.aload_n 0, 1) := by decide +kernel
theorem dX6_leave_18 : decode cX6_leave 18 = .ok (.getfield 19, 3) := by decide +kernel
theorem dX6_leave_21 : decode cX6_leave 21 = .ok (.iload_n 1, 1) := by decide +kernel
theorem dX6_leave_22 : decode cX6_leave 22 = .ok (.invokevirtual 123, 3) := by decide +kernel
theorem dX6_leave_25 : decode cX6_leave 25 = .ok (.aload_n 0, 1) := by decide +kernel
theorem dX6_leave_26 : decode cX6_leave 26 = .ok (.getfield 19, 3) := by decide +kernel
theorem dX6_leave_29 : decode cX6_leave 29 = .ok (.getfield 86, 3) := by decide +kernel
theorem dX6_leave_32 : decode cX6_leave 32 = .ok (.ireturn, 1) := by decide +kernel
set_option maxRecDepth 20000 in
theorem ggX6_pass_X6_within : GoodIn wsX6_pass wsX6_within := goodIn_r _ [6] (by decide +kernel) (by decide +kernel)
set_option maxRecDepth 20000 in
theorem gX6_pass_X6_within : GoodIn wsX6_pass (va_wsS RX6 82 yX6_within wsX6_within) := goodIn_app (goodIn_of _ (by decide +kernel)) ggX6_pass_X6_within
set_option maxRecDepth 20000 in
theorem ggX6_pass_X6_beforeRowChanges : GoodIn wsX6_pass wsX6_beforeRowChanges := goodIn_r _ [10, 11, 1, 12, 13, 14, 15, 16, 17, 18, 19, 20, 21, 22, 23, 24, 25, 26, 27, 28, 29, 30, 31, 32, 33, 34, 35, 36, 53, 54, 55, 56, 57, 58, 59, 60, 68, 69, 70, 71, 72, 61, 62, 63, 64, 65, 66, 67] (by decide +kernel) (by decide +kernel)
set_option maxRecDepth 20000 in
theorem gX6_pass_X6_beforeRowChanges : GoodIn wsX6_pass (wsV RX6 118 RX6 yX6_beforeRowChanges wsX6_beforeRowChanges) := goodIn_app (goodIn_of _ (by decide +kernel)) ggX6_pass_X6_beforeRowChanges
set_option maxRecDepth 20000 in
theorem ggX6_pass_X3_letGoBy : GoodIn wsX6_pass wsX3_letGoBy := goodIn_r _ [40, 30, 35, 41, 42, 43, 28, 44, 31, 45, 46, 47, 48, 34, 36, 49, 50, 51, 52, 61, 62, 63, 64, 65, 66, 67] (by decide +kernel) (by decide +kernel)
set_option maxRecDepth 20000 in
theorem gX6_pass_X3_letGoBy : GoodIn wsX6_pass (wsV RX6 126 RX3 yX3_letGoBy wsX3_letGoBy) := goodIn_app (goodIn_of _ (by decide +kernel)) ggX6_pass_X3_letGoBy
theorem dX6_pass_0 : decode cX6_pass 0 = .ok (.iload_n 1, 1) := by decide +kernel
theorem dX6_pass_1 : decode cX6_pass 1 = .ok (.iconst 1, 1) := by decide +kernel
theorem dX6_pass_2 : decode cX6_pass 2 = .ok (.sipush 200, 3) := by decide +kernel
theorem dX6_pass_5 : decode cX6_pass 5 = .ok (.invokestatic 82, 3) := by decide +kernel
theorem dX6_pass_8 : decode cX6_pass 8 = .ok (.ifCond .ne 5, 3) := by decide +kernel
theorem dX6_pass_11 : decode cX6_pass 11 = .ok (.iconst (-1), 1) := by decide +kernel
theorem dX6_pass_12 : decode cX6_pass 12 = .ok (.ireturn, 1) := by decide +kernel
theorem dX6_pass_13 : decode cX6_pass 13 = .ok (.aload_n 0, 1) := by decide +kernel
theorem dX6_pass_14 : decode cX6_pass 14 = .ok (.invokevirtual 118, 3) := by decide +kernel
theorem dX6_pass_17 : decode cX6_pass 17 = .ok (.aload_n 0, 1) := by decide +kernel
theorem dX6_pass_18 : decode cX6_pass 18 = .ok (.getfield 19, 3) := by decide +kernel
theorem dX6_pass_21 : decode cX6_pass 21 = .ok (.iload_n 1, 1) := by decide +kernel
theorem dX6_pass_22 : decode cX6_pass 22 = .ok (.invokevirtual 126, 3) := by decide +kernel
theorem dX6_pass_25 : decode cX6_pass 25 = .ok (.pop, 1) := by decide +kernel
theorem dX6_pass_26 : decode cX6_pass 26 = .ok (.aload_n 0, 1) := by decide +kernel
theorem dX6_pass_27 : decode cX6_pass 27 = .ok (.getfield 19, 3) := by decide +kernel
theorem dX6_pass_30 : decode cX6_pass 30 = .ok (.getfield 86, 3) := by decide +kernel
theorem dX6_pass_33 : decode cX6_pass 33 = .ok (.ireturn, 1) := by decide +kernel
set_option maxRecDepth 20000 in
theorem ggX6_slow_X6_within : GoodIn wsX6_slow wsX6_within := goodIn_r _ [7] (by decide +kernel) (by decide +kernel)
set_option maxRecDepth 20000 in
theorem gX6_slow_X6_within : GoodIn wsX6_slow (va_wsS RX6 82 yX6_within wsX6_within) := goodIn_app (goodIn_of _ (by decide +kernel)) ggX6_slow_X6_within
set_option maxRecDepth 20000 in
theorem ggX6_slow_X1_putDroppingOldest : GoodIn wsX6_slow wsX1_putDroppingOldest := goodIn_r _ [12, 13, 14, 15, 16, 17, 11, 18, 19, 20, 21, 22, 23, 24, 25, 26, 27, 28, 29, 30, 46, 47, 39, 40, 41, 42, 43, 44, 45] (by decide +kernel) (by decide +kernel)
set_option maxRecDepth 20000 in
theorem gX6_slow_X1_putDroppingOldest : GoodIn wsX6_slow (wsV RX6 132 RX1 yX1_putDroppingOldest wsX1_putDroppingOldest) := goodIn_app (goodIn_of _ (by decide +kernel)) ggX6_slow_X1_putDroppingOldest
theorem dX6_slow_0 : decode cX6_slow 0 = .ok (.iload_n 1, 1) := by decide +kernel
theorem dX6_slow_1 : decode cX6_slow 1 = .ok (.iconst 1, 1) := by decide +kernel
theorem dX6_slow_2 : decode cX6_slow 2 = .ok (.bipush 9, 2) := by decide +kernel
theorem dX6_slow_4 : decode cX6_slow 4 = .ok (.invokestatic 82, 3) := by decide +kernel
theorem dX6_slow_7 : decode cX6_slow 7 = .ok (.ifCond .ne 5, 3) := by decide +kernel
theorem dX6_slow_10 : decode cX6_slow 10 = .ok (.iconst (-1), 1) := by decide +kernel
theorem dX6_slow_11 : decode cX6_slow 11 = .ok (.ireturn, 1) := by decide +kernel
theorem dX6_slow_12 : decode cX6_slow 12 = .ok (.aload_n 0, 1) := by decide +kernel
theorem dX6_slow_13 : decode cX6_slow 13 = .ok (.getfield 19, 3) := by decide +kernel
theorem dX6_slow_16 : decode cX6_slow 16 = .ok (.getfield 129, 3) := by decide +kernel
theorem dX6_slow_19 : decode cX6_slow 19 = .ok (.istore_n 2, 1) := by decide +kernel
theorem dX6_slow_20 : decode cX6_slow 20 = .ok (.aload_n 0, 1) := by decide +kernel
theorem dX6_slow_21 : decode cX6_slow 21 = .ok (.getfield 31, 3) := by decide +kernel
theorem dX6_slow_24 : decode cX6_slow 24 = .ok (.aload_n 0, 1) := by decide +kernel
theorem dX6_slow_25 : decode cX6_slow 25 = .ok (.getfield 19, 3) := by decide +kernel
theorem dX6_slow_28 : decode cX6_slow 28 = .ok (.invokevirtual 132, 3) := by decide +kernel
theorem dX6_slow_31 : decode cX6_slow 31 = .ok (.aload_n 0, 1) := by decide +kernel
theorem dX6_slow_32 : decode cX6_slow 32 = .ok (.getfield 19, 3) := by decide +kernel
theorem dX6_slow_35 : decode cX6_slow 35 = .ok (.iload_n 1, 1) := by decide +kernel
theorem dX6_slow_36 : decode cX6_slow 36 = .ok (.putfield 129, 3) := by decide +kernel
theorem dX6_slow_39 : decode cX6_slow 39 = .ok (.iload_n 2, 1) := by decide +kernel
theorem dX6_slow_40 : decode cX6_slow 40 = .ok (.ireturn, 1) := by decide +kernel
set_option maxRecDepth 20000 in
theorem ggX6_undo_X1_takeInto : GoodIn wsX6_undo wsX1_takeInto := goodIn_r _ [10, 11, 12, 13, 14, 15, 16, 17, 18, 19, 20, 21, 22, 23, 24, 36, 37, 38, 39, 40, 41, 42, 43, 44] (by decide +kernel) (by decide +kernel)
set_option maxRecDepth 20000 in
theorem gX6_undo_X1_takeInto : GoodIn wsX6_undo (wsV RX6 135 RX1 yX1_takeInto wsX1_takeInto) := goodIn_app (goodIn_of _ (by decide +kernel)) ggX6_undo_X1_takeInto
theorem dX6_undo_0 : decode cX6_undo 0 = .ok (.aload_n 0, 1) := by decide +kernel
theorem dX6_undo_1 : decode cX6_undo 1 = .ok (.getfield 31, 3) := by decide +kernel
theorem dX6_undo_4 : decode cX6_undo 4 = .ok (.aload_n 0, 1) := by decide +kernel
theorem dX6_undo_5 : decode cX6_undo 5 = .ok (.getfield 19, 3) := by decide +kernel
theorem dX6_undo_8 : decode cX6_undo 8 = .ok (.invokevirtual 135, 3) := by decide +kernel
theorem dX6_undo_11 : decode cX6_undo 11 = .ok (.ifCond .ne 6, 3) := by decide +kernel
theorem dX6_undo_14 : decode cX6_undo 14 = .ok (.bipush (-2), 2) := by decide +kernel
theorem dX6_undo_16 : decode cX6_undo 16 = .ok (.ireturn, 1) := by decide +kernel
theorem dX6_undo_17 : decode cX6_undo 17 = .ok (.aload_n 0, 1) := by decide +kernel
theorem dX6_undo_18 : decode cX6_undo 18 = .ok (.getfield 41, 3) := by decide +kernel
theorem dX6_undo_21 : decode cX6_undo 21 = .ok (.iconst 0, 1) := by decide +kernel
theorem dX6_undo_22 : decode cX6_undo 22 = .ok (.putfield 93, 3) := by decide +kernel
theorem dX6_undo_25 : decode cX6_undo 25 = .ok (.aload_n 0, 1) := by decide +kernel
theorem dX6_undo_26 : decode cX6_undo 26 = .ok (.getfield 31, 3) := by decide +kernel
theorem dX6_undo_29 : decode cX6_undo 29 = .ok (.getfield 94, 3) := by decide +kernel
theorem dX6_undo_32 : decode cX6_undo 32 = .ok (.ireturn, 1) := by decide +kernel
set_option maxRecDepth 20000 in
theorem ggX6_beforeRowChanges_X1_putDroppingOldest : GoodIn wsX6_beforeRowChanges wsX1_putDroppingOldest := goodIn_r _ [9, 10, 11, 12, 13, 14, 8, 15, 16, 17, 18, 19, 20, 21, 22, 23, 24, 25, 26, 27, 39, 40, 41, 42, 43, 44, 45, 46, 47] (by decide +kernel) (by decide +kernel)
set_option maxRecDepth 20000 in
theorem gX6_beforeRowChanges_X1_putDroppingOldest : GoodIn wsX6_beforeRowChanges (wsV RX6 132 RX1 yX1_putDroppingOldest wsX1_putDroppingOldest) := goodIn_app (goodIn_of _ (by decide +kernel)) ggX6_beforeRowChanges_X1_putDroppingOldest
theorem dX6_beforeRowChanges_0 : decode cX6_beforeRowChanges 0 = .ok (.aload_n 0, 1) := by decide +kernel
theorem dX6_beforeRowChanges_1 : decode cX6_beforeRowChanges 1 = .ok (.getfield 31, 3) := by decide +kernel
theorem dX6_beforeRowChanges_4 : decode cX6_beforeRowChanges 4 = .ok (.aload_n 0, 1) := by decide +kernel
theorem dX6_beforeRowChanges_5 : decode cX6_beforeRowChanges 5 = .ok (.getfield 19, 3) := by decide +kernel
theorem dX6_beforeRowChanges_8 : decode cX6_beforeRowChanges 8 = .ok (.invokevirtual 132, 3) := by decide +kernel
theorem dX6_beforeRowChanges_11 : decode cX6_beforeRowChanges 11 = .ok (.aload_n 0, 1) := by decide +kernel
theorem dX6_beforeRowChanges_12 : decode cX6_beforeRowChanges 12 = .ok (.getfield 41, 3) := by decide +kernel
theorem dX6_beforeRowChanges_15 : decode cX6_beforeRowChanges 15 = .ok (.iconst 0, 1) := by decide +kernel
theorem dX6_beforeRowChanges_16 : decode cX6_beforeRowChanges 16 = .ok (.putfield 93, 3) := by decide +kernel
theorem dX6_beforeRowChanges_19 : decode cX6_beforeRowChanges 19 = .ok (.return_, 1) := by decide +kernel
set_option maxRecDepth 20000 in
theorem ggX6_goes_X6_within : GoodIn wsX6_goes wsX6_within := goodIn_r _ [7] (by decide +kernel) (by decide +kernel)
set_option maxRecDepth 20000 in
theorem gX6_goes_X6_within : GoodIn wsX6_goes (va_wsS RX6 82 yX6_within wsX6_within) := goodIn_app (goodIn_of _ (by decide +kernel)) ggX6_goes_X6_within
set_option maxRecDepth 20000 in
theorem ggX6_goes_X0_lookAt : GoodIn wsX6_goes wsX0_lookAt := goodIn_r _ [12, 13, 14, 15, 16, 17, 18, 19, 20, 21, 22, 23, 24, 25, 26, 27, 28, 29, 30, 31, 32, 33, 34, 35, 36, 37, 11, 38, 39, 101, 102, 103, 104, 105, 106, 107, 93, 94, 95, 96, 97, 98, 99, 100] (by decide +kernel) (by decide +kernel)
set_option maxRecDepth 20000 in
theorem gX6_goes_X0_lookAt : GoodIn wsX6_goes (wsV RX6 139 RX0 yX0_lookAt wsX0_lookAt) := goodIn_app (goodIn_of _ (by decide +kernel)) ggX6_goes_X0_lookAt
set_option maxRecDepth 20000 in
theorem ggX6_goes_X0_letDecide : GoodIn wsX6_goes wsX0_letDecide := goodIn_r _ [43, 44, 14, 39, 17, 45, 46, 47, 48, 21, 49, 50, 51, 52, 11, 53, 15, 54, 55, 56, 57, 58, 59, 60, 61, 62, 63, 64, 65, 66, 67, 68, 18, 69, 70, 71, 72, 73, 74, 75, 76, 77, 78, 79, 80, 93, 94, 95, 96, 97, 98, 99, 100] (by decide +kernel) (by decide +kernel)
set_option maxRecDepth 20000 in
theorem gX6_goes_X0_letDecide : GoodIn wsX6_goes (wsV RX6 142 RX0 yX0_letDecide wsX0_letDecide) := goodIn_app (goodIn_of _ (by decide +kernel)) ggX6_goes_X0_letDecide
set_option maxRecDepth 20000 in
theorem ggX6_goes_X0_servedThere : GoodIn wsX6_goes wsX0_servedThere := goodIn_r _ [84, 14, 39, 69, 70, 71, 11, 72, 44, 93, 94, 95, 96, 97, 98, 99, 100] (by decide +kernel) (by decide +kernel)
set_option maxRecDepth 20000 in
theorem gX6_goes_X0_servedThere : GoodIn wsX6_goes (wsV RX6 148 RX0 yX0_servedThere wsX0_servedThere) := goodIn_app (goodIn_of _ (by decide +kernel)) ggX6_goes_X0_servedThere
theorem dX6_goes_0 : decode cX6_goes 0 = .ok (.iload_n 1, 1) := by decide +kernel
theorem dX6_goes_1 : decode cX6_goes 1 = .ok (.iconst (-1), 1) := by decide +kernel
theorem dX6_goes_2 : decode cX6_goes 2 = .ok (.bipush 7, 2) := by decide +kernel
theorem dX6_goes_4 : decode cX6_goes 4 = .ok (.invokestatic 82, 3) := by decide +kernel
theorem dX6_goes_7 : decode cX6_goes 7 = .ok (.ifCond .ne 5, 3) := by decide +kernel
theorem dX6_goes_10 : decode cX6_goes 10 = .ok (.iconst (-1), 1) := by decide +kernel
theorem dX6_goes_11 : decode cX6_goes 11 = .ok (.ireturn, 1) := by decide +kernel
theorem dX6_goes_12 : decode cX6_goes 12 = .ok (.aload_n 0, 1) := by decide +kernel
theorem dX6_goes_13 : decode cX6_goes 13 = .ok (.getfield 48, 3) := by decide +kernel
theorem dX6_goes_16 : decode cX6_goes 16 = .ok (.aload_n 0, 1) := by decide +kernel
theorem dX6_goes_17 : decode cX6_goes 17 = .ok (.getfield 19, 3) := by decide +kernel
theorem dX6_goes_20 : decode cX6_goes 20 = .ok (.invokevirtual 139, 3) := by decide +kernel
theorem dX6_goes_23 : decode cX6_goes 23 = .ok (.aload_n 0, 1) := by decide +kernel
theorem dX6_goes_24 : decode cX6_goes 24 = .ok (.getfield 48, 3) := by decide +kernel
theorem dX6_goes_27 : decode cX6_goes 27 = .ok (.invokevirtual 142, 3) := by decide +kernel
theorem dX6_goes_30 : decode cX6_goes 30 = .ok (.iload_n 1, 1) := by decide +kernel
theorem dX6_goes_31 : decode cX6_goes 31 = .ok (.iconst (-1), 1) := by decide +kernel
theorem dX6_goes_32 : decode cX6_goes 32 = .ok (.if_icmp .ne 13, 3) := by decide +kernel
theorem dX6_goes_35 : decode cX6_goes 35 = .ok (.aload_n 0, 1) := by decide +kernel
theorem dX6_goes_36 : decode cX6_goes 36 = .ok (.getfield 48, 3) := by decide +kernel
theorem dX6_goes_39 : decode cX6_goes 39 = .ok (.getfield 145, 3) := by decide +kernel
theorem dX6_goes_42 : decode cX6_goes 42 = .ok (.goto 11, 3) := by decide +kernel
theorem dX6_goes_45 : decode cX6_goes 45 = .ok (.aload_n 0, 1) := by decide +kernel
theorem dX6_goes_46 : decode cX6_goes 46 = .ok (.getfield 48, 3) := by decide +kernel
theorem dX6_goes_49 : decode cX6_goes 49 = .ok (.iload_n 1, 1) := by decide +kernel
theorem dX6_goes_50 : decode cX6_goes 50 = .ok (.invokevirtual 148, 3) := by decide +kernel
theorem dX6_goes_53 : decode cX6_goes 53 = .ok (.ireturn, 1) := by decide +kernel
set_option maxRecDepth 20000 in
theorem ggX6_done_X6_isPersonOrSum : GoodIn wsX6_done wsX6_isPersonOrSum := goodIn_r _ [7, 2, 8, 9, 10, 11, 12, 13, 105, 106, 107, 108, 109, 110, 111, 112, 113, 114, 115, 116, 117, 118, 119] (by decide +kernel) (by decide +kernel)
set_option maxRecDepth 20000 in
theorem gX6_done_X6_isPersonOrSum : GoodIn wsX6_done (wsV RX6 151 RX6 yX6_isPersonOrSum wsX6_isPersonOrSum) := goodIn_app (goodIn_of _ (by decide +kernel)) ggX6_done_X6_isPersonOrSum
set_option maxRecDepth 20000 in
theorem ggX6_done_X6_within : GoodIn wsX6_done wsX6_within := goodIn_r _ [16] (by decide +kernel) (by decide +kernel)
set_option maxRecDepth 20000 in
theorem gX6_done_X6_within : GoodIn wsX6_done (va_wsS RX6 82 yX6_within wsX6_within) := goodIn_app (goodIn_of _ (by decide +kernel)) ggX6_done_X6_within
set_option maxRecDepth 20000 in
theorem ggX6_done_X0_lookAt : GoodIn wsX6_done wsX0_lookAt := goodIn_r _ [21, 22, 23, 24, 25, 26, 27, 28, 29, 30, 31, 32, 33, 34, 11, 35, 36, 37, 13, 38, 9, 10, 12, 39, 40, 41, 20, 42, 43, 113, 114, 115, 116, 117, 118, 119, 120, 121, 122, 123, 124, 125, 126, 127] (by decide +kernel) (by decide +kernel)
set_option maxRecDepth 20000 in
theorem gX6_done_X0_lookAt : GoodIn wsX6_done (wsV RX6 139 RX0 yX0_lookAt wsX0_lookAt) := goodIn_app (goodIn_of _ (by decide +kernel)) ggX6_done_X0_lookAt
set_option maxRecDepth 20000 in
theorem ggX6_done_X0_letDecide : GoodIn wsX6_done wsX0_letDecide := goodIn_r _ [47, 48, 23, 43, 26, 49, 50, 51, 52, 30, 53, 54, 55, 56, 20, 57, 24, 58, 59, 60, 61, 62, 63, 64, 65, 66, 67, 68, 69, 70, 71, 72, 27, 73, 74, 75, 76, 77, 78, 79, 80, 81, 82, 83, 84, 120, 121, 122, 123, 124, 125, 126, 127] (by decide +kernel) (by decide +kernel)
set_option maxRecDepth 20000 in
theorem gX6_done_X0_letDecide : GoodIn wsX6_done (wsV RX6 142 RX0 yX0_letDecide wsX0_letDecide) := goodIn_app (goodIn_of _ (by decide +kernel)) ggX6_done_X0_letDecide
set_option maxRecDepth 20000 in
theorem ggX6_done_X0_send : GoodIn wsX6_done wsX0_send := goodIn_r _ [88, 48, 23, 43, 26, 49, 50, 51, 52, 30, 53, 73, 74, 75, 20, 76, 81, 82, 83, 84, 27, 120, 121, 122, 123, 124, 125, 126, 127] (by decide +kernel) (by decide +kernel)
set_option maxRecDepth 20000 in
theorem gX6_done_X0_send : GoodIn wsX6_done (wsV RX6 154 RX0 yX0_send wsX0_send) := goodIn_app (goodIn_of _ (by decide +kernel)) ggX6_done_X0_send
set_option maxRecDepth 20000 in
theorem ggX6_done_X0_readyOf : GoodIn wsX6_done wsX0_readyOf := goodIn_r _ [92, 23, 53, 93, 94, 95, 20, 96, 97, 98, 99, 100, 101, 102, 103, 104, 49, 50, 51, 52, 120, 121, 122, 123, 124, 125, 126, 127] (by decide +kernel) (by decide +kernel)
set_option maxRecDepth 20000 in
theorem gX6_done_X0_readyOf : GoodIn wsX6_done (wsV RX6 157 RX0 yX0_readyOf wsX0_readyOf) := goodIn_app (goodIn_of _ (by decide +kernel)) ggX6_done_X0_readyOf
theorem dX6_done_0 : decode cX6_done 0 = .ok (.aload_n 0, 1) := by decide +kernel
theorem dX6_done_1 : decode cX6_done 1 = .ok (.iload_n 1, 1) := by decide +kernel
theorem dX6_done_2 : decode cX6_done 2 = .ok (.invokevirtual 151, 3) := by decide +kernel
theorem dX6_done_5 : decode cX6_done 5 = .ok (.ifCond .eq 12, 3) := by decide +kernel
theorem dX6_done_8 : decode cX6_done 8 = .ok (.iload_n 2, 1) := by decide +kernel
theorem dX6_done_9 : decode cX6_done 9 = .ok (.iconst 0, 1) := by decide +kernel
theorem dX6_done_10 : decode cX6_done 10 = .ok (.iconst 1, 1) := by decide +kernel
theorem dX6_done_11 : decode cX6_done 11 = .ok (.invokestatic 82, 3) := by decide +kernel
theorem dX6_done_14 : decode cX6_done 14 = .ok (.ifCond .ne 5, 3) := by decide +kernel
theorem dX6_done_17 : decode cX6_done 17 = .ok (.iconst (-1), 1) := by decide +kernel
theorem dX6_done_18 : decode cX6_done 18 = .ok (.ireturn, 1) := by decide +kernel
theorem dX6_done_19 : decode cX6_done 19 = .ok (.aload_n 0, 1) := by decide +kernel
theorem dX6_done_20 : decode cX6_done 20 = .ok (.getfield 48, 3) := by decide +kernel
theorem dX6_done_23 : decode cX6_done 23 = .ok (.aload_n 0, 1) := by decide +kernel
theorem dX6_done_24 : decode cX6_done 24 = .ok (.getfield 19, 3) := by decide +kernel
theorem dX6_done_27 : decode cX6_done 27 = .ok (.invokevirtual 139, 3) := by decide +kernel
theorem dX6_done_30 : decode cX6_done 30 = .ok (.iload_n 2, 1) := by decide +kernel
theorem dX6_done_31 : decode cX6_done 31 = .ok (.iconst 1, 1) := by decide +kernel
theorem dX6_done_32 : decode cX6_done 32 = .ok (.if_icmp .ne 13, 3) := by decide +kernel
theorem dX6_done_35 : decode cX6_done 35 = .ok (.aload_n 0, 1) := by decide +kernel
theorem dX6_done_36 : decode cX6_done 36 = .ok (.getfield 48, 3) := by decide +kernel
theorem dX6_done_39 : decode cX6_done 39 = .ok (.invokevirtual 142, 3) := by decide +kernel
theorem dX6_done_42 : decode cX6_done 42 = .ok (.goto 11, 3) := by decide +kernel
theorem dX6_done_45 : decode cX6_done 45 = .ok (.aload_n 0, 1) := by decide +kernel
theorem dX6_done_46 : decode cX6_done 46 = .ok (.getfield 48, 3) := by decide +kernel
theorem dX6_done_49 : decode cX6_done 49 = .ok (.iconst 0, 1) := by decide +kernel
theorem dX6_done_50 : decode cX6_done 50 = .ok (.invokevirtual 154, 3) := by decide +kernel
theorem dX6_done_53 : decode cX6_done 53 = .ok (.aload_n 0, 1) := by decide +kernel
theorem dX6_done_54 : decode cX6_done 54 = .ok (.getfield 48, 3) := by decide +kernel
theorem dX6_done_57 : decode cX6_done 57 = .ok (.iload_n 1, 1) := by decide +kernel
theorem dX6_done_58 : decode cX6_done 58 = .ok (.invokevirtual 157, 3) := by decide +kernel
theorem dX6_done_61 : decode cX6_done 61 = .ok (.ireturn, 1) := by decide +kernel
set_option maxRecDepth 20000 in
theorem ggX6_overtaken_X3_has : GoodIn wsX6_overtaken wsX3_has := goodIn_r _ [7, 8, 94, 95, 96, 97, 98, 99, 100] (by decide +kernel) (by decide +kernel)
set_option maxRecDepth 20000 in
theorem gX6_overtaken_X3_has : GoodIn wsX6_overtaken (wsV RX6 97 RX3 yX3_has wsX3_has) := goodIn_app (goodIn_of _ (by decide +kernel)) ggX6_overtaken_X3_has
set_option maxRecDepth 20000 in
theorem ggX6_overtaken_X0_lookAt : GoodIn wsX6_overtaken wsX0_lookAt := goodIn_r _ [13, 14, 15, 16, 17, 18, 19, 20, 21, 22, 23, 24, 25, 26, 6, 27, 28, 29, 8, 30, 4, 5, 7, 31, 32, 33, 12, 34, 35, 94, 95, 96, 97, 98, 99, 100, 101, 102, 103, 104, 105, 106, 107, 108] (by decide +kernel) (by decide +kernel)
set_option maxRecDepth 20000 in
theorem gX6_overtaken_X0_lookAt : GoodIn wsX6_overtaken (wsV RX6 139 RX0 yX0_lookAt wsX0_lookAt) := goodIn_app (goodIn_of _ (by decide +kernel)) ggX6_overtaken_X0_lookAt
set_option maxRecDepth 20000 in
theorem ggX6_overtaken_X0_letDecide : GoodIn wsX6_overtaken wsX0_letDecide := goodIn_r _ [39, 40, 15, 35, 18, 41, 42, 43, 44, 22, 45, 46, 47, 48, 12, 49, 16, 50, 51, 52, 53, 54, 55, 56, 57, 58, 59, 60, 61, 62, 63, 64, 19, 65, 66, 67, 68, 69, 70, 71, 72, 73, 74, 75, 76, 101, 102, 103, 104, 105, 106, 107, 108] (by decide +kernel) (by decide +kernel)
set_option maxRecDepth 20000 in
theorem gX6_overtaken_X0_letDecide : GoodIn wsX6_overtaken (wsV RX6 142 RX0 yX0_letDecide wsX0_letDecide) := goodIn_app (goodIn_of _ (by decide +kernel)) ggX6_overtaken_X0_letDecide
set_option maxRecDepth 20000 in
theorem ggX6_overtaken_X0_overtakings : GoodIn wsX6_overtaken wsX0_overtakings := goodIn_r _ [80, 15, 81, 82, 83, 12, 84, 45, 54, 55, 56, 57, 58, 59, 60, 101, 102, 103, 104, 105, 106, 107, 108] (by decide +kernel) (by decide +kernel)
set_option maxRecDepth 20000 in
theorem gX6_overtaken_X0_overtakings : GoodIn wsX6_overtaken (wsV RX6 160 RX0 yX0_overtakings wsX0_overtakings) := goodIn_app (goodIn_of _ (by decide +kernel)) ggX6_overtaken_X0_overtakings
set_option maxRecDepth 20000 in
theorem ggX6_overtaken_X0_overtakersOf : GoodIn wsX6_overtaken wsX0_overtakersOf := goodIn_r _ [84, 15, 45, 101, 102, 103, 104, 105, 106, 107, 108] (by decide +kernel) (by decide +kernel)
set_option maxRecDepth 20000 in
theorem gX6_overtaken_X0_overtakersOf : GoodIn wsX6_overtaken (wsV RX6 163 RX0 yX0_overtakersOf wsX0_overtakersOf) := goodIn_app (goodIn_of _ (by decide +kernel)) ggX6_overtaken_X0_overtakersOf
theorem dX6_overtaken_0 : decode cX6_overtaken 0 = .ok (.iload_n 1, 1) := by decide +kernel
theorem dX6_overtaken_1 : decode cX6_overtaken 1 = .ok (.iconst (-1), 1) := by decide +kernel
theorem dX6_overtaken_2 : decode cX6_overtaken 2 = .ok (.if_icmp .eq 16, 3) := by decide +kernel
theorem dX6_overtaken_5 : decode cX6_overtaken 5 = .ok (.aload_n 0, 1) := by decide +kernel
theorem dX6_overtaken_6 : decode cX6_overtaken 6 = .ok (.getfield 19, 3) := by decide +kernel
theorem dX6_overtaken_9 : decode cX6_overtaken 9 = .ok (.iload_n 1, 1) := by decide +kernel
theorem dX6_overtaken_10 : decode cX6_overtaken 10 = .ok (.invokevirtual 97, 3) := by decide +kernel
theorem dX6_overtaken_13 : decode cX6_overtaken 13 = .ok (.ifCond .ne 5, 3) := by decide +kernel
theorem dX6_overtaken_16 : decode cX6_overtaken 16 = .ok (.iconst (-1), 1) := by decide +kernel
theorem dX6_overtaken_17 : decode cX6_overtaken 17 = .ok (.ireturn, 1) := by decide +kernel
theorem dX6_overtaken_18 : decode cX6_overtaken 18 = .ok (.aload_n 0, 1) := by decide +kernel
theorem dX6_overtaken_19 : decode cX6_overtaken 19 = .ok (.getfield 48, 3) := by decide +kernel
theorem dX6_overtaken_22 : decode cX6_overtaken 22 = .ok (.aload_n 0, 1) := by decide +kernel
theorem dX6_overtaken_23 : decode cX6_overtaken 23 = .ok (.getfield 19, 3) := by decide +kernel
theorem dX6_overtaken_26 : decode cX6_overtaken 26 = .ok (.invokevirtual 139, 3) := by decide +kernel
theorem dX6_overtaken_29 : decode cX6_overtaken 29 = .ok (.aload_n 0, 1) := by decide +kernel
theorem dX6_overtaken_30 : decode cX6_overtaken 30 = .ok (.getfield 48, 3) := by decide +kernel
theorem dX6_overtaken_33 : decode cX6_overtaken 33 = .ok (.invokevirtual 142, 3) := by decide +kernel
theorem dX6_overtaken_36 : decode cX6_overtaken 36 = .ok (.iload_n 1, 1) := by decide +kernel
theorem dX6_overtaken_37 : decode cX6_overtaken 37 = .ok (.iconst (-1), 1) := by decide +kernel
theorem dX6_overtaken_38 : decode cX6_overtaken 38 = .ok (.if_icmp .ne 13, 3) := by decide +kernel
theorem dX6_overtaken_41 : decode cX6_overtaken 41 = .ok (.aload_n 0, 1) := by decide +kernel
theorem dX6_overtaken_42 : decode cX6_overtaken 42 = .ok (.getfield 48, 3) := by decide +kernel
theorem dX6_overtaken_45 : decode cX6_overtaken 45 = .ok (.invokevirtual 160, 3) := by decide +kernel
theorem dX6_overtaken_48 : decode cX6_overtaken 48 = .ok (.goto 11, 3) := by decide +kernel
theorem dX6_overtaken_51 : decode cX6_overtaken 51 = .ok (.aload_n 0, 1) := by decide +kernel
theorem dX6_overtaken_52 : decode cX6_overtaken 52 = .ok (.getfield 48, 3) := by decide +kernel
theorem dX6_overtaken_55 : decode cX6_overtaken 55 = .ok (.iload_n 1, 1) := by decide +kernel
theorem dX6_overtaken_56 : decode cX6_overtaken 56 = .ok (.invokevirtual 163, 3) := by decide +kernel
theorem dX6_overtaken_59 : decode cX6_overtaken 59 = .ok (.ireturn, 1) := by decide +kernel
set_option maxRecDepth 20000 in
theorem ggX6_isPersonOrSum_X3_has : GoodIn wsX6_isPersonOrSum wsX3_has := goodIn_r _ [6, 7, 16, 17, 18, 19, 20, 21, 22] (by decide +kernel) (by decide +kernel)
set_option maxRecDepth 20000 in
theorem gX6_isPersonOrSum_X3_has : GoodIn wsX6_isPersonOrSum (wsV RX6 97 RX3 yX3_has wsX3_has) := goodIn_app (goodIn_of _ (by decide +kernel)) ggX6_isPersonOrSum_X3_has
theorem dX6_isPersonOrSum_0 : decode cX6_isPersonOrSum 0 = .ok (.iload_n 1, 1) := by decide +kernel
theorem dX6_isPersonOrSum_1 : decode cX6_isPersonOrSum 1 = .ok (.iconst (-1), 1) := by decide +kernel
theorem dX6_isPersonOrSum_2 : decode cX6_isPersonOrSum 2 = .ok (.if_icmp .eq 20, 3) := by decide +kernel
theorem dX6_isPersonOrSum_5 : decode cX6_isPersonOrSum 5 = .ok (.iload_n 1, 1) := by decide +kernel
theorem dX6_isPersonOrSum_6 : decode cX6_isPersonOrSum 6 = .ok (.bipush (-2), 2) := by decide +kernel
theorem dX6_isPersonOrSum_8 : decode cX6_isPersonOrSum 8 = .ok (.if_icmp .eq 14, 3) := by decide +kernel
theorem dX6_isPersonOrSum_11 : decode cX6_isPersonOrSum 11 = .ok (.aload_n 0, 1) := by decide +kernel
theorem dX6_isPersonOrSum_12 : decode cX6_isPersonOrSum 12 = .ok (.getfield 19, 3) := by decide +kernel
theorem dX6_isPersonOrSum_15 : decode cX6_isPersonOrSum 15 = .ok (.iload_n 1, 1) := by decide +kernel
theorem dX6_isPersonOrSum_16 : decode cX6_isPersonOrSum 16 = .ok (.invokevirtual 97, 3) := by decide +kernel
theorem dX6_isPersonOrSum_19 : decode cX6_isPersonOrSum 19 = .ok (.ifCond .eq 7, 3) := by decide +kernel
theorem dX6_isPersonOrSum_22 : decode cX6_isPersonOrSum 22 = .ok (.iconst 1, 1) := by decide +kernel
theorem dX6_isPersonOrSum_23 : decode cX6_isPersonOrSum 23 = .ok (.goto 4, 3) := by decide +kernel
theorem dX6_isPersonOrSum_26 : decode cX6_isPersonOrSum 26 = .ok (.iconst 0, 1) := by decide +kernel
theorem dX6_isPersonOrSum_27 : decode cX6_isPersonOrSum 27 = .ok (.ireturn, 1) := by decide +kernel
set_option maxRecDepth 20000 in
theorem ggX6_best_X6_within : GoodIn wsX6_best wsX6_within := goodIn_r _ [8] (by decide +kernel) (by decide +kernel)
set_option maxRecDepth 20000 in
theorem gX6_best_X6_within : GoodIn wsX6_best (va_wsS RX6 82 yX6_within wsX6_within) := goodIn_app (goodIn_of _ (by decide +kernel)) ggX6_best_X6_within
set_option maxRecDepth 20000 in
theorem ggX6_best_X2_findLeast : GoodIn wsX6_best wsX2_findLeast := goodIn_r _ [13, 14, 15, 16, 17, 18, 19, 20, 21, 22, 23, 24, 25, 26, 27, 28, 29, 30, 31, 32, 33, 34, 35, 36, 37, 38, 39, 40, 41, 42, 43, 44, 45, 46, 47, 48, 49, 50, 51, 52, 53, 54, 55, 56, 57, 58, 59, 60, 61, 62, 63, 64, 65, 66, 67, 68, 69, 70, 12, 71, 72, 73, 74, 75, 76, 77, 78, 79, 80, 81, 82, 83, 84, 85, 86, 87, 88, 89, 90, 91, 92, 93, 94, 95, 96, 97, 98, 107, 108, 109, 110, 111, 112, 113, 114, 115, 116, 117, 118, 119, 120, 121, 122, 123, 124] (by decide +kernel) (by decide +kernel)
set_option maxRecDepth 20000 in
theorem gX6_best_X2_findLeast : GoodIn wsX6_best (wsV RX6 166 RX2 yX2_findLeast wsX2_findLeast) := goodIn_app (goodIn_of _ (by decide +kernel)) ggX6_best_X2_findLeast
theorem dX6_best_0 : decode cX6_best 0 = .ok (.iload_n 1, 1) := by decide +kernel
theorem dX6_best_1 : decode cX6_best 1 = .ok (.iconst 0, 1) := by decide +kernel
theorem dX6_best_2 : decode cX6_best 2 = .ok (.iconst 1, 1) := by decide +kernel
theorem dX6_best_3 : decode cX6_best 3 = .ok (.invokestatic 82, 3) := by decide +kernel
theorem dX6_best_6 : decode cX6_best 6 = .ok (.ifCond .eq 12, 3) := by decide +kernel
theorem dX6_best_9 : decode cX6_best 9 = .ok (.iload_n 2, 1) := by decide +kernel
theorem dX6_best_10 : decode cX6_best 10 = .ok (.iconst 0, 1) := by decide +kernel
theorem dX6_best_11 : decode cX6_best 11 = .ok (.iconst 1, 1) := by decide +kernel
theorem dX6_best_12 : decode cX6_best 12 = .ok (.invokestatic 82, 3) := by decide +kernel
theorem dX6_best_15 : decode cX6_best 15 = .ok (.ifCond .ne 5, 3) := by decide +kernel
theorem dX6_best_18 : decode cX6_best 18 = .ok (.iconst (-1), 1) := by decide +kernel
theorem dX6_best_19 : decode cX6_best 19 = .ok (.ireturn, 1) := by decide +kernel
theorem dX6_best_20 : decode cX6_best 20 = .ok (.aload_n 0, 1) := by decide +kernel
theorem dX6_best_21 : decode cX6_best 21 = .ok (.getfield 55, 3) := by decide +kernel
theorem dX6_best_24 : decode cX6_best 24 = .ok (.aload_n 0, 1) := by decide +kernel
theorem dX6_best_25 : decode cX6_best 25 = .ok (.getfield 19, 3) := by decide +kernel
theorem dX6_best_28 : decode cX6_best 28 = .ok (.iload_n 1, 1) := by decide +kernel
theorem dX6_best_29 : decode cX6_best 29 = .ok (.ifCond .ne 7, 3) := by decide +kernel
theorem dX6_best_32 : decode cX6_best 32 = .ok (.iconst 0, 1) := by decide +kernel
theorem dX6_best_33 : decode cX6_best 33 = .ok (.goto 4, 3) := by decide +kernel
theorem dX6_best_36 : decode cX6_best 36 = .ok (.iconst 1, 1) := by decide +kernel
theorem dX6_best_37 : decode cX6_best 37 = .ok (.invokevirtual 166, 3) := by decide +kernel
theorem dX6_best_40 : decode cX6_best 40 = .ok (.iload_n 2, 1) := by decide +kernel
theorem dX6_best_41 : decode cX6_best 41 = .ok (.ifCond .ne 13, 3) := by decide +kernel
theorem dX6_best_44 : decode cX6_best 44 = .ok (.aload_n 0, 1) := by decide +kernel
theorem dX6_best_45 : decode cX6_best 45 = .ok (.getfield 55, 3) := by decide +kernel
theorem dX6_best_48 : decode cX6_best 48 = .ok (.getfield 170, 3) := by decide +kernel
theorem dX6_best_51 : decode cX6_best 51 = .ok (.goto 10, 3) := by decide +kernel
theorem dX6_best_54 : decode cX6_best 54 = .ok (.aload_n 0, 1) := by decide +kernel
theorem dX6_best_55 : decode cX6_best 55 = .ok (.getfield 55, 3) := by decide +kernel
theorem dX6_best_58 : decode cX6_best 58 = .ok (.getfield 173, 3) := by decide +kernel
theorem dX6_best_61 : decode cX6_best 61 = .ok (.ireturn, 1) := by decide +kernel
set_option maxRecDepth 20000 in
theorem ggX6_fair_X6_within : GoodIn wsX6_fair wsX6_within := goodIn_r _ [8] (by decide +kernel) (by decide +kernel)
set_option maxRecDepth 20000 in
theorem gX6_fair_X6_within : GoodIn wsX6_fair (va_wsS RX6 82 yX6_within wsX6_within) := goodIn_app (goodIn_of _ (by decide +kernel)) ggX6_fair_X6_within
set_option maxRecDepth 20000 in
theorem ggX6_fair_X2_findLeast : GoodIn wsX6_fair wsX2_findLeast := goodIn_r _ [13, 14, 15, 16, 17, 18, 19, 20, 21, 22, 23, 24, 25, 26, 27, 28, 29, 30, 31, 32, 33, 34, 35, 36, 37, 38, 39, 40, 41, 42, 43, 44, 45, 46, 47, 48, 49, 50, 51, 52, 53, 54, 55, 56, 57, 58, 59, 60, 61, 62, 63, 64, 65, 66, 67, 68, 69, 70, 12, 71, 72, 73, 74, 75, 76, 77, 78, 79, 80, 81, 82, 83, 84, 85, 86, 87, 88, 89, 90, 91, 92, 93, 94, 95, 96, 97, 98, 107, 108, 109, 110, 111, 112, 113, 114, 115, 116, 117, 118, 119, 120, 121, 122, 123, 124] (by decide +kernel) (by decide +kernel)
set_option maxRecDepth 20000 in
theorem gX6_fair_X2_findLeast : GoodIn wsX6_fair (wsV RX6 166 RX2 yX2_findLeast wsX2_findLeast) := goodIn_app (goodIn_of _ (by decide +kernel)) ggX6_fair_X2_findLeast
theorem dX6_fair_0 : decode cX6_fair 0 = .ok (.iload_n 1, 1) := by decide +kernel
theorem dX6_fair_1 : decode cX6_fair 1 = .ok (.iconst 0, 1) := by decide +kernel
theorem dX6_fair_2 : decode cX6_fair 2 = .ok (.iconst 1, 1) := by decide +kernel
theorem dX6_fair_3 : decode cX6_fair 3 = .ok (.invokestatic 82, 3) := by decide +kernel
theorem dX6_fair_6 : decode cX6_fair 6 = .ok (.ifCond .ne 5, 3) := by decide +kernel
theorem dX6_fair_9 : decode cX6_fair 9 = .ok (.iconst (-1), 1) := by decide +kernel
theorem dX6_fair_10 : decode cX6_fair 10 = .ok (.ireturn, 1) := by decide +kernel
theorem dX6_fair_11 : decode cX6_fair 11 = .ok (.aload_n 0, 1) := by decide +kernel
theorem dX6_fair_12 : decode cX6_fair 12 = .ok (.getfield 55, 3) := by decide +kernel
theorem dX6_fair_15 : decode cX6_fair 15 = .ok (.aload_n 0, 1) := by decide +kernel
theorem dX6_fair_16 : decode cX6_fair 16 = .ok (.getfield 19, 3) := by decide +kernel
theorem dX6_fair_19 : decode cX6_fair 19 = .ok (.iconst 2, 1) := by decide +kernel
theorem dX6_fair_20 : decode cX6_fair 20 = .ok (.invokevirtual 166, 3) := by decide +kernel
theorem dX6_fair_23 : decode cX6_fair 23 = .ok (.iload_n 1, 1) := by decide +kernel
theorem dX6_fair_24 : decode cX6_fair 24 = .ok (.ifCond .ne 13, 3) := by decide +kernel
theorem dX6_fair_27 : decode cX6_fair 27 = .ok (.aload_n 0, 1) := by decide +kernel
theorem dX6_fair_28 : decode cX6_fair 28 = .ok (.getfield 55, 3) := by decide +kernel
theorem dX6_fair_31 : decode cX6_fair 31 = .ok (.getfield 170, 3) := by decide +kernel
theorem dX6_fair_34 : decode cX6_fair 34 = .ok (.goto 10, 3) := by decide +kernel
theorem dX6_fair_37 : decode cX6_fair 37 = .ok (.aload_n 0, 1) := by decide +kernel
theorem dX6_fair_38 : decode cX6_fair 38 = .ok (.getfield 55, 3) := by decide +kernel
theorem dX6_fair_41 : decode cX6_fair 41 = .ok (.getfield 173, 3) := by decide +kernel
theorem dX6_fair_44 : decode cX6_fair 44 = .ok (.ireturn, 1) := by decide +kernel
set_option maxRecDepth 20000 in
theorem ggX6_oneRow_X6_isPersonOrSum : GoodIn wsX6_oneRow wsX6_isPersonOrSum := goodIn_r _ [7, 2, 8, 9, 10, 11, 12, 13, 66, 67, 68, 69, 70, 71, 72, 73, 74, 75, 76, 77, 78, 79, 80] (by decide +kernel) (by decide +kernel)
set_option maxRecDepth 20000 in
theorem gX6_oneRow_X6_isPersonOrSum : GoodIn wsX6_oneRow (wsV RX6 151 RX6 yX6_isPersonOrSum wsX6_isPersonOrSum) := goodIn_app (goodIn_of _ (by decide +kernel)) ggX6_oneRow_X6_isPersonOrSum
set_option maxRecDepth 20000 in
theorem ggX6_oneRow_X0_lookAt : GoodIn wsX6_oneRow wsX0_lookAt := goodIn_r _ [18, 19, 20, 21, 22, 23, 24, 25, 26, 27, 28, 29, 30, 31, 11, 32, 33, 34, 13, 35, 9, 10, 12, 36, 37, 38, 17, 39, 40, 74, 75, 76, 77, 78, 79, 80, 81, 82, 83, 84, 85, 86, 87, 88] (by decide +kernel) (by decide +kernel)
set_option maxRecDepth 20000 in
theorem gX6_oneRow_X0_lookAt : GoodIn wsX6_oneRow (wsV RX6 139 RX0 yX0_lookAt wsX0_lookAt) := goodIn_app (goodIn_of _ (by decide +kernel)) ggX6_oneRow_X0_lookAt
set_option maxRecDepth 20000 in
theorem ggX6_oneRow_X0_shareOneRow : GoodIn wsX6_oneRow wsX0_shareOneRow := goodIn_r _ [44, 20, 24, 45, 27, 81, 82, 83, 84, 85, 86, 87, 88] (by decide +kernel) (by decide +kernel)
set_option maxRecDepth 20000 in
theorem gX6_oneRow_X0_shareOneRow : GoodIn wsX6_oneRow (wsV RX6 176 RX0 yX0_shareOneRow wsX0_shareOneRow) := goodIn_app (goodIn_of _ (by decide +kernel)) ggX6_oneRow_X0_shareOneRow
set_option maxRecDepth 20000 in
theorem ggX6_oneRow_X0_readyOf : GoodIn wsX6_oneRow wsX0_readyOf := goodIn_r _ [49, 20, 45, 50, 51, 52, 17, 53, 54, 55, 56, 57, 58, 59, 60, 61, 62, 63, 64, 65, 81, 82, 83, 84, 85, 86, 87, 88] (by decide +kernel) (by decide +kernel)
set_option maxRecDepth 20000 in
theorem gX6_oneRow_X0_readyOf : GoodIn wsX6_oneRow (wsV RX6 157 RX0 yX0_readyOf wsX0_readyOf) := goodIn_app (goodIn_of _ (by decide +kernel)) ggX6_oneRow_X0_readyOf
theorem dX6_oneRow_0 : decode cX6_oneRow 0 = .ok (.aload_n 0, 1) := by decide +kernel
theorem dX6_oneRow_1 : decode cX6_oneRow 1 = .ok (.iload_n 1, 1) := by decide +kernel
theorem dX6_oneRow_2 : decode cX6_oneRow 2 = .ok (.invokevirtual 151, 3) := by decide +kernel
theorem dX6_oneRow_5 : decode cX6_oneRow 5 = .ok (.ifCond .ne 5, 3) := by decide +kernel
theorem dX6_oneRow_8 : decode cX6_oneRow 8 = .ok (.iconst (-1), 1) := by decide +kernel
theorem dX6_oneRow_9 : decode cX6_oneRow 9 = .ok (.ireturn, 1) := by decide +kernel
theorem dX6_oneRow_10 : decode cX6_oneRow 10 = .ok (.aload_n 0, 1) := by decide +kernel
theorem dX6_oneRow_11 : decode cX6_oneRow 11 = .ok (.getfield 48, 3) := by decide +kernel
theorem dX6_oneRow_14 : decode cX6_oneRow 14 = .ok (.aload_n 0, 1) := by decide +kernel
theorem dX6_oneRow_15 : decode cX6_oneRow 15 = .ok (.getfield 19, 3) := by decide +kernel
theorem dX6_oneRow_18 : decode cX6_oneRow 18 = .ok (.invokevirtual 139, 3) := by decide +kernel
theorem dX6_oneRow_21 : decode cX6_oneRow 21 = .ok (.aload_n 0, 1) := by decide +kernel
theorem dX6_oneRow_22 : decode cX6_oneRow 22 = .ok (.getfield 48, 3) := by decide +kernel
theorem dX6_oneRow_25 : decode cX6_oneRow 25 = .ok (.invokevirtual 176, 3) := by decide +kernel
theorem dX6_oneRow_28 : decode cX6_oneRow 28 = .ok (.aload_n 0, 1) := by decide +kernel
theorem dX6_oneRow_29 : decode cX6_oneRow 29 = .ok (.getfield 48, 3) := by decide +kernel
theorem dX6_oneRow_32 : decode cX6_oneRow 32 = .ok (.iload_n 1, 1) := by decide +kernel
theorem dX6_oneRow_33 : decode cX6_oneRow 33 = .ok (.invokevirtual 157, 3) := by decide +kernel
theorem dX6_oneRow_36 : decode cX6_oneRow 36 = .ok (.ireturn, 1) := by decide +kernel
set_option maxRecDepth 20000 in
theorem ggX6_called_X6_within : GoodIn wsX6_called wsX6_within := goodIn_r _ [7] (by decide +kernel) (by decide +kernel)
set_option maxRecDepth 20000 in
theorem gX6_called_X6_within : GoodIn wsX6_called (va_wsS RX6 82 yX6_within wsX6_within) := goodIn_app (goodIn_of _ (by decide +kernel)) ggX6_called_X6_within
set_option maxRecDepth 20000 in
theorem ggX6_called_X0_lookAt : GoodIn wsX6_called wsX0_lookAt := goodIn_r _ [12, 13, 14, 15, 16, 17, 18, 19, 20, 21, 22, 23, 24, 25, 26, 27, 28, 29, 30, 31, 32, 33, 34, 35, 36, 37, 11, 38, 39, 84, 85, 86, 87, 88, 89, 90, 91, 92, 93, 94, 95, 96, 97, 98] (by decide +kernel) (by decide +kernel)
set_option maxRecDepth 20000 in
theorem gX6_called_X0_lookAt : GoodIn wsX6_called (wsV RX6 139 RX0 yX0_lookAt wsX0_lookAt) := goodIn_app (goodIn_of _ (by decide +kernel)) ggX6_called_X0_lookAt
set_option maxRecDepth 20000 in
theorem ggX6_called_X6_setByRule : GoodIn wsX6_called wsX6_setByRule := goodIn_r _ [42, 43, 44, 6, 45] (by decide +kernel) (by decide +kernel)
set_option maxRecDepth 20000 in
theorem gX6_called_X6_setByRule : GoodIn wsX6_called (va_wsS RX6 179 yX6_setByRule wsX6_setByRule) := goodIn_app (goodIn_of _ (by decide +kernel)) ggX6_called_X6_setByRule
set_option maxRecDepth 20000 in
theorem ggX6_called_X0_send : GoodIn wsX6_called wsX0_send := goodIn_r _ [49, 50, 14, 39, 17, 51, 52, 53, 54, 21, 55, 56, 57, 58, 11, 59, 60, 61, 62, 63, 18, 91, 92, 93, 94, 95, 96, 97, 98] (by decide +kernel) (by decide +kernel)
set_option maxRecDepth 20000 in
theorem gX6_called_X0_send : GoodIn wsX6_called (wsV RX6 154 RX0 yX0_send wsX0_send) := goodIn_app (goodIn_of _ (by decide +kernel)) ggX6_called_X0_send
set_option maxRecDepth 20000 in
theorem ggX6_called_X0_latest : GoodIn wsX6_called wsX0_latest := goodIn_r _ [67, 14, 55, 51, 52, 53, 54, 91, 92, 93, 94, 95, 96, 97, 98] (by decide +kernel) (by decide +kernel)
set_option maxRecDepth 20000 in
theorem gX6_called_X0_latest : GoodIn wsX6_called (wsV RX6 183 RX0 yX0_latest wsX0_latest) := goodIn_app (goodIn_of _ (by decide +kernel)) ggX6_called_X0_latest
set_option maxRecDepth 20000 in
theorem ggX6_called_X0_sum : GoodIn wsX6_called wsX0_sum := goodIn_r _ [71, 14, 72, 73, 74, 11, 75, 55, 91, 92, 93, 94, 95, 96, 97, 98] (by decide +kernel) (by decide +kernel)
set_option maxRecDepth 20000 in
theorem gX6_called_X0_sum : GoodIn wsX6_called (wsV RX6 186 RX0 yX0_sum wsX0_sum) := goodIn_app (goodIn_of _ (by decide +kernel)) ggX6_called_X0_sum
theorem dX6_called_0 : decode cX6_called 0 = .ok (.iload_n 1, 1) := by decide +kernel
theorem dX6_called_1 : decode cX6_called 1 = .ok (.iconst 0, 1) := by decide +kernel
theorem dX6_called_2 : decode cX6_called 2 = .ok (.iconst 2, 1) := by decide +kernel
theorem dX6_called_3 : decode cX6_called 3 = .ok (.invokestatic 82, 3) := by decide +kernel
theorem dX6_called_6 : decode cX6_called 6 = .ok (.ifCond .eq 12, 3) := by decide +kernel
theorem dX6_called_9 : decode cX6_called 9 = .ok (.iload_n 2, 1) := by decide +kernel
theorem dX6_called_10 : decode cX6_called 10 = .ok (.iconst 0, 1) := by decide +kernel
theorem dX6_called_11 : decode cX6_called 11 = .ok (.iconst 1, 1) := by decide +kernel
theorem dX6_called_12 : decode cX6_called 12 = .ok (.invokestatic 82, 3) := by decide +kernel
theorem dX6_called_15 : decode cX6_called 15 = .ok (.ifCond .ne 5, 3) := by decide +kernel
theorem dX6_called_18 : decode cX6_called 18 = .ok (.iconst (-1), 1) := by decide +kernel
theorem dX6_called_19 : decode cX6_called 19 = .ok (.ireturn, 1) := by decide +kernel
theorem dX6_called_20 : decode cX6_called 20 = .ok (.aload_n 0, 1) := by decide +kernel
theorem dX6_called_21 : decode cX6_called 21 = .ok (.getfield 48, 3) := by decide +kernel
theorem dX6_called_24 : decode cX6_called 24 = .ok (.aload_n 0, 1) := by decide +kernel
theorem dX6_called_25 : decode cX6_called 25 = .ok (.getfield 19, 3) := by decide +kernel
theorem dX6_called_28 : decode cX6_called 28 = .ok (.invokevirtual 139, 3) := by decide +kernel
theorem dX6_called_31 : decode cX6_called 31 = .ok (.aload_n 0, 1) := by decide +kernel
theorem dX6_called_32 : decode cX6_called 32 = .ok (.getfield 48, 3) := by decide +kernel
theorem dX6_called_35 : decode cX6_called 35 = .ok (.iload_n 1, 1) := by decide +kernel
theorem dX6_called_36 : decode cX6_called 36 = .ok (.aload_n 0, 1) := by decide +kernel
theorem dX6_called_37 : decode cX6_called 37 = .ok (.getfield 19, 3) := by decide +kernel
theorem dX6_called_40 : decode cX6_called 40 = .ok (.getfield 86, 3) := by decide +kernel
theorem dX6_called_43 : decode cX6_called 43 = .ok (.invokestatic 179, 3) := by decide +kernel
theorem dX6_called_46 : decode cX6_called 46 = .ok (.invokevirtual 154, 3) := by decide +kernel
theorem dX6_called_49 : decode cX6_called 49 = .ok (.iload_n 2, 1) := by decide +kernel
theorem dX6_called_50 : decode cX6_called 50 = .ok (.ifCond .ne 13, 3) := by decide +kernel
theorem dX6_called_53 : decode cX6_called 53 = .ok (.aload_n 0, 1) := by decide +kernel
theorem dX6_called_54 : decode cX6_called 54 = .ok (.getfield 48, 3) := by decide +kernel
theorem dX6_called_57 : decode cX6_called 57 = .ok (.invokevirtual 183, 3) := by decide +kernel
theorem dX6_called_60 : decode cX6_called 60 = .ok (.goto 10, 3) := by decide +kernel
theorem dX6_called_63 : decode cX6_called 63 = .ok (.aload_n 0, 1) := by decide +kernel
theorem dX6_called_64 : decode cX6_called 64 = .ok (.getfield 48, 3) := by decide +kernel
theorem dX6_called_67 : decode cX6_called 67 = .ok (.invokevirtual 186, 3) := by decide +kernel
theorem dX6_called_70 : decode cX6_called 70 = .ok (.ireturn, 1) := by decide +kernel
set_option maxRecDepth 20000 in
theorem ggX6_setByRule_X6_isCalled : GoodIn wsX6_setByRule wsX6_isCalled := goodIn_r _ [4] (by decide +kernel) (by decide +kernel)
set_option maxRecDepth 20000 in
theorem gX6_setByRule_X6_isCalled : GoodIn wsX6_setByRule (va_wsS RX6 189 yX6_isCalled wsX6_isCalled) := goodIn_app (goodIn_of _ (by decide +kernel)) ggX6_setByRule_X6_isCalled
theorem dX6_setByRule_0 : decode cX6_setByRule 0 = .ok (.iconst 0, 1) := by decide +kernel
theorem dX6_setByRule_1 : decode cX6_setByRule 1 = .ok (.istore_n 2, 1) := by decide +kernel
theorem dX6_setByRule_2 : decode cX6_setByRule 2 = .ok (.iconst 0, 1) := by decide +kernel
theorem dX6_setByRule_3 : decode cX6_setByRule 3 = .ok (.istore_n 3, 1) := by decide +kernel
theorem dX6_setByRule_4 : decode cX6_setByRule 4 = .ok (.iload_n 3, 1) := by decide +kernel
theorem dX6_setByRule_5 : decode cX6_setByRule 5 = .ok (.iload_n 1, 1) := by decide +kernel
theorem dX6_setByRule_6 : decode cX6_setByRule 6 = .ok (.if_icmp .ge 24, 3) := by decide +kernel
theorem dX6_setByRule_9 : decode cX6_setByRule 9 = .ok (.iload_n 0, 1) := by decide +kernel
theorem dX6_setByRule_10 : decode cX6_setByRule 10 = .ok (.iload_n 3, 1) := by decide +kernel
theorem dX6_setByRule_11 : decode cX6_setByRule 11 = .ok (.iload_n 1, 1) := by decide +kernel
theorem dX6_setByRule_12 : decode cX6_setByRule 12 = .ok (.invokestatic 189, 3) := by decide +kernel
theorem dX6_setByRule_15 : decode cX6_setByRule 15 = .ok (.ifCond .eq 9, 3) := by decide +kernel
theorem dX6_setByRule_18 : decode cX6_setByRule 18 = .ok (.iload_n 2, 1) := by decide +kernel
theorem dX6_setByRule_19 : decode cX6_setByRule 19 = .ok (.iconst 1, 1) := by decide +kernel
theorem dX6_setByRule_20 : decode cX6_setByRule 20 = .ok (.iload_n 3, 1) := by decide +kernel
theorem dX6_setByRule_21 : decode cX6_setByRule 21 = .ok (.ishl, 1) := by decide +kernel
theorem dX6_setByRule_22 : decode cX6_setByRule 22 = .ok (.ior, 1) := by decide +kernel
theorem dX6_setByRule_23 : decode cX6_setByRule 23 = .ok (.istore_n 2, 1) := by decide +kernel
theorem dX6_setByRule_24 : decode cX6_setByRule 24 = .ok (.iinc 3 1, 3) := by decide +kernel
theorem dX6_setByRule_27 : decode cX6_setByRule 27 = .ok (.goto (-23), 3) := by decide +kernel
theorem dX6_setByRule_30 : decode cX6_setByRule 30 = .ok (.iload_n 2, 1) := by decide +kernel
theorem dX6_setByRule_31 : decode cX6_setByRule 31 = .ok (.ireturn, 1) := by decide +kernel
theorem dX6_isCalled_0 : decode cX6_isCalled 0 = .ok (.iload_n 0, 1) := by decide +kernel
theorem dX6_isCalled_1 : decode cX6_isCalled 1 = .ok (.lookupswitch 58 #[(0, 27), (1, 40)], 27) := by decide +kernel
theorem dX6_isCalled_28 : decode cX6_isCalled 28 = .ok (.iload_n 1, 1) := by decide +kernel
theorem dX6_isCalled_29 : decode cX6_isCalled 29 = .ok (.iconst 2, 1) := by decide +kernel
theorem dX6_isCalled_30 : decode cX6_isCalled 30 = .ok (.irem, 1) := by decide +kernel
theorem dX6_isCalled_31 : decode cX6_isCalled 31 = .ok (.iconst 1, 1) := by decide +kernel
theorem dX6_isCalled_32 : decode cX6_isCalled 32 = .ok (.if_icmp .ne 7, 3) := by decide +kernel
theorem dX6_isCalled_35 : decode cX6_isCalled 35 = .ok (.iconst 1, 1) := by decide +kernel
theorem dX6_isCalled_36 : decode cX6_isCalled 36 = .ok (.goto 4, 3) := by decide +kernel
theorem dX6_isCalled_39 : decode cX6_isCalled 39 = .ok (.iconst 0, 1) := by decide +kernel
theorem dX6_isCalled_40 : decode cX6_isCalled 40 = .ok (.ireturn, 1) := by decide +kernel
theorem dX6_isCalled_41 : decode cX6_isCalled 41 = .ok (.iload_n 1, 1) := by decide +kernel
theorem dX6_isCalled_42 : decode cX6_isCalled 42 = .ok (.iconst 1, 1) := by decide +kernel
theorem dX6_isCalled_43 : decode cX6_isCalled 43 = .ok (.if_icmp .lt 14, 3) := by decide +kernel
theorem dX6_isCalled_46 : decode cX6_isCalled 46 = .ok (.iload_n 1, 1) := by decide +kernel
theorem dX6_isCalled_47 : decode cX6_isCalled 47 = .ok (.iload_n 2, 1) := by decide +kernel
theorem dX6_isCalled_48 : decode cX6_isCalled 48 = .ok (.iconst 2, 1) := by decide +kernel
theorem dX6_isCalled_49 : decode cX6_isCalled 49 = .ok (.idiv, 1) := by decide +kernel
theorem dX6_isCalled_50 : decode cX6_isCalled 50 = .ok (.if_icmp .gt 7, 3) := by decide +kernel
theorem dX6_isCalled_53 : decode cX6_isCalled 53 = .ok (.iconst 1, 1) := by decide +kernel
theorem dX6_isCalled_54 : decode cX6_isCalled 54 = .ok (.goto 4, 3) := by decide +kernel
theorem dX6_isCalled_57 : decode cX6_isCalled 57 = .ok (.iconst 0, 1) := by decide +kernel
theorem dX6_isCalled_58 : decode cX6_isCalled 58 = .ok (.ireturn, 1) := by decide +kernel
theorem dX6_isCalled_59 : decode cX6_isCalled 59 = .ok (.iload_n 1, 1) := by decide +kernel
theorem dX6_isCalled_60 : decode cX6_isCalled 60 = .ok (.iload_n 2, 1) := by decide +kernel
theorem dX6_isCalled_61 : decode cX6_isCalled 61 = .ok (.iconst 1, 1) := by decide +kernel
theorem dX6_isCalled_62 : decode cX6_isCalled 62 = .ok (.iadd, 1) := by decide +kernel
theorem dX6_isCalled_63 : decode cX6_isCalled 63 = .ok (.iconst 2, 1) := by decide +kernel
theorem dX6_isCalled_64 : decode cX6_isCalled 64 = .ok (.idiv, 1) := by decide +kernel
theorem dX6_isCalled_65 : decode cX6_isCalled 65 = .ok (.if_icmp .lt 7, 3) := by decide +kernel
theorem dX6_isCalled_68 : decode cX6_isCalled 68 = .ok (.iconst 1, 1) := by decide +kernel
theorem dX6_isCalled_69 : decode cX6_isCalled 69 = .ok (.goto 4, 3) := by decide +kernel
theorem dX6_isCalled_72 : decode cX6_isCalled 72 = .ok (.iconst 0, 1) := by decide +kernel
theorem dX6_isCalled_73 : decode cX6_isCalled 73 = .ok (.ireturn, 1) := by decide +kernel
set_option maxRecDepth 20000 in
theorem ggX6_open_X6_within : GoodIn wsX6_open wsX6_within := goodIn_r _ [6] (by decide +kernel) (by decide +kernel)
set_option maxRecDepth 20000 in
theorem gX6_open_X6_within : GoodIn wsX6_open (va_wsS RX6 82 yX6_within wsX6_within) := goodIn_app (goodIn_of _ (by decide +kernel)) ggX6_open_X6_within
set_option maxRecDepth 20000 in
theorem ggX6_open_X0_lookAt : GoodIn wsX6_open wsX0_lookAt := goodIn_r _ [11, 12, 13, 14, 15, 16, 17, 18, 19, 20, 21, 22, 23, 24, 25, 26, 27, 28, 29, 30, 31, 32, 33, 34, 35, 36, 10, 37, 38, 137, 138, 139, 140, 141, 142, 143, 144, 145, 146, 147, 148, 149, 150, 151] (by decide +kernel) (by decide +kernel)
set_option maxRecDepth 20000 in
theorem gX6_open_X0_lookAt : GoodIn wsX6_open (wsV RX6 139 RX0 yX0_lookAt wsX0_lookAt) := goodIn_app (goodIn_of _ (by decide +kernel)) ggX6_open_X0_lookAt
set_option maxRecDepth 20000 in
theorem ggX6_open_X0_send : GoodIn wsX6_open wsX0_send := goodIn_r _ [42, 43, 13, 38, 16, 44, 45, 46, 47, 20, 48, 49, 50, 51, 10, 52, 53, 54, 55, 56, 17, 144, 145, 146, 147, 148, 149, 150, 151] (by decide +kernel) (by decide +kernel)
set_option maxRecDepth 20000 in
theorem gX6_open_X0_send : GoodIn wsX6_open (wsV RX6 154 RX0 yX0_send wsX0_send) := goodIn_app (goodIn_of _ (by decide +kernel)) ggX6_open_X0_send
set_option maxRecDepth 20000 in
theorem ggX6_open_X6_secondsIfOpenedBehind : GoodIn wsX6_open wsX6_secondsIfOpenedBehind := goodIn_r _ [60, 61, 2, 62, 1, 63, 64, 65, 66, 67, 25, 68, 29, 69, 70, 28, 71, 72, 27, 73, 74, 75, 76, 77, 78, 79, 80, 81, 82, 83, 84, 30, 31, 32, 33, 85, 86, 87, 88, 89, 90, 91, 92, 93, 94, 95, 8, 9, 10, 11, 12, 13, 14, 15, 16, 17, 18, 19, 20, 21, 22, 23, 24, 26, 34, 35, 36, 37, 38, 96, 40, 41, 42, 43, 44, 45, 46, 47, 48, 49, 50, 51, 52, 53, 54, 55, 56, 97, 98, 99, 100, 101, 102, 103, 104, 105, 106, 107, 108, 109, 110, 111, 112, 113, 114, 115, 116, 117, 118, 119, 120, 121, 122, 123, 124, 125, 126, 127, 128, 129, 130, 131, 132, 133, 134, 135, 136, 137, 138, 139, 140, 141, 142, 143, 152, 153, 154, 144, 145, 146, 147, 148, 149, 150, 151] (by decide +kernel) (by decide +kernel)
set_option maxRecDepth 20000 in
theorem gX6_open_X6_secondsIfOpenedBehind : GoodIn wsX6_open (wsV RX6 192 RX6 yX6_secondsIfOpenedBehind wsX6_secondsIfOpenedBehind) := goodIn_app (goodIn_of _ (by decide +kernel)) ggX6_open_X6_secondsIfOpenedBehind
theorem dX6_open_0 : decode cX6_open 0 = .ok (.iload_n 1, 1) := by decide +kernel
theorem dX6_open_1 : decode cX6_open 1 = .ok (.iconst 0, 1) := by decide +kernel
theorem dX6_open_2 : decode cX6_open 2 = .ok (.bipush 20, 2) := by decide +kernel
theorem dX6_open_4 : decode cX6_open 4 = .ok (.invokestatic 82, 3) := by decide +kernel
theorem dX6_open_7 : decode cX6_open 7 = .ok (.ifCond .eq 12, 3) := by decide +kernel
theorem dX6_open_10 : decode cX6_open 10 = .ok (.iload_n 2, 1) := by decide +kernel
theorem dX6_open_11 : decode cX6_open 11 = .ok (.iconst 0, 1) := by decide +kernel
theorem dX6_open_12 : decode cX6_open 12 = .ok (.iconst 1, 1) := by decide +kernel
theorem dX6_open_13 : decode cX6_open 13 = .ok (.invokestatic 82, 3) := by decide +kernel
theorem dX6_open_16 : decode cX6_open 16 = .ok (.ifCond .ne 5, 3) := by decide +kernel
theorem dX6_open_19 : decode cX6_open 19 = .ok (.iconst (-1), 1) := by decide +kernel
theorem dX6_open_20 : decode cX6_open 20 = .ok (.ireturn, 1) := by decide +kernel
theorem dX6_open_21 : decode cX6_open 21 = .ok (.aload_n 0, 1) := by decide +kernel
theorem dX6_open_22 : decode cX6_open 22 = .ok (.getfield 48, 3) := by decide +kernel
theorem dX6_open_25 : decode cX6_open 25 = .ok (.aload_n 0, 1) := by decide +kernel
theorem dX6_open_26 : decode cX6_open 26 = .ok (.getfield 19, 3) := by decide +kernel
theorem dX6_open_29 : decode cX6_open 29 = .ok (.invokevirtual 139, 3) := by decide +kernel
theorem dX6_open_32 : decode cX6_open 32 = .ok (.aload_n 0, 1) := by decide +kernel
theorem dX6_open_33 : decode cX6_open 33 = .ok (.getfield 48, 3) := by decide +kernel
theorem dX6_open_36 : decode cX6_open 36 = .ok (.iconst 0, 1) := by decide +kernel
theorem dX6_open_37 : decode cX6_open 37 = .ok (.invokevirtual 154, 3) := by decide +kernel
theorem dX6_open_40 : decode cX6_open 40 = .ok (.iconst 0, 1) := by decide +kernel
theorem dX6_open_41 : decode cX6_open 41 = .ok (.istore_n 3, 1) := by decide +kernel
theorem dX6_open_42 : decode cX6_open 42 = .ok (.iconst 0, 1) := by decide +kernel
theorem dX6_open_43 : decode cX6_open 43 = .ok (.istore 4, 2) := by decide +kernel
theorem dX6_open_45 : decode cX6_open 45 = .ok (.iconst 0, 1) := by decide +kernel
theorem dX6_open_46 : decode cX6_open 46 = .ok (.istore 5, 2) := by decide +kernel
theorem dX6_open_48 : decode cX6_open 48 = .ok (.iload 5, 2) := by decide +kernel
theorem dX6_open_50 : decode cX6_open 50 = .ok (.bipush 30, 2) := by decide +kernel
theorem dX6_open_52 : decode cX6_open 52 = .ok (.if_icmp .gt 44, 3) := by decide +kernel
theorem dX6_open_55 : decode cX6_open 55 = .ok (.aload_n 0, 1) := by decide +kernel
theorem dX6_open_56 : decode cX6_open 56 = .ok (.iload 5, 2) := by decide +kernel
theorem dX6_open_58 : decode cX6_open 58 = .ok (.invokevirtual 192, 3) := by decide +kernel
theorem dX6_open_61 : decode cX6_open 61 = .ok (.iload_n 1, 1) := by decide +kernel
theorem dX6_open_62 : decode cX6_open 62 = .ok (.bipush 30, 2) := by decide +kernel
theorem dX6_open_64 : decode cX6_open 64 = .ok (.iload 5, 2) := by decide +kernel
theorem dX6_open_66 : decode cX6_open 66 = .ok (.isub, 1) := by decide +kernel
theorem dX6_open_67 : decode cX6_open 67 = .ok (.imul, 1) := by decide +kernel
theorem dX6_open_68 : decode cX6_open 68 = .ok (.iadd, 1) := by decide +kernel
theorem dX6_open_69 : decode cX6_open 69 = .ok (.istore 6, 2) := by decide +kernel
theorem dX6_open_71 : decode cX6_open 71 = .ok (.iload 5, 2) := by decide +kernel
theorem dX6_open_73 : decode cX6_open 73 = .ok (.ifCond .eq 10, 3) := by decide +kernel
theorem dX6_open_76 : decode cX6_open 76 = .ok (.iload 6, 2) := by decide +kernel
theorem dX6_open_78 : decode cX6_open 78 = .ok (.iload 4, 2) := by decide +kernel
theorem dX6_open_80 : decode cX6_open 80 = .ok (.if_icmp .ge 10, 3) := by decide +kernel
theorem dX6_open_83 : decode cX6_open 83 = .ok (.iload 5, 2) := by decide +kernel
theorem dX6_open_85 : decode cX6_open 85 = .ok (.istore_n 3, 1) := by decide +kernel
theorem dX6_open_86 : decode cX6_open 86 = .ok (.iload 6, 2) := by decide +kernel
theorem dX6_open_88 : decode cX6_open 88 = .ok (.istore 4, 2) := by decide +kernel
theorem dX6_open_90 : decode cX6_open 90 = .ok (.iinc 5 1, 3) := by decide +kernel
theorem dX6_open_93 : decode cX6_open 93 = .ok (.goto (-45), 3) := by decide +kernel
theorem dX6_open_96 : decode cX6_open 96 = .ok (.iload_n 2, 1) := by decide +kernel
theorem dX6_open_97 : decode cX6_open 97 = .ok (.ifCond .ne 7, 3) := by decide +kernel
theorem dX6_open_100 : decode cX6_open 100 = .ok (.iload_n 3, 1) := by decide +kernel
theorem dX6_open_101 : decode cX6_open 101 = .ok (.goto 5, 3) := by decide +kernel
theorem dX6_open_104 : decode cX6_open 104 = .ok (.iload 4, 2) := by decide +kernel
theorem dX6_open_106 : decode cX6_open 106 = .ok (.ireturn, 1) := by decide +kernel
set_option maxRecDepth 20000 in
theorem ggX6_secondsIfOpenedBehind_X3_becomeLike : GoodIn wsX6_secondsIfOpenedBehind wsX3_becomeLike := goodIn_r _ [11, 12, 13, 14, 15, 16, 17, 18, 127, 128, 129, 130, 131, 132, 133] (by decide +kernel) (by decide +kernel)
set_option maxRecDepth 20000 in
theorem gX6_secondsIfOpenedBehind_X3_becomeLike : GoodIn wsX6_secondsIfOpenedBehind (wsV RX6 89 RX3 yX3_becomeLike wsX3_becomeLike) := goodIn_app (goodIn_of _ (by decide +kernel)) ggX6_secondsIfOpenedBehind_X3_becomeLike
set_option maxRecDepth 20000 in
theorem ggX6_secondsIfOpenedBehind_X3_letGoBy : GoodIn wsX6_secondsIfOpenedBehind wsX3_letGoBy := goodIn_r _ [22, 12, 17, 23, 24, 25, 10, 26, 13, 27, 28, 29, 30, 16, 18, 31, 32, 33, 34, 127, 128, 129, 130, 131, 132, 133] (by decide +kernel) (by decide +kernel)
set_option maxRecDepth 20000 in
theorem gX6_secondsIfOpenedBehind_X3_letGoBy : GoodIn wsX6_secondsIfOpenedBehind (wsV RX6 126 RX3 yX3_letGoBy wsX3_letGoBy) := goodIn_app (goodIn_of _ (by decide +kernel)) ggX6_secondsIfOpenedBehind_X3_letGoBy
set_option maxRecDepth 20000 in
theorem ggX6_secondsIfOpenedBehind_X3_thingsThrough : GoodIn wsX6_secondsIfOpenedBehind wsX3_thingsThrough := goodIn_r _ [26, 13, 127, 128, 129, 130, 131, 132, 133] (by decide +kernel) (by decide +kernel)
set_option maxRecDepth 20000 in
theorem gX6_secondsIfOpenedBehind_X3_thingsThrough : GoodIn wsX6_secondsIfOpenedBehind (wsV RX6 195 RX3 yX3_thingsThrough wsX3_thingsThrough) := goodIn_app (goodIn_of _ (by decide +kernel)) ggX6_secondsIfOpenedBehind_X3_thingsThrough
set_option maxRecDepth 20000 in
theorem ggX6_secondsIfOpenedBehind_X2_findLeast : GoodIn wsX6_secondsIfOpenedBehind wsX2_findLeast := goodIn_r _ [40, 41, 42, 43, 44, 45, 46, 47, 48, 49, 50, 51, 52, 53, 54, 55, 56, 57, 58, 59, 60, 61, 62, 10, 63, 18, 15, 12, 31, 32, 33, 34, 64, 65, 66, 67, 68, 69, 70, 71, 72, 73, 74, 75, 76, 77, 78, 79, 80, 81, 82, 83, 84, 85, 86, 87, 88, 89, 39, 90, 91, 92, 93, 94, 95, 96, 97, 98, 99, 100, 101, 102, 103, 104, 105, 106, 107, 108, 109, 110, 111, 112, 113, 114, 115, 116, 117, 134, 135, 136, 127, 128, 129, 130, 131, 132, 133, 137, 138, 139, 140, 141, 142, 143, 144] (by decide +kernel) (by decide +kernel)
set_option maxRecDepth 20000 in
theorem gX6_secondsIfOpenedBehind_X2_findLeast : GoodIn wsX6_secondsIfOpenedBehind (wsV RX6 166 RX2 yX2_findLeast wsX2_findLeast) := goodIn_app (goodIn_of _ (by decide +kernel)) ggX6_secondsIfOpenedBehind_X2_findLeast
set_option maxRecDepth 20000 in
theorem ggX6_secondsIfOpenedBehind_X0_sumOfHead : GoodIn wsX6_secondsIfOpenedBehind wsX0_sumOfHead := goodIn_r _ [102, 51, 78, 137, 138, 139, 140, 141, 142, 143, 144] (by decide +kernel) (by decide +kernel)
set_option maxRecDepth 20000 in
theorem gX6_secondsIfOpenedBehind_X0_sumOfHead : GoodIn wsX6_secondsIfOpenedBehind (wsV RX6 198 RX0 yX0_sumOfHead wsX0_sumOfHead) := goodIn_app (goodIn_of _ (by decide +kernel)) ggX6_secondsIfOpenedBehind_X0_sumOfHead
theorem dX6_secondsIfOpenedBehind_0 : decode cX6_secondsIfOpenedBehind 0 = .ok (.aload_n 0, 1) := by decide +kernel
theorem dX6_secondsIfOpenedBehind_1 : decode cX6_secondsIfOpenedBehind 1 = .ok (.getfield 23, 3) := by decide +kernel
theorem dX6_secondsIfOpenedBehind_4 : decode cX6_secondsIfOpenedBehind 4 = .ok (.aload_n 0, 1) := by decide +kernel
theorem dX6_secondsIfOpenedBehind_5 : decode cX6_secondsIfOpenedBehind 5 = .ok (.getfield 19, 3) := by decide +kernel
theorem dX6_secondsIfOpenedBehind_8 : decode cX6_secondsIfOpenedBehind 8 = .ok (.invokevirtual 89, 3) := by decide +kernel
theorem dX6_secondsIfOpenedBehind_11 : decode cX6_secondsIfOpenedBehind 11 = .ok (.aload_n 0, 1) := by decide +kernel
theorem dX6_secondsIfOpenedBehind_12 : decode cX6_secondsIfOpenedBehind 12 = .ok (.getfield 23, 3) := by decide +kernel
theorem dX6_secondsIfOpenedBehind_15 : decode cX6_secondsIfOpenedBehind 15 = .ok (.iload_n 1, 1) := by decide +kernel
theorem dX6_secondsIfOpenedBehind_16 : decode cX6_secondsIfOpenedBehind 16 = .ok (.invokevirtual 126, 3) := by decide +kernel
theorem dX6_secondsIfOpenedBehind_19 : decode cX6_secondsIfOpenedBehind 19 = .ok (.istore_n 2, 1) := by decide +kernel
theorem dX6_secondsIfOpenedBehind_20 : decode cX6_secondsIfOpenedBehind 20 = .ok (.iload_n 1, 1) := by decide +kernel
theorem dX6_secondsIfOpenedBehind_21 : decode cX6_secondsIfOpenedBehind 21 = .ok (.ifCond .eq 24, 3) := by decide +kernel
theorem dX6_secondsIfOpenedBehind_24 : decode cX6_secondsIfOpenedBehind 24 = .ok (.aload_n 0, 1) := by decide +kernel
theorem dX6_secondsIfOpenedBehind_25 : decode cX6_secondsIfOpenedBehind 25 = .ok (.getfield 19, 3) := by decide +kernel
theorem dX6_secondsIfOpenedBehind_28 : decode cX6_secondsIfOpenedBehind 28 = .ok (.iload_n 1, 1) := by decide +kernel
theorem dX6_secondsIfOpenedBehind_29 : decode cX6_secondsIfOpenedBehind 29 = .ok (.invokevirtual 195, 3) := by decide +kernel
theorem dX6_secondsIfOpenedBehind_32 : decode cX6_secondsIfOpenedBehind 32 = .ok (.aload_n 0, 1) := by decide +kernel
theorem dX6_secondsIfOpenedBehind_33 : decode cX6_secondsIfOpenedBehind 33 = .ok (.getfield 19, 3) := by decide +kernel
theorem dX6_secondsIfOpenedBehind_36 : decode cX6_secondsIfOpenedBehind 36 = .ok (.iload_n 1, 1) := by decide +kernel
theorem dX6_secondsIfOpenedBehind_37 : decode cX6_secondsIfOpenedBehind 37 = .ok (.iconst 1, 1) := by decide +kernel
theorem dX6_secondsIfOpenedBehind_38 : decode cX6_secondsIfOpenedBehind 38 = .ok (.isub, 1) := by decide +kernel
theorem dX6_secondsIfOpenedBehind_39 : decode cX6_secondsIfOpenedBehind 39 = .ok (.invokevirtual 195, 3) := by decide +kernel
theorem dX6_secondsIfOpenedBehind_42 : decode cX6_secondsIfOpenedBehind 42 = .ok (.if_icmp .eq 15, 3) := by decide +kernel
theorem dX6_secondsIfOpenedBehind_45 : decode cX6_secondsIfOpenedBehind 45 = .ok (.aload_n 0, 1) := by decide +kernel
theorem dX6_secondsIfOpenedBehind_46 : decode cX6_secondsIfOpenedBehind 46 = .ok (.getfield 55, 3) := by decide +kernel
theorem dX6_secondsIfOpenedBehind_49 : decode cX6_secondsIfOpenedBehind 49 = .ok (.aload_n 0, 1) := by decide +kernel
theorem dX6_secondsIfOpenedBehind_50 : decode cX6_secondsIfOpenedBehind 50 = .ok (.getfield 23, 3) := by decide +kernel
theorem dX6_secondsIfOpenedBehind_53 : decode cX6_secondsIfOpenedBehind 53 = .ok (.iconst 1, 1) := by decide +kernel
theorem dX6_secondsIfOpenedBehind_54 : decode cX6_secondsIfOpenedBehind 54 = .ok (.invokevirtual 166, 3) := by decide +kernel
theorem dX6_secondsIfOpenedBehind_57 : decode cX6_secondsIfOpenedBehind 57 = .ok (.aload_n 0, 1) := by decide +kernel
theorem dX6_secondsIfOpenedBehind_58 : decode cX6_secondsIfOpenedBehind 58 = .ok (.getfield 48, 3) := by decide +kernel
theorem dX6_secondsIfOpenedBehind_61 : decode cX6_secondsIfOpenedBehind 61 = .ok (.iload_n 2, 1) := by decide +kernel
theorem dX6_secondsIfOpenedBehind_62 : decode cX6_secondsIfOpenedBehind 62 = .ok (.invokevirtual 198, 3) := by decide +kernel
theorem dX6_secondsIfOpenedBehind_65 : decode cX6_secondsIfOpenedBehind 65 = .ok (.iload_n 1, 1) := by decide +kernel
theorem dX6_secondsIfOpenedBehind_66 : decode cX6_secondsIfOpenedBehind 66 = .ok (.aload_n 0, 1) := by decide +kernel
theorem dX6_secondsIfOpenedBehind_67 : decode cX6_secondsIfOpenedBehind 67 = .ok (.getfield 23, 3) := by decide +kernel
theorem dX6_secondsIfOpenedBehind_70 : decode cX6_secondsIfOpenedBehind 70 = .ok (.getfield 86, 3) := by decide +kernel
theorem dX6_secondsIfOpenedBehind_73 : decode cX6_secondsIfOpenedBehind 73 = .ok (.imul, 1) := by decide +kernel
theorem dX6_secondsIfOpenedBehind_74 : decode cX6_secondsIfOpenedBehind 74 = .ok (.iadd, 1) := by decide +kernel
theorem dX6_secondsIfOpenedBehind_75 : decode cX6_secondsIfOpenedBehind 75 = .ok (.aload_n 0, 1) := by decide +kernel
theorem dX6_secondsIfOpenedBehind_76 : decode cX6_secondsIfOpenedBehind 76 = .ok (.getfield 55, 3) := by decide +kernel
theorem dX6_secondsIfOpenedBehind_79 : decode cX6_secondsIfOpenedBehind 79 = .ok (.getfield 173, 3) := by decide +kernel
theorem dX6_secondsIfOpenedBehind_82 : decode cX6_secondsIfOpenedBehind 82 = .ok (.iadd, 1) := by decide +kernel
theorem dX6_secondsIfOpenedBehind_83 : decode cX6_secondsIfOpenedBehind 83 = .ok (.ireturn, 1) := by decide +kernel
set_option maxRecDepth 20000 in
theorem ggX6_tape_X3_has : GoodIn wsX6_tape wsX3_has := goodIn_r _ [8, 9, 33, 34, 35, 36, 37, 38, 39] (by decide +kernel) (by decide +kernel)
set_option maxRecDepth 20000 in
theorem gX6_tape_X3_has : GoodIn wsX6_tape (wsV RX6 97 RX3 yX3_has wsX3_has) := goodIn_app (goodIn_of _ (by decide +kernel)) ggX6_tape_X3_has
set_option maxRecDepth 20000 in
theorem ggX6_tape_X6_within : GoodIn wsX6_tape wsX6_within := goodIn_r _ [13] (by decide +kernel) (by decide +kernel)
set_option maxRecDepth 20000 in
theorem gX6_tape_X6_within : GoodIn wsX6_tape (va_wsS RX6 82 yX6_within wsX6_within) := goodIn_app (goodIn_of _ (by decide +kernel)) ggX6_tape_X6_within
set_option maxRecDepth 20000 in
theorem ggX6_tape_X4_append : GoodIn wsX6_tape wsX4_append := goodIn_r _ [18, 19, 20, 21, 30, 31, 32] (by decide +kernel) (by decide +kernel)
set_option maxRecDepth 20000 in
theorem gX6_tape_X4_append : GoodIn wsX6_tape (wsV RX6 201 RX4 yX4_append wsX4_append) := goodIn_app (goodIn_of _ (by decide +kernel)) ggX6_tape_X4_append
theorem dX6_tape_0 : decode cX6_tape 0 = .ok (.aload_n 0, 1) := by decide +kernel
theorem dX6_tape_1 : decode cX6_tape 1 = .ok (.getfield 19, 3) := by decide +kernel
theorem dX6_tape_4 : decode cX6_tape 4 = .ok (.iload_n 1, 1) := by decide +kernel
theorem dX6_tape_5 : decode cX6_tape 5 = .ok (.invokevirtual 97, 3) := by decide +kernel
theorem dX6_tape_8 : decode cX6_tape 8 = .ok (.ifCond .eq 12, 3) := by decide +kernel
theorem dX6_tape_11 : decode cX6_tape 11 = .ok (.iload_n 2, 1) := by decide +kernel
theorem dX6_tape_12 : decode cX6_tape 12 = .ok (.iconst 0, 1) := by decide +kernel
theorem dX6_tape_13 : decode cX6_tape 13 = .ok (.iconst 1, 1) := by decide +kernel
theorem dX6_tape_14 : decode cX6_tape 14 = .ok (.invokestatic 82, 3) := by decide +kernel
theorem dX6_tape_17 : decode cX6_tape 17 = .ok (.ifCond .ne 5, 3) := by decide +kernel
theorem dX6_tape_20 : decode cX6_tape 20 = .ok (.iconst (-1), 1) := by decide +kernel
theorem dX6_tape_21 : decode cX6_tape 21 = .ok (.ireturn, 1) := by decide +kernel
theorem dX6_tape_22 : decode cX6_tape 22 = .ok (.aload_n 0, 1) := by decide +kernel
theorem dX6_tape_23 : decode cX6_tape 23 = .ok (.getfield 41, 3) := by decide +kernel
theorem dX6_tape_26 : decode cX6_tape 26 = .ok (.iload_n 1, 1) := by decide +kernel
theorem dX6_tape_27 : decode cX6_tape 27 = .ok (.iload_n 2, 1) := by decide +kernel
theorem dX6_tape_28 : decode cX6_tape 28 = .ok (.invokevirtual 201, 3) := by decide +kernel
theorem dX6_tape_31 : decode cX6_tape 31 = .ok (.ifCond .eq 13, 3) := by decide +kernel
