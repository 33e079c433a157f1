theorem dX0_init_0 : decode cX0_init 0 = .ok (.aload_n 0, 1) := by decide +kernel
theorem dX0_init_1 : decode cX0_init 1 = .ok (.invokespecial 1, 3) := by decide +kernel
theorem dX0_init_4 : decode cX0_init 4 = .ok (.aload_n 0, 1) := by decide +kernel
theorem dX0_init_5 : decode cX0_init 5 = .ok (.iload_n 1, 1) := by decide +kernel
theorem dX0_init_6 : decode cX0_init 6 = .ok (.iconst 0, 1) := by decide +kernel
theorem dX0_init_7 : decode cX0_init 7 = .ok (.invokestatic 7, 3) := by decide +kernel
theorem dX0_init_10 : decode cX0_init 10 = .ok (.newarray .int, 2) := by decide +kernel
theorem dX0_init_12 : decode cX0_init 12 = .ok (.putfield 13, 3) := by decide +kernel
theorem dX0_init_15 : decode cX0_init 15 = .ok (.return_, 1) := by decide +kernel
theorem dX0_get_0 : decode cX0_get 0 = .ok (.iload_n 1, 1) := by decide +kernel
theorem dX0_get_1 : decode cX0_get 1 = .ok (.ifCond .lt 21, 3) := by decide +kernel
theorem dX0_get_4 : decode cX0_get 4 = .ok (.iload_n 1, 1) := by decide +kernel
theorem dX0_get_5 : decode cX0_get 5 = .ok (.aload_n 0, 1) := by decide +kernel
theorem dX0_get_6 : decode cX0_get 6 = .ok (.getfield 13, 3) := by decide +kernel
theorem dX0_get_9 : decode cX0_get 9 = .ok (.arraylength, 1) := by decide +kernel
theorem dX0_get_10 : decode cX0_get 10 = .ok (.if_icmp .ge 12, 3) := by decide +kernel
theorem dX0_get_13 : decode cX0_get 13 = .ok (.aload_n 0, 1) := by decide +kernel
theorem dX0_get_14 : decode cX0_get 14 = .ok (.getfield 13, 3) := by decide +kernel
theorem dX0_get_17 : decode cX0_get 17 = .ok (.iload_n 1, 1) := by decide +kernel
theorem dX0_get_18 : decode cX0_get 18 = .ok (.iaload, 1) := by decide +kernel
theorem dX0_get_19 : decode cX0_get 19 = .ok (.goto 4, 3) := by decide +kernel
theorem dX0_get_22 : decode cX0_get 22 = .ok (.iconst 0, 1) := by decide +kernel
theorem dX0_get_23 : decode cX0_get 23 = .ok (.ireturn, 1) := by decide +kernel
theorem dX0_set_0 : decode cX0_set 0 = .ok (.iload_n 1, 1) := by decide +kernel
theorem dX0_set_1 : decode cX0_set 1 = .ok (.ifCond .lt 19, 3) := by decide +kernel
theorem dX0_set_4 : decode cX0_set 4 = .ok (.iload_n 1, 1) := by decide +kernel
theorem dX0_set_5 : decode cX0_set 5 = .ok (.aload_n 0, 1) := by decide +kernel
theorem dX0_set_6 : decode cX0_set 6 = .ok (.getfield 13, 3) := by decide +kernel
theorem dX0_set_9 : decode cX0_set 9 = .ok (.arraylength, 1) := by decide +kernel
theorem dX0_set_10 : decode cX0_set 10 = .ok (.if_icmp .ge 10, 3) := by decide +kernel
theorem dX0_set_13 : decode cX0_set 13 = .ok (.aload_n 0, 1) := by decide +kernel
theorem dX0_set_14 : decode cX0_set 14 = .ok (.getfield 13, 3) := by decide +kernel
theorem dX0_set_17 : decode cX0_set 17 = .ok (.iload_n 1, 1) := by decide +kernel
theorem dX0_set_18 : decode cX0_set 18 = .ok (.iload_n 2, 1) := by decide +kernel
theorem dX0_set_19 : decode cX0_set 19 = .ok (.iastore, 1) := by decide +kernel
theorem dX0_set_20 : decode cX0_set 20 = .ok (.return_, 1) := by decide +kernel
theorem dX0_add_0 : decode cX0_add 0 = .ok (.iload_n 1, 1) := by decide +kernel
theorem dX0_add_1 : decode cX0_add 1 = .ok (.ifCond .lt 22, 3) := by decide +kernel
theorem dX0_add_4 : decode cX0_add 4 = .ok (.iload_n 1, 1) := by decide +kernel
theorem dX0_add_5 : decode cX0_add 5 = .ok (.aload_n 0, 1) := by decide +kernel
theorem dX0_add_6 : decode cX0_add 6 = .ok (.getfield 13, 3) := by decide +kernel
theorem dX0_add_9 : decode cX0_add 9 = .ok (.arraylength, 1) := by decide +kernel
theorem dX0_add_10 : decode cX0_add 10 = .ok (.if_icmp .ge 13, 3) := by decide +kernel
theorem dX0_add_13 : decode cX0_add 13 = .ok (.aload_n 0, 1) := by decide +kernel
theorem dX0_add_14 : decode cX0_add 14 = .ok (.getfield 13, 3) := by decide +kernel
theorem dX0_add_17 : decode cX0_add 17 = .ok (.iload_n 1, 1) := by decide +kernel
theorem dX0_add_18 : decode cX0_add 18 = .ok (.dup2, 1) := by decide +kernel
theorem dX0_add_19 : decode cX0_add 19 = .ok (.iaload, 1) := by decide +kernel
theorem dX0_add_20 : decode cX0_add 20 = .ok (.iload_n 2, 1) := by decide +kernel
theorem dX0_add_21 : decode cX0_add 21 = .ok (.iadd, 1) := by decide +kernel
theorem dX0_add_22 : decode cX0_add 22 = .ok (.iastore, 1) := by decide +kernel
theorem dX0_add_23 : decode cX0_add 23 = .ok (.return_, 1) := by decide +kernel
theorem dX0_sum_0 : decode cX0_sum 0 = .ok (.iconst 0, 1) := by decide +kernel
theorem dX0_sum_1 : decode cX0_sum 1 = .ok (.istore_n 1, 1) := by decide +kernel
theorem dX0_sum_2 : decode cX0_sum 2 = .ok (.iconst 0, 1) := by decide +kernel
theorem dX0_sum_3 : decode cX0_sum 3 = .ok (.istore_n 2, 1) := by decide +kernel
theorem dX0_sum_4 : decode cX0_sum 4 = .ok (.iload_n 2, 1) := by decide +kernel
theorem dX0_sum_5 : decode cX0_sum 5 = .ok (.aload_n 0, 1) := by decide +kernel
theorem dX0_sum_6 : decode cX0_sum 6 = .ok (.getfield 13, 3) := by decide +kernel
theorem dX0_sum_9 : decode cX0_sum 9 = .ok (.arraylength, 1) := by decide +kernel
theorem dX0_sum_10 : decode cX0_sum 10 = .ok (.if_icmp .ge 18, 3) := by decide +kernel
theorem dX0_sum_13 : decode cX0_sum 13 = .ok (.iload_n 1, 1) := by decide +kernel
theorem dX0_sum_14 : decode cX0_sum 14 = .ok (.aload_n 0, 1) := by decide +kernel
theorem dX0_sum_15 : decode cX0_sum 15 = .ok (.getfield 13, 3) := by decide +kernel
theorem dX0_sum_18 : decode cX0_sum 18 = .ok (.iload_n 2, 1) := by decide +kernel
theorem dX0_sum_19 : decode cX0_sum 19 = .ok (.iaload, 1) := by decide +kernel
theorem dX0_sum_20 : decode cX0_sum 20 = .ok (.iadd, 1) := by decide +kernel
theorem dX0_sum_21 : decode cX0_sum 21 = .ok (.istore_n 1, 1) := by decide +kernel
theorem dX0_sum_22 : decode cX0_sum 22 = .ok (.iinc 2 1, 3) := by decide +kernel
theorem dX0_sum_25 : decode cX0_sum 25 = .ok (.goto (-21), 3) := by decide +kernel
theorem dX0_sum_28 : decode cX0_sum 28 = .ok (.iload_n 1, 1) := by decide +kernel
theorem dX0_sum_29 : decode cX0_sum 29 = .ok (.ireturn, 1) := by decide +kernel
theorem dX0_copyFrom_0 : decode cX0_copyFrom 0 = .ok (.aload_n 1, 1) := by decide +kernel
theorem dX0_copyFrom_1 : decode cX0_copyFrom 1 = .ok (.ifnull 29, 3) := by decide +kernel
theorem dX0_copyFrom_4 : decode cX0_copyFrom 4 = .ok (.aload_n 1, 1) := by decide +kernel
theorem dX0_copyFrom_5 : decode cX0_copyFrom 5 = .ok (.getfield 13, 3) := by decide +kernel
theorem dX0_copyFrom_8 : decode cX0_copyFrom 8 = .ok (.iconst 0, 1) := by decide +kernel
theorem dX0_copyFrom_9 : decode cX0_copyFrom 9 = .ok (.aload_n 0, 1) := by decide +kernel
theorem dX0_copyFrom_10 : decode cX0_copyFrom 10 = .ok (.getfield 13, 3) := by decide +kernel
theorem dX0_copyFrom_13 : decode cX0_copyFrom 13 = .ok (.iconst 0, 1) := by decide +kernel
theorem dX0_copyFrom_14 : decode cX0_copyFrom 14 = .ok (.aload_n 1, 1) := by decide +kernel
theorem dX0_copyFrom_15 : decode cX0_copyFrom 15 = .ok (.getfield 13, 3) := by decide +kernel
theorem dX0_copyFrom_18 : decode cX0_copyFrom 18 = .ok (.arraylength, 1) := by decide +kernel
theorem dX0_copyFrom_19 : decode cX0_copyFrom 19 = .ok (.aload_n 0, 1) := by decide +kernel
theorem dX0_copyFrom_20 : decode cX0_copyFrom 20 = .ok (.getfield 13, 3) := by decide +kernel
theorem dX0_copyFrom_23 : decode cX0_copyFrom 23 = .ok (.arraylength, 1) := by decide +kernel
theorem dX0_copyFrom_24 : decode cX0_copyFrom 24 = .ok (.invokestatic 19, 3) := by decide +kernel
theorem dX0_copyFrom_27 : decode cX0_copyFrom 27 = .ok (.invokestatic 22, 3) := by decide +kernel
theorem dX0_copyFrom_30 : decode cX0_copyFrom 30 = .ok (.return_, 1) := by decide +kernel
set_option maxRecDepth 20000 in
theorem ggX1_init_X0_init : GoodIn wsX1_init wsX0_init := goodIn_r _ [17, 18, 2, 3, 19, 20, 21, 22, 23, 24, 34] (by decide +kernel) (by decide +kernel)
set_option maxRecDepth 20000 in
theorem gX1_init_X0_init : GoodIn wsX1_init (wsX0_init) := ggX1_init_X0_init
set_option maxRecDepth 20000 in
theorem ggX1_init_X1_change : GoodIn wsX1_init wsX1_change := goodIn_r _ [29, 7, 8, 9, 30, 31, 32, 6, 33, 24, 35, 36, 37, 38, 39, 40, 41, 42, 34] (by decide +kernel) (by decide +kernel)
set_option maxRecDepth 20000 in
theorem gX1_init_X1_change : GoodIn wsX1_init (wsV RX1 41 RX1 yX1_change wsX1_change) := goodIn_app (goodIn_of _ (by decide +kernel)) ggX1_init_X1_change
set_option maxRecDepth 20000 in
theorem ggX1_init_X0_set : GoodIn wsX1_init wsX0_set := goodIn_r _ [33, 24, 34] (by decide +kernel) (by decide +kernel)
set_option maxRecDepth 20000 in
theorem gX1_init_X0_set : GoodIn wsX1_init (wsV RX1 45 RX0 yX0_set wsX0_set) := goodIn_app (goodIn_of _ (by decide +kernel)) ggX1_init_X0_set
theorem dX1_init_0 : decode cX1_init 0 = .ok (.aload_n 0, 1) := by decide +kernel
theorem dX1_init_1 : decode cX1_init 1 = .ok (.invokespecial 3, 3) := by decide +kernel
theorem dX1_init_4 : decode cX1_init 4 = .ok (.aload_n 0, 1) := by decide +kernel
theorem dX1_init_5 : decode cX1_init 5 = .ok (.new 9, 3) := by decide +kernel
theorem dX1_init_8 : decode cX1_init 8 = .ok (.dup, 1) := by decide +kernel
theorem dX1_init_9 : decode cX1_init 9 = .ok (.iconst 4, 1) := by decide +kernel
theorem dX1_init_10 : decode cX1_init 10 = .ok (.invokespecial 11, 3) := by decide +kernel
theorem dX1_init_13 : decode cX1_init 13 = .ok (.putfield 14, 3) := by decide +kernel
theorem dX1_init_16 : decode cX1_init 16 = .ok (.aload_n 0, 1) := by decide +kernel
theorem dX1_init_17 : decode cX1_init 17 = .ok (.new 9, 3) := by decide +kernel
theorem dX1_init_20 : decode cX1_init 20 = .ok (.dup, 1) := by decide +kernel
theorem dX1_init_21 : decode cX1_init 21 = .ok (.iconst 4, 1) := by decide +kernel
theorem dX1_init_22 : decode cX1_init 22 = .ok (.invokespecial 11, 3) := by decide +kernel
theorem dX1_init_25 : decode cX1_init 25 = .ok (.putfield 20, 3) := by decide +kernel
theorem dX1_init_28 : decode cX1_init 28 = .ok (.aload_n 0, 1) := by decide +kernel
theorem dX1_init_29 : decode cX1_init 29 = .ok (.new 9, 3) := by decide +kernel
theorem dX1_init_32 : decode cX1_init 32 = .ok (.dup, 1) := by decide +kernel
theorem dX1_init_33 : decode cX1_init 33 = .ok (.iconst 4, 1) := by decide +kernel
theorem dX1_init_34 : decode cX1_init 34 = .ok (.invokespecial 11, 3) := by decide +kernel
theorem dX1_init_37 : decode cX1_init 37 = .ok (.putfield 23, 3) := by decide +kernel
theorem dX1_init_40 : decode cX1_init 40 = .ok (.aload_n 0, 1) := by decide +kernel
theorem dX1_init_41 : decode cX1_init 41 = .ok (.new 9, 3) := by decide +kernel
theorem dX1_init_44 : decode cX1_init 44 = .ok (.dup, 1) := by decide +kernel
theorem dX1_init_45 : decode cX1_init 45 = .ok (.iconst 4, 1) := by decide +kernel
theorem dX1_init_46 : decode cX1_init 46 = .ok (.invokespecial 11, 3) := by decide +kernel
theorem dX1_init_49 : decode cX1_init 49 = .ok (.putfield 26, 3) := by decide +kernel
theorem dX1_init_52 : decode cX1_init 52 = .ok (.aload_n 0, 1) := by decide +kernel
theorem dX1_init_53 : decode cX1_init 53 = .ok (.new 9, 3) := by decide +kernel
theorem dX1_init_56 : decode cX1_init 56 = .ok (.dup, 1) := by decide +kernel
theorem dX1_init_57 : decode cX1_init 57 = .ok (.iconst 4, 1) := by decide +kernel
theorem dX1_init_58 : decode cX1_init 58 = .ok (.invokespecial 11, 3) := by decide +kernel
theorem dX1_init_61 : decode cX1_init 61 = .ok (.putfield 29, 3) := by decide +kernel
theorem dX1_init_64 : decode cX1_init 64 = .ok (.aload_n 0, 1) := by decide +kernel
theorem dX1_init_65 : decode cX1_init 65 = .ok (.new 9, 3) := by decide +kernel
theorem dX1_init_68 : decode cX1_init 68 = .ok (.dup, 1) := by decide +kernel
theorem dX1_init_69 : decode cX1_init 69 = .ok (.iconst 4, 1) := by decide +kernel
theorem dX1_init_70 : decode cX1_init 70 = .ok (.invokespecial 11, 3) := by decide +kernel
theorem dX1_init_73 : decode cX1_init 73 = .ok (.putfield 32, 3) := by decide +kernel
theorem dX1_init_76 : decode cX1_init 76 = .ok (.aload_n 0, 1) := by decide +kernel
theorem dX1_init_77 : decode cX1_init 77 = .ok (.new 9, 3) := by decide +kernel
theorem dX1_init_80 : decode cX1_init 80 = .ok (.dup, 1) := by decide +kernel
theorem dX1_init_81 : decode cX1_init 81 = .ok (.iconst 4, 1) := by decide +kernel
theorem dX1_init_82 : decode cX1_init 82 = .ok (.invokespecial 11, 3) := by decide +kernel
theorem dX1_init_85 : decode cX1_init 85 = .ok (.putfield 35, 3) := by decide +kernel
theorem dX1_init_88 : decode cX1_init 88 = .ok (.aload_n 0, 1) := by decide +kernel
theorem dX1_init_89 : decode cX1_init 89 = .ok (.new 9, 3) := by decide +kernel
theorem dX1_init_92 : decode cX1_init 92 = .ok (.dup, 1) := by decide +kernel
theorem dX1_init_93 : decode cX1_init 93 = .ok (.iconst 4, 1) := by decide +kernel
theorem dX1_init_94 : decode cX1_init 94 = .ok (.invokespecial 11, 3) := by decide +kernel
theorem dX1_init_97 : decode cX1_init 97 = .ok (.putfield 38, 3) := by decide +kernel
theorem dX1_init_100 : decode cX1_init 100 = .ok (.iconst 0, 1) := by decide +kernel
theorem dX1_init_101 : decode cX1_init 101 = .ok (.istore_n 1, 1) := by decide +kernel
theorem dX1_init_102 : decode cX1_init 102 = .ok (.iload_n 1, 1) := by decide +kernel
theorem dX1_init_103 : decode cX1_init 103 = .ok (.iconst 4, 1) := by decide +kernel
theorem dX1_init_104 : decode cX1_init 104 = .ok (.if_icmp .ge 30, 3) := by decide +kernel
theorem dX1_init_107 : decode cX1_init 107 = .ok (.aload_n 0, 1) := by decide +kernel
theorem dX1_init_108 : decode cX1_init 108 = .ok (.iload_n 1, 1) := by decide +kernel
theorem dX1_init_109 : decode cX1_init 109 = .ok (.iload_n 1, 1) := by decide +kernel
theorem dX1_init_110 : decode cX1_init 110 = .ok (.iconst 1, 1) := by decide +kernel
theorem dX1_init_111 : decode cX1_init 111 = .ok (.iand, 1) := by decide +kernel
theorem dX1_init_112 : decode cX1_init 112 = .ok (.iconst 5, 1) := by decide +kernel
theorem dX1_init_113 : decode cX1_init 113 = .ok (.iconst 0, 1) := by decide +kernel
theorem dX1_init_114 : decode cX1_init 114 = .ok (.invokevirtual 41, 3) := by decide +kernel
theorem dX1_init_117 : decode cX1_init 117 = .ok (.aload_n 0, 1) := by decide +kernel
theorem dX1_init_118 : decode cX1_init 118 = .ok (.getfield 29, 3) := by decide +kernel
theorem dX1_init_121 : decode cX1_init 121 = .ok (.iload_n 1, 1) := by decide +kernel
theorem dX1_init_122 : decode cX1_init 122 = .ok (.sipush (-1006), 3) := by decide +kernel
theorem dX1_init_125 : decode cX1_init 125 = .ok (.invokevirtual 45, 3) := by decide +kernel
theorem dX1_init_128 : decode cX1_init 128 = .ok (.iinc 1 1, 3) := by decide +kernel
theorem dX1_init_131 : decode cX1_init 131 = .ok (.goto (-29), 3) := by decide +kernel
theorem dX1_init_134 : decode cX1_init 134 = .ok (.return_, 1) := by decide +kernel
set_option maxRecDepth 20000 in
theorem ggX1_change_X0_set : GoodIn wsX1_change wsX0_set := goodIn_r _ [8, 9, 18] (by decide +kernel) (by decide +kernel)
set_option maxRecDepth 20000 in
theorem gX1_change_X0_set : GoodIn wsX1_change (wsV RX1 45 RX0 yX0_set wsX0_set) := goodIn_app (goodIn_of _ (by decide +kernel)) ggX1_change_X0_set
theorem dX1_change_0 : decode cX1_change 0 = .ok (.aload_n 0, 1) := by decide +kernel
theorem dX1_change_1 : decode cX1_change 1 = .ok (.getfield 14, 3) := by decide +kernel
theorem dX1_change_4 : decode cX1_change 4 = .ok (.iload_n 1, 1) := by decide +kernel
theorem dX1_change_5 : decode cX1_change 5 = .ok (.iload_n 2, 1) := by decide +kernel
theorem dX1_change_6 : decode cX1_change 6 = .ok (.invokevirtual 45, 3) := by decide +kernel
theorem dX1_change_9 : decode cX1_change 9 = .ok (.aload_n 0, 1) := by decide +kernel
theorem dX1_change_10 : decode cX1_change 10 = .ok (.getfield 20, 3) := by decide +kernel
theorem dX1_change_13 : decode cX1_change 13 = .ok (.iload_n 1, 1) := by decide +kernel
theorem dX1_change_14 : decode cX1_change 14 = .ok (.iload_n 3, 1) := by decide +kernel
theorem dX1_change_15 : decode cX1_change 15 = .ok (.invokevirtual 45, 3) := by decide +kernel
theorem dX1_change_18 : decode cX1_change 18 = .ok (.aload_n 0, 1) := by decide +kernel
theorem dX1_change_19 : decode cX1_change 19 = .ok (.getfield 23, 3) := by decide +kernel
theorem dX1_change_22 : decode cX1_change 22 = .ok (.iload_n 1, 1) := by decide +kernel
theorem dX1_change_23 : decode cX1_change 23 = .ok (.iload 4, 2) := by decide +kernel
theorem dX1_change_25 : decode cX1_change 25 = .ok (.invokevirtual 45, 3) := by decide +kernel
theorem dX1_change_28 : decode cX1_change 28 = .ok (.return_, 1) := by decide +kernel
set_option maxRecDepth 20000 in
theorem ggX1_isShut_X0_get : GoodIn wsX1_isShut wsX0_get := goodIn_r _ [6, 7, 16] (by decide +kernel) (by decide +kernel)
set_option maxRecDepth 20000 in
theorem gX1_isShut_X0_get : GoodIn wsX1_isShut (wsV RX1 49 RX0 yX0_get wsX0_get) := goodIn_app (goodIn_of _ (by decide +kernel)) ggX1_isShut_X0_get
theorem dX1_isShut_0 : decode cX1_isShut 0 = .ok (.aload_n 0, 1) := by decide +kernel
theorem dX1_isShut_1 : decode cX1_isShut 1 = .ok (.getfield 26, 3) := by decide +kernel
theorem dX1_isShut_4 : decode cX1_isShut 4 = .ok (.iload_n 1, 1) := by decide +kernel
theorem dX1_isShut_5 : decode cX1_isShut 5 = .ok (.invokevirtual 49, 3) := by decide +kernel
theorem dX1_isShut_8 : decode cX1_isShut 8 = .ok (.ifCond .eq 7, 3) := by decide +kernel
theorem dX1_isShut_11 : decode cX1_isShut 11 = .ok (.iconst 1, 1) := by decide +kernel
theorem dX1_isShut_12 : decode cX1_isShut 12 = .ok (.goto 4, 3) := by decide +kernel
theorem dX1_isShut_15 : decode cX1_isShut 15 = .ok (.iconst 0, 1) := by decide +kernel
theorem dX1_isShut_16 : decode cX1_isShut 16 = .ok (.ireturn, 1) := by decide +kernel
set_option maxRecDepth 20000 in
theorem ggX1_isOpenAcross_X1_isShut : GoodIn wsX1_isOpenAcross wsX1_isShut := goodIn_r _ [10, 11, 12, 13, 14, 15, 16, 17, 18, 19, 20, 21, 22, 23, 24, 25, 26] (by decide +kernel) (by decide +kernel)
set_option maxRecDepth 20000 in
theorem gX1_isOpenAcross_X1_isShut : GoodIn wsX1_isOpenAcross (wsV RX1 53 RX1 yX1_isShut wsX1_isShut) := goodIn_app (goodIn_of _ (by decide +kernel)) ggX1_isOpenAcross_X1_isShut
set_option maxRecDepth 20000 in
theorem ggX1_isOpenAcross_X0_get : GoodIn wsX1_isOpenAcross wsX0_get := goodIn_r _ [16, 17, 26] (by decide +kernel) (by decide +kernel)
set_option maxRecDepth 20000 in
theorem gX1_isOpenAcross_X0_get : GoodIn wsX1_isOpenAcross (wsV RX1 49 RX0 yX0_get wsX0_get) := goodIn_app (goodIn_of _ (by decide +kernel)) ggX1_isOpenAcross_X0_get
theorem dX1_isOpenAcross_0 : decode cX1_isOpenAcross 0 = .ok (.aload_n 0, 1) := by decide +kernel
theorem dX1_isOpenAcross_1 : decode cX1_isOpenAcross 1 = .ok (.iload_n 1, 1) := by decide +kernel
theorem dX1_isOpenAcross_2 : decode cX1_isOpenAcross 2 = .ok (.invokevirtual 53, 3) := by decide +kernel
theorem dX1_isOpenAcross_5 : decode cX1_isOpenAcross 5 = .ok (.ifCond .ne 22, 3) := by decide +kernel
theorem dX1_isOpenAcross_8 : decode cX1_isOpenAcross 8 = .ok (.iload_n 2, 1) := by decide +kernel
theorem dX1_isOpenAcross_9 : decode cX1_isOpenAcross 9 = .ok (.invokestatic 57, 3) := by decide +kernel
theorem dX1_isOpenAcross_12 : decode cX1_isOpenAcross 12 = .ok (.aload_n 0, 1) := by decide +kernel
theorem dX1_isOpenAcross_13 : decode cX1_isOpenAcross 13 = .ok (.getfield 20, 3) := by decide +kernel
theorem dX1_isOpenAcross_16 : decode cX1_isOpenAcross 16 = .ok (.iload_n 1, 1) := by decide +kernel
theorem dX1_isOpenAcross_17 : decode cX1_isOpenAcross 17 = .ok (.invokevirtual 49, 3) := by decide +kernel
theorem dX1_isOpenAcross_20 : decode cX1_isOpenAcross 20 = .ok (.if_icmp .gt 7, 3) := by decide +kernel
theorem dX1_isOpenAcross_23 : decode cX1_isOpenAcross 23 = .ok (.iconst 1, 1) := by decide +kernel
theorem dX1_isOpenAcross_24 : decode cX1_isOpenAcross 24 = .ok (.goto 4, 3) := by decide +kernel
theorem dX1_isOpenAcross_27 : decode cX1_isOpenAcross 27 = .ok (.iconst 0, 1) := by decide +kernel
theorem dX1_isOpenAcross_28 : decode cX1_isOpenAcross 28 = .ok (.ireturn, 1) := by decide +kernel
set_option maxRecDepth 20000 in
theorem ggX1_hasWord_X0_get : GoodIn wsX1_hasWord wsX0_get := goodIn_r _ [6, 7, 16] (by decide +kernel) (by decide +kernel)
set_option maxRecDepth 20000 in
theorem gX1_hasWord_X0_get : GoodIn wsX1_hasWord (wsV RX1 49 RX0 yX0_get wsX0_get) := goodIn_app (goodIn_of _ (by decide +kernel)) ggX1_hasWord_X0_get
theorem dX1_hasWord_0 : decode cX1_hasWord 0 = .ok (.aload_n 0, 1) := by decide +kernel
theorem dX1_hasWord_1 : decode cX1_hasWord 1 = .ok (.getfield 29, 3) := by decide +kernel
theorem dX1_hasWord_4 : decode cX1_hasWord 4 = .ok (.iload_n 1, 1) := by decide +kernel
theorem dX1_hasWord_5 : decode cX1_hasWord 5 = .ok (.invokevirtual 49, 3) := by decide +kernel
theorem dX1_hasWord_8 : decode cX1_hasWord 8 = .ok (.sipush (-1006), 3) := by decide +kernel
theorem dX1_hasWord_11 : decode cX1_hasWord 11 = .ok (.if_icmp .eq 7, 3) := by decide +kernel
theorem dX1_hasWord_14 : decode cX1_hasWord 14 = .ok (.iconst 1, 1) := by decide +kernel
theorem dX1_hasWord_15 : decode cX1_hasWord 15 = .ok (.goto 4, 3) := by decide +kernel
theorem dX1_hasWord_18 : decode cX1_hasWord 18 = .ok (.iconst 0, 1) := by decide +kernel
theorem dX1_hasWord_19 : decode cX1_hasWord 19 = .ok (.ireturn, 1) := by decide +kernel
set_option maxRecDepth 20000 in
theorem ggX1_release_X0_set : GoodIn wsX1_release wsX0_set := goodIn_r _ [7, 8, 17] (by decide +kernel) (by decide +kernel)
set_option maxRecDepth 20000 in
theorem gX1_release_X0_set : GoodIn wsX1_release (wsV RX1 45 RX0 yX0_set wsX0_set) := goodIn_app (goodIn_of _ (by decide +kernel)) ggX1_release_X0_set
theorem dX1_release_0 : decode cX1_release 0 = .ok (.aload_n 0, 1) := by decide +kernel
theorem dX1_release_1 : decode cX1_release 1 = .ok (.getfield 29, 3) := by decide +kernel
theorem dX1_release_4 : decode cX1_release 4 = .ok (.iload_n 1, 1) := by decide +kernel
theorem dX1_release_5 : decode cX1_release 5 = .ok (.sipush (-1006), 3) := by decide +kernel
theorem dX1_release_8 : decode cX1_release 8 = .ok (.invokevirtual 45, 3) := by decide +kernel
theorem dX1_release_11 : decode cX1_release 11 = .ok (.aload_n 0, 1) := by decide +kernel
theorem dX1_release_12 : decode cX1_release 12 = .ok (.getfield 32, 3) := by decide +kernel
theorem dX1_release_15 : decode cX1_release 15 = .ok (.iload_n 1, 1) := by decide +kernel
theorem dX1_release_16 : decode cX1_release 16 = .ok (.iconst 0, 1) := by decide +kernel
theorem dX1_release_17 : decode cX1_release 17 = .ok (.invokevirtual 45, 3) := by decide +kernel
theorem dX1_release_20 : decode cX1_release 20 = .ok (.return_, 1) := by decide +kernel
set_option maxRecDepth 20000 in
theorem ggX1_wordsInside_X1_hasWord : GoodIn wsX1_wordsInside wsX1_hasWord := goodIn_r _ [5, 6, 7, 8, 9, 10, 11, 12, 13, 14, 15, 16, 17, 18, 19, 20, 21] (by decide +kernel) (by decide +kernel)
set_option maxRecDepth 20000 in
theorem gX1_wordsInside_X1_hasWord : GoodIn wsX1_wordsInside (wsV RX1 62 RX1 yX1_hasWord wsX1_hasWord) := goodIn_app (goodIn_of _ (by decide +kernel)) ggX1_wordsInside_X1_hasWord
theorem dX1_wordsInside_0 : decode cX1_wordsInside 0 = .ok (.iconst 0, 1) := by decide +kernel
theorem dX1_wordsInside_1 : decode cX1_wordsInside 1 = .ok (.istore_n 1, 1) := by decide +kernel
theorem dX1_wordsInside_2 : decode cX1_wordsInside 2 = .ok (.iconst 0, 1) := by decide +kernel
theorem dX1_wordsInside_3 : decode cX1_wordsInside 3 = .ok (.istore_n 2, 1) := by decide +kernel
theorem dX1_wordsInside_4 : decode cX1_wordsInside 4 = .ok (.iload_n 2, 1) := by decide +kernel
theorem dX1_wordsInside_5 : decode cX1_wordsInside 5 = .ok (.iconst 4, 1) := by decide +kernel
theorem dX1_wordsInside_6 : decode cX1_wordsInside 6 = .ok (.if_icmp .ge 25, 3) := by decide +kernel
theorem dX1_wordsInside_9 : decode cX1_wordsInside 9 = .ok (.iload_n 1, 1) := by decide +kernel
theorem dX1_wordsInside_10 : decode cX1_wordsInside 10 = .ok (.aload_n 0, 1) := by decide +kernel
theorem dX1_wordsInside_11 : decode cX1_wordsInside 11 = .ok (.iload_n 2, 1) := by decide +kernel
theorem dX1_wordsInside_12 : decode cX1_wordsInside 12 = .ok (.invokevirtual 62, 3) := by decide +kernel
theorem dX1_wordsInside_15 : decode cX1_wordsInside 15 = .ok (.ifCond .eq 7, 3) := by decide +kernel
theorem dX1_wordsInside_18 : decode cX1_wordsInside 18 = .ok (.iconst 1, 1) := by decide +kernel
theorem dX1_wordsInside_19 : decode cX1_wordsInside 19 = .ok (.goto 4, 3) := by decide +kernel
theorem dX1_wordsInside_22 : decode cX1_wordsInside 22 = .ok (.iconst 0, 1) := by decide +kernel
theorem dX1_wordsInside_23 : decode cX1_wordsInside 23 = .ok (.iadd, 1) := by decide +kernel
theorem dX1_wordsInside_24 : decode cX1_wordsInside 24 = .ok (.istore_n 1, 1) := by decide +kernel
theorem dX1_wordsInside_25 : decode cX1_wordsInside 25 = .ok (.iinc 2 1, 3) := by decide +kernel
theorem dX1_wordsInside_28 : decode cX1_wordsInside 28 = .ok (.goto (-24), 3) := by decide +kernel
theorem dX1_wordsInside_31 : decode cX1_wordsInside 31 = .ok (.iload_n 1, 1) := by decide +kernel
theorem dX1_wordsInside_32 : decode cX1_wordsInside 32 = .ok (.ireturn, 1) := by decide +kernel
set_option maxRecDepth 20000 in
theorem ggX1_gateWith_X0_get : GoodIn wsX1_gateWith wsX0_get := goodIn_r _ [6, 7, 16] (by decide +kernel) (by decide +kernel)
set_option maxRecDepth 20000 in
theorem gX1_gateWith_X0_get : GoodIn wsX1_gateWith (wsV RX1 49 RX0 yX0_get wsX0_get) := goodIn_app (goodIn_of _ (by decide +kernel)) ggX1_gateWith_X0_get
theorem dX1_gateWith_0 : decode cX1_gateWith 0 = .ok (.iconst 0, 1) := by decide +kernel
theorem dX1_gateWith_1 : decode cX1_gateWith 1 = .ok (.istore_n 2, 1) := by decide +kernel
theorem dX1_gateWith_2 : decode cX1_gateWith 2 = .ok (.iload_n 2, 1) := by decide +kernel
theorem dX1_gateWith_3 : decode cX1_gateWith 3 = .ok (.iconst 4, 1) := by decide +kernel
theorem dX1_gateWith_4 : decode cX1_gateWith 4 = .ok (.if_icmp .ge 23, 3) := by decide +kernel
theorem dX1_gateWith_7 : decode cX1_gateWith 7 = .ok (.aload_n 0, 1) := by decide +kernel
theorem dX1_gateWith_8 : decode cX1_gateWith 8 = .ok (.getfield 29, 3) := by decide +kernel
theorem dX1_gateWith_11 : decode cX1_gateWith 11 = .ok (.iload_n 2, 1) := by decide +kernel
theorem dX1_gateWith_12 : decode cX1_gateWith 12 = .ok (.invokevirtual 49, 3) := by decide +kernel
theorem dX1_gateWith_15 : decode cX1_gateWith 15 = .ok (.iload_n 1, 1) := by decide +kernel
theorem dX1_gateWith_16 : decode cX1_gateWith 16 = .ok (.if_icmp .ne 5, 3) := by decide +kernel
theorem dX1_gateWith_19 : decode cX1_gateWith 19 = .ok (.iload_n 2, 1) := by decide +kernel
theorem dX1_gateWith_20 : decode cX1_gateWith 20 = .ok (.ireturn, 1) := by decide +kernel
theorem dX1_gateWith_21 : decode cX1_gateWith 21 = .ok (.iinc 2 1, 3) := by decide +kernel
theorem dX1_gateWith_24 : decode cX1_gateWith 24 = .ok (.goto (-22), 3) := by decide +kernel
theorem dX1_gateWith_27 : decode cX1_gateWith 27 = .ok (.sipush (-1006), 3) := by decide +kernel
theorem dX1_gateWith_30 : decode cX1_gateWith 30 = .ok (.ireturn, 1) := by decide +kernel
set_option maxRecDepth 20000 in
theorem ggX1_copyFrom_X0_copyFrom : GoodIn wsX1_copyFrom wsX0_copyFrom := goodIn_r _ [13, 14, 15, 16, 17, 18, 19, 20, 21, 22, 31] (by decide +kernel) (by decide +kernel)
set_option maxRecDepth 20000 in
theorem gX1_copyFrom_X0_copyFrom : GoodIn wsX1_copyFrom (wsV RX1 65 RX0 yX0_copyFrom wsX0_copyFrom) := goodIn_app (goodIn_of _ (by decide +kernel)) ggX1_copyFrom_X0_copyFrom
theorem dX1_copyFrom_0 : decode cX1_copyFrom 0 = .ok (.aload_n 1, 1) := by decide +kernel
theorem dX1_copyFrom_1 : decode cX1_copyFrom 1 = .ok (.ifnull 91, 3) := by decide +kernel
theorem dX1_copyFrom_4 : decode cX1_copyFrom 4 = .ok (.aload_n 0, 1) := by decide +kernel
theorem dX1_copyFrom_5 : decode cX1_copyFrom 5 = .ok (.getfield 14, 3) := by decide +kernel
theorem dX1_copyFrom_8 : decode cX1_copyFrom 8 = .ok (.aload_n 1, 1) := by decide +kernel
theorem dX1_copyFrom_9 : decode cX1_copyFrom 9 = .ok (.getfield 14, 3) := by decide +kernel
theorem dX1_copyFrom_12 : decode cX1_copyFrom 12 = .ok (.invokevirtual 65, 3) := by decide +kernel
theorem dX1_copyFrom_15 : decode cX1_copyFrom 15 = .ok (.aload_n 0, 1) := by decide +kernel
theorem dX1_copyFrom_16 : decode cX1_copyFrom 16 = .ok (.getfield 20, 3) := by decide +kernel
theorem dX1_copyFrom_19 : decode cX1_copyFrom 19 = .ok (.aload_n 1, 1) := by decide +kernel
theorem dX1_copyFrom_20 : decode cX1_copyFrom 20 = .ok (.getfield 20, 3) := by decide +kernel
theorem dX1_copyFrom_23 : decode cX1_copyFrom 23 = .ok (.invokevirtual 65, 3) := by decide +kernel
theorem dX1_copyFrom_26 : decode cX1_copyFrom 26 = .ok (.aload_n 0, 1) := by decide +kernel
theorem dX1_copyFrom_27 : decode cX1_copyFrom 27 = .ok (.getfield 23, 3) := by decide +kernel
theorem dX1_copyFrom_30 : decode cX1_copyFrom 30 = .ok (.aload_n 1, 1) := by decide +kernel
theorem dX1_copyFrom_31 : decode cX1_copyFrom 31 = .ok (.getfield 23, 3) := by decide +kernel
theorem dX1_copyFrom_34 : decode cX1_copyFrom 34 = .ok (.invokevirtual 65, 3) := by decide +kernel
theorem dX1_copyFrom_37 : decode cX1_copyFrom 37 = .ok (.aload_n 0, 1) := by decide +kernel
theorem dX1_copyFrom_38 : decode cX1_copyFrom 38 = .ok (.getfield 26, 3) := by decide +kernel
theorem dX1_copyFrom_41 : decode cX1_copyFrom 41 = .ok (.aload_n 1, 1) := by decide +kernel
theorem dX1_copyFrom_42 : decode cX1_copyFrom 42 = .ok (.getfield 26, 3) := by decide +kernel
theorem dX1_copyFrom_45 : decode cX1_copyFrom 45 = .ok (.invokevirtual 65, 3) := by decide +kernel
theorem dX1_copyFrom_48 : decode cX1_copyFrom 48 = .ok (.aload_n 0, 1) := by decide +kernel
theorem dX1_copyFrom_49 : decode cX1_copyFrom 49 = .ok (.getfield 29, 3) := by decide +kernel
theorem dX1_copyFrom_52 : decode cX1_copyFrom 52 = .ok (.aload_n 1, 1) := by decide +kernel
theorem dX1_copyFrom_53 : decode cX1_copyFrom 53 = .ok (.getfield 29, 3) := by decide +kernel
theorem dX1_copyFrom_56 : decode cX1_copyFrom 56 = .ok (.invokevirtual 65, 3) := by decide +kernel
theorem dX1_copyFrom_59 : decode cX1_copyFrom 59 = .ok (.aload_n 0, 1) := by decide +kernel
theorem dX1_copyFrom_60 : decode cX1_copyFrom 60 = .ok (.getfield 32, 3) := by decide +kernel
theorem dX1_copyFrom_63 : decode cX1_copyFrom 63 = .ok (.aload_n 1, 1) := by decide +kernel
theorem dX1_copyFrom_64 : decode cX1_copyFrom 64 = .ok (.getfield 32, 3) := by decide +kernel
theorem dX1_copyFrom_67 : decode cX1_copyFrom 67 = .ok (.invokevirtual 65, 3) := by decide +kernel
theorem dX1_copyFrom_70 : decode cX1_copyFrom 70 = .ok (.aload_n 0, 1) := by decide +kernel
theorem dX1_copyFrom_71 : decode cX1_copyFrom 71 = .ok (.getfield 35, 3) := by decide +kernel
theorem dX1_copyFrom_74 : decode cX1_copyFrom 74 = .ok (.aload_n 1, 1) := by decide +kernel
theorem dX1_copyFrom_75 : decode cX1_copyFrom 75 = .ok (.getfield 35, 3) := by decide +kernel
theorem dX1_copyFrom_78 : decode cX1_copyFrom 78 = .ok (.invokevirtual 65, 3) := by decide +kernel
theorem dX1_copyFrom_81 : decode cX1_copyFrom 81 = .ok (.aload_n 0, 1) := by decide +kernel
theorem dX1_copyFrom_82 : decode cX1_copyFrom 82 = .ok (.getfield 38, 3) := by decide +kernel
theorem dX1_copyFrom_85 : decode cX1_copyFrom 85 = .ok (.aload_n 1, 1) := by decide +kernel
theorem dX1_copyFrom_86 : decode cX1_copyFrom 86 = .ok (.getfield 38, 3) := by decide +kernel
theorem dX1_copyFrom_89 : decode cX1_copyFrom 89 = .ok (.invokevirtual 65, 3) := by decide +kernel
theorem dX1_copyFrom_92 : decode cX1_copyFrom 92 = .ok (.return_, 1) := by decide +kernel
set_option maxRecDepth 20000 in
theorem ggX2_init_X0_init : GoodIn wsX2_init wsX0_init := goodIn_r _ [10, 11, 2, 3, 12, 13, 14, 15, 16, 17, 18] (by decide +kernel) (by decide +kernel)
set_option maxRecDepth 20000 in
theorem gX2_init_X0_init : GoodIn wsX2_init (wsX0_init) := ggX2_init_X0_init
theorem dX2_init_0 : decode cX2_init 0 = .ok (.aload_n 0, 1) := by decide +kernel
theorem dX2_init_1 : decode cX2_init 1 = .ok (.invokespecial 3, 3) := by decide +kernel
theorem dX2_init_4 : decode cX2_init 4 = .ok (.aload_n 0, 1) := by decide +kernel
theorem dX2_init_5 : decode cX2_init 5 = .ok (.new 9, 3) := by decide +kernel
theorem dX2_init_8 : decode cX2_init 8 = .ok (.dup, 1) := by decide +kernel
theorem dX2_init_9 : decode cX2_init 9 = .ok (.bipush 60, 2) := by decide +kernel
theorem dX2_init_11 : decode cX2_init 11 = .ok (.invokespecial 11, 3) := by decide +kernel
theorem dX2_init_14 : decode cX2_init 14 = .ok (.putfield 14, 3) := by decide +kernel
theorem dX2_init_17 : decode cX2_init 17 = .ok (.return_, 1) := by decide +kernel
set_option maxRecDepth 20000 in
theorem ggX2_append_X0_set : GoodIn wsX2_append wsX0_set := goodIn_r _ [7, 8, 11] (by decide +kernel) (by decide +kernel)
set_option maxRecDepth 20000 in
theorem gX2_append_X0_set : GoodIn wsX2_append (wsV RX2 24 RX0 yX0_set wsX0_set) := goodIn_app (goodIn_of _ (by decide +kernel)) ggX2_append_X0_set
theorem dX2_append_0 : decode cX2_append 0 = .ok (.aload_n 0, 1) := by decide +kernel
theorem dX2_append_1 : decode cX2_append 1 = .ok (.getfield 20, 3) := by decide +kernel
theorem dX2_append_4 : decode cX2_append 4 = .ok (.bipush 60, 2) := by decide +kernel
theorem dX2_append_6 : decode cX2_append 6 = .ok (.if_icmp .ge 25, 3) := by decide +kernel
theorem dX2_append_9 : decode cX2_append 9 = .ok (.aload_n 0, 1) := by decide +kernel
theorem dX2_append_10 : decode cX2_append 10 = .ok (.getfield 14, 3) := by decide +kernel
theorem dX2_append_13 : decode cX2_append 13 = .ok (.aload_n 0, 1) := by decide +kernel
theorem dX2_append_14 : decode cX2_append 14 = .ok (.getfield 20, 3) := by decide +kernel
theorem dX2_append_17 : decode cX2_append 17 = .ok (.iload_n 1, 1) := by decide +kernel
theorem dX2_append_18 : decode cX2_append 18 = .ok (.invokevirtual 24, 3) := by decide +kernel
theorem dX2_append_21 : decode cX2_append 21 = .ok (.aload_n 0, 1) := by decide +kernel
theorem dX2_append_22 : decode cX2_append 22 = .ok (.dup, 1) := by decide +kernel
theorem dX2_append_23 : decode cX2_append 23 = .ok (.getfield 20, 3) := by decide +kernel
theorem dX2_append_26 : decode cX2_append 26 = .ok (.iconst 1, 1) := by decide +kernel
theorem dX2_append_27 : decode cX2_append 27 = .ok (.iadd, 1) := by decide +kernel
theorem dX2_append_28 : decode cX2_append 28 = .ok (.putfield 20, 3) := by decide +kernel
theorem dX2_append_31 : decode cX2_append 31 = .ok (.return_, 1) := by decide +kernel
set_option maxRecDepth 20000 in
theorem ggX2_wordsInside_X0_get : GoodIn wsX2_wordsInside wsX0_get := goodIn_r _ [7, 8, 11] (by decide +kernel) (by decide +kernel)
set_option maxRecDepth 20000 in
theorem gX2_wordsInside_X0_get : GoodIn wsX2_wordsInside (wsV RX2 28 RX0 yX0_get wsX0_get) := goodIn_app (goodIn_of _ (by decide +kernel)) ggX2_wordsInside_X0_get
theorem dX2_wordsInside_0 : decode cX2_wordsInside 0 = .ok (.iconst 1, 1) := by decide +kernel
theorem dX2_wordsInside_1 : decode cX2_wordsInside 1 = .ok (.istore_n 1, 1) := by decide +kernel
theorem dX2_wordsInside_2 : decode cX2_wordsInside 2 = .ok (.iconst 0, 1) := by decide +kernel
theorem dX2_wordsInside_3 : decode cX2_wordsInside 3 = .ok (.istore_n 2, 1) := by decide +kernel
theorem dX2_wordsInside_4 : decode cX2_wordsInside 4 = .ok (.iload_n 2, 1) := by decide +kernel
theorem dX2_wordsInside_5 : decode cX2_wordsInside 5 = .ok (.aload_n 0, 1) := by decide +kernel
theorem dX2_wordsInside_6 : decode cX2_wordsInside 6 = .ok (.getfield 20, 3) := by decide +kernel
theorem dX2_wordsInside_9 : decode cX2_wordsInside 9 = .ok (.if_icmp .ge 30, 3) := by decide +kernel
theorem dX2_wordsInside_12 : decode cX2_wordsInside 12 = .ok (.iload_n 1, 1) := by decide +kernel
theorem dX2_wordsInside_13 : decode cX2_wordsInside 13 = .ok (.aload_n 0, 1) := by decide +kernel
theorem dX2_wordsInside_14 : decode cX2_wordsInside 14 = .ok (.getfield 14, 3) := by decide +kernel
theorem dX2_wordsInside_17 : decode cX2_wordsInside 17 = .ok (.iload_n 2, 1) := by decide +kernel
theorem dX2_wordsInside_18 : decode cX2_wordsInside 18 = .ok (.invokevirtual 28, 3) := by decide +kernel
theorem dX2_wordsInside_21 : decode cX2_wordsInside 21 = .ok (.bipush 44, 2) := by decide +kernel
theorem dX2_wordsInside_23 : decode cX2_wordsInside 23 = .ok (.if_icmp .ne 7, 3) := by decide +kernel
theorem dX2_wordsInside_26 : decode cX2_wordsInside 26 = .ok (.iconst 1, 1) := by decide +kernel
theorem dX2_wordsInside_27 : decode cX2_wordsInside 27 = .ok (.goto 4, 3) := by decide +kernel
theorem dX2_wordsInside_30 : decode cX2_wordsInside 30 = .ok (.iconst 0, 1) := by decide +kernel
theorem dX2_wordsInside_31 : decode cX2_wordsInside 31 = .ok (.iadd, 1) := by decide +kernel
theorem dX2_wordsInside_32 : decode cX2_wordsInside 32 = .ok (.istore_n 1, 1) := by decide +kernel
theorem dX2_wordsInside_33 : decode cX2_wordsInside 33 = .ok (.iinc 2 1, 3) := by decide +kernel
theorem dX2_wordsInside_36 : decode cX2_wordsInside 36 = .ok (.goto (-32), 3) := by decide +kernel
theorem dX2_wordsInside_39 : decode cX2_wordsInside 39 = .ok (.iload_n 1, 1) := by decide +kernel
theorem dX2_wordsInside_40 : decode cX2_wordsInside 40 = .ok (.ireturn, 1) := by decide +kernel
set_option maxRecDepth 20000 in
theorem ggX2_faultPlace_X0_get : GoodIn wsX2_faultPlace wsX0_get := goodIn_r _ [7, 8, 11] (by decide +kernel) (by decide +kernel)
set_option maxRecDepth 20000 in
theorem gX2_faultPlace_X0_get : GoodIn wsX2_faultPlace (wsV RX2 28 RX0 yX0_get wsX0_get) := goodIn_app (goodIn_of _ (by decide +kernel)) ggX2_faultPlace_X0_get
theorem dX2_faultPlace_0 : decode cX2_faultPlace 0 = .ok (.iconst 0, 1) := by decide +kernel
theorem dX2_faultPlace_1 : decode cX2_faultPlace 1 = .ok (.istore_n 1, 1) := by decide +kernel
theorem dX2_faultPlace_2 : decode cX2_faultPlace 2 = .ok (.iconst 0, 1) := by decide +kernel
theorem dX2_faultPlace_3 : decode cX2_faultPlace 3 = .ok (.istore_n 2, 1) := by decide +kernel
theorem dX2_faultPlace_4 : decode cX2_faultPlace 4 = .ok (.iload_n 2, 1) := by decide +kernel
theorem dX2_faultPlace_5 : decode cX2_faultPlace 5 = .ok (.aload_n 0, 1) := by decide +kernel
theorem dX2_faultPlace_6 : decode cX2_faultPlace 6 = .ok (.getfield 20, 3) := by decide +kernel
theorem dX2_faultPlace_9 : decode cX2_faultPlace 9 = .ok (.if_icmp .ge 93, 3) := by decide +kernel
theorem dX2_faultPlace_12 : decode cX2_faultPlace 12 = .ok (.aload_n 0, 1) := by decide +kernel
theorem dX2_faultPlace_13 : decode cX2_faultPlace 13 = .ok (.getfield 14, 3) := by decide +kernel
theorem dX2_faultPlace_16 : decode cX2_faultPlace 16 = .ok (.iload_n 2, 1) := by decide +kernel
theorem dX2_faultPlace_17 : decode cX2_faultPlace 17 = .ok (.invokevirtual 28, 3) := by decide +kernel
theorem dX2_faultPlace_20 : decode cX2_faultPlace 20 = .ok (.istore_n 3, 1) := by decide +kernel
theorem dX2_faultPlace_21 : decode cX2_faultPlace 21 = .ok (.iload_n 3, 1) := by decide +kernel
theorem dX2_faultPlace_22 : decode cX2_faultPlace 22 = .ok (.bipush 97, 2) := by decide +kernel
theorem dX2_faultPlace_24 : decode cX2_faultPlace 24 = .ok (.if_icmp .lt 13, 3) := by decide +kernel
theorem dX2_faultPlace_27 : decode cX2_faultPlace 27 = .ok (.iload_n 3, 1) := by decide +kernel
theorem dX2_faultPlace_28 : decode cX2_faultPlace 28 = .ok (.bipush 122, 2) := by decide +kernel
theorem dX2_faultPlace_30 : decode cX2_faultPlace 30 = .ok (.if_icmp .gt 7, 3) := by decide +kernel
theorem dX2_faultPlace_33 : decode cX2_faultPlace 33 = .ok (.iconst 1, 1) := by decide +kernel
theorem dX2_faultPlace_34 : decode cX2_faultPlace 34 = .ok (.goto 4, 3) := by decide +kernel
theorem dX2_faultPlace_37 : decode cX2_faultPlace 37 = .ok (.iconst 0, 1) := by decide +kernel
theorem dX2_faultPlace_38 : decode cX2_faultPlace 38 = .ok (.istore 4, 2) := by decide +kernel
theorem dX2_faultPlace_40 : decode cX2_faultPlace 40 = .ok (.iload 4, 2) := by decide +kernel
theorem dX2_faultPlace_42 : decode cX2_faultPlace 42 = .ok (.ifCond .eq 17, 3) := by decide +kernel
theorem dX2_faultPlace_45 : decode cX2_faultPlace 45 = .ok (.iload_n 1, 1) := by decide +kernel
theorem dX2_faultPlace_46 : decode cX2_faultPlace 46 = .ok (.bipush 6, 2) := by decide +kernel
theorem dX2_faultPlace_48 : decode cX2_faultPlace 48 = .ok (.if_icmp .ge 7, 3) := by decide +kernel
theorem dX2_faultPlace_51 : decode cX2_faultPlace 51 = .ok (.iconst 1, 1) := by decide +kernel
theorem dX2_faultPlace_52 : decode cX2_faultPlace 52 = .ok (.goto 22, 3) := by decide +kernel
theorem dX2_faultPlace_55 : decode cX2_faultPlace 55 = .ok (.iconst 0, 1) := by decide +kernel
theorem dX2_faultPlace_56 : decode cX2_faultPlace 56 = .ok (.goto 18, 3) := by decide +kernel
theorem dX2_faultPlace_59 : decode cX2_faultPlace 59 = .ok (.iload_n 3, 1) := by decide +kernel
theorem dX2_faultPlace_60 : decode cX2_faultPlace 60 = .ok (.bipush 44, 2) := by decide +kernel
theorem dX2_faultPlace_62 : decode cX2_faultPlace 62 = .ok (.if_icmp .ne 11, 3) := by decide +kernel
theorem dX2_faultPlace_65 : decode cX2_faultPlace 65 = .ok (.iload_n 1, 1) := by decide +kernel
theorem dX2_faultPlace_66 : decode cX2_faultPlace 66 = .ok (.ifCond .le 7, 3) := by decide +kernel
theorem dX2_faultPlace_69 : decode cX2_faultPlace 69 = .ok (.iconst 1, 1) := by decide +kernel
theorem dX2_faultPlace_70 : decode cX2_faultPlace 70 = .ok (.goto 4, 3) := by decide +kernel
theorem dX2_faultPlace_73 : decode cX2_faultPlace 73 = .ok (.iconst 0, 1) := by decide +kernel
theorem dX2_faultPlace_74 : decode cX2_faultPlace 74 = .ok (.istore 5, 2) := by decide +kernel
theorem dX2_faultPlace_76 : decode cX2_faultPlace 76 = .ok (.iload 5, 2) := by decide +kernel
theorem dX2_faultPlace_78 : decode cX2_faultPlace 78 = .ok (.ifCond .ne 5, 3) := by decide +kernel
theorem dX2_faultPlace_81 : decode cX2_faultPlace 81 = .ok (.iload_n 2, 1) := by decide +kernel
theorem dX2_faultPlace_82 : decode cX2_faultPlace 82 = .ok (.ireturn, 1) := by decide +kernel
theorem dX2_faultPlace_83 : decode cX2_faultPlace 83 = .ok (.iload 4, 2) := by decide +kernel
theorem dX2_faultPlace_85 : decode cX2_faultPlace 85 = .ok (.ifCond .eq 9, 3) := by decide +kernel
theorem dX2_faultPlace_88 : decode cX2_faultPlace 88 = .ok (.iload_n 1, 1) := by decide +kernel
theorem dX2_faultPlace_89 : decode cX2_faultPlace 89 = .ok (.iconst 1, 1) := by decide +kernel
theorem dX2_faultPlace_90 : decode cX2_faultPlace 90 = .ok (.iadd, 1) := by decide +kernel
theorem dX2_faultPlace_91 : decode cX2_faultPlace 91 = .ok (.goto 4, 3) := by decide +kernel
theorem dX2_faultPlace_94 : decode cX2_faultPlace 94 = .ok (.iconst 0, 1) := by decide +kernel
theorem dX2_faultPlace_95 : decode cX2_faultPlace 95 = .ok (.istore_n 1, 1) := by decide +kernel
theorem dX2_faultPlace_96 : decode cX2_faultPlace 96 = .ok (.iinc 2 1, 3) := by decide +kernel
theorem dX2_faultPlace_99 : decode cX2_faultPlace 99 = .ok (.goto (-95), 3) := by decide +kernel
theorem dX2_faultPlace_102 : decode cX2_faultPlace 102 = .ok (.iload_n 1, 1) := by decide +kernel
theorem dX2_faultPlace_103 : decode cX2_faultPlace 103 = .ok (.ifCond .ne 10, 3) := by decide +kernel
theorem dX2_faultPlace_106 : decode cX2_faultPlace 106 = .ok (.aload_n 0, 1) := by decide +kernel
theorem dX2_faultPlace_107 : decode cX2_faultPlace 107 = .ok (.getfield 20, 3) := by decide +kernel
theorem dX2_faultPlace_110 : decode cX2_faultPlace 110 = .ok (.goto 6, 3) := by decide +kernel
theorem dX2_faultPlace_113 : decode cX2_faultPlace 113 = .ok (.sipush (-1006), 3) := by decide +kernel
theorem dX2_faultPlace_116 : decode cX2_faultPlace 116 = .ok (.ireturn, 1) := by decide +kernel
set_option maxRecDepth 20000 in
theorem ggX3_init_X0_init : GoodIn wsX3_init wsX0_init := goodIn_r _ [13, 14, 2, 3, 15, 16, 17, 18, 19, 20, 30] (by decide +kernel) (by decide +kernel)
set_option maxRecDepth 20000 in
theorem gX3_init_X0_init : GoodIn wsX3_init (wsX0_init) := ggX3_init_X0_init
set_option maxRecDepth 20000 in
theorem ggX3_init_X3_change : GoodIn wsX3_init wsX3_change := goodIn_r _ [25, 7, 8, 9, 26, 27, 28, 6, 29, 20, 31, 32, 33, 34, 30] (by decide +kernel) (by decide +kernel)
set_option maxRecDepth 20000 in
theorem gX3_init_X3_change : GoodIn wsX3_init (wsV RX3 29 RX3 yX3_change wsX3_change) := goodIn_app (goodIn_of _ (by decide +kernel)) ggX3_init_X3_change
theorem dX3_init_0 : decode cX3_init 0 = .ok (.aload_n 0, 1) := by decide +kernel
theorem dX3_init_1 : decode cX3_init 1 = .ok (.invokespecial 3, 3) := by decide +kernel
theorem dX3_init_4 : decode cX3_init 4 = .ok (.aload_n 0, 1) := by decide +kernel
theorem dX3_init_5 : decode cX3_init 5 = .ok (.new 9, 3) := by decide +kernel
theorem dX3_init_8 : decode cX3_init 8 = .ok (.dup, 1) := by decide +kernel
theorem dX3_init_9 : decode cX3_init 9 = .ok (.iconst 2, 1) := by decide +kernel
theorem dX3_init_10 : decode cX3_init 10 = .ok (.invokespecial 11, 3) := by decide +kernel
theorem dX3_init_13 : decode cX3_init 13 = .ok (.putfield 14, 3) := by decide +kernel
theorem dX3_init_16 : decode cX3_init 16 = .ok (.aload_n 0, 1) := by decide +kernel
theorem dX3_init_17 : decode cX3_init 17 = .ok (.new 9, 3) := by decide +kernel
theorem dX3_init_20 : decode cX3_init 20 = .ok (.dup, 1) := by decide +kernel
theorem dX3_init_21 : decode cX3_init 21 = .ok (.iconst 2, 1) := by decide +kernel
theorem dX3_init_22 : decode cX3_init 22 = .ok (.invokespecial 11, 3) := by decide +kernel
theorem dX3_init_25 : decode cX3_init 25 = .ok (.putfield 20, 3) := by decide +kernel
theorem dX3_init_28 : decode cX3_init 28 = .ok (.aload_n 0, 1) := by decide +kernel
theorem dX3_init_29 : decode cX3_init 29 = .ok (.new 9, 3) := by decide +kernel
theorem dX3_init_32 : decode cX3_init 32 = .ok (.dup, 1) := by decide +kernel
theorem dX3_init_33 : decode cX3_init 33 = .ok (.iconst 2, 1) := by decide +kernel
theorem dX3_init_34 : decode cX3_init 34 = .ok (.invokespecial 11, 3) := by decide +kernel
theorem dX3_init_37 : decode cX3_init 37 = .ok (.putfield 23, 3) := by decide +kernel
theorem dX3_init_40 : decode cX3_init 40 = .ok (.aload_n 0, 1) := by decide +kernel
theorem dX3_init_41 : decode cX3_init 41 = .ok (.new 9, 3) := by decide +kernel
theorem dX3_init_44 : decode cX3_init 44 = .ok (.dup, 1) := by decide +kernel
theorem dX3_init_45 : decode cX3_init 45 = .ok (.iconst 2, 1) := by decide +kernel
theorem dX3_init_46 : decode cX3_init 46 = .ok (.invokespecial 11, 3) := by decide +kernel
theorem dX3_init_49 : decode cX3_init 49 = .ok (.putfield 26, 3) := by decide +kernel
theorem dX3_init_52 : decode cX3_init 52 = .ok (.aload_n 0, 1) := by decide +kernel
theorem dX3_init_53 : decode cX3_init 53 = .ok (.iconst 0, 1) := by decide +kernel
theorem dX3_init_54 : decode cX3_init 54 = .ok (.bipush 100, 2) := by decide +kernel
theorem dX3_init_56 : decode cX3_init 56 = .ok (.bipush 30, 2) := by decide +kernel
theorem dX3_init_58 : decode cX3_init 58 = .ok (.bipush 24, 2) := by decide +kernel
theorem dX3_init_60 : decode cX3_init 60 = .ok (.invokevirtual 29, 3) := by decide +kernel
theorem dX3_init_63 : decode cX3_init 63 = .ok (.aload_n 0, 1) := by decide +kernel
theorem dX3_init_64 : decode cX3_init 64 = .ok (.iconst 1, 1) := by decide +kernel
theorem dX3_init_65 : decode cX3_init 65 = .ok (.bipush 100, 2) := by decide +kernel
theorem dX3_init_67 : decode cX3_init 67 = .ok (.bipush 30, 2) := by decide +kernel
theorem dX3_init_69 : decode cX3_init 69 = .ok (.bipush 20, 2) := by decide +kernel
theorem dX3_init_71 : decode cX3_init 71 = .ok (.invokevirtual 29, 3) := by decide +kernel
theorem dX3_init_74 : decode cX3_init 74 = .ok (.return_, 1) := by decide +kernel
set_option maxRecDepth 20000 in
theorem ggX3_change_X0_set : GoodIn wsX3_change wsX0_set := goodIn_r _ [8, 9, 14] (by decide +kernel) (by decide +kernel)
set_option maxRecDepth 20000 in
theorem gX3_change_X0_set : GoodIn wsX3_change (wsV RX3 33 RX0 yX0_set wsX0_set) := goodIn_app (goodIn_of _ (by decide +kernel)) ggX3_change_X0_set
theorem dX3_change_0 : decode cX3_change 0 = .ok (.aload_n 0, 1) := by decide +kernel
theorem dX3_change_1 : decode cX3_change 1 = .ok (.getfield 14, 3) := by decide +kernel
theorem dX3_change_4 : decode cX3_change 4 = .ok (.iload_n 1, 1) := by decide +kernel
theorem dX3_change_5 : decode cX3_change 5 = .ok (.iload_n 2, 1) := by decide +kernel
theorem dX3_change_6 : decode cX3_change 6 = .ok (.invokevirtual 33, 3) := by decide +kernel
theorem dX3_change_9 : decode cX3_change 9 = .ok (.aload_n 0, 1) := by decide +kernel
theorem dX3_change_10 : decode cX3_change 10 = .ok (.getfield 20, 3) := by decide +kernel
theorem dX3_change_13 : decode cX3_change 13 = .ok (.iload_n 1, 1) := by decide +kernel
theorem dX3_change_14 : decode cX3_change 14 = .ok (.iload_n 3, 1) := by decide +kernel
theorem dX3_change_15 : decode cX3_change 15 = .ok (.invokevirtual 33, 3) := by decide +kernel
theorem dX3_change_18 : decode cX3_change 18 = .ok (.aload_n 0, 1) := by decide +kernel
theorem dX3_change_19 : decode cX3_change 19 = .ok (.getfield 23, 3) := by decide +kernel
theorem dX3_change_22 : decode cX3_change 22 = .ok (.iload_n 1, 1) := by decide +kernel
theorem dX3_change_23 : decode cX3_change 23 = .ok (.iload 4, 2) := by decide +kernel
theorem dX3_change_25 : decode cX3_change 25 = .ok (.invokevirtual 33, 3) := by decide +kernel
theorem dX3_change_28 : decode cX3_change 28 = .ok (.return_, 1) := by decide +kernel
set_option maxRecDepth 20000 in
theorem ggX3_levelAt_X0_get : GoodIn wsX3_levelAt wsX0_get := goodIn_r _ [12, 13, 18] (by decide +kernel) (by decide +kernel)
set_option maxRecDepth 20000 in
theorem gX3_levelAt_X0_get : GoodIn wsX3_levelAt (wsV RX3 37 RX0 yX0_get wsX0_get) := goodIn_app (goodIn_of _ (by decide +kernel)) ggX3_levelAt_X0_get
theorem dX3_levelAt_0 : decode cX3_levelAt 0 = .ok (.aload_n 0, 1) := by decide +kernel
theorem dX3_levelAt_1 : decode cX3_levelAt 1 = .ok (.getfield 23, 3) := by decide +kernel
theorem dX3_levelAt_4 : decode cX3_levelAt 4 = .ok (.iload_n 1, 1) := by decide +kernel
theorem dX3_levelAt_5 : decode cX3_levelAt 5 = .ok (.invokevirtual 37, 3) := by decide +kernel
theorem dX3_levelAt_8 : decode cX3_levelAt 8 = .ok (.istore_n 3, 1) := by decide +kernel
theorem dX3_levelAt_9 : decode cX3_levelAt 9 = .ok (.aload_n 0, 1) := by decide +kernel
theorem dX3_levelAt_10 : decode cX3_levelAt 10 = .ok (.getfield 14, 3) := by decide +kernel
theorem dX3_levelAt_13 : decode cX3_levelAt 13 = .ok (.iload_n 1, 1) := by decide +kernel
theorem dX3_levelAt_14 : decode cX3_levelAt 14 = .ok (.invokevirtual 37, 3) := by decide +kernel
theorem dX3_levelAt_17 : decode cX3_levelAt 17 = .ok (.aload_n 0, 1) := by decide +kernel
theorem dX3_levelAt_18 : decode cX3_levelAt 18 = .ok (.getfield 20, 3) := by decide +kernel
theorem dX3_levelAt_21 : decode cX3_levelAt 21 = .ok (.iload_n 1, 1) := by decide +kernel
theorem dX3_levelAt_22 : decode cX3_levelAt 22 = .ok (.invokevirtual 37, 3) := by decide +kernel
theorem dX3_levelAt_25 : decode cX3_levelAt 25 = .ok (.isub, 1) := by decide +kernel
theorem dX3_levelAt_26 : decode cX3_levelAt 26 = .ok (.istore 4, 2) := by decide +kernel
theorem dX3_levelAt_28 : decode cX3_levelAt 28 = .ok (.iload_n 3, 1) := by decide +kernel
theorem dX3_levelAt_29 : decode cX3_levelAt 29 = .ok (.iconst 2, 1) := by decide +kernel
theorem dX3_levelAt_30 : decode cX3_levelAt 30 = .ok (.if_icmp .ge 6, 3) := by decide +kernel
theorem dX3_levelAt_33 : decode cX3_levelAt 33 = .ok (.iload 4, 2) := by decide +kernel
theorem dX3_levelAt_35 : decode cX3_levelAt 35 = .ok (.ireturn, 1) := by decide +kernel
theorem dX3_levelAt_36 : decode cX3_levelAt 36 = .ok (.iload_n 2, 1) := by decide +kernel
theorem dX3_levelAt_37 : decode cX3_levelAt 37 = .ok (.iload_n 3, 1) := by decide +kernel
theorem dX3_levelAt_38 : decode cX3_levelAt 38 = .ok (.irem, 1) := by decide +kernel
theorem dX3_levelAt_39 : decode cX3_levelAt 39 = .ok (.istore 5, 2) := by decide +kernel
theorem dX3_levelAt_41 : decode cX3_levelAt 41 = .ok (.iload 4, 2) := by decide +kernel
theorem dX3_levelAt_43 : decode cX3_levelAt 43 = .ok (.iconst 4, 1) := by decide +kernel
theorem dX3_levelAt_44 : decode cX3_levelAt 44 = .ok (.aload_n 0, 1) := by decide +kernel
theorem dX3_levelAt_45 : decode cX3_levelAt 45 = .ok (.getfield 20, 3) := by decide +kernel
theorem dX3_levelAt_48 : decode cX3_levelAt 48 = .ok (.iload_n 1, 1) := by decide +kernel
theorem dX3_levelAt_49 : decode cX3_levelAt 49 = .ok (.invokevirtual 37, 3) := by decide +kernel
theorem dX3_levelAt_52 : decode cX3_levelAt 52 = .ok (.imul, 1) := by decide +kernel
theorem dX3_levelAt_53 : decode cX3_levelAt 53 = .ok (.iload 5, 2) := by decide +kernel
theorem dX3_levelAt_55 : decode cX3_levelAt 55 = .ok (.iload_n 3, 1) := by decide +kernel
theorem dX3_levelAt_56 : decode cX3_levelAt 56 = .ok (.iload 5, 2) := by decide +kernel
theorem dX3_levelAt_58 : decode cX3_levelAt 58 = .ok (.isub, 1) := by decide +kernel
theorem dX3_levelAt_59 : decode cX3_levelAt 59 = .ok (.invokestatic 41, 3) := by decide +kernel
theorem dX3_levelAt_62 : decode cX3_levelAt 62 = .ok (.imul, 1) := by decide +kernel
theorem dX3_levelAt_63 : decode cX3_levelAt 63 = .ok (.iload_n 3, 1) := by decide +kernel
theorem dX3_levelAt_64 : decode cX3_levelAt 64 = .ok (.idiv, 1) := by decide +kernel
theorem dX3_levelAt_65 : decode cX3_levelAt 65 = .ok (.iadd, 1) := by decide +kernel
theorem dX3_levelAt_66 : decode cX3_levelAt 66 = .ok (.ireturn, 1) := by decide +kernel
set_option maxRecDepth 20000 in
theorem ggX3_toldAt_X3_levelAt : GoodIn wsX3_toldAt wsX3_levelAt := goodIn_r _ [6, 7, 8, 9, 10, 11, 12, 13, 14, 15, 16, 17, 18, 19, 20, 21, 22, 23, 24] (by decide +kernel) (by decide +kernel)
set_option maxRecDepth 20000 in
theorem gX3_toldAt_X3_levelAt : GoodIn wsX3_toldAt (wsV RX3 47 RX3 yX3_levelAt wsX3_levelAt) := goodIn_app (goodIn_of _ (by decide +kernel)) ggX3_toldAt_X3_levelAt
set_option maxRecDepth 20000 in
theorem ggX3_toldAt_X0_get : GoodIn wsX3_toldAt wsX0_get := goodIn_r _ [18, 19, 24] (by decide +kernel) (by decide +kernel)
set_option maxRecDepth 20000 in
theorem gX3_toldAt_X0_get : GoodIn wsX3_toldAt (wsV RX3 37 RX0 yX0_get wsX0_get) := goodIn_app (goodIn_of _ (by decide +kernel)) ggX3_toldAt_X0_get
theorem dX3_toldAt_0 : decode cX3_toldAt 0 = .ok (.aload_n 0, 1) := by decide +kernel
theorem dX3_toldAt_1 : decode cX3_toldAt 1 = .ok (.iload_n 1, 1) := by decide +kernel
theorem dX3_toldAt_2 : decode cX3_toldAt 2 = .ok (.iload_n 2, 1) := by decide +kernel
theorem dX3_toldAt_3 : decode cX3_toldAt 3 = .ok (.invokevirtual 47, 3) := by decide +kernel
theorem dX3_toldAt_6 : decode cX3_toldAt 6 = .ok (.aload_n 0, 1) := by decide +kernel
theorem dX3_toldAt_7 : decode cX3_toldAt 7 = .ok (.getfield 26, 3) := by decide +kernel
theorem dX3_toldAt_10 : decode cX3_toldAt 10 = .ok (.iload_n 1, 1) := by decide +kernel
theorem dX3_toldAt_11 : decode cX3_toldAt 11 = .ok (.invokevirtual 37, 3) := by decide +kernel
theorem dX3_toldAt_14 : decode cX3_toldAt 14 = .ok (.iadd, 1) := by decide +kernel
theorem dX3_toldAt_15 : decode cX3_toldAt 15 = .ok (.ireturn, 1) := by decide +kernel
set_option maxRecDepth 20000 in
theorem ggX3_gapAt_X3_toldAt : GoodIn wsX3_gapAt wsX3_toldAt := goodIn_r _ [5, 6, 7, 8, 9, 4, 10, 11, 12, 13, 14, 15, 16, 17, 18, 19, 20, 21, 22, 23, 24, 25, 26, 27, 28] (by decide +kernel) (by decide +kernel)
set_option maxRecDepth 20000 in
theorem gX3_gapAt_X3_toldAt : GoodIn wsX3_gapAt (wsV RX3 50 RX3 yX3_toldAt wsX3_toldAt) := goodIn_app (goodIn_of _ (by decide +kernel)) ggX3_gapAt_X3_toldAt
theorem dX3_gapAt_0 : decode cX3_gapAt 0 = .ok (.aload_n 0, 1) := by decide +kernel
theorem dX3_gapAt_1 : decode cX3_gapAt 1 = .ok (.iconst 0, 1) := by decide +kernel
theorem dX3_gapAt_2 : decode cX3_gapAt 2 = .ok (.iload_n 1, 1) := by decide +kernel
theorem dX3_gapAt_3 : decode cX3_gapAt 3 = .ok (.invokevirtual 50, 3) := by decide +kernel
theorem dX3_gapAt_6 : decode cX3_gapAt 6 = .ok (.aload_n 0, 1) := by decide +kernel
theorem dX3_gapAt_7 : decode cX3_gapAt 7 = .ok (.iconst 1, 1) := by decide +kernel
theorem dX3_gapAt_8 : decode cX3_gapAt 8 = .ok (.iload_n 1, 1) := by decide +kernel
theorem dX3_gapAt_9 : decode cX3_gapAt 9 = .ok (.invokevirtual 50, 3) := by decide +kernel
theorem dX3_gapAt_12 : decode cX3_gapAt 12 = .ok (.isub, 1) := by decide +kernel
theorem dX3_gapAt_13 : decode cX3_gapAt 13 = .ok (.ireturn, 1) := by decide +kernel
set_option maxRecDepth 20000 in
theorem ggX3_copyFrom_X0_copyFrom : GoodIn wsX3_copyFrom wsX0_copyFrom := goodIn_r _ [9, 10, 11, 12, 13, 14, 15, 16, 17, 18, 23] (by decide +kernel) (by decide +kernel)
set_option maxRecDepth 20000 in
theorem gX3_copyFrom_X0_copyFrom : GoodIn wsX3_copyFrom (wsV RX3 53 RX0 yX0_copyFrom wsX0_copyFrom) := goodIn_app (goodIn_of _ (by decide +kernel)) ggX3_copyFrom_X0_copyFrom
theorem dX3_copyFrom_0 : decode cX3_copyFrom 0 = .ok (.aload_n 1, 1) := by decide +kernel
theorem dX3_copyFrom_1 : decode cX3_copyFrom 1 = .ok (.ifnull 47, 3) := by decide +kernel
theorem dX3_copyFrom_4 : decode cX3_copyFrom 4 = .ok (.aload_n 0, 1) := by decide +kernel
theorem dX3_copyFrom_5 : decode cX3_copyFrom 5 = .ok (.getfield 14, 3) := by decide +kernel
theorem dX3_copyFrom_8 : decode cX3_copyFrom 8 = .ok (.aload_n 1, 1) := by decide +kernel
theorem dX3_copyFrom_9 : decode cX3_copyFrom 9 = .ok (.getfield 14, 3) := by decide +kernel
theorem dX3_copyFrom_12 : decode cX3_copyFrom 12 = .ok (.invokevirtual 53, 3) := by decide +kernel
theorem dX3_copyFrom_15 : decode cX3_copyFrom 15 = .ok (.aload_n 0, 1) := by decide +kernel
theorem dX3_copyFrom_16 : decode cX3_copyFrom 16 = .ok (.getfield 20, 3) := by decide +kernel
theorem dX3_copyFrom_19 : decode cX3_copyFrom 19 = .ok (.aload_n 1, 1) := by decide +kernel
theorem dX3_copyFrom_20 : decode cX3_copyFrom 20 = .ok (.getfield 20, 3) := by decide +kernel
theorem dX3_copyFrom_23 : decode cX3_copyFrom 23 = .ok (.invokevirtual 53, 3) := by decide +kernel
theorem dX3_copyFrom_26 : decode cX3_copyFrom 26 = .ok (.aload_n 0, 1) := by decide +kernel
theorem dX3_copyFrom_27 : decode cX3_copyFrom 27 = .ok (.getfield 23, 3) := by decide +kernel
theorem dX3_copyFrom_30 : decode cX3_copyFrom 30 = .ok (.aload_n 1, 1) := by decide +kernel
theorem dX3_copyFrom_31 : decode cX3_copyFrom 31 = .ok (.getfield 23, 3) := by decide +kernel
theorem dX3_copyFrom_34 : decode cX3_copyFrom 34 = .ok (.invokevirtual 53, 3) := by decide +kernel
theorem dX3_copyFrom_37 : decode cX3_copyFrom 37 = .ok (.aload_n 0, 1) := by decide +kernel
theorem dX3_copyFrom_38 : decode cX3_copyFrom 38 = .ok (.getfield 26, 3) := by decide +kernel
theorem dX3_copyFrom_41 : decode cX3_copyFrom 41 = .ok (.aload_n 1, 1) := by decide +kernel
theorem dX3_copyFrom_42 : decode cX3_copyFrom 42 = .ok (.getfield 26, 3) := by decide +kernel
theorem dX3_copyFrom_45 : decode cX3_copyFrom 45 = .ok (.invokevirtual 53, 3) := by decide +kernel
theorem dX3_copyFrom_48 : decode cX3_copyFrom 48 = .ok (.return_, 1) := by decide +kernel
set_option maxRecDepth 20000 in
theorem ggX4_init_X0_init : GoodIn wsX4_init wsX0_init := goodIn_r _ [16, 17, 2, 3, 18, 19, 20, 21, 22, 23, 24] (by decide +kernel) (by decide +kernel)
set_option maxRecDepth 20000 in
theorem gX4_init_X0_init : GoodIn wsX4_init (wsX0_init) := ggX4_init_X0_init
theorem dX4_init_0 : decode cX4_init 0 = .ok (.aload_n 0, 1) := by decide +kernel
theorem dX4_init_1 : decode cX4_init 1 = .ok (.invokespecial 3, 3) := by decide +kernel
theorem dX4_init_4 : decode cX4_init 4 = .ok (.aload_n 0, 1) := by decide +kernel
theorem dX4_init_5 : decode cX4_init 5 = .ok (.new 9, 3) := by decide +kernel
theorem dX4_init_8 : decode cX4_init 8 = .ok (.dup, 1) := by decide +kernel
theorem dX4_init_9 : decode cX4_init 9 = .ok (.bipush 12, 2) := by decide +kernel
theorem dX4_init_11 : decode cX4_init 11 = .ok (.invokespecial 11, 3) := by decide +kernel
theorem dX4_init_14 : decode cX4_init 14 = .ok (.putfield 14, 3) := by decide +kernel
theorem dX4_init_17 : decode cX4_init 17 = .ok (.aload_n 0, 1) := by decide +kernel
theorem dX4_init_18 : decode cX4_init 18 = .ok (.new 9, 3) := by decide +kernel
theorem dX4_init_21 : decode cX4_init 21 = .ok (.dup, 1) := by decide +kernel
theorem dX4_init_22 : decode cX4_init 22 = .ok (.bipush 72, 2) := by decide +kernel
theorem dX4_init_24 : decode cX4_init 24 = .ok (.invokespecial 11, 3) := by decide +kernel
theorem dX4_init_27 : decode cX4_init 27 = .ok (.putfield 20, 3) := by decide +kernel
theorem dX4_init_30 : decode cX4_init 30 = .ok (.aload_n 0, 1) := by decide +kernel
theorem dX4_init_31 : decode cX4_init 31 = .ok (.new 9, 3) := by decide +kernel
theorem dX4_init_34 : decode cX4_init 34 = .ok (.dup, 1) := by decide +kernel
theorem dX4_init_35 : decode cX4_init 35 = .ok (.bipush 12, 2) := by decide +kernel
theorem dX4_init_37 : decode cX4_init 37 = .ok (.invokespecial 11, 3) := by decide +kernel
theorem dX4_init_40 : decode cX4_init 40 = .ok (.putfield 23, 3) := by decide +kernel
theorem dX4_init_43 : decode cX4_init 43 = .ok (.aload_n 0, 1) := by decide +kernel
theorem dX4_init_44 : decode cX4_init 44 = .ok (.new 9, 3) := by decide +kernel
theorem dX4_init_47 : decode cX4_init 47 = .ok (.dup, 1) := by decide +kernel
theorem dX4_init_48 : decode cX4_init 48 = .ok (.bipush 12, 2) := by decide +kernel
theorem dX4_init_50 : decode cX4_init 50 = .ok (.invokespecial 11, 3) := by decide +kernel
theorem dX4_init_53 : decode cX4_init 53 = .ok (.putfield 26, 3) := by decide +kernel
theorem dX4_init_56 : decode cX4_init 56 = .ok (.aload_n 0, 1) := by decide +kernel
theorem dX4_init_57 : decode cX4_init 57 = .ok (.new 9, 3) := by decide +kernel
theorem dX4_init_60 : decode cX4_init 60 = .ok (.dup, 1) := by decide +kernel
theorem dX4_init_61 : decode cX4_init 61 = .ok (.bipush 12, 2) := by decide +kernel
theorem dX4_init_63 : decode cX4_init 63 = .ok (.invokespecial 11, 3) := by decide +kernel
theorem dX4_init_66 : decode cX4_init 66 = .ok (.putfield 29, 3) := by decide +kernel
theorem dX4_init_69 : decode cX4_init 69 = .ok (.aload_n 0, 1) := by decide +kernel
theorem dX4_init_70 : decode cX4_init 70 = .ok (.new 9, 3) := by decide +kernel
theorem dX4_init_73 : decode cX4_init 73 = .ok (.dup, 1) := by decide +kernel
theorem dX4_init_74 : decode cX4_init 74 = .ok (.bipush 24, 2) := by decide +kernel
theorem dX4_init_76 : decode cX4_init 76 = .ok (.invokespecial 11, 3) := by decide +kernel
theorem dX4_init_79 : decode cX4_init 79 = .ok (.putfield 32, 3) := by decide +kernel
theorem dX4_init_82 : decode cX4_init 82 = .ok (.aload_n 0, 1) := by decide +kernel
theorem dX4_init_83 : decode cX4_init 83 = .ok (.new 9, 3) := by decide +kernel
theorem dX4_init_86 : decode cX4_init 86 = .ok (.dup, 1) := by decide +kernel
theorem dX4_init_87 : decode cX4_init 87 = .ok (.iconst 2, 1) := by decide +kernel
theorem dX4_init_88 : decode cX4_init 88 = .ok (.invokespecial 11, 3) := by decide +kernel
theorem dX4_init_91 : decode cX4_init 91 = .ok (.putfield 35, 3) := by decide +kernel
theorem dX4_init_94 : decode cX4_init 94 = .ok (.return_, 1) := by decide +kernel
set_option maxRecDepth 20000 in
theorem ggX4_startWord_X0_set : GoodIn wsX4_startWord wsX0_set := goodIn_r _ [9, 10, 30] (by decide +kernel) (by decide +kernel)
set_option maxRecDepth 20000 in
theorem gX4_startWord_X0_set : GoodIn wsX4_startWord (wsV RX4 42 RX0 yX0_set wsX0_set) := goodIn_app (goodIn_of _ (by decide +kernel)) ggX4_startWord_X0_set
set_option maxRecDepth 20000 in
theorem ggX4_startWord_X4_addLast : GoodIn wsX4_startWord wsX4_addLast := goodIn_r _ [15, 16, 17, 18, 19, 20, 8, 21, 10, 5, 6, 7, 9, 22, 23, 24, 25, 26, 27, 28, 29, 30] (by decide +kernel) (by decide +kernel)
set_option maxRecDepth 20000 in
theorem gX4_startWord_X4_addLast : GoodIn wsX4_startWord (wsV RX4 46 RX4 yX4_addLast wsX4_addLast) := goodIn_app (goodIn_of _ (by decide +kernel)) ggX4_startWord_X4_addLast
theorem dX4_startWord_0 : decode cX4_startWord 0 = .ok (.aload_n 0, 1) := by decide +kernel
theorem dX4_startWord_1 : decode cX4_startWord 1 = .ok (.getfield 38, 3) := by decide +kernel
theorem dX4_startWord_4 : decode cX4_startWord 4 = .ok (.istore_n 2, 1) := by decide +kernel
theorem dX4_startWord_5 : decode cX4_startWord 5 = .ok (.iload_n 2, 1) := by decide +kernel
theorem dX4_startWord_6 : decode cX4_startWord 6 = .ok (.bipush 12, 2) := by decide +kernel
theorem dX4_startWord_8 : decode cX4_startWord 8 = .ok (.if_icmp .lt 4, 3) := by decide +kernel
theorem dX4_startWord_11 : decode cX4_startWord 11 = .ok (.return_, 1) := by decide +kernel
theorem dX4_startWord_12 : decode cX4_startWord 12 = .ok (.aload_n 0, 1) := by decide +kernel
theorem dX4_startWord_13 : decode cX4_startWord 13 = .ok (.getfield 14, 3) := by decide +kernel
theorem dX4_startWord_16 : decode cX4_startWord 16 = .ok (.iload_n 2, 1) := by decide +kernel
theorem dX4_startWord_17 : decode cX4_startWord 17 = .ok (.iconst 0, 1) := by decide +kernel
theorem dX4_startWord_18 : decode cX4_startWord 18 = .ok (.invokevirtual 42, 3) := by decide +kernel
theorem dX4_startWord_21 : decode cX4_startWord 21 = .ok (.aload_n 0, 1) := by decide +kernel
theorem dX4_startWord_22 : decode cX4_startWord 22 = .ok (.getfield 23, 3) := by decide +kernel
theorem dX4_startWord_25 : decode cX4_startWord 25 = .ok (.iload_n 2, 1) := by decide +kernel
theorem dX4_startWord_26 : decode cX4_startWord 26 = .ok (.sipush (-1006), 3) := by decide +kernel
theorem dX4_startWord_29 : decode cX4_startWord 29 = .ok (.invokevirtual 42, 3) := by decide +kernel
theorem dX4_startWord_32 : decode cX4_startWord 32 = .ok (.aload_n 0, 1) := by decide +kernel
theorem dX4_startWord_33 : decode cX4_startWord 33 = .ok (.getfield 26, 3) := by decide +kernel
theorem dX4_startWord_36 : decode cX4_startWord 36 = .ok (.iload_n 2, 1) := by decide +kernel
theorem dX4_startWord_37 : decode cX4_startWord 37 = .ok (.sipush (-1006), 3) := by decide +kernel
theorem dX4_startWord_40 : decode cX4_startWord 40 = .ok (.invokevirtual 42, 3) := by decide +kernel
theorem dX4_startWord_43 : decode cX4_startWord 43 = .ok (.aload_n 0, 1) := by decide +kernel
theorem dX4_startWord_44 : decode cX4_startWord 44 = .ok (.iload_n 1, 1) := by decide +kernel
theorem dX4_startWord_45 : decode cX4_startWord 45 = .ok (.iload_n 2, 1) := by decide +kernel
theorem dX4_startWord_46 : decode cX4_startWord 46 = .ok (.invokevirtual 46, 3) := by decide +kernel
theorem dX4_startWord_49 : decode cX4_startWord 49 = .ok (.aload_n 0, 1) := by decide +kernel
theorem dX4_startWord_50 : decode cX4_startWord 50 = .ok (.dup, 1) := by decide +kernel
theorem dX4_startWord_51 : decode cX4_startWord 51 = .ok (.getfield 38, 3) := by decide +kernel
theorem dX4_startWord_54 : decode cX4_startWord 54 = .ok (.iconst 1, 1) := by decide +kernel
theorem dX4_startWord_55 : decode cX4_startWord 55 = .ok (.iadd, 1) := by decide +kernel
theorem dX4_startWord_56 : decode cX4_startWord 56 = .ok (.putfield 38, 3) := by decide +kernel
theorem dX4_startWord_59 : decode cX4_startWord 59 = .ok (.return_, 1) := by decide +kernel
set_option maxRecDepth 20000 in
theorem ggX4_addLetter_X0_get : GoodIn wsX4_addLetter wsX0_get := goodIn_r _ [8, 9, 26] (by decide +kernel) (by decide +kernel)
set_option maxRecDepth 20000 in
theorem gX4_addLetter_X0_get : GoodIn wsX4_addLetter (wsV RX4 49 RX0 yX0_get wsX0_get) := goodIn_app (goodIn_of _ (by decide +kernel)) ggX4_addLetter_X0_get
set_option maxRecDepth 20000 in
theorem ggX4_addLetter_X0_set : GoodIn wsX4_addLetter wsX0_set := goodIn_r _ [13, 9, 26] (by decide +kernel) (by decide +kernel)
set_option maxRecDepth 20000 in
theorem gX4_addLetter_X0_set : GoodIn wsX4_addLetter (wsV RX4 42 RX0 yX0_set wsX0_set) := goodIn_app (goodIn_of _ (by decide +kernel)) ggX4_addLetter_X0_set
set_option maxRecDepth 20000 in
theorem ggX4_addLetter_X0_add : GoodIn wsX4_addLetter wsX0_add := goodIn_r _ [17, 9, 26] (by decide +kernel) (by decide +kernel)
set_option maxRecDepth 20000 in
theorem gX4_addLetter_X0_add : GoodIn wsX4_addLetter (wsV RX4 53 RX0 yX0_add wsX0_add) := goodIn_app (goodIn_of _ (by decide +kernel)) ggX4_addLetter_X0_add
theorem dX4_addLetter_0 : decode cX4_addLetter 0 = .ok (.aload_n 0, 1) := by decide +kernel
theorem dX4_addLetter_1 : decode cX4_addLetter 1 = .ok (.getfield 38, 3) := by decide +kernel
theorem dX4_addLetter_4 : decode cX4_addLetter 4 = .ok (.iconst 1, 1) := by decide +kernel
theorem dX4_addLetter_5 : decode cX4_addLetter 5 = .ok (.isub, 1) := by decide +kernel
theorem dX4_addLetter_6 : decode cX4_addLetter 6 = .ok (.istore_n 2, 1) := by decide +kernel
theorem dX4_addLetter_7 : decode cX4_addLetter 7 = .ok (.aload_n 0, 1) := by decide +kernel
theorem dX4_addLetter_8 : decode cX4_addLetter 8 = .ok (.getfield 14, 3) := by decide +kernel
theorem dX4_addLetter_11 : decode cX4_addLetter 11 = .ok (.iload_n 2, 1) := by decide +kernel
theorem dX4_addLetter_12 : decode cX4_addLetter 12 = .ok (.invokevirtual 49, 3) := by decide +kernel
theorem dX4_addLetter_15 : decode cX4_addLetter 15 = .ok (.istore_n 3, 1) := by decide +kernel
theorem dX4_addLetter_16 : decode cX4_addLetter 16 = .ok (.iload_n 3, 1) := by decide +kernel
theorem dX4_addLetter_17 : decode cX4_addLetter 17 = .ok (.bipush 6, 2) := by decide +kernel
theorem dX4_addLetter_19 : decode cX4_addLetter 19 = .ok (.if_icmp .ge 26, 3) := by decide +kernel
theorem dX4_addLetter_22 : decode cX4_addLetter 22 = .ok (.aload_n 0, 1) := by decide +kernel
theorem dX4_addLetter_23 : decode cX4_addLetter 23 = .ok (.getfield 20, 3) := by decide +kernel
theorem dX4_addLetter_26 : decode cX4_addLetter 26 = .ok (.iload_n 2, 1) := by decide +kernel
theorem dX4_addLetter_27 : decode cX4_addLetter 27 = .ok (.bipush 6, 2) := by decide +kernel
theorem dX4_addLetter_29 : decode cX4_addLetter 29 = .ok (.imul, 1) := by decide +kernel
theorem dX4_addLetter_30 : decode cX4_addLetter 30 = .ok (.iload_n 3, 1) := by decide +kernel
theorem dX4_addLetter_31 : decode cX4_addLetter 31 = .ok (.iadd, 1) := by decide +kernel
theorem dX4_addLetter_32 : decode cX4_addLetter 32 = .ok (.iload_n 1, 1) := by decide +kernel
theorem dX4_addLetter_33 : decode cX4_addLetter 33 = .ok (.invokevirtual 42, 3) := by decide +kernel
theorem dX4_addLetter_36 : decode cX4_addLetter 36 = .ok (.aload_n 0, 1) := by decide +kernel
theorem dX4_addLetter_37 : decode cX4_addLetter 37 = .ok (.getfield 14, 3) := by decide +kernel
theorem dX4_addLetter_40 : decode cX4_addLetter 40 = .ok (.iload_n 2, 1) := by decide +kernel
theorem dX4_addLetter_41 : decode cX4_addLetter 41 = .ok (.iconst 1, 1) := by decide +kernel
theorem dX4_addLetter_42 : decode cX4_addLetter 42 = .ok (.invokevirtual 53, 3) := by decide +kernel
theorem dX4_addLetter_45 : decode cX4_addLetter 45 = .ok (.return_, 1) := by decide +kernel
set_option maxRecDepth 20000 in
theorem ggX4_letterOf_X0_get : GoodIn wsX4_letterOf wsX0_get := goodIn_r _ [7, 8, 17] (by decide +kernel) (by decide +kernel)
set_option maxRecDepth 20000 in
theorem gX4_letterOf_X0_get : GoodIn wsX4_letterOf (wsV RX4 49 RX0 yX0_get wsX0_get) := goodIn_app (goodIn_of _ (by decide +kernel)) ggX4_letterOf_X0_get
theorem dX4_letterOf_0 : decode cX4_letterOf 0 = .ok (.iload_n 2, 1) := by decide +kernel
theorem dX4_letterOf_1 : decode cX4_letterOf 1 = .ok (.ifCond .lt 19, 3) := by decide +kernel
theorem dX4_letterOf_4 : decode cX4_letterOf 4 = .ok (.iload_n 2, 1) := by decide +kernel
theorem dX4_letterOf_5 : decode cX4_letterOf 5 = .ok (.aload_n 0, 1) := by decide +kernel
theorem dX4_letterOf_6 : decode cX4_letterOf 6 = .ok (.getfield 14, 3) := by decide +kernel
theorem dX4_letterOf_9 : decode cX4_letterOf 9 = .ok (.iload_n 1, 1) := by decide +kernel
theorem dX4_letterOf_10 : decode cX4_letterOf 10 = .ok (.invokevirtual 49, 3) := by decide +kernel
theorem dX4_letterOf_13 : decode cX4_letterOf 13 = .ok (.if_icmp .ge 7, 3) := by decide +kernel
theorem dX4_letterOf_16 : decode cX4_letterOf 16 = .ok (.iconst 1, 1) := by decide +kernel
theorem dX4_letterOf_17 : decode cX4_letterOf 17 = .ok (.goto 4, 3) := by decide +kernel
theorem dX4_letterOf_20 : decode cX4_letterOf 20 = .ok (.iconst 0, 1) := by decide +kernel
theorem dX4_letterOf_21 : decode cX4_letterOf 21 = .ok (.istore_n 3, 1) := by decide +kernel
theorem dX4_letterOf_22 : decode cX4_letterOf 22 = .ok (.iload_n 3, 1) := by decide +kernel
theorem dX4_letterOf_23 : decode cX4_letterOf 23 = .ok (.ifCond .eq 19, 3) := by decide +kernel
theorem dX4_letterOf_26 : decode cX4_letterOf 26 = .ok (.aload_n 0, 1) := by decide +kernel
theorem dX4_letterOf_27 : decode cX4_letterOf 27 = .ok (.getfield 20, 3) := by decide +kernel
theorem dX4_letterOf_30 : decode cX4_letterOf 30 = .ok (.iload_n 1, 1) := by decide +kernel
theorem dX4_letterOf_31 : decode cX4_letterOf 31 = .ok (.bipush 6, 2) := by decide +kernel
theorem dX4_letterOf_33 : decode cX4_letterOf 33 = .ok (.imul, 1) := by decide +kernel
theorem dX4_letterOf_34 : decode cX4_letterOf 34 = .ok (.iload_n 2, 1) := by decide +kernel
theorem dX4_letterOf_35 : decode cX4_letterOf 35 = .ok (.iadd, 1) := by decide +kernel
theorem dX4_letterOf_36 : decode cX4_letterOf 36 = .ok (.invokevirtual 49, 3) := by decide +kernel
theorem dX4_letterOf_39 : decode cX4_letterOf 39 = .ok (.goto 6, 3) := by decide +kernel
theorem dX4_letterOf_42 : decode cX4_letterOf 42 = .ok (.sipush (-1006), 3) := by decide +kernel
theorem dX4_letterOf_45 : decode cX4_letterOf 45 = .ok (.ireturn, 1) := by decide +kernel
set_option maxRecDepth 20000 in
theorem ggX4_hasPassed_X0_get : GoodIn wsX4_hasPassed wsX0_get := goodIn_r _ [6, 7, 16] (by decide +kernel) (by decide +kernel)
set_option maxRecDepth 20000 in
theorem gX4_hasPassed_X0_get : GoodIn wsX4_hasPassed (wsV RX4 49 RX0 yX0_get wsX0_get) := goodIn_app (goodIn_of _ (by decide +kernel)) ggX4_hasPassed_X0_get
theorem dX4_hasPassed_0 : decode cX4_hasPassed 0 = .ok (.aload_n 0, 1) := by decide +kernel
theorem dX4_hasPassed_1 : decode cX4_hasPassed 1 = .ok (.getfield 23, 3) := by decide +kernel
theorem dX4_hasPassed_4 : decode cX4_hasPassed 4 = .ok (.iload_n 1, 1) := by decide +kernel
theorem dX4_hasPassed_5 : decode cX4_hasPassed 5 = .ok (.invokevirtual 49, 3) := by decide +kernel
theorem dX4_hasPassed_8 : decode cX4_hasPassed 8 = .ok (.sipush (-1006), 3) := by decide +kernel
theorem dX4_hasPassed_11 : decode cX4_hasPassed 11 = .ok (.if_icmp .eq 7, 3) := by decide +kernel
theorem dX4_hasPassed_14 : decode cX4_hasPassed 14 = .ok (.iconst 1, 1) := by decide +kernel
theorem dX4_hasPassed_15 : decode cX4_hasPassed 15 = .ok (.goto 4, 3) := by decide +kernel
theorem dX4_hasPassed_18 : decode cX4_hasPassed 18 = .ok (.iconst 0, 1) := by decide +kernel
theorem dX4_hasPassed_19 : decode cX4_hasPassed 19 = .ok (.ireturn, 1) := by decide +kernel
set_option maxRecDepth 20000 in
theorem ggX4_markPassed_X0_set : GoodIn wsX4_markPassed wsX0_set := goodIn_r _ [7, 8, 17] (by decide +kernel) (by decide +kernel)
set_option maxRecDepth 20000 in
theorem gX4_markPassed_X0_set : GoodIn wsX4_markPassed (wsV RX4 42 RX0 yX0_set wsX0_set) := goodIn_app (goodIn_of _ (by decide +kernel)) ggX4_markPassed_X0_set
theorem dX4_markPassed_0 : decode cX4_markPassed 0 = .ok (.aload_n 0, 1) := by decide +kernel
theorem dX4_markPassed_1 : decode cX4_markPassed 1 = .ok (.getfield 23, 3) := by decide +kernel
theorem dX4_markPassed_4 : decode cX4_markPassed 4 = .ok (.iload_n 1, 1) := by decide +kernel
theorem dX4_markPassed_5 : decode cX4_markPassed 5 = .ok (.iload_n 2, 1) := by decide +kernel
theorem dX4_markPassed_6 : decode cX4_markPassed 6 = .ok (.invokevirtual 42, 3) := by decide +kernel
theorem dX4_markPassed_9 : decode cX4_markPassed 9 = .ok (.aload_n 0, 1) := by decide +kernel
theorem dX4_markPassed_10 : decode cX4_markPassed 10 = .ok (.getfield 26, 3) := by decide +kernel
theorem dX4_markPassed_13 : decode cX4_markPassed 13 = .ok (.iload_n 1, 1) := by decide +kernel
theorem dX4_markPassed_14 : decode cX4_markPassed 14 = .ok (.iload_n 3, 1) := by decide +kernel
theorem dX4_markPassed_15 : decode cX4_markPassed 15 = .ok (.invokevirtual 42, 3) := by decide +kernel
theorem dX4_markPassed_18 : decode cX4_markPassed 18 = .ok (.return_, 1) := by decide +kernel
set_option maxRecDepth 20000 in
theorem ggX4_wordAt_X0_get : GoodIn wsX4_wordAt wsX0_get := goodIn_r _ [6, 7, 16] (by decide +kernel) (by decide +kernel)
set_option maxRecDepth 20000 in
theorem gX4_wordAt_X0_get : GoodIn wsX4_wordAt (wsV RX4 49 RX0 yX0_get wsX0_get) := goodIn_app (goodIn_of _ (by decide +kernel)) ggX4_wordAt_X0_get
theorem dX4_wordAt_0 : decode cX4_wordAt 0 = .ok (.aload_n 0, 1) := by decide +kernel
theorem dX4_wordAt_1 : decode cX4_wordAt 1 = .ok (.getfield 32, 3) := by decide +kernel
theorem dX4_wordAt_4 : decode cX4_wordAt 4 = .ok (.iload_n 1, 1) := by decide +kernel
theorem dX4_wordAt_5 : decode cX4_wordAt 5 = .ok (.bipush 12, 2) := by decide +kernel
theorem dX4_wordAt_7 : decode cX4_wordAt 7 = .ok (.imul, 1) := by decide +kernel
theorem dX4_wordAt_8 : decode cX4_wordAt 8 = .ok (.iload_n 2, 1) := by decide +kernel
theorem dX4_wordAt_9 : decode cX4_wordAt 9 = .ok (.iadd, 1) := by decide +kernel
theorem dX4_wordAt_10 : decode cX4_wordAt 10 = .ok (.invokevirtual 49, 3) := by decide +kernel
theorem dX4_wordAt_13 : decode cX4_wordAt 13 = .ok (.ireturn, 1) := by decide +kernel
set_option maxRecDepth 20000 in
theorem ggX4_placeIn_X0_get : GoodIn wsX4_placeIn wsX0_get := goodIn_r _ [6, 7, 22] (by decide +kernel) (by decide +kernel)
set_option maxRecDepth 20000 in
theorem gX4_placeIn_X0_get : GoodIn wsX4_placeIn (wsV RX4 49 RX0 yX0_get wsX0_get) := goodIn_app (goodIn_of _ (by decide +kernel)) ggX4_placeIn_X0_get
set_option maxRecDepth 20000 in
theorem ggX4_placeIn_X4_wordAt : GoodIn wsX4_placeIn wsX4_wordAt := goodIn_r _ [12, 13, 2, 3, 4, 5, 6, 7, 14, 15, 16, 17, 18, 19, 20, 21, 22] (by decide +kernel) (by decide +kernel)
set_option maxRecDepth 20000 in
theorem gX4_placeIn_X4_wordAt : GoodIn wsX4_placeIn (wsV RX4 56 RX4 yX4_wordAt wsX4_wordAt) := goodIn_app (goodIn_of _ (by decide +kernel)) ggX4_placeIn_X4_wordAt
theorem dX4_placeIn_0 : decode cX4_placeIn 0 = .ok (.aload_n 0, 1) := by decide +kernel
theorem dX4_placeIn_1 : decode cX4_placeIn 1 = .ok (.getfield 35, 3) := by decide +kernel
theorem dX4_placeIn_4 : decode cX4_placeIn 4 = .ok (.iload_n 1, 1) := by decide +kernel
theorem dX4_placeIn_5 : decode cX4_placeIn 5 = .ok (.invokevirtual 49, 3) := by decide +kernel
theorem dX4_placeIn_8 : decode cX4_placeIn 8 = .ok (.istore_n 3, 1) := by decide +kernel
theorem dX4_placeIn_9 : decode cX4_placeIn 9 = .ok (.iconst 0, 1) := by decide +kernel
theorem dX4_placeIn_10 : decode cX4_placeIn 10 = .ok (.istore 4, 2) := by decide +kernel
theorem dX4_placeIn_12 : decode cX4_placeIn 12 = .ok (.iload 4, 2) := by decide +kernel
theorem dX4_placeIn_14 : decode cX4_placeIn 14 = .ok (.iload_n 3, 1) := by decide +kernel
theorem dX4_placeIn_15 : decode cX4_placeIn 15 = .ok (.if_icmp .ge 23, 3) := by decide +kernel
theorem dX4_placeIn_18 : decode cX4_placeIn 18 = .ok (.aload_n 0, 1) := by decide +kernel
theorem dX4_placeIn_19 : decode cX4_placeIn 19 = .ok (.iload_n 1, 1) := by decide +kernel
theorem dX4_placeIn_20 : decode cX4_placeIn 20 = .ok (.iload 4, 2) := by decide +kernel
theorem dX4_placeIn_22 : decode cX4_placeIn 22 = .ok (.invokevirtual 56, 3) := by decide +kernel
theorem dX4_placeIn_25 : decode cX4_placeIn 25 = .ok (.iload_n 2, 1) := by decide +kernel
theorem dX4_placeIn_26 : decode cX4_placeIn 26 = .ok (.if_icmp .ne 6, 3) := by decide +kernel
theorem dX4_placeIn_29 : decode cX4_placeIn 29 = .ok (.iload 4, 2) := by decide +kernel
theorem dX4_placeIn_31 : decode cX4_placeIn 31 = .ok (.ireturn, 1) := by decide +kernel
theorem dX4_placeIn_32 : decode cX4_placeIn 32 = .ok (.iinc 4 1, 3) := by decide +kernel
theorem dX4_placeIn_35 : decode cX4_placeIn 35 = .ok (.goto (-23), 3) := by decide +kernel
theorem dX4_placeIn_38 : decode cX4_placeIn 38 = .ok (.sipush (-1006), 3) := by decide +kernel
theorem dX4_placeIn_41 : decode cX4_placeIn 41 = .ok (.ireturn, 1) := by decide +kernel
set_option maxRecDepth 20000 in
theorem ggX4_placeOf_X4_placeIn : GoodIn wsX4_placeOf wsX4_placeIn := goodIn_r _ [5, 6, 7, 8, 9, 10, 11, 12, 13, 14, 15, 4, 16, 17, 18, 19, 20, 21, 22, 23, 24, 25, 26] (by decide +kernel) (by decide +kernel)
set_option maxRecDepth 20000 in
theorem gX4_placeOf_X4_placeIn : GoodIn wsX4_placeOf (wsV RX4 60 RX4 yX4_placeIn wsX4_placeIn) := goodIn_app (goodIn_of _ (by decide +kernel)) ggX4_placeOf_X4_placeIn
theorem dX4_placeOf_0 : decode cX4_placeOf 0 = .ok (.aload_n 0, 1) := by decide +kernel
theorem dX4_placeOf_1 : decode cX4_placeOf 1 = .ok (.iconst 0, 1) := by decide +kernel
theorem dX4_placeOf_2 : decode cX4_placeOf 2 = .ok (.iload_n 1, 1) := by decide +kernel
theorem dX4_placeOf_3 : decode cX4_placeOf 3 = .ok (.invokevirtual 60, 3) := by decide +kernel
theorem dX4_placeOf_6 : decode cX4_placeOf 6 = .ok (.istore_n 2, 1) := by decide +kernel
theorem dX4_placeOf_7 : decode cX4_placeOf 7 = .ok (.iload_n 2, 1) := by decide +kernel
theorem dX4_placeOf_8 : decode cX4_placeOf 8 = .ok (.sipush (-1006), 3) := by decide +kernel
theorem dX4_placeOf_11 : decode cX4_placeOf 11 = .ok (.if_icmp .eq 7, 3) := by decide +kernel
theorem dX4_placeOf_14 : decode cX4_placeOf 14 = .ok (.iload_n 2, 1) := by decide +kernel
theorem dX4_placeOf_15 : decode cX4_placeOf 15 = .ok (.goto 9, 3) := by decide +kernel
theorem dX4_placeOf_18 : decode cX4_placeOf 18 = .ok (.aload_n 0, 1) := by decide +kernel
theorem dX4_placeOf_19 : decode cX4_placeOf 19 = .ok (.iconst 1, 1) := by decide +kernel
theorem dX4_placeOf_20 : decode cX4_placeOf 20 = .ok (.iload_n 1, 1) := by decide +kernel
theorem dX4_placeOf_21 : decode cX4_placeOf 21 = .ok (.invokevirtual 60, 3) := by decide +kernel
theorem dX4_placeOf_24 : decode cX4_placeOf 24 = .ok (.ireturn, 1) := by decide +kernel
set_option maxRecDepth 20000 in
theorem ggX4_lettersInRow_X0_get : GoodIn wsX4_lettersInRow wsX0_get := goodIn_r _ [7, 8, 23] (by decide +kernel) (by decide +kernel)
set_option maxRecDepth 20000 in
theorem gX4_lettersInRow_X0_get : GoodIn wsX4_lettersInRow (wsV RX4 49 RX0 yX0_get wsX0_get) := goodIn_app (goodIn_of _ (by decide +kernel)) ggX4_lettersInRow_X0_get
set_option maxRecDepth 20000 in
theorem ggX4_lettersInRow_X4_wordAt : GoodIn wsX4_lettersInRow wsX4_wordAt := goodIn_r _ [13, 14, 3, 4, 5, 6, 7, 8, 15, 16, 17, 18, 19, 20, 21, 22, 23] (by decide +kernel) (by decide +kernel)
set_option maxRecDepth 20000 in
theorem gX4_lettersInRow_X4_wordAt : GoodIn wsX4_lettersInRow (wsV RX4 56 RX4 yX4_wordAt wsX4_wordAt) := goodIn_app (goodIn_of _ (by decide +kernel)) ggX4_lettersInRow_X4_wordAt
theorem dX4_lettersInRow_0 : decode cX4_lettersInRow 0 = .ok (.aload_n 0, 1) := by decide +kernel
theorem dX4_lettersInRow_1 : decode cX4_lettersInRow 1 = .ok (.getfield 35, 3) := by decide +kernel
theorem dX4_lettersInRow_4 : decode cX4_lettersInRow 4 = .ok (.iload_n 1, 1) := by decide +kernel
theorem dX4_lettersInRow_5 : decode cX4_lettersInRow 5 = .ok (.invokevirtual 49, 3) := by decide +kernel
theorem dX4_lettersInRow_8 : decode cX4_lettersInRow 8 = .ok (.istore_n 2, 1) := by decide +kernel
theorem dX4_lettersInRow_9 : decode cX4_lettersInRow 9 = .ok (.iconst 0, 1) := by decide +kernel
theorem dX4_lettersInRow_10 : decode cX4_lettersInRow 10 = .ok (.istore_n 3, 1) := by decide +kernel
theorem dX4_lettersInRow_11 : decode cX4_lettersInRow 11 = .ok (.iconst 0, 1) := by decide +kernel
theorem dX4_lettersInRow_12 : decode cX4_lettersInRow 12 = .ok (.istore 4, 2) := by decide +kernel
theorem dX4_lettersInRow_14 : decode cX4_lettersInRow 14 = .ok (.iload 4, 2) := by decide +kernel
theorem dX4_lettersInRow_16 : decode cX4_lettersInRow 16 = .ok (.iload_n 2, 1) := by decide +kernel
theorem dX4_lettersInRow_17 : decode cX4_lettersInRow 17 = .ok (.if_icmp .ge 26, 3) := by decide +kernel
theorem dX4_lettersInRow_20 : decode cX4_lettersInRow 20 = .ok (.iload_n 3, 1) := by decide +kernel
theorem dX4_lettersInRow_21 : decode cX4_lettersInRow 21 = .ok (.aload_n 0, 1) := by decide +kernel
theorem dX4_lettersInRow_22 : decode cX4_lettersInRow 22 = .ok (.getfield 14, 3) := by decide +kernel
theorem dX4_lettersInRow_25 : decode cX4_lettersInRow 25 = .ok (.aload_n 0, 1) := by decide +kernel
theorem dX4_lettersInRow_26 : decode cX4_lettersInRow 26 = .ok (.iload_n 1, 1) := by decide +kernel
theorem dX4_lettersInRow_27 : decode cX4_lettersInRow 27 = .ok (.iload 4, 2) := by decide +kernel
theorem dX4_lettersInRow_29 : decode cX4_lettersInRow 29 = .ok (.invokevirtual 56, 3) := by decide +kernel
theorem dX4_lettersInRow_32 : decode cX4_lettersInRow 32 = .ok (.invokevirtual 49, 3) := by decide +kernel
theorem dX4_lettersInRow_35 : decode cX4_lettersInRow 35 = .ok (.iadd, 1) := by decide +kernel
theorem dX4_lettersInRow_36 : decode cX4_lettersInRow 36 = .ok (.istore_n 3, 1) := by decide +kernel
theorem dX4_lettersInRow_37 : decode cX4_lettersInRow 37 = .ok (.iinc 4 1, 3) := by decide +kernel
theorem dX4_lettersInRow_40 : decode cX4_lettersInRow 40 = .ok (.goto (-26), 3) := by decide +kernel
theorem dX4_lettersInRow_43 : decode cX4_lettersInRow 43 = .ok (.iload_n 3, 1) := by decide +kernel
theorem dX4_lettersInRow_44 : decode cX4_lettersInRow 44 = .ok (.ireturn, 1) := by decide +kernel
set_option maxRecDepth 20000 in
theorem ggX4_waitingInRow_X0_get : GoodIn wsX4_waitingInRow wsX0_get := goodIn_r _ [6, 7, 27] (by decide +kernel) (by decide +kernel)
set_option maxRecDepth 20000 in
theorem gX4_waitingInRow_X0_get : GoodIn wsX4_waitingInRow (wsV RX4 49 RX0 yX0_get wsX0_get) := goodIn_app (goodIn_of _ (by decide +kernel)) ggX4_waitingInRow_X0_get
set_option maxRecDepth 20000 in
theorem ggX4_waitingInRow_X4_wordAt : GoodIn wsX4_waitingInRow wsX4_wordAt := goodIn_r _ [12, 13, 2, 3, 4, 5, 6, 7, 19, 20, 21, 22, 23, 24, 25, 26, 27] (by decide +kernel) (by decide +kernel)
set_option maxRecDepth 20000 in
theorem gX4_waitingInRow_X4_wordAt : GoodIn wsX4_waitingInRow (wsV RX4 56 RX4 yX4_wordAt wsX4_wordAt) := goodIn_app (goodIn_of _ (by decide +kernel)) ggX4_waitingInRow_X4_wordAt
set_option maxRecDepth 20000 in
theorem ggX4_waitingInRow_X4_hasPassed : GoodIn wsX4_waitingInRow wsX4_hasPassed := goodIn_r _ [17, 18, 2, 3, 4, 5, 6, 7, 19, 20, 21, 22, 23, 24, 25, 26, 27] (by decide +kernel) (by decide +kernel)
set_option maxRecDepth 20000 in
theorem gX4_waitingInRow_X4_hasPassed : GoodIn wsX4_waitingInRow (wsV RX4 63 RX4 yX4_hasPassed wsX4_hasPassed) := goodIn_app (goodIn_of _ (by decide +kernel)) ggX4_waitingInRow_X4_hasPassed
theorem dX4_waitingInRow_0 : decode cX4_waitingInRow 0 = .ok (.aload_n 0, 1) := by decide +kernel
theorem dX4_waitingInRow_1 : decode cX4_waitingInRow 1 = .ok (.getfield 35, 3) := by decide +kernel
theorem dX4_waitingInRow_4 : decode cX4_waitingInRow 4 = .ok (.iload_n 1, 1) := by decide +kernel
theorem dX4_waitingInRow_5 : decode cX4_waitingInRow 5 = .ok (.invokevirtual 49, 3) := by decide +kernel
theorem dX4_waitingInRow_8 : decode cX4_waitingInRow 8 = .ok (.istore_n 2, 1) := by decide +kernel
theorem dX4_waitingInRow_9 : decode cX4_waitingInRow 9 = .ok (.iconst 0, 1) := by decide +kernel
theorem dX4_waitingInRow_10 : decode cX4_waitingInRow 10 = .ok (.istore_n 3, 1) := by decide +kernel
theorem dX4_waitingInRow_11 : decode cX4_waitingInRow 11 = .ok (.iconst 0, 1) := by decide +kernel
theorem dX4_waitingInRow_12 : decode cX4_waitingInRow 12 = .ok (.istore 4, 2) := by decide +kernel
theorem dX4_waitingInRow_14 : decode cX4_waitingInRow 14 = .ok (.iload 4, 2) := by decide +kernel
theorem dX4_waitingInRow_16 : decode cX4_waitingInRow 16 = .ok (.iload_n 2, 1) := by decide +kernel
theorem dX4_waitingInRow_17 : decode cX4_waitingInRow 17 = .ok (.if_icmp .ge 31, 3) := by decide +kernel
theorem dX4_waitingInRow_20 : decode cX4_waitingInRow 20 = .ok (.iload_n 3, 1) := by decide +kernel
theorem dX4_waitingInRow_21 : decode cX4_waitingInRow 21 = .ok (.aload_n 0, 1) := by decide +kernel
theorem dX4_waitingInRow_22 : decode cX4_waitingInRow 22 = .ok (.aload_n 0, 1) := by decide +kernel
theorem dX4_waitingInRow_23 : decode cX4_waitingInRow 23 = .ok (.iload_n 1, 1) := by decide +kernel
theorem dX4_waitingInRow_24 : decode cX4_waitingInRow 24 = .ok (.iload 4, 2) := by decide +kernel
theorem dX4_waitingInRow_26 : decode cX4_waitingInRow 26 = .ok (.invokevirtual 56, 3) := by decide +kernel
theorem dX4_waitingInRow_29 : decode cX4_waitingInRow 29 = .ok (.invokevirtual 63, 3) := by decide +kernel
theorem dX4_waitingInRow_32 : decode cX4_waitingInRow 32 = .ok (.ifCond .eq 7, 3) := by decide +kernel
theorem dX4_waitingInRow_35 : decode cX4_waitingInRow 35 = .ok (.iconst 0, 1) := by decide +kernel
theorem dX4_waitingInRow_36 : decode cX4_waitingInRow 36 = .ok (.goto 4, 3) := by decide +kernel
theorem dX4_waitingInRow_39 : decode cX4_waitingInRow 39 = .ok (.iconst 1, 1) := by decide +kernel
theorem dX4_waitingInRow_40 : decode cX4_waitingInRow 40 = .ok (.iadd, 1) := by decide +kernel
theorem dX4_waitingInRow_41 : decode cX4_waitingInRow 41 = .ok (.istore_n 3, 1) := by decide +kernel
theorem dX4_waitingInRow_42 : decode cX4_waitingInRow 42 = .ok (.iinc 4 1, 3) := by decide +kernel
theorem dX4_waitingInRow_45 : decode cX4_waitingInRow 45 = .ok (.goto (-31), 3) := by decide +kernel
theorem dX4_waitingInRow_48 : decode cX4_waitingInRow 48 = .ok (.iload_n 3, 1) := by decide +kernel
theorem dX4_waitingInRow_49 : decode cX4_waitingInRow 49 = .ok (.ireturn, 1) := by decide +kernel
set_option maxRecDepth 20000 in
theorem ggX4_addLast_X0_get : GoodIn wsX4_addLast wsX0_get := goodIn_r _ [7, 8, 21] (by decide +kernel) (by decide +kernel)
set_option maxRecDepth 20000 in
theorem gX4_addLast_X0_get : GoodIn wsX4_addLast (wsV RX4 49 RX0 yX0_get wsX0_get) := goodIn_app (goodIn_of _ (by decide +kernel)) ggX4_addLast_X0_get
set_option maxRecDepth 20000 in
theorem ggX4_addLast_X0_set : GoodIn wsX4_addLast wsX0_set := goodIn_r _ [12, 8, 21] (by decide +kernel) (by decide +kernel)
set_option maxRecDepth 20000 in
theorem gX4_addLast_X0_set : GoodIn wsX4_addLast (wsV RX4 42 RX0 yX0_set wsX0_set) := goodIn_app (goodIn_of _ (by decide +kernel)) ggX4_addLast_X0_set
theorem dX4_addLast_0 : decode cX4_addLast 0 = .ok (.aload_n 0, 1) := by decide +kernel
theorem dX4_addLast_1 : decode cX4_addLast 1 = .ok (.getfield 35, 3) := by decide +kernel
theorem dX4_addLast_4 : decode cX4_addLast 4 = .ok (.iload_n 1, 1) := by decide +kernel
theorem dX4_addLast_5 : decode cX4_addLast 5 = .ok (.invokevirtual 49, 3) := by decide +kernel
theorem dX4_addLast_8 : decode cX4_addLast 8 = .ok (.istore_n 3, 1) := by decide +kernel
theorem dX4_addLast_9 : decode cX4_addLast 9 = .ok (.iload_n 3, 1) := by decide +kernel
theorem dX4_addLast_10 : decode cX4_addLast 10 = .ok (.bipush 12, 2) := by decide +kernel
theorem dX4_addLast_12 : decode cX4_addLast 12 = .ok (.if_icmp .ge 28, 3) := by decide +kernel
theorem dX4_addLast_15 : decode cX4_addLast 15 = .ok (.aload_n 0, 1) := by decide +kernel
theorem dX4_addLast_16 : decode cX4_addLast 16 = .ok (.getfield 32, 3) := by decide +kernel
theorem dX4_addLast_19 : decode cX4_addLast 19 = .ok (.iload_n 1, 1) := by decide +kernel
theorem dX4_addLast_20 : decode cX4_addLast 20 = .ok (.bipush 12, 2) := by decide +kernel
theorem dX4_addLast_22 : decode cX4_addLast 22 = .ok (.imul, 1) := by decide +kernel
theorem dX4_addLast_23 : decode cX4_addLast 23 = .ok (.iload_n 3, 1) := by decide +kernel
theorem dX4_addLast_24 : decode cX4_addLast 24 = .ok (.iadd, 1) := by decide +kernel
theorem dX4_addLast_25 : decode cX4_addLast 25 = .ok (.iload_n 2, 1) := by decide +kernel
theorem dX4_addLast_26 : decode cX4_addLast 26 = .ok (.invokevirtual 42, 3) := by decide +kernel
theorem dX4_addLast_29 : decode cX4_addLast 29 = .ok (.aload_n 0, 1) := by decide +kernel
theorem dX4_addLast_30 : decode cX4_addLast 30 = .ok (.getfield 35, 3) := by decide +kernel
theorem dX4_addLast_33 : decode cX4_addLast 33 = .ok (.iload_n 1, 1) := by decide +kernel
theorem dX4_addLast_34 : decode cX4_addLast 34 = .ok (.iload_n 3, 1) := by decide +kernel
theorem dX4_addLast_35 : decode cX4_addLast 35 = .ok (.iconst 1, 1) := by decide +kernel
theorem dX4_addLast_36 : decode cX4_addLast 36 = .ok (.iadd, 1) := by decide +kernel
theorem dX4_addLast_37 : decode cX4_addLast 37 = .ok (.invokevirtual 42, 3) := by decide +kernel
theorem dX4_addLast_40 : decode cX4_addLast 40 = .ok (.return_, 1) := by decide +kernel
set_option maxRecDepth 20000 in
theorem ggX4_addFirst_X0_get : GoodIn wsX4_addFirst wsX0_get := goodIn_r _ [7, 8, 21] (by decide +kernel) (by decide +kernel)
set_option maxRecDepth 20000 in
theorem gX4_addFirst_X0_get : GoodIn wsX4_addFirst (wsV RX4 49 RX0 yX0_get wsX0_get) := goodIn_app (goodIn_of _ (by decide +kernel)) ggX4_addFirst_X0_get
set_option maxRecDepth 20000 in
theorem ggX4_addFirst_X0_set : GoodIn wsX4_addFirst wsX0_set := goodIn_r _ [12, 8, 21] (by decide +kernel) (by decide +kernel)
set_option maxRecDepth 20000 in
theorem gX4_addFirst_X0_set : GoodIn wsX4_addFirst (wsV RX4 42 RX0 yX0_set wsX0_set) := goodIn_app (goodIn_of _ (by decide +kernel)) ggX4_addFirst_X0_set
theorem dX4_addFirst_0 : decode cX4_addFirst 0 = .ok (.iload_n 1, 1) := by decide +kernel
theorem dX4_addFirst_1 : decode cX4_addFirst 1 = .ok (.bipush 12, 2) := by decide +kernel
theorem dX4_addFirst_3 : decode cX4_addFirst 3 = .ok (.imul, 1) := by decide +kernel
theorem dX4_addFirst_4 : decode cX4_addFirst 4 = .ok (.istore_n 3, 1) := by decide +kernel
theorem dX4_addFirst_5 : decode cX4_addFirst 5 = .ok (.aload_n 0, 1) := by decide +kernel
theorem dX4_addFirst_6 : decode cX4_addFirst 6 = .ok (.getfield 35, 3) := by decide +kernel
theorem dX4_addFirst_9 : decode cX4_addFirst 9 = .ok (.iload_n 1, 1) := by decide +kernel
theorem dX4_addFirst_10 : decode cX4_addFirst 10 = .ok (.invokevirtual 49, 3) := by decide +kernel
theorem dX4_addFirst_13 : decode cX4_addFirst 13 = .ok (.istore 4, 2) := by decide +kernel
theorem dX4_addFirst_15 : decode cX4_addFirst 15 = .ok (.iload 4, 2) := by decide +kernel
theorem dX4_addFirst_17 : decode cX4_addFirst 17 = .ok (.bipush 12, 2) := by decide +kernel
theorem dX4_addFirst_19 : decode cX4_addFirst 19 = .ok (.if_icmp .ge 63, 3) := by decide +kernel
theorem dX4_addFirst_22 : decode cX4_addFirst 22 = .ok (.iload 4, 2) := by decide +kernel
theorem dX4_addFirst_24 : decode cX4_addFirst 24 = .ok (.istore 5, 2) := by decide +kernel
theorem dX4_addFirst_26 : decode cX4_addFirst 26 = .ok (.iload 5, 2) := by decide +kernel
theorem dX4_addFirst_28 : decode cX4_addFirst 28 = .ok (.ifCond .le 33, 3) := by decide +kernel
theorem dX4_addFirst_31 : decode cX4_addFirst 31 = .ok (.aload_n 0, 1) := by decide +kernel
theorem dX4_addFirst_32 : decode cX4_addFirst 32 = .ok (.getfield 32, 3) := by decide +kernel
theorem dX4_addFirst_35 : decode cX4_addFirst 35 = .ok (.iload_n 3, 1) := by decide +kernel
theorem dX4_addFirst_36 : decode cX4_addFirst 36 = .ok (.iload 5, 2) := by decide +kernel
theorem dX4_addFirst_38 : decode cX4_addFirst 38 = .ok (.iadd, 1) := by decide +kernel
theorem dX4_addFirst_39 : decode cX4_addFirst 39 = .ok (.aload_n 0, 1) := by decide +kernel
theorem dX4_addFirst_40 : decode cX4_addFirst 40 = .ok (.getfield 32, 3) := by decide +kernel
theorem dX4_addFirst_43 : decode cX4_addFirst 43 = .ok (.iload_n 3, 1) := by decide +kernel
theorem dX4_addFirst_44 : decode cX4_addFirst 44 = .ok (.iload 5, 2) := by decide +kernel
theorem dX4_addFirst_46 : decode cX4_addFirst 46 = .ok (.iadd, 1) := by decide +kernel
theorem dX4_addFirst_47 : decode cX4_addFirst 47 = .ok (.iconst 1, 1) := by decide +kernel
theorem dX4_addFirst_48 : decode cX4_addFirst 48 = .ok (.isub, 1) := by decide +kernel
theorem dX4_addFirst_49 : decode cX4_addFirst 49 = .ok (.invokevirtual 49, 3) := by decide +kernel
theorem dX4_addFirst_52 : decode cX4_addFirst 52 = .ok (.invokevirtual 42, 3) := by decide +kernel
theorem dX4_addFirst_55 : decode cX4_addFirst 55 = .ok (.iinc 5 (-1), 3) := by decide +kernel
theorem dX4_addFirst_58 : decode cX4_addFirst 58 = .ok (.goto (-32), 3) := by decide +kernel
theorem dX4_addFirst_61 : decode cX4_addFirst 61 = .ok (.aload_n 0, 1) := by decide +kernel
theorem dX4_addFirst_62 : decode cX4_addFirst 62 = .ok (.getfield 32, 3) := by decide +kernel
theorem dX4_addFirst_65 : decode cX4_addFirst 65 = .ok (.iload_n 3, 1) := by decide +kernel
theorem dX4_addFirst_66 : decode cX4_addFirst 66 = .ok (.iload_n 2, 1) := by decide +kernel
theorem dX4_addFirst_67 : decode cX4_addFirst 67 = .ok (.invokevirtual 42, 3) := by decide +kernel
theorem dX4_addFirst_70 : decode cX4_addFirst 70 = .ok (.aload_n 0, 1) := by decide +kernel
theorem dX4_addFirst_71 : decode cX4_addFirst 71 = .ok (.getfield 35, 3) := by decide +kernel
theorem dX4_addFirst_74 : decode cX4_addFirst 74 = .ok (.iload_n 1, 1) := by decide +kernel
theorem dX4_addFirst_75 : decode cX4_addFirst 75 = .ok (.iload 4, 2) := by decide +kernel
theorem dX4_addFirst_77 : decode cX4_addFirst 77 = .ok (.iconst 1, 1) := by decide +kernel
theorem dX4_addFirst_78 : decode cX4_addFirst 78 = .ok (.iadd, 1) := by decide +kernel
theorem dX4_addFirst_79 : decode cX4_addFirst 79 = .ok (.invokevirtual 42, 3) := by decide +kernel
theorem dX4_addFirst_82 : decode cX4_addFirst 82 = .ok (.return_, 1) := by decide +kernel
set_option maxRecDepth 20000 in
theorem ggX4_takeWaiting_X0_get : GoodIn wsX4_takeWaiting wsX0_get := goodIn_r _ [6, 7, 35] (by decide +kernel) (by decide +kernel)
set_option maxRecDepth 20000 in
theorem gX4_takeWaiting_X0_get : GoodIn wsX4_takeWaiting (wsV RX4 49 RX0 yX0_get wsX0_get) := goodIn_app (goodIn_of _ (by decide +kernel)) ggX4_takeWaiting_X0_get
set_option maxRecDepth 20000 in
theorem ggX4_takeWaiting_X4_wordAt : GoodIn wsX4_takeWaiting wsX4_wordAt := goodIn_r _ [12, 13, 2, 3, 4, 5, 6, 7, 27, 28, 29, 30, 31, 32, 33, 34, 35] (by decide +kernel) (by decide +kernel)
set_option maxRecDepth 20000 in
theorem gX4_takeWaiting_X4_wordAt : GoodIn wsX4_takeWaiting (wsV RX4 56 RX4 yX4_wordAt wsX4_wordAt) := goodIn_app (goodIn_of _ (by decide +kernel)) ggX4_takeWaiting_X4_wordAt
set_option maxRecDepth 20000 in
theorem ggX4_takeWaiting_X4_hasPassed : GoodIn wsX4_takeWaiting wsX4_hasPassed := goodIn_r _ [17, 18, 2, 3, 4, 5, 6, 7, 27, 28, 29, 30, 31, 32, 33, 34, 35] (by decide +kernel) (by decide +kernel)
set_option maxRecDepth 20000 in
theorem gX4_takeWaiting_X4_hasPassed : GoodIn wsX4_takeWaiting (wsV RX4 63 RX4 yX4_hasPassed wsX4_hasPassed) := goodIn_app (goodIn_of _ (by decide +kernel)) ggX4_takeWaiting_X4_hasPassed
set_option maxRecDepth 20000 in
theorem ggX4_takeWaiting_X4_removeFrom : GoodIn wsX4_takeWaiting wsX4_removeFrom := goodIn_r _ [22, 1, 13, 2, 3, 4, 5, 6, 7, 23, 24, 25, 26, 27, 28, 29, 30, 31, 32, 33, 34, 35] (by decide +kernel) (by decide +kernel)
set_option maxRecDepth 20000 in
theorem gX4_takeWaiting_X4_removeFrom : GoodIn wsX4_takeWaiting (wsV RX4 67 RX4 yX4_removeFrom wsX4_removeFrom) := goodIn_app (goodIn_of _ (by decide +kernel)) ggX4_takeWaiting_X4_removeFrom
theorem dX4_takeWaiting_0 : decode cX4_takeWaiting 0 = .ok (.aload_n 0, 1) := by decide +kernel
theorem dX4_takeWaiting_1 : decode cX4_takeWaiting 1 = .ok (.getfield 35, 3) := by decide +kernel
theorem dX4_takeWaiting_4 : decode cX4_takeWaiting 4 = .ok (.iload_n 1, 1) := by decide +kernel
theorem dX4_takeWaiting_5 : decode cX4_takeWaiting 5 = .ok (.invokevirtual 49, 3) := by decide +kernel
theorem dX4_takeWaiting_8 : decode cX4_takeWaiting 8 = .ok (.istore_n 2, 1) := by decide +kernel
theorem dX4_takeWaiting_9 : decode cX4_takeWaiting 9 = .ok (.iconst 0, 1) := by decide +kernel
theorem dX4_takeWaiting_10 : decode cX4_takeWaiting 10 = .ok (.istore_n 3, 1) := by decide +kernel
theorem dX4_takeWaiting_11 : decode cX4_takeWaiting 11 = .ok (.iload_n 3, 1) := by decide +kernel
theorem dX4_takeWaiting_12 : decode cX4_takeWaiting 12 = .ok (.iload_n 2, 1) := by decide +kernel
theorem dX4_takeWaiting_13 : decode cX4_takeWaiting 13 = .ok (.if_icmp .ge 35, 3) := by decide +kernel
theorem dX4_takeWaiting_16 : decode cX4_takeWaiting 16 = .ok (.aload_n 0, 1) := by decide +kernel
theorem dX4_takeWaiting_17 : decode cX4_takeWaiting 17 = .ok (.iload_n 1, 1) := by decide +kernel
theorem dX4_takeWaiting_18 : decode cX4_takeWaiting 18 = .ok (.iload_n 3, 1) := by decide +kernel
theorem dX4_takeWaiting_19 : decode cX4_takeWaiting 19 = .ok (.invokevirtual 56, 3) := by decide +kernel
theorem dX4_takeWaiting_22 : decode cX4_takeWaiting 22 = .ok (.istore 4, 2) := by decide +kernel
theorem dX4_takeWaiting_24 : decode cX4_takeWaiting 24 = .ok (.aload_n 0, 1) := by decide +kernel
theorem dX4_takeWaiting_25 : decode cX4_takeWaiting 25 = .ok (.iload 4, 2) := by decide +kernel
theorem dX4_takeWaiting_27 : decode cX4_takeWaiting 27 = .ok (.invokevirtual 63, 3) := by decide +kernel
theorem dX4_takeWaiting_30 : decode cX4_takeWaiting 30 = .ok (.ifCond .ne 12, 3) := by decide +kernel
theorem dX4_takeWaiting_33 : decode cX4_takeWaiting 33 = .ok (.aload_n 0, 1) := by decide +kernel
theorem dX4_takeWaiting_34 : decode cX4_takeWaiting 34 = .ok (.iload_n 1, 1) := by decide +kernel
theorem dX4_takeWaiting_35 : decode cX4_takeWaiting 35 = .ok (.iload_n 3, 1) := by decide +kernel
theorem dX4_takeWaiting_36 : decode cX4_takeWaiting 36 = .ok (.invokevirtual 67, 3) := by decide +kernel
theorem dX4_takeWaiting_39 : decode cX4_takeWaiting 39 = .ok (.iload 4, 2) := by decide +kernel
theorem dX4_takeWaiting_41 : decode cX4_takeWaiting 41 = .ok (.ireturn, 1) := by decide +kernel
theorem dX4_takeWaiting_42 : decode cX4_takeWaiting 42 = .ok (.iinc 3 1, 3) := by decide +kernel
theorem dX4_takeWaiting_45 : decode cX4_takeWaiting 45 = .ok (.goto (-34), 3) := by decide +kernel
theorem dX4_takeWaiting_48 : decode cX4_takeWaiting 48 = .ok (.sipush (-1006), 3) := by decide +kernel
theorem dX4_takeWaiting_51 : decode cX4_takeWaiting 51 = .ok (.ireturn, 1) := by decide +kernel
set_option maxRecDepth 20000 in
theorem ggX4_removeFrom_X0_get : GoodIn wsX4_removeFrom wsX0_get := goodIn_r _ [7, 8, 21] (by decide +kernel) (by decide +kernel)
set_option maxRecDepth 20000 in
theorem gX4_removeFrom_X0_get : GoodIn wsX4_removeFrom (wsV RX4 49 RX0 yX0_get wsX0_get) := goodIn_app (goodIn_of _ (by decide +kernel)) ggX4_removeFrom_X0_get
set_option maxRecDepth 20000 in
theorem ggX4_removeFrom_X0_set : GoodIn wsX4_removeFrom wsX0_set := goodIn_r _ [12, 8, 21] (by decide +kernel) (by decide +kernel)
set_option maxRecDepth 20000 in
theorem gX4_removeFrom_X0_set : GoodIn wsX4_removeFrom (wsV RX4 42 RX0 yX0_set wsX0_set) := goodIn_app (goodIn_of _ (by decide +kernel)) ggX4_removeFrom_X0_set
theorem dX4_removeFrom_0 : decode cX4_removeFrom 0 = .ok (.iload_n 1, 1) := by decide +kernel
theorem dX4_removeFrom_1 : decode cX4_removeFrom 1 = .ok (.bipush 12, 2) := by decide +kernel
theorem dX4_removeFrom_3 : decode cX4_removeFrom 3 = .ok (.imul, 1) := by decide +kernel
theorem dX4_removeFrom_4 : decode cX4_removeFrom 4 = .ok (.istore_n 3, 1) := by decide +kernel
theorem dX4_removeFrom_5 : decode cX4_removeFrom 5 = .ok (.aload_n 0, 1) := by decide +kernel
theorem dX4_removeFrom_6 : decode cX4_removeFrom 6 = .ok (.getfield 35, 3) := by decide +kernel
theorem dX4_removeFrom_9 : decode cX4_removeFrom 9 = .ok (.iload_n 1, 1) := by decide +kernel
theorem dX4_removeFrom_10 : decode cX4_removeFrom 10 = .ok (.invokevirtual 49, 3) := by decide +kernel
theorem dX4_removeFrom_13 : decode cX4_removeFrom 13 = .ok (.istore 4, 2) := by decide +kernel
theorem dX4_removeFrom_15 : decode cX4_removeFrom 15 = .ok (.iload_n 2, 1) := by decide +kernel
theorem dX4_removeFrom_16 : decode cX4_removeFrom 16 = .ok (.iconst 1, 1) := by decide +kernel
theorem dX4_removeFrom_17 : decode cX4_removeFrom 17 = .ok (.iadd, 1) := by decide +kernel
theorem dX4_removeFrom_18 : decode cX4_removeFrom 18 = .ok (.istore 5, 2) := by decide +kernel
theorem dX4_removeFrom_20 : decode cX4_removeFrom 20 = .ok (.iload 5, 2) := by decide +kernel
theorem dX4_removeFrom_22 : decode cX4_removeFrom 22 = .ok (.iload 4, 2) := by decide +kernel
theorem dX4_removeFrom_24 : decode cX4_removeFrom 24 = .ok (.if_icmp .ge 33, 3) := by decide +kernel
theorem dX4_removeFrom_27 : decode cX4_removeFrom 27 = .ok (.aload_n 0, 1) := by decide +kernel
theorem dX4_removeFrom_28 : decode cX4_removeFrom 28 = .ok (.getfield 32, 3) := by decide +kernel
theorem dX4_removeFrom_31 : decode cX4_removeFrom 31 = .ok (.iload_n 3, 1) := by decide +kernel
theorem dX4_removeFrom_32 : decode cX4_removeFrom 32 = .ok (.iload 5, 2) := by decide +kernel
theorem dX4_removeFrom_34 : decode cX4_removeFrom 34 = .ok (.iadd, 1) := by decide +kernel
theorem dX4_removeFrom_35 : decode cX4_removeFrom 35 = .ok (.iconst 1, 1) := by decide +kernel
theorem dX4_removeFrom_36 : decode cX4_removeFrom 36 = .ok (.isub, 1) := by decide +kernel
theorem dX4_removeFrom_37 : decode cX4_removeFrom 37 = .ok (.aload_n 0, 1) := by decide +kernel
theorem dX4_removeFrom_38 : decode cX4_removeFrom 38 = .ok (.getfield 32, 3) := by decide +kernel
theorem dX4_removeFrom_41 : decode cX4_removeFrom 41 = .ok (.iload_n 3, 1) := by decide +kernel
theorem dX4_removeFrom_42 : decode cX4_removeFrom 42 = .ok (.iload 5, 2) := by decide +kernel
theorem dX4_removeFrom_44 : decode cX4_removeFrom 44 = .ok (.iadd, 1) := by decide +kernel
theorem dX4_removeFrom_45 : decode cX4_removeFrom 45 = .ok (.invokevirtual 49, 3) := by decide +kernel
theorem dX4_removeFrom_48 : decode cX4_removeFrom 48 = .ok (.invokevirtual 42, 3) := by decide +kernel
theorem dX4_removeFrom_51 : decode cX4_removeFrom 51 = .ok (.iinc 5 1, 3) := by decide +kernel
theorem dX4_removeFrom_54 : decode cX4_removeFrom 54 = .ok (.goto (-34), 3) := by decide +kernel
theorem dX4_removeFrom_57 : decode cX4_removeFrom 57 = .ok (.aload_n 0, 1) := by decide +kernel
theorem dX4_removeFrom_58 : decode cX4_removeFrom 58 = .ok (.getfield 35, 3) := by decide +kernel
theorem dX4_removeFrom_61 : decode cX4_removeFrom 61 = .ok (.iload_n 1, 1) := by decide +kernel
theorem dX4_removeFrom_62 : decode cX4_removeFrom 62 = .ok (.iload 4, 2) := by decide +kernel
theorem dX4_removeFrom_64 : decode cX4_removeFrom 64 = .ok (.iconst 1, 1) := by decide +kernel
theorem dX4_removeFrom_65 : decode cX4_removeFrom 65 = .ok (.isub, 1) := by decide +kernel
theorem dX4_removeFrom_66 : decode cX4_removeFrom 66 = .ok (.invokevirtual 42, 3) := by decide +kernel
theorem dX4_removeFrom_69 : decode cX4_removeFrom 69 = .ok (.return_, 1) := by decide +kernel
set_option maxRecDepth 20000 in
theorem ggX4_copyFrom_X0_copyFrom : GoodIn wsX4_copyFrom wsX0_copyFrom := goodIn_r _ [13, 14, 15, 16, 17, 18, 19, 20, 21, 22, 31] (by decide +kernel) (by decide +kernel)
set_option maxRecDepth 20000 in
theorem gX4_copyFrom_X0_copyFrom : GoodIn wsX4_copyFrom (wsV RX4 70 RX0 yX0_copyFrom wsX0_copyFrom) := goodIn_app (goodIn_of _ (by decide +kernel)) ggX4_copyFrom_X0_copyFrom
theorem dX4_copyFrom_0 : decode cX4_copyFrom 0 = .ok (.aload_n 1, 1) := by decide +kernel
theorem dX4_copyFrom_1 : decode cX4_copyFrom 1 = .ok (.ifnull 88, 3) := by decide +kernel
theorem dX4_copyFrom_4 : decode cX4_copyFrom 4 = .ok (.aload_n 0, 1) := by decide +kernel
theorem dX4_copyFrom_5 : decode cX4_copyFrom 5 = .ok (.getfield 14, 3) := by decide +kernel
theorem dX4_copyFrom_8 : decode cX4_copyFrom 8 = .ok (.aload_n 1, 1) := by decide +kernel
theorem dX4_copyFrom_9 : decode cX4_copyFrom 9 = .ok (.getfield 14, 3) := by decide +kernel
theorem dX4_copyFrom_12 : decode cX4_copyFrom 12 = .ok (.invokevirtual 70, 3) := by decide +kernel
theorem dX4_copyFrom_15 : decode cX4_copyFrom 15 = .ok (.aload_n 0, 1) := by decide +kernel
theorem dX4_copyFrom_16 : decode cX4_copyFrom 16 = .ok (.getfield 20, 3) := by decide +kernel
theorem dX4_copyFrom_19 : decode cX4_copyFrom 19 = .ok (.aload_n 1, 1) := by decide +kernel
theorem dX4_copyFrom_20 : decode cX4_copyFrom 20 = .ok (.getfield 20, 3) := by decide +kernel
theorem dX4_copyFrom_23 : decode cX4_copyFrom 23 = .ok (.invokevirtual 70, 3) := by decide +kernel
theorem dX4_copyFrom_26 : decode cX4_copyFrom 26 = .ok (.aload_n 0, 1) := by decide +kernel
theorem dX4_copyFrom_27 : decode cX4_copyFrom 27 = .ok (.getfield 23, 3) := by decide +kernel
theorem dX4_copyFrom_30 : decode cX4_copyFrom 30 = .ok (.aload_n 1, 1) := by decide +kernel
theorem dX4_copyFrom_31 : decode cX4_copyFrom 31 = .ok (.getfield 23, 3) := by decide +kernel
theorem dX4_copyFrom_34 : decode cX4_copyFrom 34 = .ok (.invokevirtual 70, 3) := by decide +kernel
theorem dX4_copyFrom_37 : decode cX4_copyFrom 37 = .ok (.aload_n 0, 1) := by decide +kernel
theorem dX4_copyFrom_38 : decode cX4_copyFrom 38 = .ok (.getfield 26, 3) := by decide +kernel
theorem dX4_copyFrom_41 : decode cX4_copyFrom 41 = .ok (.aload_n 1, 1) := by decide +kernel
theorem dX4_copyFrom_42 : decode cX4_copyFrom 42 = .ok (.getfield 26, 3) := by decide +kernel
theorem dX4_copyFrom_45 : decode cX4_copyFrom 45 = .ok (.invokevirtual 70, 3) := by decide +kernel
theorem dX4_copyFrom_48 : decode cX4_copyFrom 48 = .ok (.aload_n 0, 1) := by decide +kernel
theorem dX4_copyFrom_49 : decode cX4_copyFrom 49 = .ok (.getfield 29, 3) := by decide +kernel
theorem dX4_copyFrom_52 : decode cX4_copyFrom 52 = .ok (.aload_n 1, 1) := by decide +kernel
theorem dX4_copyFrom_53 : decode cX4_copyFrom 53 = .ok (.getfield 29, 3) := by decide +kernel
theorem dX4_copyFrom_56 : decode cX4_copyFrom 56 = .ok (.invokevirtual 70, 3) := by decide +kernel
theorem dX4_copyFrom_59 : decode cX4_copyFrom 59 = .ok (.aload_n 0, 1) := by decide +kernel
theorem dX4_copyFrom_60 : decode cX4_copyFrom 60 = .ok (.getfield 32, 3) := by decide +kernel
theorem dX4_copyFrom_63 : decode cX4_copyFrom 63 = .ok (.aload_n 1, 1) := by decide +kernel
theorem dX4_copyFrom_64 : decode cX4_copyFrom 64 = .ok (.getfield 32, 3) := by decide +kernel
theorem dX4_copyFrom_67 : decode cX4_copyFrom 67 = .ok (.invokevirtual 70, 3) := by decide +kernel
theorem dX4_copyFrom_70 : decode cX4_copyFrom 70 = .ok (.aload_n 0, 1) := by decide +kernel
theorem dX4_copyFrom_71 : decode cX4_copyFrom 71 = .ok (.getfield 35, 3) := by decide +kernel
theorem dX4_copyFrom_74 : decode cX4_copyFrom 74 = .ok (.aload_n 1, 1) := by decide +kernel
theorem dX4_copyFrom_75 : decode cX4_copyFrom 75 = .ok (.getfield 35, 3) := by decide +kernel
theorem dX4_copyFrom_78 : decode cX4_copyFrom 78 = .ok (.invokevirtual 70, 3) := by decide +kernel
theorem dX4_copyFrom_81 : decode cX4_copyFrom 81 = .ok (.aload_n 0, 1) := by decide +kernel
theorem dX4_copyFrom_82 : decode cX4_copyFrom 82 = .ok (.aload_n 1, 1) := by decide +kernel
theorem dX4_copyFrom_83 : decode cX4_copyFrom 83 = .ok (.getfield 38, 3) := by decide +kernel
theorem dX4_copyFrom_86 : decode cX4_copyFrom 86 = .ok (.putfield 38, 3) := by decide +kernel
theorem dX4_copyFrom_89 : decode cX4_copyFrom 89 = .ok (.return_, 1) := by decide +kernel
set_option maxRecDepth 20000 in
theorem ggX5_init_X3_init : GoodIn wsX5_init wsX3_init := goodIn_r _ [18, 19, 2, 3, 20, 21, 22, 23, 24, 25, 26, 27, 28, 29, 30, 31, 32, 33, 34, 35, 36, 37, 38, 39, 6, 40, 41, 42, 43, 44, 102, 76, 77, 78, 79] (by decide +kernel) (by decide +kernel)
set_option maxRecDepth 20000 in
theorem gX5_init_X3_init : GoodIn wsX5_init (wsX3_init) := ggX5_init_X3_init
set_option maxRecDepth 20000 in
theorem ggX5_init_X1_init : GoodIn wsX5_init wsX1_init := goodIn_r _ [47, 48, 2, 3, 49, 21, 22, 50, 51, 52, 53, 54, 55, 56, 57, 58, 28, 29, 30, 31, 32, 33, 34, 35, 36, 59, 60, 61, 10, 62, 63, 42, 43, 44, 102, 86, 87, 88, 89, 90, 91, 92, 93] (by decide +kernel) (by decide +kernel)
set_option maxRecDepth 20000 in
theorem gX5_init_X1_init : GoodIn wsX5_init (wsX1_init) := ggX5_init_X1_init
set_option maxRecDepth 20000 in
theorem ggX5_init_X4_init : GoodIn wsX5_init wsX4_init := goodIn_r _ [65, 66, 2, 3, 67, 21, 22, 68, 69, 70, 71, 72, 73, 74, 75, 28, 29, 30, 31, 32, 33, 34, 35, 36, 102, 94, 95, 96, 97, 98, 99, 100, 101] (by decide +kernel) (by decide +kernel)
set_option maxRecDepth 20000 in
theorem gX5_init_X4_init_n27 : GoodIn wsX5_init (wsX4_init) := ggX5_init_X4_init
theorem dX5_init_0 : decode cX5_init 0 = .ok (.aload_n 0, 1) := by decide +kernel
theorem dX5_init_1 : decode cX5_init 1 = .ok (.invokespecial 3, 3) := by decide +kernel
theorem dX5_init_4 : decode cX5_init 4 = .ok (.aload_n 0, 1) := by decide +kernel
theorem dX5_init_5 : decode cX5_init 5 = .ok (.new 9, 3) := by decide +kernel
theorem dX5_init_8 : decode cX5_init 8 = .ok (.dup, 1) := by decide +kernel
theorem dX5_init_9 : decode cX5_init 9 = .ok (.invokespecial 11, 3) := by decide +kernel
theorem dX5_init_12 : decode cX5_init 12 = .ok (.putfield 12, 3) := by decide +kernel
theorem dX5_init_15 : decode cX5_init 15 = .ok (.aload_n 0, 1) := by decide +kernel
theorem dX5_init_16 : decode cX5_init 16 = .ok (.new 18, 3) := by decide +kernel
theorem dX5_init_19 : decode cX5_init 19 = .ok (.dup, 1) := by decide +kernel
theorem dX5_init_20 : decode cX5_init 20 = .ok (.invokespecial 20, 3) := by decide +kernel
theorem dX5_init_23 : decode cX5_init 23 = .ok (.putfield 21, 3) := by decide +kernel
theorem dX5_init_26 : decode cX5_init 26 = .ok (.aload_n 0, 1) := by decide +kernel
theorem dX5_init_27 : decode cX5_init 27 = .ok (.new 25, 3) := by decide +kernel
theorem dX5_init_30 : decode cX5_init 30 = .ok (.dup, 1) := by decide +kernel
theorem dX5_init_31 : decode cX5_init 31 = .ok (.invokespecial 27, 3) := by decide +kernel
theorem dX5_init_34 : decode cX5_init 34 = .ok (.putfield 28, 3) := by decide +kernel
theorem dX5_init_37 : decode cX5_init 37 = .ok (.return_, 1) := by decide +kernel
set_option maxRecDepth 20000 in
theorem ggX5_isOpenAt_X3_gapAt : GoodIn wsX5_isOpenAt wsX3_gapAt := goodIn_r _ [7, 8, 9, 10, 6, 11, 12, 13, 14, 15, 16, 17, 18, 19, 20, 21, 22, 23, 24, 25, 26, 27, 28, 29, 51, 52, 53, 54, 55] (by decide +kernel) (by decide +kernel)
set_option maxRecDepth 20000 in
theorem gX5_isOpenAt_X3_gapAt : GoodIn wsX5_isOpenAt (wsV RX5 32 RX3 yX3_gapAt wsX3_gapAt) := goodIn_app (goodIn_of _ (by decide +kernel)) ggX5_isOpenAt_X3_gapAt
set_option maxRecDepth 20000 in
theorem ggX5_isOpenAt_X1_isOpenAcross : GoodIn wsX5_isOpenAt wsX1_isOpenAcross := goodIn_r _ [34, 35, 36, 22, 37, 38, 39, 40, 41, 33, 42, 43, 44, 25, 26, 27, 28, 29, 56, 57, 58, 59, 60, 61, 62, 63, 55] (by decide +kernel) (by decide +kernel)
set_option maxRecDepth 20000 in
theorem gX5_isOpenAt_X1_isOpenAcross : GoodIn wsX5_isOpenAt (wsV RX5 36 RX1 yX1_isOpenAcross wsX1_isOpenAcross) := goodIn_app (goodIn_of _ (by decide +kernel)) ggX5_isOpenAt_X1_isOpenAcross
theorem dX5_isOpenAt_0 : decode cX5_isOpenAt 0 = .ok (.aload_n 0, 1) := by decide +kernel
theorem dX5_isOpenAt_1 : decode cX5_isOpenAt 1 = .ok (.getfield 21, 3) := by decide +kernel
theorem dX5_isOpenAt_4 : decode cX5_isOpenAt 4 = .ok (.iload_n 1, 1) := by decide +kernel
theorem dX5_isOpenAt_5 : decode cX5_isOpenAt 5 = .ok (.aload_n 0, 1) := by decide +kernel
theorem dX5_isOpenAt_6 : decode cX5_isOpenAt 6 = .ok (.getfield 12, 3) := by decide +kernel
theorem dX5_isOpenAt_9 : decode cX5_isOpenAt 9 = .ok (.iload_n 2, 1) := by decide +kernel
theorem dX5_isOpenAt_10 : decode cX5_isOpenAt 10 = .ok (.invokevirtual 32, 3) := by decide +kernel
theorem dX5_isOpenAt_13 : decode cX5_isOpenAt 13 = .ok (.invokevirtual 36, 3) := by decide +kernel
theorem dX5_isOpenAt_16 : decode cX5_isOpenAt 16 = .ok (.ireturn, 1) := by decide +kernel
set_option maxRecDepth 20000 in
theorem ggX5_openMask_X5_isOpenAt : GoodIn wsX5_openMask wsX5_isOpenAt := goodIn_r _ [6, 7, 8, 9, 10, 11, 12, 13, 14, 15, 16, 17, 18, 19, 20, 21, 22, 23, 24, 25, 26, 27, 28, 29, 30, 31, 32, 33, 34, 35, 36, 37, 38, 39, 40, 41, 42, 43, 44, 45, 46, 47, 48, 49, 50, 51, 52, 53, 54, 55, 56, 57, 58, 59, 60, 61, 62, 63, 64, 65, 66, 67, 68, 69] (by decide +kernel) (by decide +kernel)
set_option maxRecDepth 20000 in
theorem gX5_openMask_X5_isOpenAt : GoodIn wsX5_openMask (wsV RX5 44 RX5 yX5_isOpenAt wsX5_isOpenAt) := goodIn_app (goodIn_of _ (by decide +kernel)) ggX5_openMask_X5_isOpenAt
theorem dX5_openMask_0 : decode cX5_openMask 0 = .ok (.iconst 0, 1) := by decide +kernel
theorem dX5_openMask_1 : decode cX5_openMask 1 = .ok (.istore_n 1, 1) := by decide +kernel
theorem dX5_openMask_2 : decode cX5_openMask 2 = .ok (.iconst 0, 1) := by decide +kernel
theorem dX5_openMask_3 : decode cX5_openMask 3 = .ok (.istore_n 2, 1) := by decide +kernel
theorem dX5_openMask_4 : decode cX5_openMask 4 = .ok (.iload_n 2, 1) := by decide +kernel
theorem dX5_openMask_5 : decode cX5_openMask 5 = .ok (.iconst 4, 1) := by decide +kernel
theorem dX5_openMask_6 : decode cX5_openMask 6 = .ok (.if_icmp .ge 31, 3) := by decide +kernel
theorem dX5_openMask_9 : decode cX5_openMask 9 = .ok (.iload_n 1, 1) := by decide +kernel
theorem dX5_openMask_10 : decode cX5_openMask 10 = .ok (.aload_n 0, 1) := by decide +kernel
theorem dX5_openMask_11 : decode cX5_openMask 11 = .ok (.iload_n 2, 1) := by decide +kernel
theorem dX5_openMask_12 : decode cX5_openMask 12 = .ok (.aload_n 0, 1) := by decide +kernel
theorem dX5_openMask_13 : decode cX5_openMask 13 = .ok (.getfield 40, 3) := by decide +kernel
theorem dX5_openMask_16 : decode cX5_openMask 16 = .ok (.invokevirtual 44, 3) := by decide +kernel
theorem dX5_openMask_19 : decode cX5_openMask 19 = .ok (.ifCond .eq 9, 3) := by decide +kernel
theorem dX5_openMask_22 : decode cX5_openMask 22 = .ok (.iconst 1, 1) := by decide +kernel
theorem dX5_openMask_23 : decode cX5_openMask 23 = .ok (.iload_n 2, 1) := by decide +kernel
theorem dX5_openMask_24 : decode cX5_openMask 24 = .ok (.ishl, 1) := by decide +kernel
theorem dX5_openMask_25 : decode cX5_openMask 25 = .ok (.goto 4, 3) := by decide +kernel
theorem dX5_openMask_28 : decode cX5_openMask 28 = .ok (.iconst 0, 1) := by decide +kernel
theorem dX5_openMask_29 : decode cX5_openMask 29 = .ok (.ior, 1) := by decide +kernel
theorem dX5_openMask_30 : decode cX5_openMask 30 = .ok (.istore_n 1, 1) := by decide +kernel
theorem dX5_openMask_31 : decode cX5_openMask 31 = .ok (.iinc 2 1, 3) := by decide +kernel
theorem dX5_openMask_34 : decode cX5_openMask 34 = .ok (.goto (-30), 3) := by decide +kernel
theorem dX5_openMask_37 : decode cX5_openMask 37 = .ok (.iload_n 1, 1) := by decide +kernel
theorem dX5_openMask_38 : decode cX5_openMask 38 = .ok (.ireturn, 1) := by decide +kernel
set_option maxRecDepth 20000 in
theorem ggX5_stepsUntilOpen_X5_isOpenAt : GoodIn wsX5_stepsUntilOpen wsX5_isOpenAt := goodIn_r _ [6, 7, 8, 9, 10, 11, 12, 13, 14, 15, 16, 17, 18, 19, 20, 21, 22, 23, 24, 25, 26, 27, 28, 29, 30, 31, 32, 33, 34, 35, 36, 37, 38, 39, 40, 41, 42, 43, 44, 45, 46, 47, 48, 49, 50, 51, 52, 53, 54, 55, 56, 57, 58, 59, 60, 61, 62, 63, 64, 65, 66, 67, 68, 69] (by decide +kernel) (by decide +kernel)
set_option maxRecDepth 20000 in
theorem gX5_stepsUntilOpen_X5_isOpenAt : GoodIn wsX5_stepsUntilOpen (wsV RX5 44 RX5 yX5_isOpenAt wsX5_isOpenAt) := goodIn_app (goodIn_of _ (by decide +kernel)) ggX5_stepsUntilOpen_X5_isOpenAt
theorem dX5_stepsUntilOpen_0 : decode cX5_stepsUntilOpen 0 = .ok (.iconst 0, 1) := by decide +kernel
theorem dX5_stepsUntilOpen_1 : decode cX5_stepsUntilOpen 1 = .ok (.istore_n 2, 1) := by decide +kernel
theorem dX5_stepsUntilOpen_2 : decode cX5_stepsUntilOpen 2 = .ok (.iload_n 2, 1) := by decide +kernel
theorem dX5_stepsUntilOpen_3 : decode cX5_stepsUntilOpen 3 = .ok (.sipush 4000, 3) := by decide +kernel
theorem dX5_stepsUntilOpen_6 : decode cX5_stepsUntilOpen 6 = .ok (.if_icmp .ge 25, 3) := by decide +kernel
theorem dX5_stepsUntilOpen_9 : decode cX5_stepsUntilOpen 9 = .ok (.aload_n 0, 1) := by decide +kernel
theorem dX5_stepsUntilOpen_10 : decode cX5_stepsUntilOpen 10 = .ok (.iload_n 1, 1) := by decide +kernel
theorem dX5_stepsUntilOpen_11 : decode cX5_stepsUntilOpen 11 = .ok (.aload_n 0, 1) := by decide +kernel
theorem dX5_stepsUntilOpen_12 : decode cX5_stepsUntilOpen 12 = .ok (.getfield 40, 3) := by decide +kernel
theorem dX5_stepsUntilOpen_15 : decode cX5_stepsUntilOpen 15 = .ok (.iload_n 2, 1) := by decide +kernel
theorem dX5_stepsUntilOpen_16 : decode cX5_stepsUntilOpen 16 = .ok (.iadd, 1) := by decide +kernel
theorem dX5_stepsUntilOpen_17 : decode cX5_stepsUntilOpen 17 = .ok (.invokevirtual 44, 3) := by decide +kernel
theorem dX5_stepsUntilOpen_20 : decode cX5_stepsUntilOpen 20 = .ok (.ifCond .eq 5, 3) := by decide +kernel
theorem dX5_stepsUntilOpen_23 : decode cX5_stepsUntilOpen 23 = .ok (.iload_n 2, 1) := by decide +kernel
theorem dX5_stepsUntilOpen_24 : decode cX5_stepsUntilOpen 24 = .ok (.ireturn, 1) := by decide +kernel
theorem dX5_stepsUntilOpen_25 : decode cX5_stepsUntilOpen 25 = .ok (.iinc 2 1, 3) := by decide +kernel
theorem dX5_stepsUntilOpen_28 : decode cX5_stepsUntilOpen 28 = .ok (.goto (-26), 3) := by decide +kernel
theorem dX5_stepsUntilOpen_31 : decode cX5_stepsUntilOpen 31 = .ok (.sipush (-1006), 3) := by decide +kernel
theorem dX5_stepsUntilOpen_34 : decode cX5_stepsUntilOpen 34 = .ok (.ireturn, 1) := by decide +kernel
set_option maxRecDepth 20000 in
theorem ggX5_openStepsFrom_X5_isOpenAt : GoodIn wsX5_openStepsFrom wsX5_isOpenAt := goodIn_r _ [5, 6, 7, 8, 9, 10, 11, 12, 13, 14, 15, 16, 17, 18, 19, 20, 21, 22, 23, 24, 25, 26, 27, 28, 29, 30, 31, 32, 33, 34, 35, 36, 37, 38, 39, 40, 41, 42, 43, 44, 45, 46, 47, 48, 49, 50, 51, 52, 53, 54, 55, 56, 57, 58, 59, 60, 61, 62, 63, 64, 65, 66, 67, 68] (by decide +kernel) (by decide +kernel)
set_option maxRecDepth 20000 in
theorem gX5_openStepsFrom_X5_isOpenAt : GoodIn wsX5_openStepsFrom (wsV RX5 44 RX5 yX5_isOpenAt wsX5_isOpenAt) := goodIn_app (goodIn_of _ (by decide +kernel)) ggX5_openStepsFrom_X5_isOpenAt
theorem dX5_openStepsFrom_0 : decode cX5_openStepsFrom 0 = .ok (.iconst 0, 1) := by decide +kernel
theorem dX5_openStepsFrom_1 : decode cX5_openStepsFrom 1 = .ok (.istore_n 3, 1) := by decide +kernel
theorem dX5_openStepsFrom_2 : decode cX5_openStepsFrom 2 = .ok (.iload_n 3, 1) := by decide +kernel
theorem dX5_openStepsFrom_3 : decode cX5_openStepsFrom 3 = .ok (.sipush 4000, 3) := by decide +kernel
theorem dX5_openStepsFrom_6 : decode cX5_openStepsFrom 6 = .ok (.if_icmp .ge 20, 3) := by decide +kernel
theorem dX5_openStepsFrom_9 : decode cX5_openStepsFrom 9 = .ok (.aload_n 0, 1) := by decide +kernel
theorem dX5_openStepsFrom_10 : decode cX5_openStepsFrom 10 = .ok (.iload_n 1, 1) := by decide +kernel
theorem dX5_openStepsFrom_11 : decode cX5_openStepsFrom 11 = .ok (.iload_n 2, 1) := by decide +kernel
theorem dX5_openStepsFrom_12 : decode cX5_openStepsFrom 12 = .ok (.iload_n 3, 1) := by decide +kernel
theorem dX5_openStepsFrom_13 : decode cX5_openStepsFrom 13 = .ok (.iadd, 1) := by decide +kernel
theorem dX5_openStepsFrom_14 : decode cX5_openStepsFrom 14 = .ok (.invokevirtual 44, 3) := by decide +kernel
theorem dX5_openStepsFrom_17 : decode cX5_openStepsFrom 17 = .ok (.ifCond .eq 9, 3) := by decide +kernel
theorem dX5_openStepsFrom_20 : decode cX5_openStepsFrom 20 = .ok (.iinc 3 1, 3) := by decide +kernel
theorem dX5_openStepsFrom_23 : decode cX5_openStepsFrom 23 = .ok (.goto (-21), 3) := by decide +kernel
theorem dX5_openStepsFrom_26 : decode cX5_openStepsFrom 26 = .ok (.iload_n 3, 1) := by decide +kernel
theorem dX5_openStepsFrom_27 : decode cX5_openStepsFrom 27 = .ok (.ireturn, 1) := by decide +kernel
set_option maxRecDepth 20000 in
theorem ggX5_whereIs_X1_gateWith : GoodIn wsX5_whereIs wsX1_gateWith := goodIn_r _ [7, 8, 9, 10, 11, 12, 13, 14, 33, 34, 35, 36, 37, 38, 39, 40, 41] (by decide +kernel) (by decide +kernel)
set_option maxRecDepth 20000 in
theorem gX5_whereIs_X1_gateWith : GoodIn wsX5_whereIs (wsV RX5 47 RX1 yX1_gateWith wsX1_gateWith) := goodIn_app (goodIn_of _ (by decide +kernel)) ggX5_whereIs_X1_gateWith
set_option maxRecDepth 20000 in
theorem ggX5_whereIs_X4_placeIn : GoodIn wsX5_whereIs wsX4_placeIn := goodIn_r _ [19, 20, 21, 10, 11, 12, 13, 14, 22, 23, 24, 18, 25, 26, 42, 43, 44, 45, 46, 47, 48, 49, 41] (by decide +kernel) (by decide +kernel)
set_option maxRecDepth 20000 in
theorem gX5_whereIs_X4_placeIn : GoodIn wsX5_whereIs (wsV RX5 50 RX4 yX4_placeIn wsX4_placeIn) := goodIn_app (goodIn_of _ (by decide +kernel)) ggX5_whereIs_X4_placeIn
theorem dX5_whereIs_0 : decode cX5_whereIs 0 = .ok (.aload_n 0, 1) := by decide +kernel
theorem dX5_whereIs_1 : decode cX5_whereIs 1 = .ok (.getfield 21, 3) := by decide +kernel
theorem dX5_whereIs_4 : decode cX5_whereIs 4 = .ok (.iload_n 1, 1) := by decide +kernel
theorem dX5_whereIs_5 : decode cX5_whereIs 5 = .ok (.invokevirtual 47, 3) := by decide +kernel
theorem dX5_whereIs_8 : decode cX5_whereIs 8 = .ok (.istore_n 2, 1) := by decide +kernel
theorem dX5_whereIs_9 : decode cX5_whereIs 9 = .ok (.iload_n 2, 1) := by decide +kernel
theorem dX5_whereIs_10 : decode cX5_whereIs 10 = .ok (.sipush (-1006), 3) := by decide +kernel
theorem dX5_whereIs_13 : decode cX5_whereIs 13 = .ok (.if_icmp .eq 7, 3) := by decide +kernel
theorem dX5_whereIs_16 : decode cX5_whereIs 16 = .ok (.iconst 2, 1) := by decide +kernel
theorem dX5_whereIs_17 : decode cX5_whereIs 17 = .ok (.iload_n 2, 1) := by decide +kernel
theorem dX5_whereIs_18 : decode cX5_whereIs 18 = .ok (.iadd, 1) := by decide +kernel
theorem dX5_whereIs_19 : decode cX5_whereIs 19 = .ok (.ireturn, 1) := by decide +kernel
theorem dX5_whereIs_20 : decode cX5_whereIs 20 = .ok (.aload_n 0, 1) := by decide +kernel
theorem dX5_whereIs_21 : decode cX5_whereIs 21 = .ok (.getfield 28, 3) := by decide +kernel
theorem dX5_whereIs_24 : decode cX5_whereIs 24 = .ok (.iconst 0, 1) := by decide +kernel
theorem dX5_whereIs_25 : decode cX5_whereIs 25 = .ok (.iload_n 1, 1) := by decide +kernel
theorem dX5_whereIs_26 : decode cX5_whereIs 26 = .ok (.invokevirtual 50, 3) := by decide +kernel
theorem dX5_whereIs_29 : decode cX5_whereIs 29 = .ok (.sipush (-1006), 3) := by decide +kernel
theorem dX5_whereIs_32 : decode cX5_whereIs 32 = .ok (.if_icmp .eq 7, 3) := by decide +kernel
theorem dX5_whereIs_35 : decode cX5_whereIs 35 = .ok (.iconst 0, 1) := by decide +kernel
theorem dX5_whereIs_36 : decode cX5_whereIs 36 = .ok (.goto 4, 3) := by decide +kernel
theorem dX5_whereIs_39 : decode cX5_whereIs 39 = .ok (.iconst 1, 1) := by decide +kernel
theorem dX5_whereIs_40 : decode cX5_whereIs 40 = .ok (.ireturn, 1) := by decide +kernel
set_option maxRecDepth 20000 in
theorem ggX5_makeSteps_X3_gapAt : GoodIn wsX5_makeSteps wsX3_gapAt := goodIn_r _ [7, 8, 9, 10, 6, 11, 12, 13, 14, 15, 16, 17, 18, 19, 20, 21, 22, 23, 24, 25, 26, 27, 28, 29, 135, 136, 137, 138, 139] (by decide +kernel) (by decide +kernel)
set_option maxRecDepth 20000 in
theorem gX5_makeSteps_X3_gapAt : GoodIn wsX5_makeSteps (wsV RX5 32 RX3 yX3_gapAt wsX3_gapAt) := goodIn_app (goodIn_of _ (by decide +kernel)) ggX5_makeSteps_X3_gapAt
set_option maxRecDepth 20000 in
theorem ggX5_makeSteps_X5_stepAcross : GoodIn wsX5_makeSteps wsX5_stepAcross := goodIn_r _ [34, 35, 36, 2, 37, 38, 39, 40, 41, 42, 43, 22, 44, 45, 46, 47, 48, 49, 50, 51, 25, 26, 27, 28, 29, 52, 53, 54, 33, 55, 56, 57, 58, 59, 60, 61, 62, 63, 64, 65, 66, 67, 68, 69, 70, 71, 72, 73, 74, 75, 76, 77, 78, 79, 80, 81, 82, 83, 84, 85, 86, 87, 88, 89, 90, 91, 92, 93, 94, 95, 96, 97, 98, 99, 100, 101, 102, 103, 104, 105, 106, 107, 108, 109, 110, 111, 112, 113, 114, 115, 116, 117, 118, 119, 120, 121, 122, 123, 124, 125, 126, 127, 128, 129, 130, 131, 132, 133, 134, 140, 141, 142, 143, 144, 145, 146, 147, 139, 148, 149, 150, 151, 152, 153, 154, 155] (by decide +kernel) (by decide +kernel)
set_option maxRecDepth 20000 in
theorem gX5_makeSteps_X5_stepAcross : GoodIn wsX5_makeSteps (wsV RX5 54 RX5 yX5_stepAcross wsX5_stepAcross) := goodIn_app (goodIn_of _ (by decide +kernel)) ggX5_makeSteps_X5_stepAcross
theorem dX5_makeSteps_0 : decode cX5_makeSteps 0 = .ok (.iconst 0, 1) := by decide +kernel
theorem dX5_makeSteps_1 : decode cX5_makeSteps 1 = .ok (.istore_n 2, 1) := by decide +kernel
theorem dX5_makeSteps_2 : decode cX5_makeSteps 2 = .ok (.iload_n 2, 1) := by decide +kernel
theorem dX5_makeSteps_3 : decode cX5_makeSteps 3 = .ok (.iload_n 1, 1) := by decide +kernel
theorem dX5_makeSteps_4 : decode cX5_makeSteps 4 = .ok (.if_icmp .ge 24, 3) := by decide +kernel
theorem dX5_makeSteps_7 : decode cX5_makeSteps 7 = .ok (.aload_n 0, 1) := by decide +kernel
theorem dX5_makeSteps_8 : decode cX5_makeSteps 8 = .ok (.aload_n 0, 1) := by decide +kernel
theorem dX5_makeSteps_9 : decode cX5_makeSteps 9 = .ok (.getfield 12, 3) := by decide +kernel
theorem dX5_makeSteps_12 : decode cX5_makeSteps 12 = .ok (.aload_n 0, 1) := by decide +kernel
theorem dX5_makeSteps_13 : decode cX5_makeSteps 13 = .ok (.getfield 40, 3) := by decide +kernel
theorem dX5_makeSteps_16 : decode cX5_makeSteps 16 = .ok (.invokevirtual 32, 3) := by decide +kernel
theorem dX5_makeSteps_19 : decode cX5_makeSteps 19 = .ok (.invokevirtual 54, 3) := by decide +kernel
theorem dX5_makeSteps_22 : decode cX5_makeSteps 22 = .ok (.iinc 2 1, 3) := by decide +kernel
theorem dX5_makeSteps_25 : decode cX5_makeSteps 25 = .ok (.goto (-23), 3) := by decide +kernel
theorem dX5_makeSteps_28 : decode cX5_makeSteps 28 = .ok (.return_, 1) := by decide +kernel
set_option maxRecDepth 20000 in
theorem ggX5_stepAcross_X1_isOpenAcross : GoodIn wsX5_stepAcross wsX1_isOpenAcross := goodIn_r _ [8, 9, 10, 11, 12, 13, 14, 15, 16, 7, 17, 18, 19, 20, 21, 22, 23, 24, 109, 110, 111, 112, 113, 114, 115, 116, 117] (by decide +kernel) (by decide +kernel)
set_option maxRecDepth 20000 in
theorem gX5_stepAcross_X1_isOpenAcross : GoodIn wsX5_stepAcross (wsV RX5 36 RX1 yX1_isOpenAcross wsX1_isOpenAcross) := goodIn_app (goodIn_of _ (by decide +kernel)) ggX5_stepAcross_X1_isOpenAcross
set_option maxRecDepth 20000 in
theorem ggX5_stepAcross_X5_takeWord : GoodIn wsX5_stepAcross wsX5_takeWord := goodIn_r _ [29, 1, 30, 31, 32, 33, 34, 35, 7, 36, 37, 19, 20, 21, 22, 23, 24, 38, 39, 40, 41, 42, 43, 44, 45, 46, 47, 48, 49, 50, 51, 52, 53, 54, 55, 56, 57, 58, 59, 60, 61, 62, 63, 64, 103, 104, 105, 106, 107, 108, 109, 110, 111, 112, 113, 114, 115, 116, 117, 118, 119, 120, 121, 122, 123, 124, 125] (by decide +kernel) (by decide +kernel)
set_option maxRecDepth 20000 in
theorem gX5_stepAcross_X5_takeWord : GoodIn wsX5_stepAcross (wsV RX5 58 RX5 yX5_takeWord wsX5_takeWord) := goodIn_app (goodIn_of _ (by decide +kernel)) ggX5_stepAcross_X5_takeWord
set_option maxRecDepth 20000 in
theorem ggX5_stepAcross_X5_passLetter : GoodIn wsX5_stepAcross wsX5_passLetter := goodIn_r _ [68, 1, 30, 69, 70, 31, 71, 72, 3, 32, 38, 20, 21, 22, 23, 24, 73, 74, 75, 76, 77, 78, 79, 7, 80, 37, 81, 82, 61, 62, 63, 83, 84, 85, 42, 86, 55, 87, 60, 88, 89, 90, 91, 44, 50, 45, 103, 104, 105, 106, 107, 108, 109, 110, 111, 112, 113, 114, 115, 116, 118, 119, 120, 121, 122, 123, 124, 125, 117] (by decide +kernel) (by decide +kernel)
set_option maxRecDepth 20000 in
theorem gX5_stepAcross_X5_passLetter : GoodIn wsX5_stepAcross (wsV RX5 61 RX5 yX5_passLetter wsX5_passLetter) := goodIn_app (goodIn_of _ (by decide +kernel)) ggX5_stepAcross_X5_passLetter
set_option maxRecDepth 20000 in
theorem ggX5_stepAcross_X5_sendBack : GoodIn wsX5_stepAcross wsX5_sendBack := goodIn_r _ [95, 1, 30, 96, 97, 70, 31, 98, 32, 38, 20, 21, 22, 23, 24, 73, 74, 75, 76, 77, 78, 79, 7, 80, 37, 81, 82, 61, 62, 63, 99, 100, 101, 42, 102, 44, 50, 45, 60, 103, 104, 105, 106, 107, 108, 109, 110, 111, 112, 113, 114, 115, 116, 118, 119, 120, 121, 122, 123, 124, 125, 117] (by decide +kernel) (by decide +kernel)
set_option maxRecDepth 20000 in
theorem gX5_stepAcross_X5_sendBack : GoodIn wsX5_stepAcross (wsV RX5 64 RX5 yX5_sendBack wsX5_sendBack) := goodIn_app (goodIn_of _ (by decide +kernel)) ggX5_stepAcross_X5_sendBack
theorem dX5_stepAcross_0 : decode cX5_stepAcross 0 = .ok (.iconst 1, 1) := by decide +kernel
theorem dX5_stepAcross_1 : decode cX5_stepAcross 1 = .ok (.istore_n 2, 1) := by decide +kernel
theorem dX5_stepAcross_2 : decode cX5_stepAcross 2 = .ok (.iconst 0, 1) := by decide +kernel
theorem dX5_stepAcross_3 : decode cX5_stepAcross 3 = .ok (.istore_n 3, 1) := by decide +kernel
theorem dX5_stepAcross_4 : decode cX5_stepAcross 4 = .ok (.iload_n 3, 1) := by decide +kernel
theorem dX5_stepAcross_5 : decode cX5_stepAcross 5 = .ok (.iconst 4, 1) := by decide +kernel
theorem dX5_stepAcross_6 : decode cX5_stepAcross 6 = .ok (.if_icmp .ge 41, 3) := by decide +kernel
theorem dX5_stepAcross_9 : decode cX5_stepAcross 9 = .ok (.aload_n 0, 1) := by decide +kernel
theorem dX5_stepAcross_10 : decode cX5_stepAcross 10 = .ok (.getfield 21, 3) := by decide +kernel
theorem dX5_stepAcross_13 : decode cX5_stepAcross 13 = .ok (.iload_n 3, 1) := by decide +kernel
theorem dX5_stepAcross_14 : decode cX5_stepAcross 14 = .ok (.iload_n 1, 1) := by decide +kernel
theorem dX5_stepAcross_15 : decode cX5_stepAcross 15 = .ok (.invokevirtual 36, 3) := by decide +kernel
theorem dX5_stepAcross_18 : decode cX5_stepAcross 18 = .ok (.ifCond .eq 18, 3) := by decide +kernel
theorem dX5_stepAcross_21 : decode cX5_stepAcross 21 = .ok (.iconst 0, 1) := by decide +kernel
theorem dX5_stepAcross_22 : decode cX5_stepAcross 22 = .ok (.istore_n 2, 1) := by decide +kernel
theorem dX5_stepAcross_23 : decode cX5_stepAcross 23 = .ok (.aload_n 0, 1) := by decide +kernel
theorem dX5_stepAcross_24 : decode cX5_stepAcross 24 = .ok (.iload_n 3, 1) := by decide +kernel
theorem dX5_stepAcross_25 : decode cX5_stepAcross 25 = .ok (.invokevirtual 58, 3) := by decide +kernel
theorem dX5_stepAcross_28 : decode cX5_stepAcross 28 = .ok (.aload_n 0, 1) := by decide +kernel
theorem dX5_stepAcross_29 : decode cX5_stepAcross 29 = .ok (.iload_n 3, 1) := by decide +kernel
theorem dX5_stepAcross_30 : decode cX5_stepAcross 30 = .ok (.invokevirtual 61, 3) := by decide +kernel
theorem dX5_stepAcross_33 : decode cX5_stepAcross 33 = .ok (.goto 8, 3) := by decide +kernel
theorem dX5_stepAcross_36 : decode cX5_stepAcross 36 = .ok (.aload_n 0, 1) := by decide +kernel
theorem dX5_stepAcross_37 : decode cX5_stepAcross 37 = .ok (.iload_n 3, 1) := by decide +kernel
theorem dX5_stepAcross_38 : decode cX5_stepAcross 38 = .ok (.invokevirtual 64, 3) := by decide +kernel
theorem dX5_stepAcross_41 : decode cX5_stepAcross 41 = .ok (.iinc 3 1, 3) := by decide +kernel
theorem dX5_stepAcross_44 : decode cX5_stepAcross 44 = .ok (.goto (-40), 3) := by decide +kernel
theorem dX5_stepAcross_47 : decode cX5_stepAcross 47 = .ok (.aload_n 0, 1) := by decide +kernel
theorem dX5_stepAcross_48 : decode cX5_stepAcross 48 = .ok (.dup, 1) := by decide +kernel
theorem dX5_stepAcross_49 : decode cX5_stepAcross 49 = .ok (.getfield 67, 3) := by decide +kernel
theorem dX5_stepAcross_52 : decode cX5_stepAcross 52 = .ok (.iload_n 2, 1) := by decide +kernel
theorem dX5_stepAcross_53 : decode cX5_stepAcross 53 = .ok (.ifCond .eq 7, 3) := by decide +kernel
theorem dX5_stepAcross_56 : decode cX5_stepAcross 56 = .ok (.iconst 1, 1) := by decide +kernel
theorem dX5_stepAcross_57 : decode cX5_stepAcross 57 = .ok (.goto 4, 3) := by decide +kernel
theorem dX5_stepAcross_60 : decode cX5_stepAcross 60 = .ok (.iconst 0, 1) := by decide +kernel
theorem dX5_stepAcross_61 : decode cX5_stepAcross 61 = .ok (.iadd, 1) := by decide +kernel
theorem dX5_stepAcross_62 : decode cX5_stepAcross 62 = .ok (.putfield 67, 3) := by decide +kernel
theorem dX5_stepAcross_65 : decode cX5_stepAcross 65 = .ok (.aload_n 0, 1) := by decide +kernel
theorem dX5_stepAcross_66 : decode cX5_stepAcross 66 = .ok (.dup, 1) := by decide +kernel
theorem dX5_stepAcross_67 : decode cX5_stepAcross 67 = .ok (.getfield 40, 3) := by decide +kernel
theorem dX5_stepAcross_70 : decode cX5_stepAcross 70 = .ok (.iconst 1, 1) := by decide +kernel
theorem dX5_stepAcross_71 : decode cX5_stepAcross 71 = .ok (.iadd, 1) := by decide +kernel
theorem dX5_stepAcross_72 : decode cX5_stepAcross 72 = .ok (.putfield 40, 3) := by decide +kernel
theorem dX5_stepAcross_75 : decode cX5_stepAcross 75 = .ok (.return_, 1) := by decide +kernel
set_option maxRecDepth 20000 in
theorem ggX5_takeWord_X1_hasWord : GoodIn wsX5_takeWord wsX1_hasWord := goodIn_r _ [9, 10, 11, 12, 13, 14, 15, 16, 50, 51, 52, 53, 54, 55, 56, 57, 58] (by decide +kernel) (by decide +kernel)
set_option maxRecDepth 20000 in
theorem gX5_takeWord_X1_hasWord : GoodIn wsX5_takeWord (wsV RX5 70 RX1 yX1_hasWord wsX1_hasWord) := goodIn_app (goodIn_of _ (by decide +kernel)) ggX5_takeWord_X1_hasWord
set_option maxRecDepth 20000 in
theorem ggX5_takeWord_X0_get : GoodIn wsX5_takeWord wsX0_get := goodIn_r _ [15, 16, 58] (by decide +kernel) (by decide +kernel)
set_option maxRecDepth 20000 in
theorem gX5_takeWord_X0_get : GoodIn wsX5_takeWord (wsV RX5 81 RX0 yX0_get wsX0_get) := goodIn_app (goodIn_of _ (by decide +kernel)) ggX5_takeWord_X0_get
set_option maxRecDepth 20000 in
theorem ggX5_takeWord_X4_takeWaiting : GoodIn wsX5_takeWord wsX4_takeWaiting := goodIn_r _ [22, 23, 24, 12, 13, 14, 15, 16, 25, 26, 27, 21, 28, 29, 30, 31, 32, 33, 34, 35, 36, 37, 38, 39, 40, 41, 42, 59, 60, 61, 62, 63, 64, 65, 66, 58] (by decide +kernel) (by decide +kernel)
set_option maxRecDepth 20000 in
theorem gX5_takeWord_X4_takeWaiting : GoodIn wsX5_takeWord (wsV RX5 86 RX4 yX4_takeWaiting wsX4_takeWaiting) := goodIn_app (goodIn_of _ (by decide +kernel)) ggX5_takeWord_X4_takeWaiting
set_option maxRecDepth 20000 in
theorem ggX5_takeWord_X0_set : GoodIn wsX5_takeWord wsX0_set := goodIn_r _ [42, 16, 58] (by decide +kernel) (by decide +kernel)
set_option maxRecDepth 20000 in
theorem gX5_takeWord_X0_set : GoodIn wsX5_takeWord (wsV RX5 89 RX0 yX0_set wsX0_set) := goodIn_app (goodIn_of _ (by decide +kernel)) ggX5_takeWord_X0_set
theorem dX5_takeWord_0 : decode cX5_takeWord 0 = .ok (.aload_n 0, 1) := by decide +kernel
theorem dX5_takeWord_1 : decode cX5_takeWord 1 = .ok (.getfield 21, 3) := by decide +kernel
theorem dX5_takeWord_4 : decode cX5_takeWord 4 = .ok (.iload_n 1, 1) := by decide +kernel
theorem dX5_takeWord_5 : decode cX5_takeWord 5 = .ok (.invokevirtual 70, 3) := by decide +kernel
theorem dX5_takeWord_8 : decode cX5_takeWord 8 = .ok (.ifCond .ne 32, 3) := by decide +kernel
theorem dX5_takeWord_11 : decode cX5_takeWord 11 = .ok (.aload_n 0, 1) := by decide +kernel
theorem dX5_takeWord_12 : decode cX5_takeWord 12 = .ok (.getfield 21, 3) := by decide +kernel
theorem dX5_takeWord_15 : decode cX5_takeWord 15 = .ok (.getfield 74, 3) := by decide +kernel
theorem dX5_takeWord_18 : decode cX5_takeWord 18 = .ok (.iload_n 1, 1) := by decide +kernel
theorem dX5_takeWord_19 : decode cX5_takeWord 19 = .ok (.aload_n 0, 1) := by decide +kernel
theorem dX5_takeWord_20 : decode cX5_takeWord 20 = .ok (.getfield 28, 3) := by decide +kernel
theorem dX5_takeWord_23 : decode cX5_takeWord 23 = .ok (.aload_n 0, 1) := by decide +kernel
theorem dX5_takeWord_24 : decode cX5_takeWord 24 = .ok (.getfield 21, 3) := by decide +kernel
theorem dX5_takeWord_27 : decode cX5_takeWord 27 = .ok (.getfield 78, 3) := by decide +kernel
theorem dX5_takeWord_30 : decode cX5_takeWord 30 = .ok (.iload_n 1, 1) := by decide +kernel
theorem dX5_takeWord_31 : decode cX5_takeWord 31 = .ok (.invokevirtual 81, 3) := by decide +kernel
theorem dX5_takeWord_34 : decode cX5_takeWord 34 = .ok (.invokevirtual 86, 3) := by decide +kernel
theorem dX5_takeWord_37 : decode cX5_takeWord 37 = .ok (.invokevirtual 89, 3) := by decide +kernel
theorem dX5_takeWord_40 : decode cX5_takeWord 40 = .ok (.return_, 1) := by decide +kernel
set_option maxRecDepth 20000 in
theorem ggX5_passLetter_X0_get : GoodIn wsX5_passLetter wsX0_get := goodIn_r _ [14, 15, 68] (by decide +kernel) (by decide +kernel)
set_option maxRecDepth 20000 in
theorem gX5_passLetter_X0_get : GoodIn wsX5_passLetter (wsV RX5 81 RX0 yX0_get wsX0_get) := goodIn_app (goodIn_of _ (by decide +kernel)) ggX5_passLetter_X0_get
set_option maxRecDepth 20000 in
theorem ggX5_passLetter_X0_add : GoodIn wsX5_passLetter wsX0_add := goodIn_r _ [19, 15, 68] (by decide +kernel) (by decide +kernel)
set_option maxRecDepth 20000 in
theorem gX5_passLetter_X0_add : GoodIn wsX5_passLetter (wsV RX5 99 RX0 yX0_add wsX0_add) := goodIn_app (goodIn_of _ (by decide +kernel)) ggX5_passLetter_X0_add
set_option maxRecDepth 20000 in
theorem ggX5_passLetter_X1_release : GoodIn wsX5_passLetter wsX1_release := goodIn_r _ [24, 25, 26, 27, 28, 29, 13, 30, 15, 52, 53, 54, 55, 56, 57, 58, 59, 68] (by decide +kernel) (by decide +kernel)
set_option maxRecDepth 20000 in
theorem gX5_passLetter_X1_release : GoodIn wsX5_passLetter (wsV RX5 105 RX1 yX1_release wsX1_release) := goodIn_app (goodIn_of _ (by decide +kernel)) ggX5_passLetter_X1_release
set_option maxRecDepth 20000 in
theorem ggX5_passLetter_X4_markPassed : GoodIn wsX5_passLetter wsX4_markPassed := goodIn_r _ [35, 36, 37, 38, 28, 29, 13, 30, 15, 60, 61, 62, 63, 64, 65, 66, 67, 68] (by decide +kernel) (by decide +kernel)
set_option maxRecDepth 20000 in
theorem gX5_passLetter_X4_markPassed : GoodIn wsX5_passLetter (wsV RX5 111 RX4 yX4_markPassed wsX4_markPassed) := goodIn_app (goodIn_of _ (by decide +kernel)) ggX5_passLetter_X4_markPassed
set_option maxRecDepth 20000 in
theorem ggX5_passLetter_X4_addLast : GoodIn wsX5_passLetter wsX4_addLast := goodIn_r _ [42, 43, 44, 45, 11, 12, 13, 14, 15, 38, 28, 29, 30, 60, 61, 62, 63, 64, 65, 66, 67, 68] (by decide +kernel) (by decide +kernel)
set_option maxRecDepth 20000 in
theorem gX5_passLetter_X4_addLast : GoodIn wsX5_passLetter (wsV RX5 115 RX4 yX4_addLast wsX4_addLast) := goodIn_app (goodIn_of _ (by decide +kernel)) ggX5_passLetter_X4_addLast
theorem dX5_passLetter_0 : decode cX5_passLetter 0 = .ok (.aload_n 0, 1) := by decide +kernel
theorem dX5_passLetter_1 : decode cX5_passLetter 1 = .ok (.getfield 21, 3) := by decide +kernel
theorem dX5_passLetter_4 : decode cX5_passLetter 4 = .ok (.getfield 74, 3) := by decide +kernel
theorem dX5_passLetter_7 : decode cX5_passLetter 7 = .ok (.iload_n 1, 1) := by decide +kernel
theorem dX5_passLetter_8 : decode cX5_passLetter 8 = .ok (.invokevirtual 81, 3) := by decide +kernel
theorem dX5_passLetter_11 : decode cX5_passLetter 11 = .ok (.istore_n 2, 1) := by decide +kernel
theorem dX5_passLetter_12 : decode cX5_passLetter 12 = .ok (.iload_n 2, 1) := by decide +kernel
theorem dX5_passLetter_13 : decode cX5_passLetter 13 = .ok (.sipush (-1006), 3) := by decide +kernel
theorem dX5_passLetter_16 : decode cX5_passLetter 16 = .ok (.if_icmp .ne 4, 3) := by decide +kernel
theorem dX5_passLetter_19 : decode cX5_passLetter 19 = .ok (.return_, 1) := by decide +kernel
theorem dX5_passLetter_20 : decode cX5_passLetter 20 = .ok (.aload_n 0, 1) := by decide +kernel
theorem dX5_passLetter_21 : decode cX5_passLetter 21 = .ok (.dup, 1) := by decide +kernel
theorem dX5_passLetter_22 : decode cX5_passLetter 22 = .ok (.getfield 93, 3) := by decide +kernel
theorem dX5_passLetter_25 : decode cX5_passLetter 25 = .ok (.iconst 1, 1) := by decide +kernel
theorem dX5_passLetter_26 : decode cX5_passLetter 26 = .ok (.iadd, 1) := by decide +kernel
theorem dX5_passLetter_27 : decode cX5_passLetter 27 = .ok (.putfield 93, 3) := by decide +kernel
theorem dX5_passLetter_30 : decode cX5_passLetter 30 = .ok (.aload_n 0, 1) := by decide +kernel
theorem dX5_passLetter_31 : decode cX5_passLetter 31 = .ok (.getfield 21, 3) := by decide +kernel
theorem dX5_passLetter_34 : decode cX5_passLetter 34 = .ok (.getfield 96, 3) := by decide +kernel
theorem dX5_passLetter_37 : decode cX5_passLetter 37 = .ok (.iload_n 1, 1) := by decide +kernel
theorem dX5_passLetter_38 : decode cX5_passLetter 38 = .ok (.iconst 1, 1) := by decide +kernel
theorem dX5_passLetter_39 : decode cX5_passLetter 39 = .ok (.invokevirtual 99, 3) := by decide +kernel
theorem dX5_passLetter_42 : decode cX5_passLetter 42 = .ok (.aload_n 0, 1) := by decide +kernel
theorem dX5_passLetter_43 : decode cX5_passLetter 43 = .ok (.getfield 21, 3) := by decide +kernel
theorem dX5_passLetter_46 : decode cX5_passLetter 46 = .ok (.getfield 96, 3) := by decide +kernel
theorem dX5_passLetter_49 : decode cX5_passLetter 49 = .ok (.iload_n 1, 1) := by decide +kernel
theorem dX5_passLetter_50 : decode cX5_passLetter 50 = .ok (.invokevirtual 81, 3) := by decide +kernel
theorem dX5_passLetter_53 : decode cX5_passLetter 53 = .ok (.aload_n 0, 1) := by decide +kernel
theorem dX5_passLetter_54 : decode cX5_passLetter 54 = .ok (.getfield 28, 3) := by decide +kernel
theorem dX5_passLetter_57 : decode cX5_passLetter 57 = .ok (.getfield 102, 3) := by decide +kernel
theorem dX5_passLetter_60 : decode cX5_passLetter 60 = .ok (.iload_n 2, 1) := by decide +kernel
theorem dX5_passLetter_61 : decode cX5_passLetter 61 = .ok (.invokevirtual 81, 3) := by decide +kernel
theorem dX5_passLetter_64 : decode cX5_passLetter 64 = .ok (.if_icmp .ge 4, 3) := by decide +kernel
theorem dX5_passLetter_67 : decode cX5_passLetter 67 = .ok (.return_, 1) := by decide +kernel
theorem dX5_passLetter_68 : decode cX5_passLetter 68 = .ok (.aload_n 0, 1) := by decide +kernel
theorem dX5_passLetter_69 : decode cX5_passLetter 69 = .ok (.getfield 21, 3) := by decide +kernel
theorem dX5_passLetter_72 : decode cX5_passLetter 72 = .ok (.iload_n 1, 1) := by decide +kernel
theorem dX5_passLetter_73 : decode cX5_passLetter 73 = .ok (.invokevirtual 105, 3) := by decide +kernel
theorem dX5_passLetter_76 : decode cX5_passLetter 76 = .ok (.aload_n 0, 1) := by decide +kernel
theorem dX5_passLetter_77 : decode cX5_passLetter 77 = .ok (.getfield 21, 3) := by decide +kernel
theorem dX5_passLetter_80 : decode cX5_passLetter 80 = .ok (.getfield 108, 3) := by decide +kernel
theorem dX5_passLetter_83 : decode cX5_passLetter 83 = .ok (.iload_n 1, 1) := by decide +kernel
theorem dX5_passLetter_84 : decode cX5_passLetter 84 = .ok (.iconst 1, 1) := by decide +kernel
theorem dX5_passLetter_85 : decode cX5_passLetter 85 = .ok (.invokevirtual 99, 3) := by decide +kernel
theorem dX5_passLetter_88 : decode cX5_passLetter 88 = .ok (.aload_n 0, 1) := by decide +kernel
theorem dX5_passLetter_89 : decode cX5_passLetter 89 = .ok (.getfield 28, 3) := by decide +kernel
theorem dX5_passLetter_92 : decode cX5_passLetter 92 = .ok (.iload_n 2, 1) := by decide +kernel
theorem dX5_passLetter_93 : decode cX5_passLetter 93 = .ok (.aload_n 0, 1) := by decide +kernel
theorem dX5_passLetter_94 : decode cX5_passLetter 94 = .ok (.getfield 40, 3) := by decide +kernel
theorem dX5_passLetter_97 : decode cX5_passLetter 97 = .ok (.iload_n 1, 1) := by decide +kernel
theorem dX5_passLetter_98 : decode cX5_passLetter 98 = .ok (.invokevirtual 111, 3) := by decide +kernel
theorem dX5_passLetter_101 : decode cX5_passLetter 101 = .ok (.aload_n 0, 1) := by decide +kernel
theorem dX5_passLetter_102 : decode cX5_passLetter 102 = .ok (.getfield 28, 3) := by decide +kernel
theorem dX5_passLetter_105 : decode cX5_passLetter 105 = .ok (.iconst 1, 1) := by decide +kernel
theorem dX5_passLetter_106 : decode cX5_passLetter 106 = .ok (.aload_n 0, 1) := by decide +kernel
theorem dX5_passLetter_107 : decode cX5_passLetter 107 = .ok (.getfield 21, 3) := by decide +kernel
theorem dX5_passLetter_110 : decode cX5_passLetter 110 = .ok (.getfield 78, 3) := by decide +kernel
theorem dX5_passLetter_113 : decode cX5_passLetter 113 = .ok (.iload_n 1, 1) := by decide +kernel
theorem dX5_passLetter_114 : decode cX5_passLetter 114 = .ok (.invokevirtual 81, 3) := by decide +kernel
theorem dX5_passLetter_117 : decode cX5_passLetter 117 = .ok (.isub, 1) := by decide +kernel
theorem dX5_passLetter_118 : decode cX5_passLetter 118 = .ok (.iload_n 2, 1) := by decide +kernel
theorem dX5_passLetter_119 : decode cX5_passLetter 119 = .ok (.invokevirtual 115, 3) := by decide +kernel
theorem dX5_passLetter_122 : decode cX5_passLetter 122 = .ok (.return_, 1) := by decide +kernel
set_option maxRecDepth 20000 in
theorem ggX5_sendBack_X0_get : GoodIn wsX5_sendBack wsX0_get := goodIn_r _ [13, 14, 61] (by decide +kernel) (by decide +kernel)
set_option maxRecDepth 20000 in
theorem gX5_sendBack_X0_get : GoodIn wsX5_sendBack (wsV RX5 81 RX0 yX0_get wsX0_get) := goodIn_app (goodIn_of _ (by decide +kernel)) ggX5_sendBack_X0_get
set_option maxRecDepth 20000 in
theorem ggX5_sendBack_X0_add : GoodIn wsX5_sendBack wsX0_add := goodIn_r _ [18, 14, 61] (by decide +kernel) (by decide +kernel)
set_option maxRecDepth 20000 in
theorem gX5_sendBack_X0_add : GoodIn wsX5_sendBack (wsV RX5 99 RX0 yX0_add wsX0_add) := goodIn_app (goodIn_of _ (by decide +kernel)) ggX5_sendBack_X0_add
set_option maxRecDepth 20000 in
theorem ggX5_sendBack_X1_release : GoodIn wsX5_sendBack wsX1_release := goodIn_r _ [23, 24, 25, 26, 27, 28, 12, 29, 14, 45, 46, 47, 48, 49, 50, 51, 52, 61] (by decide +kernel) (by decide +kernel)
set_option maxRecDepth 20000 in
theorem gX5_sendBack_X1_release : GoodIn wsX5_sendBack (wsV RX5 105 RX1 yX1_release wsX1_release) := goodIn_app (goodIn_of _ (by decide +kernel)) ggX5_sendBack_X1_release
set_option maxRecDepth 20000 in
theorem ggX5_sendBack_X4_addFirst : GoodIn wsX5_sendBack wsX4_addFirst := goodIn_r _ [34, 35, 36, 37, 10, 11, 12, 13, 14, 38, 27, 28, 29, 53, 54, 55, 56, 57, 58, 59, 60, 61] (by decide +kernel) (by decide +kernel)
set_option maxRecDepth 20000 in
theorem gX5_sendBack_X4_addFirst : GoodIn wsX5_sendBack (wsV RX5 127 RX4 yX4_addFirst wsX4_addFirst) := goodIn_app (goodIn_of _ (by decide +kernel)) ggX5_sendBack_X4_addFirst
theorem dX5_sendBack_0 : decode cX5_sendBack 0 = .ok (.aload_n 0, 1) := by decide +kernel
theorem dX5_sendBack_1 : decode cX5_sendBack 1 = .ok (.getfield 21, 3) := by decide +kernel
theorem dX5_sendBack_4 : decode cX5_sendBack 4 = .ok (.getfield 74, 3) := by decide +kernel
theorem dX5_sendBack_7 : decode cX5_sendBack 7 = .ok (.iload_n 1, 1) := by decide +kernel
theorem dX5_sendBack_8 : decode cX5_sendBack 8 = .ok (.invokevirtual 81, 3) := by decide +kernel
theorem dX5_sendBack_11 : decode cX5_sendBack 11 = .ok (.istore_n 2, 1) := by decide +kernel
theorem dX5_sendBack_12 : decode cX5_sendBack 12 = .ok (.iload_n 2, 1) := by decide +kernel
theorem dX5_sendBack_13 : decode cX5_sendBack 13 = .ok (.sipush (-1006), 3) := by decide +kernel
theorem dX5_sendBack_16 : decode cX5_sendBack 16 = .ok (.if_icmp .eq 18, 3) := by decide +kernel
theorem dX5_sendBack_19 : decode cX5_sendBack 19 = .ok (.aload_n 0, 1) := by decide +kernel
theorem dX5_sendBack_20 : decode cX5_sendBack 20 = .ok (.getfield 21, 3) := by decide +kernel
theorem dX5_sendBack_23 : decode cX5_sendBack 23 = .ok (.getfield 118, 3) := by decide +kernel
theorem dX5_sendBack_26 : decode cX5_sendBack 26 = .ok (.iload_n 1, 1) := by decide +kernel
theorem dX5_sendBack_27 : decode cX5_sendBack 27 = .ok (.invokevirtual 81, 3) := by decide +kernel
theorem dX5_sendBack_30 : decode cX5_sendBack 30 = .ok (.iconst 1, 1) := by decide +kernel
theorem dX5_sendBack_31 : decode cX5_sendBack 31 = .ok (.if_icmp .ne 4, 3) := by decide +kernel
theorem dX5_sendBack_34 : decode cX5_sendBack 34 = .ok (.return_, 1) := by decide +kernel
theorem dX5_sendBack_35 : decode cX5_sendBack 35 = .ok (.aload_n 0, 1) := by decide +kernel
theorem dX5_sendBack_36 : decode cX5_sendBack 36 = .ok (.getfield 21, 3) := by decide +kernel
theorem dX5_sendBack_39 : decode cX5_sendBack 39 = .ok (.getfield 121, 3) := by decide +kernel
theorem dX5_sendBack_42 : decode cX5_sendBack 42 = .ok (.iload_n 1, 1) := by decide +kernel
theorem dX5_sendBack_43 : decode cX5_sendBack 43 = .ok (.aload_n 0, 1) := by decide +kernel
theorem dX5_sendBack_44 : decode cX5_sendBack 44 = .ok (.getfield 21, 3) := by decide +kernel
theorem dX5_sendBack_47 : decode cX5_sendBack 47 = .ok (.getfield 96, 3) := by decide +kernel
theorem dX5_sendBack_50 : decode cX5_sendBack 50 = .ok (.iload_n 1, 1) := by decide +kernel
theorem dX5_sendBack_51 : decode cX5_sendBack 51 = .ok (.invokevirtual 81, 3) := by decide +kernel
theorem dX5_sendBack_54 : decode cX5_sendBack 54 = .ok (.invokevirtual 99, 3) := by decide +kernel
theorem dX5_sendBack_57 : decode cX5_sendBack 57 = .ok (.aload_n 0, 1) := by decide +kernel
theorem dX5_sendBack_58 : decode cX5_sendBack 58 = .ok (.getfield 21, 3) := by decide +kernel
theorem dX5_sendBack_61 : decode cX5_sendBack 61 = .ok (.iload_n 1, 1) := by decide +kernel
theorem dX5_sendBack_62 : decode cX5_sendBack 62 = .ok (.invokevirtual 105, 3) := by decide +kernel
theorem dX5_sendBack_65 : decode cX5_sendBack 65 = .ok (.aload_n 0, 1) := by decide +kernel
theorem dX5_sendBack_66 : decode cX5_sendBack 66 = .ok (.getfield 28, 3) := by decide +kernel
theorem dX5_sendBack_69 : decode cX5_sendBack 69 = .ok (.getfield 124, 3) := by decide +kernel
theorem dX5_sendBack_72 : decode cX5_sendBack 72 = .ok (.iload_n 2, 1) := by decide +kernel
theorem dX5_sendBack_73 : decode cX5_sendBack 73 = .ok (.iconst 1, 1) := by decide +kernel
theorem dX5_sendBack_74 : decode cX5_sendBack 74 = .ok (.invokevirtual 99, 3) := by decide +kernel
theorem dX5_sendBack_77 : decode cX5_sendBack 77 = .ok (.aload_n 0, 1) := by decide +kernel
theorem dX5_sendBack_78 : decode cX5_sendBack 78 = .ok (.getfield 28, 3) := by decide +kernel
theorem dX5_sendBack_81 : decode cX5_sendBack 81 = .ok (.aload_n 0, 1) := by decide +kernel
theorem dX5_sendBack_82 : decode cX5_sendBack 82 = .ok (.getfield 21, 3) := by decide +kernel
theorem dX5_sendBack_85 : decode cX5_sendBack 85 = .ok (.getfield 78, 3) := by decide +kernel
theorem dX5_sendBack_88 : decode cX5_sendBack 88 = .ok (.iload_n 1, 1) := by decide +kernel
theorem dX5_sendBack_89 : decode cX5_sendBack 89 = .ok (.invokevirtual 81, 3) := by decide +kernel
theorem dX5_sendBack_92 : decode cX5_sendBack 92 = .ok (.iload_n 2, 1) := by decide +kernel
theorem dX5_sendBack_93 : decode cX5_sendBack 93 = .ok (.invokevirtual 127, 3) := by decide +kernel
theorem dX5_sendBack_96 : decode cX5_sendBack 96 = .ok (.return_, 1) := by decide +kernel
set_option maxRecDepth 20000 in
theorem ggX5_tally_X0_sum : GoodIn wsX5_tally wsX0_sum := goodIn_r _ [11, 12, 35] (by decide +kernel) (by decide +kernel)
set_option maxRecDepth 20000 in
theorem gX5_tally_X0_sum : GoodIn wsX5_tally (wsV RX5 130 RX0 yX0_sum wsX0_sum) := goodIn_app (goodIn_of _ (by decide +kernel)) ggX5_tally_X0_sum
theorem dX5_tally_0 : decode cX5_tally 0 = .ok (.iload_n 1, 1) := by decide +kernel
theorem dX5_tally_1 : decode cX5_tally 1 = .ok (.tableswitch 60 0 2 #[27, 38, 49], 27) := by decide +kernel
theorem dX5_tally_28 : decode cX5_tally 28 = .ok (.aload_n 0, 1) := by decide +kernel
theorem dX5_tally_29 : decode cX5_tally 29 = .ok (.getfield 21, 3) := by decide +kernel
theorem dX5_tally_32 : decode cX5_tally 32 = .ok (.getfield 108, 3) := by decide +kernel
theorem dX5_tally_35 : decode cX5_tally 35 = .ok (.invokevirtual 130, 3) := by decide +kernel
theorem dX5_tally_38 : decode cX5_tally 38 = .ok (.ireturn, 1) := by decide +kernel
theorem dX5_tally_39 : decode cX5_tally 39 = .ok (.aload_n 0, 1) := by decide +kernel
theorem dX5_tally_40 : decode cX5_tally 40 = .ok (.getfield 21, 3) := by decide +kernel
theorem dX5_tally_43 : decode cX5_tally 43 = .ok (.getfield 121, 3) := by decide +kernel
theorem dX5_tally_46 : decode cX5_tally 46 = .ok (.invokevirtual 130, 3) := by decide +kernel
theorem dX5_tally_49 : decode cX5_tally 49 = .ok (.ireturn, 1) := by decide +kernel
theorem dX5_tally_50 : decode cX5_tally 50 = .ok (.aload_n 0, 1) := by decide +kernel
theorem dX5_tally_51 : decode cX5_tally 51 = .ok (.getfield 28, 3) := by decide +kernel
theorem dX5_tally_54 : decode cX5_tally 54 = .ok (.getfield 124, 3) := by decide +kernel
theorem dX5_tally_57 : decode cX5_tally 57 = .ok (.invokevirtual 130, 3) := by decide +kernel
theorem dX5_tally_60 : decode cX5_tally 60 = .ok (.ireturn, 1) := by decide +kernel
theorem dX5_tally_61 : decode cX5_tally 61 = .ok (.aload_n 0, 1) := by decide +kernel
theorem dX5_tally_62 : decode cX5_tally 62 = .ok (.getfield 67, 3) := by decide +kernel
theorem dX5_tally_65 : decode cX5_tally 65 = .ok (.ireturn, 1) := by decide +kernel
set_option maxRecDepth 20000 in
theorem ggX5_copyFrom_X3_copyFrom : GoodIn wsX5_copyFrom wsX3_copyFrom := goodIn_r _ [11, 12, 13, 14, 15, 16, 17, 18, 19, 20, 21, 22, 23, 24, 25, 26, 27, 28, 29, 64, 65, 66, 67, 68] (by decide +kernel) (by decide +kernel)
set_option maxRecDepth 20000 in
theorem gX5_copyFrom_X3_copyFrom : GoodIn wsX5_copyFrom (wsV RX5 134 RX3 yX3_copyFrom wsX3_copyFrom) := goodIn_app (goodIn_of _ (by decide +kernel)) ggX5_copyFrom_X3_copyFrom
set_option maxRecDepth 20000 in
theorem ggX5_copyFrom_X1_copyFrom : GoodIn wsX5_copyFrom wsX1_copyFrom := goodIn_r _ [34, 35, 36, 37, 38, 39, 40, 41, 42, 43, 17, 18, 19, 20, 21, 22, 23, 24, 25, 26, 27, 28, 29, 69, 70, 71, 72, 73, 74, 75, 76, 68] (by decide +kernel) (by decide +kernel)
set_option maxRecDepth 20000 in
theorem gX5_copyFrom_X1_copyFrom : GoodIn wsX5_copyFrom (wsV RX5 138 RX1 yX1_copyFrom wsX1_copyFrom) := goodIn_app (goodIn_of _ (by decide +kernel)) ggX5_copyFrom_X1_copyFrom
set_option maxRecDepth 20000 in
theorem ggX5_copyFrom_X4_copyFrom : GoodIn wsX5_copyFrom wsX4_copyFrom := goodIn_r _ [48, 49, 50, 51, 52, 53, 54, 55, 56, 57, 17, 18, 19, 20, 21, 22, 23, 24, 25, 26, 27, 28, 29, 77, 78, 79, 80, 81, 82, 83, 84, 68] (by decide +kernel) (by decide +kernel)
set_option maxRecDepth 20000 in
theorem gX5_copyFrom_X4_copyFrom : GoodIn wsX5_copyFrom (wsV RX5 141 RX4 yX4_copyFrom wsX4_copyFrom) := goodIn_app (goodIn_of _ (by decide +kernel)) ggX5_copyFrom_X4_copyFrom
theorem dX5_copyFrom_0 : decode cX5_copyFrom 0 = .ok (.aload_n 1, 1) := by decide +kernel
theorem dX5_copyFrom_1 : decode cX5_copyFrom 1 = .ok (.ifnull 60, 3) := by decide +kernel
theorem dX5_copyFrom_4 : decode cX5_copyFrom 4 = .ok (.aload_n 0, 1) := by decide +kernel
theorem dX5_copyFrom_5 : decode cX5_copyFrom 5 = .ok (.getfield 12, 3) := by decide +kernel
theorem dX5_copyFrom_8 : decode cX5_copyFrom 8 = .ok (.aload_n 1, 1) := by decide +kernel
theorem dX5_copyFrom_9 : decode cX5_copyFrom 9 = .ok (.getfield 12, 3) := by decide +kernel
theorem dX5_copyFrom_12 : decode cX5_copyFrom 12 = .ok (.invokevirtual 134, 3) := by decide +kernel
theorem dX5_copyFrom_15 : decode cX5_copyFrom 15 = .ok (.aload_n 0, 1) := by decide +kernel
theorem dX5_copyFrom_16 : decode cX5_copyFrom 16 = .ok (.getfield 21, 3) := by decide +kernel
theorem dX5_copyFrom_19 : decode cX5_copyFrom 19 = .ok (.aload_n 1, 1) := by decide +kernel
theorem dX5_copyFrom_20 : decode cX5_copyFrom 20 = .ok (.getfield 21, 3) := by decide +kernel
theorem dX5_copyFrom_23 : decode cX5_copyFrom 23 = .ok (.invokevirtual 138, 3) := by decide +kernel
theorem dX5_copyFrom_26 : decode cX5_copyFrom 26 = .ok (.aload_n 0, 1) := by decide +kernel
theorem dX5_copyFrom_27 : decode cX5_copyFrom 27 = .ok (.getfield 28, 3) := by decide +kernel
theorem dX5_copyFrom_30 : decode cX5_copyFrom 30 = .ok (.aload_n 1, 1) := by decide +kernel
theorem dX5_copyFrom_31 : decode cX5_copyFrom 31 = .ok (.getfield 28, 3) := by decide +kernel
theorem dX5_copyFrom_34 : decode cX5_copyFrom 34 = .ok (.invokevirtual 141, 3) := by decide +kernel
theorem dX5_copyFrom_37 : decode cX5_copyFrom 37 = .ok (.aload_n 0, 1) := by decide +kernel
theorem dX5_copyFrom_38 : decode cX5_copyFrom 38 = .ok (.aload_n 1, 1) := by decide +kernel
theorem dX5_copyFrom_39 : decode cX5_copyFrom 39 = .ok (.getfield 40, 3) := by decide +kernel
theorem dX5_copyFrom_42 : decode cX5_copyFrom 42 = .ok (.putfield 40, 3) := by decide +kernel
theorem dX5_copyFrom_45 : decode cX5_copyFrom 45 = .ok (.aload_n 0, 1) := by decide +kernel
theorem dX5_copyFrom_46 : decode cX5_copyFrom 46 = .ok (.aload_n 1, 1) := by decide +kernel
theorem dX5_copyFrom_47 : decode cX5_copyFrom 47 = .ok (.getfield 93, 3) := by decide +kernel
theorem dX5_copyFrom_50 : decode cX5_copyFrom 50 = .ok (.putfield 93, 3) := by decide +kernel
theorem dX5_copyFrom_53 : decode cX5_copyFrom 53 = .ok (.aload_n 0, 1) := by decide +kernel
theorem dX5_copyFrom_54 : decode cX5_copyFrom 54 = .ok (.aload_n 1, 1) := by decide +kernel
theorem dX5_copyFrom_55 : decode cX5_copyFrom 55 = .ok (.getfield 67, 3) := by decide +kernel
theorem dX5_copyFrom_58 : decode cX5_copyFrom 58 = .ok (.putfield 67, 3) := by decide +kernel
theorem dX5_copyFrom_61 : decode cX5_copyFrom 61 = .ok (.return_, 1) := by decide +kernel
theorem dJ9_abs_0f7a4_0 : decode cJ9_abs_0f7a4 0 = .ok (.iload_n 0, 1) := by decide +kernel
theorem dJ9_abs_0f7a4_1 : decode cJ9_abs_0f7a4 1 = .ok (.ifCond .ge 8, 3) := by decide +kernel
theorem dJ9_abs_0f7a4_4 : decode cJ9_abs_0f7a4 4 = .ok (.iload_n 0, 1) := by decide +kernel
theorem dJ9_abs_0f7a4_5 : decode cJ9_abs_0f7a4 5 = .ok (.ineg, 1) := by decide +kernel
theorem dJ9_abs_0f7a4_6 : decode cJ9_abs_0f7a4 6 = .ok (.goto 4, 3) := by decide +kernel
theorem dJ9_abs_0f7a4_9 : decode cJ9_abs_0f7a4 9 = .ok (.iload_n 0, 1) := by decide +kernel
theorem dJ9_abs_0f7a4_10 : decode cJ9_abs_0f7a4 10 = .ok (.ireturn, 1) := by decide +kernel
theorem dJ9_max_7cf53_0 : decode cJ9_max_7cf53 0 = .ok (.iload_n 0, 1) := by decide +kernel
theorem dJ9_max_7cf53_1 : decode cJ9_max_7cf53 1 = .ok (.iload_n 1, 1) := by decide +kernel
theorem dJ9_max_7cf53_2 : decode cJ9_max_7cf53 2 = .ok (.if_icmp .lt 7, 3) := by decide +kernel
theorem dJ9_max_7cf53_5 : decode cJ9_max_7cf53 5 = .ok (.iload_n 0, 1) := by decide +kernel
theorem dJ9_max_7cf53_6 : decode cJ9_max_7cf53 6 = .ok (.goto 4, 3) := by decide +kernel
theorem dJ9_max_7cf53_9 : decode cJ9_max_7cf53 9 = .ok (.iload_n 1, 1) := by decide +kernel
theorem dJ9_max_7cf53_10 : decode cJ9_max_7cf53 10 = .ok (.ireturn, 1) := by decide +kernel
theorem dJ9_min_7cf53_0 : decode cJ9_min_7cf53 0 = .ok (.iload_n 0, 1) := by decide +kernel
theorem dJ9_min_7cf53_1 : decode cJ9_min_7cf53 1 = .ok (.iload_n 1, 1) := by decide +kernel
theorem dJ9_min_7cf53_2 : decode cJ9_min_7cf53 2 = .ok (.if_icmp .gt 7, 3) := by decide +kernel
theorem dJ9_min_7cf53_5 : decode cJ9_min_7cf53 5 = .ok (.iload_n 0, 1) := by decide +kernel
theorem dJ9_min_7cf53_6 : decode cJ9_min_7cf53 6 = .ok (.goto 4, 3) := by decide +kernel
theorem dJ9_min_7cf53_9 : decode cJ9_min_7cf53 9 = .ok (.iload_n 1, 1) := by decide +kernel
theorem dJ9_min_7cf53_10 : decode cJ9_min_7cf53 10 = .ok (.ireturn, 1) := by decide +kernel
