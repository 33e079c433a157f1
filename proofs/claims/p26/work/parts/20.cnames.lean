set_option maxRecDepth 20000 in
theorem ggX6_init_X5_init : GoodIn wsX6_init wsX5_init := goodIn_r _ [21, 22, 2, 3, 23, 24, 25, 26, 27, 28, 29, 30, 31, 32, 33, 34, 35, 36, 37, 38, 39, 16, 17, 40, 41, 42, 43, 44, 45, 46, 47, 48, 49, 50, 51, 52, 53, 54, 55, 56, 57, 58, 59, 60, 61, 62, 63, 64, 65, 66, 67, 68, 69, 70, 71, 72, 73, 74, 75, 76, 77, 78, 79, 80, 81, 82, 83, 84, 85, 86, 87, 88, 89, 90, 91, 92, 118, 119, 120, 121, 100, 101, 102, 103, 104, 105, 122, 123, 124, 125, 126, 127, 128, 129, 130, 131, 132, 133, 134, 135, 136, 137, 117] (by decide +kernel) (by decide +kernel)
set_option maxRecDepth 20000 in
theorem gX6_init_X5_init_n9 : GoodIn wsX6_init (wsX5_init) := ggX6_init_X5_init
set_option maxRecDepth 20000 in
theorem ggX6_init_X2_init : GoodIn wsX6_init wsX2_init := goodIn_r _ [94, 95, 2, 3, 96, 16, 17, 97, 98, 45, 46, 47, 48, 49, 50, 51, 52, 53, 117, 115, 116] (by decide +kernel) (by decide +kernel)
set_option maxRecDepth 20000 in
theorem gX6_init_X2_init_n21 : GoodIn wsX6_init (wsX2_init) := ggX6_init_X2_init
set_option maxRecDepth 20000 in
theorem ggX6_init_X0_init : GoodIn wsX6_init wsX0_init := goodIn_r _ [46, 47, 2, 3, 48, 49, 50, 51, 52, 53, 117] (by decide +kernel) (by decide +kernel)
set_option maxRecDepth 20000 in
theorem gX6_init_X0_init : GoodIn wsX6_init (wsX0_init) := ggX6_init_X0_init
theorem dX6_init_0 : decode cX6_init 0 = .ok (.aload_n 0, 1) := by decide +kernel
theorem dX6_init_1 : decode cX6_init 1 = .ok (.invokespecial 1, 3) := by decide +kernel
theorem dX6_init_4 : decode cX6_init 4 = .ok (.aload_n 0, 1) := by decide +kernel
theorem dX6_init_5 : decode cX6_init 5 = .ok (.new 7, 3) := by decide +kernel
theorem dX6_init_8 : decode cX6_init 8 = .ok (.dup, 1) := by decide +kernel
theorem dX6_init_9 : decode cX6_init 9 = .ok (.invokespecial 9, 3) := by decide +kernel
theorem dX6_init_12 : decode cX6_init 12 = .ok (.putfield 10, 3) := by decide +kernel
theorem dX6_init_15 : decode cX6_init 15 = .ok (.aload_n 0, 1) := by decide +kernel
theorem dX6_init_16 : decode cX6_init 16 = .ok (.new 7, 3) := by decide +kernel
theorem dX6_init_19 : decode cX6_init 19 = .ok (.dup, 1) := by decide +kernel
theorem dX6_init_20 : decode cX6_init 20 = .ok (.invokespecial 9, 3) := by decide +kernel
theorem dX6_init_23 : decode cX6_init 23 = .ok (.putfield 16, 3) := by decide +kernel
theorem dX6_init_26 : decode cX6_init 26 = .ok (.aload_n 0, 1) := by decide +kernel
theorem dX6_init_27 : decode cX6_init 27 = .ok (.new 19, 3) := by decide +kernel
theorem dX6_init_30 : decode cX6_init 30 = .ok (.dup, 1) := by decide +kernel
theorem dX6_init_31 : decode cX6_init 31 = .ok (.invokespecial 21, 3) := by decide +kernel
theorem dX6_init_34 : decode cX6_init 34 = .ok (.putfield 22, 3) := by decide +kernel
theorem dX6_init_37 : decode cX6_init 37 = .ok (.aload_n 0, 1) := by decide +kernel
theorem dX6_init_38 : decode cX6_init 38 = .ok (.bipush 6, 2) := by decide +kernel
theorem dX6_init_40 : decode cX6_init 40 = .ok (.anewarray 7, 3) := by decide +kernel
theorem dX6_init_43 : decode cX6_init 43 = .ok (.putfield 26, 3) := by decide +kernel
theorem dX6_init_46 : decode cX6_init 46 = .ok (.iconst 0, 1) := by decide +kernel
theorem dX6_init_47 : decode cX6_init 47 = .ok (.istore_n 1, 1) := by decide +kernel
theorem dX6_init_48 : decode cX6_init 48 = .ok (.iload_n 1, 1) := by decide +kernel
theorem dX6_init_49 : decode cX6_init 49 = .ok (.aload_n 0, 1) := by decide +kernel
theorem dX6_init_50 : decode cX6_init 50 = .ok (.getfield 26, 3) := by decide +kernel
theorem dX6_init_53 : decode cX6_init 53 = .ok (.arraylength, 1) := by decide +kernel
theorem dX6_init_54 : decode cX6_init 54 = .ok (.if_icmp .ge 22, 3) := by decide +kernel
theorem dX6_init_57 : decode cX6_init 57 = .ok (.aload_n 0, 1) := by decide +kernel
theorem dX6_init_58 : decode cX6_init 58 = .ok (.getfield 26, 3) := by decide +kernel
theorem dX6_init_61 : decode cX6_init 61 = .ok (.iload_n 1, 1) := by decide +kernel
theorem dX6_init_62 : decode cX6_init 62 = .ok (.new 7, 3) := by decide +kernel
theorem dX6_init_65 : decode cX6_init 65 = .ok (.dup, 1) := by decide +kernel
theorem dX6_init_66 : decode cX6_init 66 = .ok (.invokespecial 9, 3) := by decide +kernel
theorem dX6_init_69 : decode cX6_init 69 = .ok (.aastore, 1) := by decide +kernel
theorem dX6_init_70 : decode cX6_init 70 = .ok (.iinc 1 1, 3) := by decide +kernel
theorem dX6_init_73 : decode cX6_init 73 = .ok (.goto (-25), 3) := by decide +kernel
theorem dX6_init_76 : decode cX6_init 76 = .ok (.aload_n 0, 1) := by decide +kernel
theorem dX6_init_77 : decode cX6_init 77 = .ok (.iconst 2, 1) := by decide +kernel
theorem dX6_init_78 : decode cX6_init 78 = .ok (.anewarray 7, 3) := by decide +kernel
theorem dX6_init_81 : decode cX6_init 81 = .ok (.putfield 30, 3) := by decide +kernel
theorem dX6_init_84 : decode cX6_init 84 = .ok (.iconst 0, 1) := by decide +kernel
theorem dX6_init_85 : decode cX6_init 85 = .ok (.istore_n 1, 1) := by decide +kernel
theorem dX6_init_86 : decode cX6_init 86 = .ok (.iload_n 1, 1) := by decide +kernel
theorem dX6_init_87 : decode cX6_init 87 = .ok (.aload_n 0, 1) := by decide +kernel
theorem dX6_init_88 : decode cX6_init 88 = .ok (.getfield 30, 3) := by decide +kernel
theorem dX6_init_91 : decode cX6_init 91 = .ok (.arraylength, 1) := by decide +kernel
theorem dX6_init_92 : decode cX6_init 92 = .ok (.if_icmp .ge 22, 3) := by decide +kernel
theorem dX6_init_95 : decode cX6_init 95 = .ok (.aload_n 0, 1) := by decide +kernel
theorem dX6_init_96 : decode cX6_init 96 = .ok (.getfield 30, 3) := by decide +kernel
theorem dX6_init_99 : decode cX6_init 99 = .ok (.iload_n 1, 1) := by decide +kernel
theorem dX6_init_100 : decode cX6_init 100 = .ok (.new 7, 3) := by decide +kernel
theorem dX6_init_103 : decode cX6_init 103 = .ok (.dup, 1) := by decide +kernel
theorem dX6_init_104 : decode cX6_init 104 = .ok (.invokespecial 9, 3) := by decide +kernel
theorem dX6_init_107 : decode cX6_init 107 = .ok (.aastore, 1) := by decide +kernel
theorem dX6_init_108 : decode cX6_init 108 = .ok (.iinc 1 1, 3) := by decide +kernel
theorem dX6_init_111 : decode cX6_init 111 = .ok (.goto (-25), 3) := by decide +kernel
theorem dX6_init_114 : decode cX6_init 114 = .ok (.aload_n 0, 1) := by decide +kernel
theorem dX6_init_115 : decode cX6_init 115 = .ok (.new 33, 3) := by decide +kernel
theorem dX6_init_118 : decode cX6_init 118 = .ok (.dup, 1) := by decide +kernel
theorem dX6_init_119 : decode cX6_init 119 = .ok (.iconst 2, 1) := by decide +kernel
theorem dX6_init_120 : decode cX6_init 120 = .ok (.invokespecial 35, 3) := by decide +kernel
theorem dX6_init_123 : decode cX6_init 123 = .ok (.putfield 38, 3) := by decide +kernel
theorem dX6_init_126 : decode cX6_init 126 = .ok (.aload_n 0, 1) := by decide +kernel
theorem dX6_init_127 : decode cX6_init 127 = .ok (.new 33, 3) := by decide +kernel
theorem dX6_init_130 : decode cX6_init 130 = .ok (.dup, 1) := by decide +kernel
theorem dX6_init_131 : decode cX6_init 131 = .ok (.sipush 200, 3) := by decide +kernel
theorem dX6_init_134 : decode cX6_init 134 = .ok (.invokespecial 35, 3) := by decide +kernel
theorem dX6_init_137 : decode cX6_init 137 = .ok (.putfield 42, 3) := by decide +kernel
theorem dX6_init_140 : decode cX6_init 140 = .ok (.return_, 1) := by decide +kernel
set_option maxRecDepth 20000 in
theorem ggX6_tide_X6_isStore : GoodIn wsX6_tide wsX6_isStore := goodIn_r _ [7, 8, 9, 6, 10] (by decide +kernel) (by decide +kernel)
set_option maxRecDepth 20000 in
theorem gX6_tide_X6_isStore : GoodIn wsX6_tide (va_wsS RX6 45 yX6_isStore wsX6_isStore) := goodIn_app (goodIn_of _ (by decide +kernel)) ggX6_tide_X6_isStore
set_option maxRecDepth 20000 in
theorem ggX6_tide_X6_isWithin : GoodIn wsX6_tide wsX6_isWithin := goodIn_r _ [10] (by decide +kernel) (by decide +kernel)
set_option maxRecDepth 20000 in
theorem gX6_tide_X6_isWithin : GoodIn wsX6_tide (va_wsS RX6 49 yX6_isWithin wsX6_isWithin) := goodIn_app (goodIn_of _ (by decide +kernel)) ggX6_tide_X6_isWithin
set_option maxRecDepth 20000 in
theorem ggX6_tide_X6_record : GoodIn wsX6_tide wsX6_record := goodIn_r _ [14, 15, 16, 17, 18, 19, 20, 21, 22, 23, 24, 6, 25, 1, 26, 27, 28, 29, 30, 31, 32, 33, 34, 35, 36, 37, 38, 39, 40, 41, 42, 43, 44, 45, 46, 47, 48, 49, 50, 51, 52, 53, 54, 55, 56, 57, 58, 59, 60, 61, 62, 63, 64, 65, 66, 67, 68, 69, 70, 71, 72, 73, 74, 75, 76, 77, 78, 79, 80, 81, 82, 83, 84, 85, 86, 87, 105, 106, 107, 108, 109, 110, 111, 112, 113, 114, 115, 116, 117, 118, 119, 120, 121, 122, 123, 124, 125, 126, 127, 128, 129, 130, 131, 132, 133, 134, 135, 136, 137, 138, 139, 140] (by decide +kernel) (by decide +kernel)
set_option maxRecDepth 20000 in
theorem gX6_tide_X6_record : GoodIn wsX6_tide (wsV RX6 53 RX6 yX6_record wsX6_record) := goodIn_app (goodIn_of _ (by decide +kernel)) ggX6_tide_X6_record
set_option maxRecDepth 20000 in
theorem ggX6_tide_X3_change : GoodIn wsX6_tide wsX3_change := goodIn_r _ [91, 45, 46, 47, 92, 93, 94, 52, 95, 54, 120, 121, 122, 123, 124] (by decide +kernel) (by decide +kernel)
set_option maxRecDepth 20000 in
theorem gX6_tide_X3_change : GoodIn wsX6_tide (wsV RX6 60 RX3 yX3_change wsX3_change) := goodIn_app (goodIn_of _ (by decide +kernel)) ggX6_tide_X3_change
set_option maxRecDepth 20000 in
theorem ggX6_tide_X3_levelAt : GoodIn wsX6_tide wsX3_levelAt := goodIn_r _ [99, 47, 45, 46, 100, 19, 20, 21, 101, 102, 103, 52, 104, 54, 120, 121, 122, 123, 124] (by decide +kernel) (by decide +kernel)
set_option maxRecDepth 20000 in
theorem gX6_tide_X3_levelAt : GoodIn wsX6_tide (wsV RX6 70 RX3 yX3_levelAt wsX3_levelAt) := goodIn_app (goodIn_of _ (by decide +kernel)) ggX6_tide_X3_levelAt
theorem dX6_tide_0 : decode cX6_tide 0 = .ok (.iload_n 1, 1) := by decide +kernel
theorem dX6_tide_1 : decode cX6_tide 1 = .ok (.invokestatic 45, 3) := by decide +kernel
theorem dX6_tide_4 : decode cX6_tide 4 = .ok (.ifCond .ne 7, 3) := by decide +kernel
theorem dX6_tide_7 : decode cX6_tide 7 = .ok (.sipush (-1001), 3) := by decide +kernel
theorem dX6_tide_10 : decode cX6_tide 10 = .ok (.ireturn, 1) := by decide +kernel
theorem dX6_tide_11 : decode cX6_tide 11 = .ok (.iload_n 2, 1) := by decide +kernel
theorem dX6_tide_12 : decode cX6_tide 12 = .ok (.iconst 0, 1) := by decide +kernel
theorem dX6_tide_13 : decode cX6_tide 13 = .ok (.sipush 300, 3) := by decide +kernel
theorem dX6_tide_16 : decode cX6_tide 16 = .ok (.invokestatic 49, 3) := by decide +kernel
theorem dX6_tide_19 : decode cX6_tide 19 = .ok (.ifCond .eq 24, 3) := by decide +kernel
theorem dX6_tide_22 : decode cX6_tide 22 = .ok (.iload_n 3, 1) := by decide +kernel
theorem dX6_tide_23 : decode cX6_tide 23 = .ok (.iconst 0, 1) := by decide +kernel
theorem dX6_tide_24 : decode cX6_tide 24 = .ok (.bipush 100, 2) := by decide +kernel
theorem dX6_tide_26 : decode cX6_tide 26 = .ok (.invokestatic 49, 3) := by decide +kernel
theorem dX6_tide_29 : decode cX6_tide 29 = .ok (.ifCond .eq 14, 3) := by decide +kernel
theorem dX6_tide_32 : decode cX6_tide 32 = .ok (.iload 4, 2) := by decide +kernel
theorem dX6_tide_34 : decode cX6_tide 34 = .ok (.iconst 2, 1) := by decide +kernel
theorem dX6_tide_35 : decode cX6_tide 35 = .ok (.bipush 60, 2) := by decide +kernel
theorem dX6_tide_37 : decode cX6_tide 37 = .ok (.invokestatic 49, 3) := by decide +kernel
theorem dX6_tide_40 : decode cX6_tide 40 = .ok (.ifCond .ne 7, 3) := by decide +kernel
theorem dX6_tide_43 : decode cX6_tide 43 = .ok (.sipush (-1002), 3) := by decide +kernel
theorem dX6_tide_46 : decode cX6_tide 46 = .ok (.ireturn, 1) := by decide +kernel
theorem dX6_tide_47 : decode cX6_tide 47 = .ok (.aload_n 0, 1) := by decide +kernel
theorem dX6_tide_48 : decode cX6_tide 48 = .ok (.invokevirtual 53, 3) := by decide +kernel
theorem dX6_tide_51 : decode cX6_tide 51 = .ok (.aload_n 0, 1) := by decide +kernel
theorem dX6_tide_52 : decode cX6_tide 52 = .ok (.getfield 10, 3) := by decide +kernel
theorem dX6_tide_55 : decode cX6_tide 55 = .ok (.getfield 56, 3) := by decide +kernel
theorem dX6_tide_58 : decode cX6_tide 58 = .ok (.iload_n 1, 1) := by decide +kernel
theorem dX6_tide_59 : decode cX6_tide 59 = .ok (.iload_n 2, 1) := by decide +kernel
theorem dX6_tide_60 : decode cX6_tide 60 = .ok (.iload_n 3, 1) := by decide +kernel
theorem dX6_tide_61 : decode cX6_tide 61 = .ok (.iload 4, 2) := by decide +kernel
theorem dX6_tide_63 : decode cX6_tide 63 = .ok (.invokevirtual 60, 3) := by decide +kernel
theorem dX6_tide_66 : decode cX6_tide 66 = .ok (.aload_n 0, 1) := by decide +kernel
theorem dX6_tide_67 : decode cX6_tide 67 = .ok (.getfield 10, 3) := by decide +kernel
theorem dX6_tide_70 : decode cX6_tide 70 = .ok (.getfield 56, 3) := by decide +kernel
theorem dX6_tide_73 : decode cX6_tide 73 = .ok (.iload_n 1, 1) := by decide +kernel
theorem dX6_tide_74 : decode cX6_tide 74 = .ok (.aload_n 0, 1) := by decide +kernel
theorem dX6_tide_75 : decode cX6_tide 75 = .ok (.getfield 10, 3) := by decide +kernel
theorem dX6_tide_78 : decode cX6_tide 78 = .ok (.getfield 66, 3) := by decide +kernel
theorem dX6_tide_81 : decode cX6_tide 81 = .ok (.invokevirtual 70, 3) := by decide +kernel
theorem dX6_tide_84 : decode cX6_tide 84 = .ok (.ireturn, 1) := by decide +kernel
set_option maxRecDepth 20000 in
theorem ggX6_gauge_X6_isStore : GoodIn wsX6_gauge wsX6_isStore := goodIn_r _ [7, 8, 9, 6, 10] (by decide +kernel) (by decide +kernel)
set_option maxRecDepth 20000 in
theorem gX6_gauge_X6_isStore : GoodIn wsX6_gauge (va_wsS RX6 45 yX6_isStore wsX6_isStore) := goodIn_app (goodIn_of _ (by decide +kernel)) ggX6_gauge_X6_isStore
set_option maxRecDepth 20000 in
theorem ggX6_gauge_X6_isWithin : GoodIn wsX6_gauge wsX6_isWithin := goodIn_r _ [10] (by decide +kernel) (by decide +kernel)
set_option maxRecDepth 20000 in
theorem gX6_gauge_X6_isWithin : GoodIn wsX6_gauge (va_wsS RX6 49 yX6_isWithin wsX6_isWithin) := goodIn_app (goodIn_of _ (by decide +kernel)) ggX6_gauge_X6_isWithin
set_option maxRecDepth 20000 in
theorem ggX6_gauge_X6_record : GoodIn wsX6_gauge wsX6_record := goodIn_r _ [14, 15, 16, 17, 18, 19, 20, 21, 22, 23, 24, 6, 25, 1, 26, 27, 28, 29, 30, 31, 32, 33, 34, 35, 36, 37, 38, 39, 40, 41, 42, 43, 44, 45, 46, 47, 48, 49, 50, 51, 52, 53, 54, 55, 56, 57, 58, 59, 60, 61, 62, 63, 64, 65, 66, 67, 68, 69, 70, 71, 72, 73, 74, 75, 76, 77, 78, 79, 80, 81, 82, 83, 84, 85, 86, 87, 96, 97, 98, 99, 100, 101, 102, 103, 104, 105, 106, 107, 108, 109, 110, 111, 112, 113, 114, 115, 116, 117, 118, 119, 120, 121, 122, 123, 124, 125, 126, 127, 128, 129, 130, 131] (by decide +kernel) (by decide +kernel)
set_option maxRecDepth 20000 in
theorem gX6_gauge_X6_record : GoodIn wsX6_gauge (wsV RX6 53 RX6 yX6_record wsX6_record) := goodIn_app (goodIn_of _ (by decide +kernel)) ggX6_gauge_X6_record
set_option maxRecDepth 20000 in
theorem ggX6_gauge_X0_get : GoodIn wsX6_gauge wsX0_get := goodIn_r _ [91, 54, 115] (by decide +kernel) (by decide +kernel)
set_option maxRecDepth 20000 in
theorem gX6_gauge_X0_get : GoodIn wsX6_gauge (wsV RX6 77 RX0 yX0_get wsX0_get) := goodIn_app (goodIn_of _ (by decide +kernel)) ggX6_gauge_X0_get
set_option maxRecDepth 20000 in
theorem ggX6_gauge_X0_set : GoodIn wsX6_gauge wsX0_set := goodIn_r _ [95, 54, 115] (by decide +kernel) (by decide +kernel)
set_option maxRecDepth 20000 in
theorem gX6_gauge_X0_set : GoodIn wsX6_gauge (wsV RX6 81 RX0 yX0_set wsX0_set) := goodIn_app (goodIn_of _ (by decide +kernel)) ggX6_gauge_X0_set
theorem dX6_gauge_0 : decode cX6_gauge 0 = .ok (.iload_n 1, 1) := by decide +kernel
theorem dX6_gauge_1 : decode cX6_gauge 1 = .ok (.invokestatic 45, 3) := by decide +kernel
theorem dX6_gauge_4 : decode cX6_gauge 4 = .ok (.ifCond .ne 7, 3) := by decide +kernel
theorem dX6_gauge_7 : decode cX6_gauge 7 = .ok (.sipush (-1001), 3) := by decide +kernel
theorem dX6_gauge_10 : decode cX6_gauge 10 = .ok (.ireturn, 1) := by decide +kernel
theorem dX6_gauge_11 : decode cX6_gauge 11 = .ok (.iload_n 2, 1) := by decide +kernel
theorem dX6_gauge_12 : decode cX6_gauge 12 = .ok (.bipush (-50), 2) := by decide +kernel
theorem dX6_gauge_14 : decode cX6_gauge 14 = .ok (.bipush 50, 2) := by decide +kernel
theorem dX6_gauge_16 : decode cX6_gauge 16 = .ok (.invokestatic 49, 3) := by decide +kernel
theorem dX6_gauge_19 : decode cX6_gauge 19 = .ok (.ifCond .ne 7, 3) := by decide +kernel
theorem dX6_gauge_22 : decode cX6_gauge 22 = .ok (.sipush (-1002), 3) := by decide +kernel
theorem dX6_gauge_25 : decode cX6_gauge 25 = .ok (.ireturn, 1) := by decide +kernel
theorem dX6_gauge_26 : decode cX6_gauge 26 = .ok (.aload_n 0, 1) := by decide +kernel
theorem dX6_gauge_27 : decode cX6_gauge 27 = .ok (.invokevirtual 53, 3) := by decide +kernel
theorem dX6_gauge_30 : decode cX6_gauge 30 = .ok (.aload_n 0, 1) := by decide +kernel
theorem dX6_gauge_31 : decode cX6_gauge 31 = .ok (.getfield 10, 3) := by decide +kernel
theorem dX6_gauge_34 : decode cX6_gauge 34 = .ok (.getfield 56, 3) := by decide +kernel
theorem dX6_gauge_37 : decode cX6_gauge 37 = .ok (.getfield 74, 3) := by decide +kernel
theorem dX6_gauge_40 : decode cX6_gauge 40 = .ok (.iload_n 1, 1) := by decide +kernel
theorem dX6_gauge_41 : decode cX6_gauge 41 = .ok (.invokevirtual 77, 3) := by decide +kernel
theorem dX6_gauge_44 : decode cX6_gauge 44 = .ok (.istore_n 3, 1) := by decide +kernel
theorem dX6_gauge_45 : decode cX6_gauge 45 = .ok (.aload_n 0, 1) := by decide +kernel
theorem dX6_gauge_46 : decode cX6_gauge 46 = .ok (.getfield 10, 3) := by decide +kernel
theorem dX6_gauge_49 : decode cX6_gauge 49 = .ok (.getfield 56, 3) := by decide +kernel
theorem dX6_gauge_52 : decode cX6_gauge 52 = .ok (.getfield 74, 3) := by decide +kernel
theorem dX6_gauge_55 : decode cX6_gauge 55 = .ok (.iload_n 1, 1) := by decide +kernel
theorem dX6_gauge_56 : decode cX6_gauge 56 = .ok (.iload_n 2, 1) := by decide +kernel
theorem dX6_gauge_57 : decode cX6_gauge 57 = .ok (.invokevirtual 81, 3) := by decide +kernel
theorem dX6_gauge_60 : decode cX6_gauge 60 = .ok (.iload_n 3, 1) := by decide +kernel
theorem dX6_gauge_61 : decode cX6_gauge 61 = .ok (.ireturn, 1) := by decide +kernel
set_option maxRecDepth 20000 in
theorem ggX6_gate_X6_isGate : GoodIn wsX6_gate wsX6_isGate := goodIn_r _ [8, 9, 10, 7, 11] (by decide +kernel) (by decide +kernel)
set_option maxRecDepth 20000 in
theorem gX6_gate_X6_isGate : GoodIn wsX6_gate (va_wsS RX6 85 yX6_isGate wsX6_isGate) := goodIn_app (goodIn_of _ (by decide +kernel)) ggX6_gate_X6_isGate
set_option maxRecDepth 20000 in
theorem ggX6_gate_X6_isWithin : GoodIn wsX6_gate wsX6_isWithin := goodIn_r _ [11] (by decide +kernel) (by decide +kernel)
set_option maxRecDepth 20000 in
theorem gX6_gate_X6_isWithin : GoodIn wsX6_gate (va_wsS RX6 49 yX6_isWithin wsX6_isWithin) := goodIn_app (goodIn_of _ (by decide +kernel)) ggX6_gate_X6_isWithin
set_option maxRecDepth 20000 in
theorem ggX6_gate_X1_hasWord : GoodIn wsX6_gate wsX1_hasWord := goodIn_r _ [16, 17, 18, 19, 20, 21, 22, 23, 121, 122, 123, 124, 125, 126, 127, 128, 129] (by decide +kernel) (by decide +kernel)
set_option maxRecDepth 20000 in
theorem gX6_gate_X1_hasWord : GoodIn wsX6_gate (wsV RX6 92 RX1 yX1_hasWord wsX1_hasWord) := goodIn_app (goodIn_of _ (by decide +kernel)) ggX6_gate_X1_hasWord
set_option maxRecDepth 20000 in
theorem ggX6_gate_X0_get : GoodIn wsX6_gate wsX0_get := goodIn_r _ [22, 23, 129] (by decide +kernel) (by decide +kernel)
set_option maxRecDepth 20000 in
theorem gX6_gate_X0_get : GoodIn wsX6_gate (wsV RX6 77 RX0 yX0_get wsX0_get) := goodIn_app (goodIn_of _ (by decide +kernel)) ggX6_gate_X0_get
set_option maxRecDepth 20000 in
theorem ggX6_gate_X6_record : GoodIn wsX6_gate wsX6_record := goodIn_r _ [28, 29, 30, 31, 32, 33, 34, 35, 36, 37, 38, 7, 39, 1, 40, 41, 42, 43, 44, 45, 46, 47, 48, 49, 50, 51, 52, 53, 54, 55, 56, 57, 58, 59, 60, 61, 62, 63, 64, 65, 21, 66, 23, 67, 68, 69, 70, 71, 72, 73, 74, 15, 75, 76, 77, 78, 79, 17, 80, 81, 82, 83, 84, 85, 86, 87, 88, 89, 90, 91, 92, 93, 94, 95, 96, 97, 106, 107, 108, 109, 110, 111, 112, 113, 114, 115, 116, 117, 118, 119, 120, 130, 131, 132, 133, 129, 121, 122, 123, 124, 125, 126, 127, 128, 134, 135, 136, 137, 138, 139, 140, 141] (by decide +kernel) (by decide +kernel)
set_option maxRecDepth 20000 in
theorem gX6_gate_X6_record : GoodIn wsX6_gate (wsV RX6 53 RX6 yX6_record wsX6_record) := goodIn_app (goodIn_of _ (by decide +kernel)) ggX6_gate_X6_record
set_option maxRecDepth 20000 in
theorem ggX6_gate_X1_change : GoodIn wsX6_gate wsX1_change := goodIn_r _ [101, 76, 77, 78, 102, 103, 104, 21, 105, 23, 121, 122, 123, 124, 125, 126, 127, 128, 129] (by decide +kernel) (by decide +kernel)
set_option maxRecDepth 20000 in
theorem gX6_gate_X1_change : GoodIn wsX6_gate (wsV RX6 103 RX1 yX1_change wsX1_change) := goodIn_app (goodIn_of _ (by decide +kernel)) ggX6_gate_X1_change
theorem dX6_gate_0 : decode cX6_gate 0 = .ok (.iload_n 1, 1) := by decide +kernel
theorem dX6_gate_1 : decode cX6_gate 1 = .ok (.invokestatic 85, 3) := by decide +kernel
theorem dX6_gate_4 : decode cX6_gate 4 = .ok (.ifCond .ne 7, 3) := by decide +kernel
theorem dX6_gate_7 : decode cX6_gate 7 = .ok (.sipush (-1001), 3) := by decide +kernel
theorem dX6_gate_10 : decode cX6_gate 10 = .ok (.ireturn, 1) := by decide +kernel
theorem dX6_gate_11 : decode cX6_gate 11 = .ok (.iload_n 2, 1) := by decide +kernel
theorem dX6_gate_12 : decode cX6_gate 12 = .ok (.iconst 0, 1) := by decide +kernel
theorem dX6_gate_13 : decode cX6_gate 13 = .ok (.iconst 1, 1) := by decide +kernel
theorem dX6_gate_14 : decode cX6_gate 14 = .ok (.invokestatic 49, 3) := by decide +kernel
theorem dX6_gate_17 : decode cX6_gate 17 = .ok (.ifCond .eq 23, 3) := by decide +kernel
theorem dX6_gate_20 : decode cX6_gate 20 = .ok (.iload_n 3, 1) := by decide +kernel
theorem dX6_gate_21 : decode cX6_gate 21 = .ok (.iconst 0, 1) := by decide +kernel
theorem dX6_gate_22 : decode cX6_gate 22 = .ok (.bipush 99, 2) := by decide +kernel
theorem dX6_gate_24 : decode cX6_gate 24 = .ok (.invokestatic 49, 3) := by decide +kernel
theorem dX6_gate_27 : decode cX6_gate 27 = .ok (.ifCond .eq 13, 3) := by decide +kernel
theorem dX6_gate_30 : decode cX6_gate 30 = .ok (.iload 4, 2) := by decide +kernel
theorem dX6_gate_32 : decode cX6_gate 32 = .ok (.iconst 0, 1) := by decide +kernel
theorem dX6_gate_33 : decode cX6_gate 33 = .ok (.iconst 1, 1) := by decide +kernel
theorem dX6_gate_34 : decode cX6_gate 34 = .ok (.invokestatic 49, 3) := by decide +kernel
theorem dX6_gate_37 : decode cX6_gate 37 = .ok (.ifCond .ne 7, 3) := by decide +kernel
theorem dX6_gate_40 : decode cX6_gate 40 = .ok (.sipush (-1002), 3) := by decide +kernel
theorem dX6_gate_43 : decode cX6_gate 43 = .ok (.ireturn, 1) := by decide +kernel
theorem dX6_gate_44 : decode cX6_gate 44 = .ok (.aload_n 0, 1) := by decide +kernel
theorem dX6_gate_45 : decode cX6_gate 45 = .ok (.getfield 10, 3) := by decide +kernel
theorem dX6_gate_48 : decode cX6_gate 48 = .ok (.getfield 88, 3) := by decide +kernel
theorem dX6_gate_51 : decode cX6_gate 51 = .ok (.iload_n 1, 1) := by decide +kernel
theorem dX6_gate_52 : decode cX6_gate 52 = .ok (.invokevirtual 92, 3) := by decide +kernel
theorem dX6_gate_55 : decode cX6_gate 55 = .ok (.ifCond .eq 25, 3) := by decide +kernel
theorem dX6_gate_58 : decode cX6_gate 58 = .ok (.iload_n 2, 1) := by decide +kernel
theorem dX6_gate_59 : decode cX6_gate 59 = .ok (.aload_n 0, 1) := by decide +kernel
theorem dX6_gate_60 : decode cX6_gate 60 = .ok (.getfield 10, 3) := by decide +kernel
theorem dX6_gate_63 : decode cX6_gate 63 = .ok (.getfield 88, 3) := by decide +kernel
theorem dX6_gate_66 : decode cX6_gate 66 = .ok (.getfield 97, 3) := by decide +kernel
theorem dX6_gate_69 : decode cX6_gate 69 = .ok (.iload_n 1, 1) := by decide +kernel
theorem dX6_gate_70 : decode cX6_gate 70 = .ok (.invokevirtual 77, 3) := by decide +kernel
theorem dX6_gate_73 : decode cX6_gate 73 = .ok (.if_icmp .eq 7, 3) := by decide +kernel
theorem dX6_gate_76 : decode cX6_gate 76 = .ok (.sipush (-1005), 3) := by decide +kernel
theorem dX6_gate_79 : decode cX6_gate 79 = .ok (.ireturn, 1) := by decide +kernel
theorem dX6_gate_80 : decode cX6_gate 80 = .ok (.aload_n 0, 1) := by decide +kernel
theorem dX6_gate_81 : decode cX6_gate 81 = .ok (.invokevirtual 53, 3) := by decide +kernel
theorem dX6_gate_84 : decode cX6_gate 84 = .ok (.aload_n 0, 1) := by decide +kernel
theorem dX6_gate_85 : decode cX6_gate 85 = .ok (.getfield 10, 3) := by decide +kernel
theorem dX6_gate_88 : decode cX6_gate 88 = .ok (.getfield 88, 3) := by decide +kernel
theorem dX6_gate_91 : decode cX6_gate 91 = .ok (.getfield 100, 3) := by decide +kernel
theorem dX6_gate_94 : decode cX6_gate 94 = .ok (.iload_n 1, 1) := by decide +kernel
theorem dX6_gate_95 : decode cX6_gate 95 = .ok (.invokevirtual 77, 3) := by decide +kernel
theorem dX6_gate_98 : decode cX6_gate 98 = .ok (.istore 5, 2) := by decide +kernel
theorem dX6_gate_100 : decode cX6_gate 100 = .ok (.aload_n 0, 1) := by decide +kernel
theorem dX6_gate_101 : decode cX6_gate 101 = .ok (.getfield 10, 3) := by decide +kernel
theorem dX6_gate_104 : decode cX6_gate 104 = .ok (.getfield 88, 3) := by decide +kernel
theorem dX6_gate_107 : decode cX6_gate 107 = .ok (.iload_n 1, 1) := by decide +kernel
theorem dX6_gate_108 : decode cX6_gate 108 = .ok (.iload_n 2, 1) := by decide +kernel
theorem dX6_gate_109 : decode cX6_gate 109 = .ok (.iload_n 3, 1) := by decide +kernel
theorem dX6_gate_110 : decode cX6_gate 110 = .ok (.iload 4, 2) := by decide +kernel
theorem dX6_gate_112 : decode cX6_gate 112 = .ok (.invokevirtual 103, 3) := by decide +kernel
theorem dX6_gate_115 : decode cX6_gate 115 = .ok (.iload 5, 2) := by decide +kernel
theorem dX6_gate_117 : decode cX6_gate 117 = .ok (.ireturn, 1) := by decide +kernel
set_option maxRecDepth 20000 in
theorem ggX6_shut_X6_isGate : GoodIn wsX6_shut wsX6_isGate := goodIn_r _ [7, 8, 9, 6, 10] (by decide +kernel) (by decide +kernel)
set_option maxRecDepth 20000 in
theorem gX6_shut_X6_isGate : GoodIn wsX6_shut (va_wsS RX6 85 yX6_isGate wsX6_isGate) := goodIn_app (goodIn_of _ (by decide +kernel)) ggX6_shut_X6_isGate
set_option maxRecDepth 20000 in
theorem ggX6_shut_X1_isShut : GoodIn wsX6_shut wsX1_isShut := goodIn_r _ [15, 16, 17, 18, 19, 20, 21, 22, 119, 120, 121, 122, 123, 124, 125, 126, 127] (by decide +kernel) (by decide +kernel)
set_option maxRecDepth 20000 in
theorem gX6_shut_X1_isShut : GoodIn wsX6_shut (wsV RX6 104 RX1 yX1_isShut wsX1_isShut) := goodIn_app (goodIn_of _ (by decide +kernel)) ggX6_shut_X1_isShut
set_option maxRecDepth 20000 in
theorem ggX6_shut_X6_record : GoodIn wsX6_shut wsX6_record := goodIn_r _ [26, 27, 28, 29, 30, 31, 32, 33, 34, 35, 36, 6, 37, 1, 38, 39, 40, 41, 42, 43, 44, 45, 46, 47, 48, 49, 50, 51, 52, 53, 54, 55, 56, 57, 58, 59, 60, 61, 62, 63, 20, 64, 22, 65, 66, 67, 68, 69, 70, 71, 72, 14, 73, 74, 75, 76, 16, 77, 78, 79, 80, 81, 82, 83, 84, 85, 86, 87, 88, 89, 90, 91, 92, 93, 94, 95, 104, 105, 106, 107, 108, 109, 110, 111, 112, 113, 114, 115, 116, 117, 118, 128, 129, 130, 131, 127, 119, 120, 121, 122, 123, 124, 125, 126, 132, 133, 134, 135, 136, 137, 138, 139] (by decide +kernel) (by decide +kernel)
set_option maxRecDepth 20000 in
theorem gX6_shut_X6_record : GoodIn wsX6_shut (wsV RX6 53 RX6 yX6_record wsX6_record) := goodIn_app (goodIn_of _ (by decide +kernel)) ggX6_shut_X6_record
set_option maxRecDepth 20000 in
theorem ggX6_shut_X0_set : GoodIn wsX6_shut wsX0_set := goodIn_r _ [99, 22, 127] (by decide +kernel) (by decide +kernel)
set_option maxRecDepth 20000 in
theorem gX6_shut_X0_set : GoodIn wsX6_shut (wsV RX6 81 RX0 yX0_set wsX0_set) := goodIn_app (goodIn_of _ (by decide +kernel)) ggX6_shut_X0_set
set_option maxRecDepth 20000 in
theorem ggX6_shut_X0_sum : GoodIn wsX6_shut wsX0_sum := goodIn_r _ [103, 22, 127] (by decide +kernel) (by decide +kernel)
set_option maxRecDepth 20000 in
theorem gX6_shut_X0_sum : GoodIn wsX6_shut (wsV RX6 110 RX0 yX0_sum wsX0_sum) := goodIn_app (goodIn_of _ (by decide +kernel)) ggX6_shut_X0_sum
theorem dX6_shut_0 : decode cX6_shut 0 = .ok (.iload_n 1, 1) := by decide +kernel
theorem dX6_shut_1 : decode cX6_shut 1 = .ok (.invokestatic 85, 3) := by decide +kernel
theorem dX6_shut_4 : decode cX6_shut 4 = .ok (.ifCond .ne 7, 3) := by decide +kernel
theorem dX6_shut_7 : decode cX6_shut 7 = .ok (.sipush (-1001), 3) := by decide +kernel
theorem dX6_shut_10 : decode cX6_shut 10 = .ok (.ireturn, 1) := by decide +kernel
theorem dX6_shut_11 : decode cX6_shut 11 = .ok (.aload_n 0, 1) := by decide +kernel
theorem dX6_shut_12 : decode cX6_shut 12 = .ok (.getfield 10, 3) := by decide +kernel
theorem dX6_shut_15 : decode cX6_shut 15 = .ok (.getfield 88, 3) := by decide +kernel
theorem dX6_shut_18 : decode cX6_shut 18 = .ok (.iload_n 1, 1) := by decide +kernel
theorem dX6_shut_19 : decode cX6_shut 19 = .ok (.invokevirtual 104, 3) := by decide +kernel
theorem dX6_shut_22 : decode cX6_shut 22 = .ok (.iload_n 2, 1) := by decide +kernel
theorem dX6_shut_23 : decode cX6_shut 23 = .ok (.if_icmp .ne 7, 3) := by decide +kernel
theorem dX6_shut_26 : decode cX6_shut 26 = .ok (.sipush (-1005), 3) := by decide +kernel
theorem dX6_shut_29 : decode cX6_shut 29 = .ok (.ireturn, 1) := by decide +kernel
theorem dX6_shut_30 : decode cX6_shut 30 = .ok (.aload_n 0, 1) := by decide +kernel
theorem dX6_shut_31 : decode cX6_shut 31 = .ok (.invokevirtual 53, 3) := by decide +kernel
theorem dX6_shut_34 : decode cX6_shut 34 = .ok (.aload_n 0, 1) := by decide +kernel
theorem dX6_shut_35 : decode cX6_shut 35 = .ok (.getfield 10, 3) := by decide +kernel
theorem dX6_shut_38 : decode cX6_shut 38 = .ok (.getfield 88, 3) := by decide +kernel
theorem dX6_shut_41 : decode cX6_shut 41 = .ok (.getfield 107, 3) := by decide +kernel
theorem dX6_shut_44 : decode cX6_shut 44 = .ok (.iload_n 1, 1) := by decide +kernel
theorem dX6_shut_45 : decode cX6_shut 45 = .ok (.iload_n 2, 1) := by decide +kernel
theorem dX6_shut_46 : decode cX6_shut 46 = .ok (.ifCond .eq 7, 3) := by decide +kernel
theorem dX6_shut_49 : decode cX6_shut 49 = .ok (.iconst 1, 1) := by decide +kernel
theorem dX6_shut_50 : decode cX6_shut 50 = .ok (.goto 4, 3) := by decide +kernel
theorem dX6_shut_53 : decode cX6_shut 53 = .ok (.iconst 0, 1) := by decide +kernel
theorem dX6_shut_54 : decode cX6_shut 54 = .ok (.invokevirtual 81, 3) := by decide +kernel
theorem dX6_shut_57 : decode cX6_shut 57 = .ok (.aload_n 0, 1) := by decide +kernel
theorem dX6_shut_58 : decode cX6_shut 58 = .ok (.getfield 10, 3) := by decide +kernel
theorem dX6_shut_61 : decode cX6_shut 61 = .ok (.getfield 88, 3) := by decide +kernel
theorem dX6_shut_64 : decode cX6_shut 64 = .ok (.getfield 107, 3) := by decide +kernel
theorem dX6_shut_67 : decode cX6_shut 67 = .ok (.invokevirtual 110, 3) := by decide +kernel
theorem dX6_shut_70 : decode cX6_shut 70 = .ok (.ireturn, 1) := by decide +kernel
set_option maxRecDepth 20000 in
theorem ggX6_put_X6_isStore : GoodIn wsX6_put wsX6_isStore := goodIn_r _ [9, 10, 11, 8, 12] (by decide +kernel) (by decide +kernel)
set_option maxRecDepth 20000 in
theorem gX6_put_X6_isStore : GoodIn wsX6_put (va_wsS RX6 45 yX6_isStore wsX6_isStore) := goodIn_app (goodIn_of _ (by decide +kernel)) ggX6_put_X6_isStore
set_option maxRecDepth 20000 in
theorem ggX6_put_X2_faultPlace : GoodIn wsX6_put wsX2_faultPlace := goodIn_r _ [17, 18, 19, 20, 21, 22, 23, 24, 25, 155, 156, 157] (by decide +kernel) (by decide +kernel)
set_option maxRecDepth 20000 in
theorem gX6_put_X2_faultPlace : GoodIn wsX6_put (wsV RX6 114 RX2 yX2_faultPlace wsX2_faultPlace) := goodIn_app (goodIn_of _ (by decide +kernel)) ggX6_put_X2_faultPlace
set_option maxRecDepth 20000 in
theorem ggX6_put_X2_wordsInside : GoodIn wsX6_put wsX2_wordsInside := goodIn_r _ [29, 18, 19, 20, 21, 22, 23, 24, 25, 155, 156, 157] (by decide +kernel) (by decide +kernel)
set_option maxRecDepth 20000 in
theorem gX6_put_X2_wordsInside : GoodIn wsX6_put (wsV RX6 126 RX2 yX2_wordsInside wsX2_wordsInside) := goodIn_app (goodIn_of _ (by decide +kernel)) ggX6_put_X2_wordsInside
set_option maxRecDepth 20000 in
theorem ggX6_put_X6_record : GoodIn wsX6_put wsX6_record := goodIn_r _ [33, 34, 35, 36, 37, 38, 39, 40, 41, 42, 43, 8, 44, 2, 45, 46, 47, 48, 49, 50, 51, 52, 53, 54, 55, 56, 57, 58, 59, 60, 61, 62, 63, 64, 65, 66, 67, 68, 69, 70, 23, 71, 25, 72, 73, 74, 75, 76, 77, 78, 79, 80, 81, 82, 83, 84, 85, 86, 87, 88, 89, 90, 91, 92, 93, 94, 95, 96, 97, 98, 99, 100, 101, 102, 103, 104, 132, 133, 134, 135, 136, 137, 138, 139, 140, 141, 142, 143, 144, 145, 146, 158, 159, 160, 161, 157, 162, 163, 164, 165, 166, 167, 168, 169, 147, 148, 149, 150, 151, 152, 153, 154] (by decide +kernel) (by decide +kernel)
set_option maxRecDepth 20000 in
theorem gX6_put_X6_record : GoodIn wsX6_put (wsV RX6 53 RX6 yX6_record wsX6_record) := goodIn_app (goodIn_of _ (by decide +kernel)) ggX6_put_X6_record
set_option maxRecDepth 20000 in
theorem ggX6_put_X6_bringWords : GoodIn wsX6_put wsX6_bringWords := goodIn_r _ [108, 2, 3, 1, 5, 109, 110, 111, 112, 94, 113, 103, 96, 98, 99, 114, 115, 116, 23, 117, 25, 118, 119, 120, 121, 102, 101, 122, 21, 22, 24, 123, 124, 125, 126, 127, 97, 128, 129, 130, 131, 132, 133, 134, 135, 136, 137, 138, 139, 140, 141, 142, 143, 144, 145, 146, 155, 156, 147, 148, 149, 150, 151, 152, 153, 154, 157] (by decide +kernel) (by decide +kernel)
set_option maxRecDepth 20000 in
theorem gX6_put_X6_bringWords : GoodIn wsX6_put (wsV RX6 129 RX6 yX6_bringWords wsX6_bringWords) := goodIn_app (goodIn_of _ (by decide +kernel)) ggX6_put_X6_bringWords
theorem dX6_put_0 : decode cX6_put 0 = .ok (.iload_n 1, 1) := by decide +kernel
theorem dX6_put_1 : decode cX6_put 1 = .ok (.invokestatic 45, 3) := by decide +kernel
theorem dX6_put_4 : decode cX6_put 4 = .ok (.ifCond .ne 7, 3) := by decide +kernel
theorem dX6_put_7 : decode cX6_put 7 = .ok (.sipush (-1001), 3) := by decide +kernel
theorem dX6_put_10 : decode cX6_put 10 = .ok (.ireturn, 1) := by decide +kernel
theorem dX6_put_11 : decode cX6_put 11 = .ok (.aload_n 0, 1) := by decide +kernel
theorem dX6_put_12 : decode cX6_put 12 = .ok (.getfield 22, 3) := by decide +kernel
theorem dX6_put_15 : decode cX6_put 15 = .ok (.invokevirtual 114, 3) := by decide +kernel
theorem dX6_put_18 : decode cX6_put 18 = .ok (.sipush (-1006), 3) := by decide +kernel
theorem dX6_put_21 : decode cX6_put 21 = .ok (.if_icmp .eq 7, 3) := by decide +kernel
theorem dX6_put_24 : decode cX6_put 24 = .ok (.sipush (-1003), 3) := by decide +kernel
theorem dX6_put_27 : decode cX6_put 27 = .ok (.ireturn, 1) := by decide +kernel
theorem dX6_put_28 : decode cX6_put 28 = .ok (.aload_n 0, 1) := by decide +kernel
theorem dX6_put_29 : decode cX6_put 29 = .ok (.getfield 10, 3) := by decide +kernel
theorem dX6_put_32 : decode cX6_put 32 = .ok (.getfield 117, 3) := by decide +kernel
theorem dX6_put_35 : decode cX6_put 35 = .ok (.getfield 121, 3) := by decide +kernel
theorem dX6_put_38 : decode cX6_put 38 = .ok (.aload_n 0, 1) := by decide +kernel
theorem dX6_put_39 : decode cX6_put 39 = .ok (.getfield 22, 3) := by decide +kernel
theorem dX6_put_42 : decode cX6_put 42 = .ok (.invokevirtual 126, 3) := by decide +kernel
theorem dX6_put_45 : decode cX6_put 45 = .ok (.iadd, 1) := by decide +kernel
theorem dX6_put_46 : decode cX6_put 46 = .ok (.bipush 12, 2) := by decide +kernel
theorem dX6_put_48 : decode cX6_put 48 = .ok (.if_icmp .le 7, 3) := by decide +kernel
theorem dX6_put_51 : decode cX6_put 51 = .ok (.sipush (-1004), 3) := by decide +kernel
theorem dX6_put_54 : decode cX6_put 54 = .ok (.ireturn, 1) := by decide +kernel
theorem dX6_put_55 : decode cX6_put 55 = .ok (.aload_n 0, 1) := by decide +kernel
theorem dX6_put_56 : decode cX6_put 56 = .ok (.invokevirtual 53, 3) := by decide +kernel
theorem dX6_put_59 : decode cX6_put 59 = .ok (.aload_n 0, 1) := by decide +kernel
theorem dX6_put_60 : decode cX6_put 60 = .ok (.iload_n 1, 1) := by decide +kernel
theorem dX6_put_61 : decode cX6_put 61 = .ok (.invokevirtual 129, 3) := by decide +kernel
theorem dX6_put_64 : decode cX6_put 64 = .ok (.aload_n 0, 1) := by decide +kernel
theorem dX6_put_65 : decode cX6_put 65 = .ok (.getfield 22, 3) := by decide +kernel
theorem dX6_put_68 : decode cX6_put 68 = .ok (.iconst 0, 1) := by decide +kernel
theorem dX6_put_69 : decode cX6_put 69 = .ok (.putfield 132, 3) := by decide +kernel
theorem dX6_put_72 : decode cX6_put 72 = .ok (.aload_n 0, 1) := by decide +kernel
theorem dX6_put_73 : decode cX6_put 73 = .ok (.getfield 10, 3) := by decide +kernel
theorem dX6_put_76 : decode cX6_put 76 = .ok (.getfield 117, 3) := by decide +kernel
theorem dX6_put_79 : decode cX6_put 79 = .ok (.getfield 121, 3) := by decide +kernel
theorem dX6_put_82 : decode cX6_put 82 = .ok (.ireturn, 1) := by decide +kernel
set_option maxRecDepth 20000 in
theorem ggX6_run_X6_isWithin : GoodIn wsX6_run wsX6_isWithin := goodIn_r _ [9] (by decide +kernel) (by decide +kernel)
set_option maxRecDepth 20000 in
theorem gX6_run_X6_isWithin : GoodIn wsX6_run (va_wsS RX6 49 yX6_isWithin wsX6_isWithin) := goodIn_app (goodIn_of _ (by decide +kernel)) ggX6_run_X6_isWithin
set_option maxRecDepth 20000 in
theorem ggX6_run_X6_record : GoodIn wsX6_run wsX6_record := goodIn_r _ [13, 14, 15, 16, 17, 18, 19, 20, 21, 22, 23, 8, 24, 1, 25, 26, 27, 28, 29, 30, 31, 32, 33, 34, 35, 36, 37, 38, 39, 40, 41, 42, 43, 44, 45, 46, 47, 48, 49, 50, 51, 52, 53, 54, 55, 56, 57, 58, 59, 60, 61, 62, 63, 64, 65, 66, 67, 68, 69, 70, 71, 72, 73, 74, 75, 76, 77, 78, 79, 80, 81, 82, 83, 84, 85, 86, 196, 197, 198, 199, 200, 201, 202, 203, 204, 205, 206, 207, 208, 209, 210, 219, 220, 221, 222, 223, 211, 212, 213, 214, 215, 216, 217, 218, 224, 225, 226, 227, 228, 229, 230, 231] (by decide +kernel) (by decide +kernel)
set_option maxRecDepth 20000 in
theorem gX6_run_X6_record : GoodIn wsX6_run (wsV RX6 53 RX6 yX6_record wsX6_record) := goodIn_app (goodIn_of _ (by decide +kernel)) ggX6_run_X6_record
set_option maxRecDepth 20000 in
theorem ggX6_run_X0_sum : GoodIn wsX6_run wsX0_sum := goodIn_r _ [90, 53, 223] (by decide +kernel) (by decide +kernel)
set_option maxRecDepth 20000 in
theorem gX6_run_X0_sum : GoodIn wsX6_run (wsV RX6 110 RX0 yX0_sum wsX0_sum) := goodIn_app (goodIn_of _ (by decide +kernel)) ggX6_run_X0_sum
set_option maxRecDepth 20000 in
theorem ggX6_run_X5_makeSteps : GoodIn wsX6_run wsX5_makeSteps := goodIn_r _ [94, 33, 36, 95, 96, 97, 42, 98, 99, 100, 101, 102, 47, 103, 104, 105, 106, 46, 44, 45, 107, 18, 19, 20, 108, 109, 110, 51, 111, 53, 112, 113, 114, 31, 115, 34, 38, 116, 117, 118, 62, 119, 120, 121, 122, 65, 123, 124, 125, 126, 67, 127, 128, 129, 130, 131, 132, 35, 133, 134, 135, 136, 137, 68, 138, 139, 140, 141, 76, 142, 84, 143, 144, 145, 146, 147, 83, 148, 149, 150, 151, 80, 152, 153, 154, 155, 156, 157, 158, 159, 160, 161, 162, 163, 164, 37, 165, 166, 167, 168, 169, 170, 171, 172, 173, 174, 175, 69, 176, 177, 178, 179, 180, 81, 181, 182, 183, 184, 185, 186, 187, 188, 189, 190, 191, 192, 193, 194, 195, 205, 206, 207, 208, 209, 210, 219, 220, 221, 222, 223, 211, 212, 213, 214, 215, 216, 217, 218, 224, 225, 226, 227, 228, 229, 230, 231] (by decide +kernel) (by decide +kernel)
set_option maxRecDepth 20000 in
theorem gX6_run_X5_makeSteps : GoodIn wsX6_run (wsV RX6 139 RX5 yX5_makeSteps wsX5_makeSteps) := goodIn_app (goodIn_of _ (by decide +kernel)) ggX6_run_X5_makeSteps
theorem dX6_run_0 : decode cX6_run 0 = .ok (.iload_n 1, 1) := by decide +kernel
theorem dX6_run_1 : decode cX6_run 1 = .ok (.iconst 1, 1) := by decide +kernel
theorem dX6_run_2 : decode cX6_run 2 = .ok (.sipush 500, 3) := by decide +kernel
theorem dX6_run_5 : decode cX6_run 5 = .ok (.invokestatic 49, 3) := by decide +kernel
theorem dX6_run_8 : decode cX6_run 8 = .ok (.ifCond .ne 7, 3) := by decide +kernel
theorem dX6_run_11 : decode cX6_run 11 = .ok (.sipush (-1002), 3) := by decide +kernel
theorem dX6_run_14 : decode cX6_run 14 = .ok (.ireturn, 1) := by decide +kernel
theorem dX6_run_15 : decode cX6_run 15 = .ok (.aload_n 0, 1) := by decide +kernel
theorem dX6_run_16 : decode cX6_run 16 = .ok (.getfield 10, 3) := by decide +kernel
theorem dX6_run_19 : decode cX6_run 19 = .ok (.getfield 66, 3) := by decide +kernel
theorem dX6_run_22 : decode cX6_run 22 = .ok (.iload_n 1, 1) := by decide +kernel
theorem dX6_run_23 : decode cX6_run 23 = .ok (.iadd, 1) := by decide +kernel
theorem dX6_run_24 : decode cX6_run 24 = .ok (.ldc 135, 2) := by decide +kernel
theorem dX6_run_26 : decode cX6_run 26 = .ok (.if_icmp .le 7, 3) := by decide +kernel
theorem dX6_run_29 : decode cX6_run 29 = .ok (.sipush (-1004), 3) := by decide +kernel
theorem dX6_run_32 : decode cX6_run 32 = .ok (.ireturn, 1) := by decide +kernel
theorem dX6_run_33 : decode cX6_run 33 = .ok (.aload_n 0, 1) := by decide +kernel
theorem dX6_run_34 : decode cX6_run 34 = .ok (.invokevirtual 53, 3) := by decide +kernel
theorem dX6_run_37 : decode cX6_run 37 = .ok (.aload_n 0, 1) := by decide +kernel
theorem dX6_run_38 : decode cX6_run 38 = .ok (.getfield 10, 3) := by decide +kernel
theorem dX6_run_41 : decode cX6_run 41 = .ok (.getfield 88, 3) := by decide +kernel
theorem dX6_run_44 : decode cX6_run 44 = .ok (.getfield 136, 3) := by decide +kernel
theorem dX6_run_47 : decode cX6_run 47 = .ok (.invokevirtual 110, 3) := by decide +kernel
theorem dX6_run_50 : decode cX6_run 50 = .ok (.istore_n 2, 1) := by decide +kernel
theorem dX6_run_51 : decode cX6_run 51 = .ok (.aload_n 0, 1) := by decide +kernel
theorem dX6_run_52 : decode cX6_run 52 = .ok (.getfield 10, 3) := by decide +kernel
theorem dX6_run_55 : decode cX6_run 55 = .ok (.iload_n 1, 1) := by decide +kernel
theorem dX6_run_56 : decode cX6_run 56 = .ok (.invokevirtual 139, 3) := by decide +kernel
theorem dX6_run_59 : decode cX6_run 59 = .ok (.aload_n 0, 1) := by decide +kernel
theorem dX6_run_60 : decode cX6_run 60 = .ok (.getfield 10, 3) := by decide +kernel
theorem dX6_run_63 : decode cX6_run 63 = .ok (.getfield 88, 3) := by decide +kernel
theorem dX6_run_66 : decode cX6_run 66 = .ok (.getfield 136, 3) := by decide +kernel
theorem dX6_run_69 : decode cX6_run 69 = .ok (.invokevirtual 110, 3) := by decide +kernel
theorem dX6_run_72 : decode cX6_run 72 = .ok (.iload_n 2, 1) := by decide +kernel
theorem dX6_run_73 : decode cX6_run 73 = .ok (.isub, 1) := by decide +kernel
theorem dX6_run_74 : decode cX6_run 74 = .ok (.ireturn, 1) := by decide +kernel
set_option maxRecDepth 20000 in
theorem ggX6_store_X6_isStore : GoodIn wsX6_store wsX6_isStore := goodIn_r _ [13, 14, 15, 12, 16] (by decide +kernel) (by decide +kernel)
set_option maxRecDepth 20000 in
theorem gX6_store_X6_isStore : GoodIn wsX6_store (va_wsS RX6 45 yX6_isStore wsX6_isStore) := goodIn_app (goodIn_of _ (by decide +kernel)) ggX6_store_X6_isStore
set_option maxRecDepth 20000 in
theorem ggX6_store_X0_get : GoodIn wsX6_store wsX0_get := goodIn_r _ [21, 22, 91] (by decide +kernel) (by decide +kernel)
set_option maxRecDepth 20000 in
theorem gX6_store_X0_get : GoodIn wsX6_store (wsV RX6 77 RX0 yX0_get wsX0_get) := goodIn_app (goodIn_of _ (by decide +kernel)) ggX6_store_X0_get
set_option maxRecDepth 20000 in
theorem ggX6_store_X3_levelAt : GoodIn wsX6_store wsX3_levelAt := goodIn_r _ [27, 28, 29, 30, 31, 32, 33, 34, 35, 18, 19, 20, 21, 22, 79, 80, 81, 82, 91] (by decide +kernel) (by decide +kernel)
set_option maxRecDepth 20000 in
theorem gX6_store_X3_levelAt : GoodIn wsX6_store (wsV RX6 70 RX3 yX3_levelAt wsX3_levelAt) := goodIn_app (goodIn_of _ (by decide +kernel)) ggX6_store_X3_levelAt
set_option maxRecDepth 20000 in
theorem ggX6_store_X3_toldAt : GoodIn wsX6_store wsX3_toldAt := goodIn_r _ [39, 40, 41, 24, 25, 26, 27, 28, 29, 30, 31, 32, 33, 34, 35, 18, 19, 20, 21, 22, 79, 80, 81, 82, 91] (by decide +kernel) (by decide +kernel)
set_option maxRecDepth 20000 in
theorem gX6_store_X3_toldAt : GoodIn wsX6_store (wsV RX6 151 RX3 yX3_toldAt wsX3_toldAt) := goodIn_app (goodIn_of _ (by decide +kernel)) ggX6_store_X3_toldAt
set_option maxRecDepth 20000 in
theorem ggX6_store_X4_lettersInRow : GoodIn wsX6_store wsX4_lettersInRow := goodIn_r _ [46, 47, 48, 49, 18, 19, 20, 21, 22, 50, 51, 52, 45, 53, 54, 83, 84, 85, 86, 87, 88, 89, 90, 91] (by decide +kernel) (by decide +kernel)
set_option maxRecDepth 20000 in
theorem gX6_store_X4_lettersInRow : GoodIn wsX6_store (wsV RX6 157 RX4 yX4_lettersInRow wsX4_lettersInRow) := goodIn_app (goodIn_of _ (by decide +kernel)) ggX6_store_X4_lettersInRow
set_option maxRecDepth 20000 in
theorem ggX6_store_X4_waitingInRow : GoodIn wsX6_store wsX4_waitingInRow := goodIn_r _ [58, 47, 49, 18, 19, 20, 21, 22, 50, 51, 52, 45, 53, 54, 59, 60, 61, 62, 63, 83, 84, 85, 86, 87, 88, 89, 90, 91] (by decide +kernel) (by decide +kernel)
set_option maxRecDepth 20000 in
theorem gX6_store_X4_waitingInRow : GoodIn wsX6_store (wsV RX6 160 RX4 yX4_waitingInRow wsX4_waitingInRow) := goodIn_app (goodIn_of _ (by decide +kernel)) ggX6_store_X4_waitingInRow
theorem dX6_store_0 : decode cX6_store 0 = .ok (.iload_n 1, 1) := by decide +kernel
theorem dX6_store_1 : decode cX6_store 1 = .ok (.invokestatic 45, 3) := by decide +kernel
theorem dX6_store_4 : decode cX6_store 4 = .ok (.ifCond .ne 7, 3) := by decide +kernel
theorem dX6_store_7 : decode cX6_store 7 = .ok (.sipush (-1001), 3) := by decide +kernel
theorem dX6_store_10 : decode cX6_store 10 = .ok (.ireturn, 1) := by decide +kernel
theorem dX6_store_11 : decode cX6_store 11 = .ok (.iload_n 2, 1) := by decide +kernel
theorem dX6_store_12 : decode cX6_store 12 = .ok (.tableswitch 189 0 8 #[52, 67, 82, 97, 112, 131, 150, 165, 177], 52) := by decide +kernel
theorem dX6_store_64 : decode cX6_store 64 = .ok (.aload_n 0, 1) := by decide +kernel
theorem dX6_store_65 : decode cX6_store 65 = .ok (.getfield 10, 3) := by decide +kernel
theorem dX6_store_68 : decode cX6_store 68 = .ok (.getfield 56, 3) := by decide +kernel
theorem dX6_store_71 : decode cX6_store 71 = .ok (.getfield 142, 3) := by decide +kernel
theorem dX6_store_74 : decode cX6_store 74 = .ok (.iload_n 1, 1) := by decide +kernel
theorem dX6_store_75 : decode cX6_store 75 = .ok (.invokevirtual 77, 3) := by decide +kernel
theorem dX6_store_78 : decode cX6_store 78 = .ok (.ireturn, 1) := by decide +kernel
theorem dX6_store_79 : decode cX6_store 79 = .ok (.aload_n 0, 1) := by decide +kernel
theorem dX6_store_80 : decode cX6_store 80 = .ok (.getfield 10, 3) := by decide +kernel
theorem dX6_store_83 : decode cX6_store 83 = .ok (.getfield 56, 3) := by decide +kernel
theorem dX6_store_86 : decode cX6_store 86 = .ok (.getfield 145, 3) := by decide +kernel
theorem dX6_store_89 : decode cX6_store 89 = .ok (.iload_n 1, 1) := by decide +kernel
theorem dX6_store_90 : decode cX6_store 90 = .ok (.invokevirtual 77, 3) := by decide +kernel
theorem dX6_store_93 : decode cX6_store 93 = .ok (.ireturn, 1) := by decide +kernel
theorem dX6_store_94 : decode cX6_store 94 = .ok (.aload_n 0, 1) := by decide +kernel
theorem dX6_store_95 : decode cX6_store 95 = .ok (.getfield 10, 3) := by decide +kernel
theorem dX6_store_98 : decode cX6_store 98 = .ok (.getfield 56, 3) := by decide +kernel
theorem dX6_store_101 : decode cX6_store 101 = .ok (.getfield 148, 3) := by decide +kernel
theorem dX6_store_104 : decode cX6_store 104 = .ok (.iload_n 1, 1) := by decide +kernel
theorem dX6_store_105 : decode cX6_store 105 = .ok (.invokevirtual 77, 3) := by decide +kernel
theorem dX6_store_108 : decode cX6_store 108 = .ok (.ireturn, 1) := by decide +kernel
theorem dX6_store_109 : decode cX6_store 109 = .ok (.aload_n 0, 1) := by decide +kernel
theorem dX6_store_110 : decode cX6_store 110 = .ok (.getfield 10, 3) := by decide +kernel
theorem dX6_store_113 : decode cX6_store 113 = .ok (.getfield 56, 3) := by decide +kernel
theorem dX6_store_116 : decode cX6_store 116 = .ok (.getfield 74, 3) := by decide +kernel
theorem dX6_store_119 : decode cX6_store 119 = .ok (.iload_n 1, 1) := by decide +kernel
theorem dX6_store_120 : decode cX6_store 120 = .ok (.invokevirtual 77, 3) := by decide +kernel
theorem dX6_store_123 : decode cX6_store 123 = .ok (.ireturn, 1) := by decide +kernel
theorem dX6_store_124 : decode cX6_store 124 = .ok (.aload_n 0, 1) := by decide +kernel
theorem dX6_store_125 : decode cX6_store 125 = .ok (.getfield 10, 3) := by decide +kernel
theorem dX6_store_128 : decode cX6_store 128 = .ok (.getfield 56, 3) := by decide +kernel
theorem dX6_store_131 : decode cX6_store 131 = .ok (.iload_n 1, 1) := by decide +kernel
theorem dX6_store_132 : decode cX6_store 132 = .ok (.aload_n 0, 1) := by decide +kernel
theorem dX6_store_133 : decode cX6_store 133 = .ok (.getfield 10, 3) := by decide +kernel
theorem dX6_store_136 : decode cX6_store 136 = .ok (.getfield 66, 3) := by decide +kernel
theorem dX6_store_139 : decode cX6_store 139 = .ok (.invokevirtual 70, 3) := by decide +kernel
theorem dX6_store_142 : decode cX6_store 142 = .ok (.ireturn, 1) := by decide +kernel
theorem dX6_store_143 : decode cX6_store 143 = .ok (.aload_n 0, 1) := by decide +kernel
theorem dX6_store_144 : decode cX6_store 144 = .ok (.getfield 10, 3) := by decide +kernel
theorem dX6_store_147 : decode cX6_store 147 = .ok (.getfield 56, 3) := by decide +kernel
theorem dX6_store_150 : decode cX6_store 150 = .ok (.iload_n 1, 1) := by decide +kernel
theorem dX6_store_151 : decode cX6_store 151 = .ok (.aload_n 0, 1) := by decide +kernel
theorem dX6_store_152 : decode cX6_store 152 = .ok (.getfield 10, 3) := by decide +kernel
theorem dX6_store_155 : decode cX6_store 155 = .ok (.getfield 66, 3) := by decide +kernel
theorem dX6_store_158 : decode cX6_store 158 = .ok (.invokevirtual 151, 3) := by decide +kernel
theorem dX6_store_161 : decode cX6_store 161 = .ok (.ireturn, 1) := by decide +kernel
theorem dX6_store_162 : decode cX6_store 162 = .ok (.aload_n 0, 1) := by decide +kernel
theorem dX6_store_163 : decode cX6_store 163 = .ok (.getfield 10, 3) := by decide +kernel
theorem dX6_store_166 : decode cX6_store 166 = .ok (.getfield 117, 3) := by decide +kernel
theorem dX6_store_169 : decode cX6_store 169 = .ok (.getfield 154, 3) := by decide +kernel
theorem dX6_store_172 : decode cX6_store 172 = .ok (.iload_n 1, 1) := by decide +kernel
theorem dX6_store_173 : decode cX6_store 173 = .ok (.invokevirtual 77, 3) := by decide +kernel
theorem dX6_store_176 : decode cX6_store 176 = .ok (.ireturn, 1) := by decide +kernel
theorem dX6_store_177 : decode cX6_store 177 = .ok (.aload_n 0, 1) := by decide +kernel
theorem dX6_store_178 : decode cX6_store 178 = .ok (.getfield 10, 3) := by decide +kernel
theorem dX6_store_181 : decode cX6_store 181 = .ok (.getfield 117, 3) := by decide +kernel
theorem dX6_store_184 : decode cX6_store 184 = .ok (.iload_n 1, 1) := by decide +kernel
theorem dX6_store_185 : decode cX6_store 185 = .ok (.invokevirtual 157, 3) := by decide +kernel
theorem dX6_store_188 : decode cX6_store 188 = .ok (.ireturn, 1) := by decide +kernel
theorem dX6_store_189 : decode cX6_store 189 = .ok (.aload_n 0, 1) := by decide +kernel
theorem dX6_store_190 : decode cX6_store 190 = .ok (.getfield 10, 3) := by decide +kernel
theorem dX6_store_193 : decode cX6_store 193 = .ok (.getfield 117, 3) := by decide +kernel
theorem dX6_store_196 : decode cX6_store 196 = .ok (.iload_n 1, 1) := by decide +kernel
theorem dX6_store_197 : decode cX6_store 197 = .ok (.invokevirtual 160, 3) := by decide +kernel
theorem dX6_store_200 : decode cX6_store 200 = .ok (.ireturn, 1) := by decide +kernel
theorem dX6_store_201 : decode cX6_store 201 = .ok (.sipush (-1002), 3) := by decide +kernel
theorem dX6_store_204 : decode cX6_store 204 = .ok (.ireturn, 1) := by decide +kernel
set_option maxRecDepth 20000 in
theorem ggX6_gateOf_X6_isGate : GoodIn wsX6_gateOf wsX6_isGate := goodIn_r _ [15, 16, 17, 14, 18] (by decide +kernel) (by decide +kernel)
set_option maxRecDepth 20000 in
theorem gX6_gateOf_X6_isGate : GoodIn wsX6_gateOf (va_wsS RX6 85 yX6_isGate wsX6_isGate) := goodIn_app (goodIn_of _ (by decide +kernel)) ggX6_gateOf_X6_isGate
set_option maxRecDepth 20000 in
theorem ggX6_gateOf_X0_get : GoodIn wsX6_gateOf wsX0_get := goodIn_r _ [23, 24, 92] (by decide +kernel) (by decide +kernel)
set_option maxRecDepth 20000 in
theorem gX6_gateOf_X0_get : GoodIn wsX6_gateOf (wsV RX6 77 RX0 yX0_get wsX0_get) := goodIn_app (goodIn_of _ (by decide +kernel)) ggX6_gateOf_X0_get
set_option maxRecDepth 20000 in
theorem ggX6_gateOf_X5_isOpenAt : GoodIn wsX6_gateOf wsX5_isOpenAt := goodIn_r _ [29, 30, 31, 32, 33, 34, 35, 36, 37, 38, 39, 40, 41, 42, 43, 44, 45, 46, 47, 48, 49, 50, 51, 52, 53, 20, 21, 22, 23, 24, 54, 55, 56, 57, 58, 59, 60, 61, 62, 63, 64, 65, 66, 67, 68, 78, 79, 80, 81, 82, 83, 93, 94, 95, 96, 92, 84, 85, 86, 87, 88, 89, 90, 91] (by decide +kernel) (by decide +kernel)
set_option maxRecDepth 20000 in
theorem gX6_gateOf_X5_isOpenAt : GoodIn wsX6_gateOf (wsV RX6 166 RX5 yX5_isOpenAt wsX5_isOpenAt) := goodIn_app (goodIn_of _ (by decide +kernel)) ggX6_gateOf_X5_isOpenAt
theorem dX6_gateOf_0 : decode cX6_gateOf 0 = .ok (.iload_n 1, 1) := by decide +kernel
theorem dX6_gateOf_1 : decode cX6_gateOf 1 = .ok (.invokestatic 85, 3) := by decide +kernel
theorem dX6_gateOf_4 : decode cX6_gateOf 4 = .ok (.ifCond .ne 7, 3) := by decide +kernel
theorem dX6_gateOf_7 : decode cX6_gateOf 7 = .ok (.sipush (-1001), 3) := by decide +kernel
theorem dX6_gateOf_10 : decode cX6_gateOf 10 = .ok (.ireturn, 1) := by decide +kernel
theorem dX6_gateOf_11 : decode cX6_gateOf 11 = .ok (.iload_n 2, 1) := by decide +kernel
theorem dX6_gateOf_12 : decode cX6_gateOf 12 = .ok (.tableswitch 196 0 8 #[52, 67, 82, 97, 112, 136, 151, 166, 181], 52) := by decide +kernel
theorem dX6_gateOf_64 : decode cX6_gateOf 64 = .ok (.aload_n 0, 1) := by decide +kernel
theorem dX6_gateOf_65 : decode cX6_gateOf 65 = .ok (.getfield 10, 3) := by decide +kernel
theorem dX6_gateOf_68 : decode cX6_gateOf 68 = .ok (.getfield 88, 3) := by decide +kernel
theorem dX6_gateOf_71 : decode cX6_gateOf 71 = .ok (.getfield 97, 3) := by decide +kernel
theorem dX6_gateOf_74 : decode cX6_gateOf 74 = .ok (.iload_n 1, 1) := by decide +kernel
theorem dX6_gateOf_75 : decode cX6_gateOf 75 = .ok (.invokevirtual 77, 3) := by decide +kernel
theorem dX6_gateOf_78 : decode cX6_gateOf 78 = .ok (.ireturn, 1) := by decide +kernel
theorem dX6_gateOf_79 : decode cX6_gateOf 79 = .ok (.aload_n 0, 1) := by decide +kernel
theorem dX6_gateOf_80 : decode cX6_gateOf 80 = .ok (.getfield 10, 3) := by decide +kernel
theorem dX6_gateOf_83 : decode cX6_gateOf 83 = .ok (.getfield 88, 3) := by decide +kernel
theorem dX6_gateOf_86 : decode cX6_gateOf 86 = .ok (.getfield 100, 3) := by decide +kernel
theorem dX6_gateOf_89 : decode cX6_gateOf 89 = .ok (.iload_n 1, 1) := by decide +kernel
theorem dX6_gateOf_90 : decode cX6_gateOf 90 = .ok (.invokevirtual 77, 3) := by decide +kernel
theorem dX6_gateOf_93 : decode cX6_gateOf 93 = .ok (.ireturn, 1) := by decide +kernel
theorem dX6_gateOf_94 : decode cX6_gateOf 94 = .ok (.aload_n 0, 1) := by decide +kernel
theorem dX6_gateOf_95 : decode cX6_gateOf 95 = .ok (.getfield 10, 3) := by decide +kernel
theorem dX6_gateOf_98 : decode cX6_gateOf 98 = .ok (.getfield 88, 3) := by decide +kernel
theorem dX6_gateOf_101 : decode cX6_gateOf 101 = .ok (.getfield 163, 3) := by decide +kernel
theorem dX6_gateOf_104 : decode cX6_gateOf 104 = .ok (.iload_n 1, 1) := by decide +kernel
theorem dX6_gateOf_105 : decode cX6_gateOf 105 = .ok (.invokevirtual 77, 3) := by decide +kernel
theorem dX6_gateOf_108 : decode cX6_gateOf 108 = .ok (.ireturn, 1) := by decide +kernel
theorem dX6_gateOf_109 : decode cX6_gateOf 109 = .ok (.aload_n 0, 1) := by decide +kernel
theorem dX6_gateOf_110 : decode cX6_gateOf 110 = .ok (.getfield 10, 3) := by decide +kernel
theorem dX6_gateOf_113 : decode cX6_gateOf 113 = .ok (.getfield 88, 3) := by decide +kernel
theorem dX6_gateOf_116 : decode cX6_gateOf 116 = .ok (.getfield 107, 3) := by decide +kernel
theorem dX6_gateOf_119 : decode cX6_gateOf 119 = .ok (.iload_n 1, 1) := by decide +kernel
theorem dX6_gateOf_120 : decode cX6_gateOf 120 = .ok (.invokevirtual 77, 3) := by decide +kernel
theorem dX6_gateOf_123 : decode cX6_gateOf 123 = .ok (.ireturn, 1) := by decide +kernel
theorem dX6_gateOf_124 : decode cX6_gateOf 124 = .ok (.aload_n 0, 1) := by decide +kernel
theorem dX6_gateOf_125 : decode cX6_gateOf 125 = .ok (.getfield 10, 3) := by decide +kernel
theorem dX6_gateOf_128 : decode cX6_gateOf 128 = .ok (.iload_n 1, 1) := by decide +kernel
theorem dX6_gateOf_129 : decode cX6_gateOf 129 = .ok (.aload_n 0, 1) := by decide +kernel
theorem dX6_gateOf_130 : decode cX6_gateOf 130 = .ok (.getfield 10, 3) := by decide +kernel
theorem dX6_gateOf_133 : decode cX6_gateOf 133 = .ok (.getfield 66, 3) := by decide +kernel
theorem dX6_gateOf_136 : decode cX6_gateOf 136 = .ok (.invokevirtual 166, 3) := by decide +kernel
theorem dX6_gateOf_139 : decode cX6_gateOf 139 = .ok (.ifCond .eq 7, 3) := by decide +kernel
theorem dX6_gateOf_142 : decode cX6_gateOf 142 = .ok (.iconst 1, 1) := by decide +kernel
theorem dX6_gateOf_143 : decode cX6_gateOf 143 = .ok (.goto 4, 3) := by decide +kernel
theorem dX6_gateOf_146 : decode cX6_gateOf 146 = .ok (.iconst 0, 1) := by decide +kernel
theorem dX6_gateOf_147 : decode cX6_gateOf 147 = .ok (.ireturn, 1) := by decide +kernel
theorem dX6_gateOf_148 : decode cX6_gateOf 148 = .ok (.aload_n 0, 1) := by decide +kernel
theorem dX6_gateOf_149 : decode cX6_gateOf 149 = .ok (.getfield 10, 3) := by decide +kernel
theorem dX6_gateOf_152 : decode cX6_gateOf 152 = .ok (.getfield 88, 3) := by decide +kernel
theorem dX6_gateOf_155 : decode cX6_gateOf 155 = .ok (.getfield 170, 3) := by decide +kernel
theorem dX6_gateOf_158 : decode cX6_gateOf 158 = .ok (.iload_n 1, 1) := by decide +kernel
theorem dX6_gateOf_159 : decode cX6_gateOf 159 = .ok (.invokevirtual 77, 3) := by decide +kernel
theorem dX6_gateOf_162 : decode cX6_gateOf 162 = .ok (.ireturn, 1) := by decide +kernel
theorem dX6_gateOf_163 : decode cX6_gateOf 163 = .ok (.aload_n 0, 1) := by decide +kernel
theorem dX6_gateOf_164 : decode cX6_gateOf 164 = .ok (.getfield 10, 3) := by decide +kernel
theorem dX6_gateOf_167 : decode cX6_gateOf 167 = .ok (.getfield 88, 3) := by decide +kernel
theorem dX6_gateOf_170 : decode cX6_gateOf 170 = .ok (.getfield 173, 3) := by decide +kernel
theorem dX6_gateOf_173 : decode cX6_gateOf 173 = .ok (.iload_n 1, 1) := by decide +kernel
theorem dX6_gateOf_174 : decode cX6_gateOf 174 = .ok (.invokevirtual 77, 3) := by decide +kernel
theorem dX6_gateOf_177 : decode cX6_gateOf 177 = .ok (.ireturn, 1) := by decide +kernel
theorem dX6_gateOf_178 : decode cX6_gateOf 178 = .ok (.aload_n 0, 1) := by decide +kernel
theorem dX6_gateOf_179 : decode cX6_gateOf 179 = .ok (.getfield 10, 3) := by decide +kernel
theorem dX6_gateOf_182 : decode cX6_gateOf 182 = .ok (.getfield 88, 3) := by decide +kernel
theorem dX6_gateOf_185 : decode cX6_gateOf 185 = .ok (.getfield 136, 3) := by decide +kernel
theorem dX6_gateOf_188 : decode cX6_gateOf 188 = .ok (.iload_n 1, 1) := by decide +kernel
theorem dX6_gateOf_189 : decode cX6_gateOf 189 = .ok (.invokevirtual 77, 3) := by decide +kernel
theorem dX6_gateOf_192 : decode cX6_gateOf 192 = .ok (.ireturn, 1) := by decide +kernel
theorem dX6_gateOf_193 : decode cX6_gateOf 193 = .ok (.aload_n 0, 1) := by decide +kernel
theorem dX6_gateOf_194 : decode cX6_gateOf 194 = .ok (.getfield 10, 3) := by decide +kernel
theorem dX6_gateOf_197 : decode cX6_gateOf 197 = .ok (.getfield 88, 3) := by decide +kernel
theorem dX6_gateOf_200 : decode cX6_gateOf 200 = .ok (.getfield 176, 3) := by decide +kernel
theorem dX6_gateOf_203 : decode cX6_gateOf 203 = .ok (.iload_n 1, 1) := by decide +kernel
theorem dX6_gateOf_204 : decode cX6_gateOf 204 = .ok (.invokevirtual 77, 3) := by decide +kernel
theorem dX6_gateOf_207 : decode cX6_gateOf 207 = .ok (.ireturn, 1) := by decide +kernel
theorem dX6_gateOf_208 : decode cX6_gateOf 208 = .ok (.sipush (-1002), 3) := by decide +kernel
theorem dX6_gateOf_211 : decode cX6_gateOf 211 = .ok (.ireturn, 1) := by decide +kernel
set_option maxRecDepth 20000 in
theorem ggX6_word_X6_isWord : GoodIn wsX6_word wsX6_isWord := goodIn_r _ [11, 1, 2, 12, 13, 14, 10, 15, 64, 65, 66, 67, 68, 69, 70, 71, 72, 73, 74, 75, 76, 77, 78, 79, 80, 81, 82, 83, 84, 85, 86] (by decide +kernel) (by decide +kernel)
set_option maxRecDepth 20000 in
theorem gX6_word_X6_isWord : GoodIn wsX6_word (wsV RX6 179 RX6 yX6_isWord wsX6_isWord) := goodIn_app (goodIn_of _ (by decide +kernel)) ggX6_word_X6_isWord
set_option maxRecDepth 20000 in
theorem ggX6_word_X5_whereIs : GoodIn wsX6_word wsX5_whereIs := goodIn_r _ [20, 21, 22, 23, 24, 25, 26, 27, 28, 29, 30, 31, 32, 33, 34, 35, 36, 37, 38, 39, 40, 41, 42, 43, 44, 45, 46, 73, 74, 75, 76, 77, 78, 87, 88, 89, 90, 91, 92, 93, 94, 95, 79, 80, 81, 82, 83, 84, 85, 86] (by decide +kernel) (by decide +kernel)
set_option maxRecDepth 20000 in
theorem gX6_word_X5_whereIs : GoodIn wsX6_word (wsV RX6 182 RX5 yX5_whereIs wsX5_whereIs) := goodIn_app (goodIn_of _ (by decide +kernel)) ggX6_word_X5_whereIs
set_option maxRecDepth 20000 in
theorem ggX6_word_X4_placeOf : GoodIn wsX6_word wsX4_placeOf := goodIn_r _ [50, 51, 36, 37, 38, 39, 40, 41, 30, 31, 32, 33, 34, 42, 43, 44, 45, 46, 79, 80, 81, 82, 83, 84, 85, 86, 95] (by decide +kernel) (by decide +kernel)
set_option maxRecDepth 20000 in
theorem gX6_word_X4_placeOf : GoodIn wsX6_word (wsV RX6 185 RX4 yX4_placeOf wsX4_placeOf) := goodIn_app (goodIn_of _ (by decide +kernel)) ggX6_word_X4_placeOf
set_option maxRecDepth 20000 in
theorem ggX6_word_X0_get : GoodIn wsX6_word wsX0_get := goodIn_r _ [33, 34, 95] (by decide +kernel) (by decide +kernel)
set_option maxRecDepth 20000 in
theorem gX6_word_X0_get : GoodIn wsX6_word (wsV RX6 77 RX0 yX0_get wsX0_get) := goodIn_app (goodIn_of _ (by decide +kernel)) ggX6_word_X0_get
set_option maxRecDepth 20000 in
theorem ggX6_word_X4_hasPassed : GoodIn wsX6_word wsX4_hasPassed := goodIn_r _ [56, 57, 41, 30, 31, 32, 33, 34, 79, 80, 81, 82, 83, 84, 85, 86, 95] (by decide +kernel) (by decide +kernel)
set_option maxRecDepth 20000 in
theorem gX6_word_X4_hasPassed : GoodIn wsX6_word (wsV RX6 191 RX4 yX4_hasPassed wsX4_hasPassed) := goodIn_app (goodIn_of _ (by decide +kernel)) ggX6_word_X4_hasPassed
set_option maxRecDepth 20000 in
theorem ggX6_word_X4_letterOf : GoodIn wsX6_word wsX4_letterOf := goodIn_r _ [61, 62, 63, 41, 30, 31, 32, 33, 34, 79, 80, 81, 82, 83, 84, 85, 86, 95] (by decide +kernel) (by decide +kernel)
set_option maxRecDepth 20000 in
theorem gX6_word_X4_letterOf : GoodIn wsX6_word (wsV RX6 203 RX4 yX4_letterOf wsX4_letterOf) := goodIn_app (goodIn_of _ (by decide +kernel)) ggX6_word_X4_letterOf
theorem dX6_word_0 : decode cX6_word 0 = .ok (.aload_n 0, 1) := by decide +kernel
theorem dX6_word_1 : decode cX6_word 1 = .ok (.iload_n 1, 1) := by decide +kernel
theorem dX6_word_2 : decode cX6_word 2 = .ok (.invokevirtual 179, 3) := by decide +kernel
theorem dX6_word_5 : decode cX6_word 5 = .ok (.ifCond .ne 7, 3) := by decide +kernel
theorem dX6_word_8 : decode cX6_word 8 = .ok (.sipush (-1001), 3) := by decide +kernel
theorem dX6_word_11 : decode cX6_word 11 = .ok (.ireturn, 1) := by decide +kernel
theorem dX6_word_12 : decode cX6_word 12 = .ok (.iload_n 2, 1) := by decide +kernel
theorem dX6_word_13 : decode cX6_word 13 = .ok (.ifCond .ge 7, 3) := by decide +kernel
theorem dX6_word_16 : decode cX6_word 16 = .ok (.sipush (-1002), 3) := by decide +kernel
theorem dX6_word_19 : decode cX6_word 19 = .ok (.ireturn, 1) := by decide +kernel
theorem dX6_word_20 : decode cX6_word 20 = .ok (.iload_n 2, 1) := by decide +kernel
theorem dX6_word_21 : decode cX6_word 21 = .ok (.tableswitch 144 0 6 #[43, 52, 64, 79, 99, 114, 129], 43) := by decide +kernel
theorem dX6_word_64 : decode cX6_word 64 = .ok (.aload_n 0, 1) := by decide +kernel
theorem dX6_word_65 : decode cX6_word 65 = .ok (.getfield 10, 3) := by decide +kernel
theorem dX6_word_68 : decode cX6_word 68 = .ok (.iload_n 1, 1) := by decide +kernel
theorem dX6_word_69 : decode cX6_word 69 = .ok (.invokevirtual 182, 3) := by decide +kernel
theorem dX6_word_72 : decode cX6_word 72 = .ok (.ireturn, 1) := by decide +kernel
theorem dX6_word_73 : decode cX6_word 73 = .ok (.aload_n 0, 1) := by decide +kernel
theorem dX6_word_74 : decode cX6_word 74 = .ok (.getfield 10, 3) := by decide +kernel
theorem dX6_word_77 : decode cX6_word 77 = .ok (.getfield 117, 3) := by decide +kernel
theorem dX6_word_80 : decode cX6_word 80 = .ok (.iload_n 1, 1) := by decide +kernel
theorem dX6_word_81 : decode cX6_word 81 = .ok (.invokevirtual 185, 3) := by decide +kernel
theorem dX6_word_84 : decode cX6_word 84 = .ok (.ireturn, 1) := by decide +kernel
theorem dX6_word_85 : decode cX6_word 85 = .ok (.aload_n 0, 1) := by decide +kernel
theorem dX6_word_86 : decode cX6_word 86 = .ok (.getfield 10, 3) := by decide +kernel
theorem dX6_word_89 : decode cX6_word 89 = .ok (.getfield 117, 3) := by decide +kernel
theorem dX6_word_92 : decode cX6_word 92 = .ok (.getfield 188, 3) := by decide +kernel
theorem dX6_word_95 : decode cX6_word 95 = .ok (.iload_n 1, 1) := by decide +kernel
theorem dX6_word_96 : decode cX6_word 96 = .ok (.invokevirtual 77, 3) := by decide +kernel
theorem dX6_word_99 : decode cX6_word 99 = .ok (.ireturn, 1) := by decide +kernel
theorem dX6_word_100 : decode cX6_word 100 = .ok (.aload_n 0, 1) := by decide +kernel
theorem dX6_word_101 : decode cX6_word 101 = .ok (.getfield 10, 3) := by decide +kernel
theorem dX6_word_104 : decode cX6_word 104 = .ok (.getfield 117, 3) := by decide +kernel
theorem dX6_word_107 : decode cX6_word 107 = .ok (.iload_n 1, 1) := by decide +kernel
theorem dX6_word_108 : decode cX6_word 108 = .ok (.invokevirtual 191, 3) := by decide +kernel
theorem dX6_word_111 : decode cX6_word 111 = .ok (.ifCond .eq 7, 3) := by decide +kernel
theorem dX6_word_114 : decode cX6_word 114 = .ok (.iconst 1, 1) := by decide +kernel
theorem dX6_word_115 : decode cX6_word 115 = .ok (.goto 4, 3) := by decide +kernel
theorem dX6_word_118 : decode cX6_word 118 = .ok (.iconst 0, 1) := by decide +kernel
theorem dX6_word_119 : decode cX6_word 119 = .ok (.ireturn, 1) := by decide +kernel
theorem dX6_word_120 : decode cX6_word 120 = .ok (.aload_n 0, 1) := by decide +kernel
theorem dX6_word_121 : decode cX6_word 121 = .ok (.getfield 10, 3) := by decide +kernel
theorem dX6_word_124 : decode cX6_word 124 = .ok (.getfield 117, 3) := by decide +kernel
theorem dX6_word_127 : decode cX6_word 127 = .ok (.getfield 194, 3) := by decide +kernel
theorem dX6_word_130 : decode cX6_word 130 = .ok (.iload_n 1, 1) := by decide +kernel
theorem dX6_word_131 : decode cX6_word 131 = .ok (.invokevirtual 77, 3) := by decide +kernel
theorem dX6_word_134 : decode cX6_word 134 = .ok (.ireturn, 1) := by decide +kernel
theorem dX6_word_135 : decode cX6_word 135 = .ok (.aload_n 0, 1) := by decide +kernel
theorem dX6_word_136 : decode cX6_word 136 = .ok (.getfield 10, 3) := by decide +kernel
theorem dX6_word_139 : decode cX6_word 139 = .ok (.getfield 117, 3) := by decide +kernel
theorem dX6_word_142 : decode cX6_word 142 = .ok (.getfield 197, 3) := by decide +kernel
theorem dX6_word_145 : decode cX6_word 145 = .ok (.iload_n 1, 1) := by decide +kernel
theorem dX6_word_146 : decode cX6_word 146 = .ok (.invokevirtual 77, 3) := by decide +kernel
theorem dX6_word_149 : decode cX6_word 149 = .ok (.ireturn, 1) := by decide +kernel
theorem dX6_word_150 : decode cX6_word 150 = .ok (.aload_n 0, 1) := by decide +kernel
theorem dX6_word_151 : decode cX6_word 151 = .ok (.getfield 10, 3) := by decide +kernel
theorem dX6_word_154 : decode cX6_word 154 = .ok (.getfield 117, 3) := by decide +kernel
theorem dX6_word_157 : decode cX6_word 157 = .ok (.getfield 200, 3) := by decide +kernel
theorem dX6_word_160 : decode cX6_word 160 = .ok (.iload_n 1, 1) := by decide +kernel
theorem dX6_word_161 : decode cX6_word 161 = .ok (.invokevirtual 77, 3) := by decide +kernel
theorem dX6_word_164 : decode cX6_word 164 = .ok (.ireturn, 1) := by decide +kernel
theorem dX6_word_165 : decode cX6_word 165 = .ok (.aload_n 0, 1) := by decide +kernel
theorem dX6_word_166 : decode cX6_word 166 = .ok (.getfield 10, 3) := by decide +kernel
theorem dX6_word_169 : decode cX6_word 169 = .ok (.getfield 117, 3) := by decide +kernel
theorem dX6_word_172 : decode cX6_word 172 = .ok (.iload_n 1, 1) := by decide +kernel
theorem dX6_word_173 : decode cX6_word 173 = .ok (.iload_n 2, 1) := by decide +kernel
theorem dX6_word_174 : decode cX6_word 174 = .ok (.bipush 7, 2) := by decide +kernel
theorem dX6_word_176 : decode cX6_word 176 = .ok (.isub, 1) := by decide +kernel
theorem dX6_word_177 : decode cX6_word 177 = .ok (.invokevirtual 203, 3) := by decide +kernel
theorem dX6_word_180 : decode cX6_word 180 = .ok (.ireturn, 1) := by decide +kernel
set_option maxRecDepth 20000 in
theorem ggX6_at_X6_isStore : GoodIn wsX6_at wsX6_isStore := goodIn_r _ [7, 8, 9, 6, 10] (by decide +kernel) (by decide +kernel)
set_option maxRecDepth 20000 in
theorem gX6_at_X6_isStore : GoodIn wsX6_at (va_wsS RX6 45 yX6_isStore wsX6_isStore) := goodIn_app (goodIn_of _ (by decide +kernel)) ggX6_at_X6_isStore
set_option maxRecDepth 20000 in
theorem ggX6_at_X0_get : GoodIn wsX6_at wsX0_get := goodIn_r _ [15, 16, 47] (by decide +kernel) (by decide +kernel)
set_option maxRecDepth 20000 in
theorem gX6_at_X0_get : GoodIn wsX6_at (wsV RX6 77 RX0 yX0_get wsX0_get) := goodIn_app (goodIn_of _ (by decide +kernel)) ggX6_at_X0_get
set_option maxRecDepth 20000 in
theorem ggX6_at_X6_isWithin : GoodIn wsX6_at wsX6_isWithin := goodIn_r _ [10] (by decide +kernel) (by decide +kernel)
set_option maxRecDepth 20000 in
theorem gX6_at_X6_isWithin : GoodIn wsX6_at (va_wsS RX6 49 yX6_isWithin wsX6_isWithin) := goodIn_app (goodIn_of _ (by decide +kernel)) ggX6_at_X6_isWithin
set_option maxRecDepth 20000 in
theorem ggX6_at_X4_wordAt : GoodIn wsX6_at wsX4_wordAt := goodIn_r _ [21, 22, 23, 12, 13, 14, 15, 16, 39, 40, 41, 42, 43, 44, 45, 46, 47] (by decide +kernel) (by decide +kernel)
set_option maxRecDepth 20000 in
theorem gX6_at_X4_wordAt : GoodIn wsX6_at (wsV RX6 206 RX4 yX4_wordAt wsX4_wordAt) := goodIn_app (goodIn_of _ (by decide +kernel)) ggX6_at_X4_wordAt
theorem dX6_at_0 : decode cX6_at 0 = .ok (.iload_n 1, 1) := by decide +kernel
theorem dX6_at_1 : decode cX6_at 1 = .ok (.invokestatic 45, 3) := by decide +kernel
theorem dX6_at_4 : decode cX6_at 4 = .ok (.ifCond .eq 27, 3) := by decide +kernel
theorem dX6_at_7 : decode cX6_at 7 = .ok (.iload_n 2, 1) := by decide +kernel
theorem dX6_at_8 : decode cX6_at 8 = .ok (.iconst 0, 1) := by decide +kernel
theorem dX6_at_9 : decode cX6_at 9 = .ok (.aload_n 0, 1) := by decide +kernel
theorem dX6_at_10 : decode cX6_at 10 = .ok (.getfield 10, 3) := by decide +kernel
theorem dX6_at_13 : decode cX6_at 13 = .ok (.getfield 117, 3) := by decide +kernel
theorem dX6_at_16 : decode cX6_at 16 = .ok (.getfield 154, 3) := by decide +kernel
theorem dX6_at_19 : decode cX6_at 19 = .ok (.iload_n 1, 1) := by decide +kernel
theorem dX6_at_20 : decode cX6_at 20 = .ok (.invokevirtual 77, 3) := by decide +kernel
theorem dX6_at_23 : decode cX6_at 23 = .ok (.iconst 1, 1) := by decide +kernel
theorem dX6_at_24 : decode cX6_at 24 = .ok (.isub, 1) := by decide +kernel
theorem dX6_at_25 : decode cX6_at 25 = .ok (.invokestatic 49, 3) := by decide +kernel
theorem dX6_at_28 : decode cX6_at 28 = .ok (.ifCond .ne 7, 3) := by decide +kernel
theorem dX6_at_31 : decode cX6_at 31 = .ok (.sipush (-1001), 3) := by decide +kernel
theorem dX6_at_34 : decode cX6_at 34 = .ok (.ireturn, 1) := by decide +kernel
theorem dX6_at_35 : decode cX6_at 35 = .ok (.aload_n 0, 1) := by decide +kernel
theorem dX6_at_36 : decode cX6_at 36 = .ok (.getfield 10, 3) := by decide +kernel
theorem dX6_at_39 : decode cX6_at 39 = .ok (.getfield 117, 3) := by decide +kernel
theorem dX6_at_42 : decode cX6_at 42 = .ok (.iload_n 1, 1) := by decide +kernel
theorem dX6_at_43 : decode cX6_at 43 = .ok (.iload_n 2, 1) := by decide +kernel
theorem dX6_at_44 : decode cX6_at 44 = .ok (.invokevirtual 206, 3) := by decide +kernel
theorem dX6_at_47 : decode cX6_at 47 = .ok (.ireturn, 1) := by decide +kernel
set_option maxRecDepth 20000 in
theorem ggX6_count_X0_sum : GoodIn wsX6_count wsX0_sum := goodIn_r _ [17, 18, 130] (by decide +kernel) (by decide +kernel)
set_option maxRecDepth 20000 in
theorem gX6_count_X0_sum : GoodIn wsX6_count (wsV RX6 110 RX0 yX0_sum wsX0_sum) := goodIn_app (goodIn_of _ (by decide +kernel)) ggX6_count_X0_sum
set_option maxRecDepth 20000 in
theorem ggX6_count_X4_waitingInRow : GoodIn wsX6_count wsX4_waitingInRow := goodIn_r _ [23, 24, 25, 26, 27, 16, 28, 18, 29, 30, 31, 22, 32, 33, 34, 35, 36, 37, 38, 112, 113, 114, 115, 116, 117, 118, 119, 130] (by decide +kernel) (by decide +kernel)
set_option maxRecDepth 20000 in
theorem gX6_count_X4_waitingInRow : GoodIn wsX6_count (wsV RX6 160 RX4 yX4_waitingInRow wsX4_waitingInRow) := goodIn_app (goodIn_of _ (by decide +kernel)) ggX6_count_X4_waitingInRow
set_option maxRecDepth 20000 in
theorem ggX6_count_X1_wordsInside : GoodIn wsX6_count wsX1_wordsInside := goodIn_r _ [43, 44, 45, 46, 42, 47, 48, 49, 26, 27, 16, 28, 18, 120, 121, 122, 123, 124, 125, 126, 127, 130] (by decide +kernel) (by decide +kernel)
set_option maxRecDepth 20000 in
theorem gX6_count_X1_wordsInside : GoodIn wsX6_count (wsV RX6 209 RX1 yX1_wordsInside wsX1_wordsInside) := goodIn_app (goodIn_of _ (by decide +kernel)) ggX6_count_X1_wordsInside
set_option maxRecDepth 20000 in
theorem ggX6_count_X5_openMask : GoodIn wsX6_count wsX5_openMask := goodIn_r _ [54, 55, 56, 57, 58, 53, 59, 60, 61, 62, 63, 64, 65, 66, 67, 68, 69, 70, 71, 72, 73, 74, 75, 76, 77, 78, 79, 80, 81, 82, 83, 26, 27, 16, 28, 18, 84, 85, 86, 42, 87, 88, 89, 90, 91, 92, 93, 94, 95, 96, 49, 106, 107, 108, 109, 110, 111, 131, 132, 133, 134, 130, 120, 121, 122, 123, 124, 125, 126, 127] (by decide +kernel) (by decide +kernel)
set_option maxRecDepth 20000 in
theorem gX6_count_X5_openMask : GoodIn wsX6_count (wsV RX6 213 RX5 yX5_openMask wsX5_openMask) := goodIn_app (goodIn_of _ (by decide +kernel)) ggX6_count_X5_openMask
theorem dX6_count_0 : decode cX6_count 0 = .ok (.iload_n 1, 1) := by decide +kernel
theorem dX6_count_1 : decode cX6_count 1 = .ok (.tableswitch 178 0 10 #[59, 67, 78, 92, 116, 127, 135, 149, 157, 165, 173], 59) := by decide +kernel
theorem dX6_count_60 : decode cX6_count 60 = .ok (.aload_n 0, 1) := by decide +kernel
theorem dX6_count_61 : decode cX6_count 61 = .ok (.getfield 10, 3) := by decide +kernel
theorem dX6_count_64 : decode cX6_count 64 = .ok (.getfield 66, 3) := by decide +kernel
theorem dX6_count_67 : decode cX6_count 67 = .ok (.ireturn, 1) := by decide +kernel
theorem dX6_count_68 : decode cX6_count 68 = .ok (.aload_n 0, 1) := by decide +kernel
theorem dX6_count_69 : decode cX6_count 69 = .ok (.getfield 10, 3) := by decide +kernel
theorem dX6_count_72 : decode cX6_count 72 = .ok (.getfield 117, 3) := by decide +kernel
theorem dX6_count_75 : decode cX6_count 75 = .ok (.getfield 121, 3) := by decide +kernel
theorem dX6_count_78 : decode cX6_count 78 = .ok (.ireturn, 1) := by decide +kernel
theorem dX6_count_79 : decode cX6_count 79 = .ok (.aload_n 0, 1) := by decide +kernel
theorem dX6_count_80 : decode cX6_count 80 = .ok (.getfield 10, 3) := by decide +kernel
theorem dX6_count_83 : decode cX6_count 83 = .ok (.getfield 88, 3) := by decide +kernel
theorem dX6_count_86 : decode cX6_count 86 = .ok (.getfield 136, 3) := by decide +kernel
theorem dX6_count_89 : decode cX6_count 89 = .ok (.invokevirtual 110, 3) := by decide +kernel
theorem dX6_count_92 : decode cX6_count 92 = .ok (.ireturn, 1) := by decide +kernel
theorem dX6_count_93 : decode cX6_count 93 = .ok (.aload_n 0, 1) := by decide +kernel
theorem dX6_count_94 : decode cX6_count 94 = .ok (.getfield 10, 3) := by decide +kernel
theorem dX6_count_97 : decode cX6_count 97 = .ok (.getfield 117, 3) := by decide +kernel
theorem dX6_count_100 : decode cX6_count 100 = .ok (.iconst 0, 1) := by decide +kernel
theorem dX6_count_101 : decode cX6_count 101 = .ok (.invokevirtual 160, 3) := by decide +kernel
theorem dX6_count_104 : decode cX6_count 104 = .ok (.aload_n 0, 1) := by decide +kernel
theorem dX6_count_105 : decode cX6_count 105 = .ok (.getfield 10, 3) := by decide +kernel
theorem dX6_count_108 : decode cX6_count 108 = .ok (.getfield 117, 3) := by decide +kernel
theorem dX6_count_111 : decode cX6_count 111 = .ok (.iconst 1, 1) := by decide +kernel
theorem dX6_count_112 : decode cX6_count 112 = .ok (.invokevirtual 160, 3) := by decide +kernel
theorem dX6_count_115 : decode cX6_count 115 = .ok (.iadd, 1) := by decide +kernel
theorem dX6_count_116 : decode cX6_count 116 = .ok (.ireturn, 1) := by decide +kernel
theorem dX6_count_117 : decode cX6_count 117 = .ok (.aload_n 0, 1) := by decide +kernel
theorem dX6_count_118 : decode cX6_count 118 = .ok (.getfield 10, 3) := by decide +kernel
theorem dX6_count_121 : decode cX6_count 121 = .ok (.getfield 88, 3) := by decide +kernel
theorem dX6_count_124 : decode cX6_count 124 = .ok (.invokevirtual 209, 3) := by decide +kernel
theorem dX6_count_127 : decode cX6_count 127 = .ok (.ireturn, 1) := by decide +kernel
theorem dX6_count_128 : decode cX6_count 128 = .ok (.aload_n 0, 1) := by decide +kernel
theorem dX6_count_129 : decode cX6_count 129 = .ok (.getfield 10, 3) := by decide +kernel
theorem dX6_count_132 : decode cX6_count 132 = .ok (.getfield 210, 3) := by decide +kernel
theorem dX6_count_135 : decode cX6_count 135 = .ok (.ireturn, 1) := by decide +kernel
theorem dX6_count_136 : decode cX6_count 136 = .ok (.aload_n 0, 1) := by decide +kernel
theorem dX6_count_137 : decode cX6_count 137 = .ok (.getfield 10, 3) := by decide +kernel
theorem dX6_count_140 : decode cX6_count 140 = .ok (.getfield 88, 3) := by decide +kernel
theorem dX6_count_143 : decode cX6_count 143 = .ok (.getfield 176, 3) := by decide +kernel
theorem dX6_count_146 : decode cX6_count 146 = .ok (.invokevirtual 110, 3) := by decide +kernel
theorem dX6_count_149 : decode cX6_count 149 = .ok (.ireturn, 1) := by decide +kernel
theorem dX6_count_150 : decode cX6_count 150 = .ok (.aload_n 0, 1) := by decide +kernel
theorem dX6_count_151 : decode cX6_count 151 = .ok (.getfield 10, 3) := by decide +kernel
theorem dX6_count_154 : decode cX6_count 154 = .ok (.invokevirtual 213, 3) := by decide +kernel
theorem dX6_count_157 : decode cX6_count 157 = .ok (.ireturn, 1) := by decide +kernel
theorem dX6_count_158 : decode cX6_count 158 = .ok (.aload_n 0, 1) := by decide +kernel
theorem dX6_count_159 : decode cX6_count 159 = .ok (.getfield 10, 3) := by decide +kernel
theorem dX6_count_162 : decode cX6_count 162 = .ok (.getfield 216, 3) := by decide +kernel
theorem dX6_count_165 : decode cX6_count 165 = .ok (.ireturn, 1) := by decide +kernel
theorem dX6_count_166 : decode cX6_count 166 = .ok (.aload_n 0, 1) := by decide +kernel
theorem dX6_count_167 : decode cX6_count 167 = .ok (.getfield 22, 3) := by decide +kernel
theorem dX6_count_170 : decode cX6_count 170 = .ok (.getfield 132, 3) := by decide +kernel
theorem dX6_count_173 : decode cX6_count 173 = .ok (.ireturn, 1) := by decide +kernel
theorem dX6_count_174 : decode cX6_count 174 = .ok (.aload_n 0, 1) := by decide +kernel
theorem dX6_count_175 : decode cX6_count 175 = .ok (.getfield 219, 3) := by decide +kernel
theorem dX6_count_178 : decode cX6_count 178 = .ok (.ireturn, 1) := by decide +kernel
theorem dX6_count_179 : decode cX6_count 179 = .ok (.sipush (-1002), 3) := by decide +kernel
theorem dX6_count_182 : decode cX6_count 182 = .ok (.ireturn, 1) := by decide +kernel
set_option maxRecDepth 20000 in
theorem ggX6_untilOpen_X6_isGate : GoodIn wsX6_untilOpen wsX6_isGate := goodIn_r _ [5, 6, 7, 4, 8] (by decide +kernel) (by decide +kernel)
set_option maxRecDepth 20000 in
theorem gX6_untilOpen_X6_isGate : GoodIn wsX6_untilOpen (va_wsS RX6 85 yX6_isGate wsX6_isGate) := goodIn_app (goodIn_of _ (by decide +kernel)) ggX6_untilOpen_X6_isGate
set_option maxRecDepth 20000 in
theorem ggX6_untilOpen_X5_stepsUntilOpen : GoodIn wsX6_untilOpen wsX5_stepsUntilOpen := goodIn_r _ [13, 14, 15, 16, 17, 12, 18, 19, 20, 21, 22, 23, 24, 25, 26, 27, 28, 29, 30, 31, 32, 33, 34, 35, 36, 37, 38, 39, 40, 41, 42, 43, 44, 45, 46, 47, 48, 49, 50, 51, 52, 53, 54, 55, 56, 57, 58, 59, 60, 61, 62, 72, 73, 74, 75, 76, 77, 78, 79, 80, 81, 82, 83, 84, 85, 86, 87, 88, 89, 90] (by decide +kernel) (by decide +kernel)
set_option maxRecDepth 20000 in
theorem gX6_untilOpen_X5_stepsUntilOpen : GoodIn wsX6_untilOpen (wsV RX6 222 RX5 yX5_stepsUntilOpen wsX5_stepsUntilOpen) := goodIn_app (goodIn_of _ (by decide +kernel)) ggX6_untilOpen_X5_stepsUntilOpen
theorem dX6_untilOpen_0 : decode cX6_untilOpen 0 = .ok (.iload_n 1, 1) := by decide +kernel
theorem dX6_untilOpen_1 : decode cX6_untilOpen 1 = .ok (.invokestatic 85, 3) := by decide +kernel
theorem dX6_untilOpen_4 : decode cX6_untilOpen 4 = .ok (.ifCond .ne 7, 3) := by decide +kernel
theorem dX6_untilOpen_7 : decode cX6_untilOpen 7 = .ok (.sipush (-1001), 3) := by decide +kernel
theorem dX6_untilOpen_10 : decode cX6_untilOpen 10 = .ok (.ireturn, 1) := by decide +kernel
theorem dX6_untilOpen_11 : decode cX6_untilOpen 11 = .ok (.aload_n 0, 1) := by decide +kernel
theorem dX6_untilOpen_12 : decode cX6_untilOpen 12 = .ok (.getfield 10, 3) := by decide +kernel
theorem dX6_untilOpen_15 : decode cX6_untilOpen 15 = .ok (.iload_n 1, 1) := by decide +kernel
theorem dX6_untilOpen_16 : decode cX6_untilOpen 16 = .ok (.invokevirtual 222, 3) := by decide +kernel
theorem dX6_untilOpen_19 : decode cX6_untilOpen 19 = .ok (.ireturn, 1) := by decide +kernel
set_option maxRecDepth 20000 in
theorem ggX6_openFor_X6_isGate : GoodIn wsX6_openFor wsX6_isGate := goodIn_r _ [6, 7, 8, 5, 9] (by decide +kernel) (by decide +kernel)
set_option maxRecDepth 20000 in
theorem gX6_openFor_X6_isGate : GoodIn wsX6_openFor (va_wsS RX6 85 yX6_isGate wsX6_isGate) := goodIn_app (goodIn_of _ (by decide +kernel)) ggX6_openFor_X6_isGate
set_option maxRecDepth 20000 in
theorem ggX6_openFor_X5_stepsUntilOpen : GoodIn wsX6_openFor wsX5_stepsUntilOpen := goodIn_r _ [14, 15, 16, 17, 18, 13, 19, 20, 21, 22, 23, 24, 25, 26, 27, 28, 29, 30, 31, 32, 33, 34, 35, 36, 37, 38, 39, 40, 41, 42, 43, 44, 45, 46, 47, 48, 49, 50, 51, 52, 53, 54, 55, 56, 57, 58, 59, 60, 61, 62, 63, 77, 78, 79, 80, 81, 82, 83, 84, 85, 86, 87, 88, 89, 90, 91, 92, 93, 94, 95] (by decide +kernel) (by decide +kernel)
set_option maxRecDepth 20000 in
theorem gX6_openFor_X5_stepsUntilOpen : GoodIn wsX6_openFor (wsV RX6 222 RX5 yX5_stepsUntilOpen wsX5_stepsUntilOpen) := goodIn_app (goodIn_of _ (by decide +kernel)) ggX6_openFor_X5_stepsUntilOpen
set_option maxRecDepth 20000 in
theorem ggX6_openFor_X5_openStepsFrom : GoodIn wsX6_openFor wsX5_openStepsFrom := goodIn_r _ [67, 16, 17, 18, 13, 19, 20, 21, 22, 23, 24, 25, 26, 27, 28, 29, 30, 31, 32, 33, 34, 35, 36, 37, 38, 39, 40, 41, 42, 43, 44, 45, 46, 47, 48, 49, 50, 51, 52, 53, 54, 55, 56, 57, 58, 59, 60, 61, 62, 63, 77, 78, 79, 80, 81, 82, 83, 84, 85, 86, 87, 88, 89, 90, 91, 92, 93, 94, 95] (by decide +kernel) (by decide +kernel)
set_option maxRecDepth 20000 in
theorem gX6_openFor_X5_openStepsFrom : GoodIn wsX6_openFor (wsV RX6 225 RX5 yX5_openStepsFrom wsX5_openStepsFrom) := goodIn_app (goodIn_of _ (by decide +kernel)) ggX6_openFor_X5_openStepsFrom
theorem dX6_openFor_0 : decode cX6_openFor 0 = .ok (.iload_n 1, 1) := by decide +kernel
theorem dX6_openFor_1 : decode cX6_openFor 1 = .ok (.invokestatic 85, 3) := by decide +kernel
theorem dX6_openFor_4 : decode cX6_openFor 4 = .ok (.ifCond .ne 7, 3) := by decide +kernel
theorem dX6_openFor_7 : decode cX6_openFor 7 = .ok (.sipush (-1001), 3) := by decide +kernel
theorem dX6_openFor_10 : decode cX6_openFor 10 = .ok (.ireturn, 1) := by decide +kernel
theorem dX6_openFor_11 : decode cX6_openFor 11 = .ok (.aload_n 0, 1) := by decide +kernel
theorem dX6_openFor_12 : decode cX6_openFor 12 = .ok (.getfield 10, 3) := by decide +kernel
theorem dX6_openFor_15 : decode cX6_openFor 15 = .ok (.iload_n 1, 1) := by decide +kernel
theorem dX6_openFor_16 : decode cX6_openFor 16 = .ok (.invokevirtual 222, 3) := by decide +kernel
theorem dX6_openFor_19 : decode cX6_openFor 19 = .ok (.istore_n 2, 1) := by decide +kernel
theorem dX6_openFor_20 : decode cX6_openFor 20 = .ok (.iload_n 2, 1) := by decide +kernel
theorem dX6_openFor_21 : decode cX6_openFor 21 = .ok (.sipush (-1006), 3) := by decide +kernel
theorem dX6_openFor_24 : decode cX6_openFor 24 = .ok (.if_icmp .ne 9, 3) := by decide +kernel
theorem dX6_openFor_27 : decode cX6_openFor 27 = .ok (.sipush (-1006), 3) := by decide +kernel
theorem dX6_openFor_30 : decode cX6_openFor 30 = .ok (.goto 20, 3) := by decide +kernel
theorem dX6_openFor_33 : decode cX6_openFor 33 = .ok (.aload_n 0, 1) := by decide +kernel
theorem dX6_openFor_34 : decode cX6_openFor 34 = .ok (.getfield 10, 3) := by decide +kernel
theorem dX6_openFor_37 : decode cX6_openFor 37 = .ok (.iload_n 1, 1) := by decide +kernel
theorem dX6_openFor_38 : decode cX6_openFor 38 = .ok (.aload_n 0, 1) := by decide +kernel
theorem dX6_openFor_39 : decode cX6_openFor 39 = .ok (.getfield 10, 3) := by decide +kernel
theorem dX6_openFor_42 : decode cX6_openFor 42 = .ok (.getfield 66, 3) := by decide +kernel
theorem dX6_openFor_45 : decode cX6_openFor 45 = .ok (.iload_n 2, 1) := by decide +kernel
theorem dX6_openFor_46 : decode cX6_openFor 46 = .ok (.iadd, 1) := by decide +kernel
theorem dX6_openFor_47 : decode cX6_openFor 47 = .ok (.invokevirtual 225, 3) := by decide +kernel
theorem dX6_openFor_50 : decode cX6_openFor 50 = .ok (.ireturn, 1) := by decide +kernel
set_option maxRecDepth 20000 in
theorem ggX6_untilPassed_X6_isWord : GoodIn wsX6_untilPassed wsX6_isWord := goodIn_r _ [8, 2, 3, 9, 10, 11, 7, 12, 181, 182, 183, 184, 185, 186, 187, 188, 189, 190, 191, 192, 193, 194, 195, 196, 197, 198, 199, 200, 201, 202, 203] (by decide +kernel) (by decide +kernel)
set_option maxRecDepth 20000 in
theorem gX6_untilPassed_X6_isWord : GoodIn wsX6_untilPassed (wsV RX6 179 RX6 yX6_isWord wsX6_isWord) := goodIn_app (goodIn_of _ (by decide +kernel)) ggX6_untilPassed_X6_isWord
set_option maxRecDepth 20000 in
theorem ggX6_untilPassed_X5_copyFrom : GoodIn wsX6_untilPassed wsX5_copyFrom := goodIn_r _ [17, 18, 19, 20, 21, 22, 23, 24, 25, 26, 27, 28, 29, 30, 31, 32, 33, 34, 35, 36, 37, 38, 39, 40, 41, 42, 43, 44, 45, 46, 47, 48, 49, 50, 51, 52, 53, 54, 55, 56, 57, 58, 59, 60, 61, 62, 63, 64, 65, 66, 67, 68, 69, 70, 71, 72, 73, 74, 190, 191, 192, 193, 194, 195, 204, 205, 206, 207, 208, 209, 210, 211, 212, 213, 214, 215, 216, 196, 197, 198, 199, 200, 201, 202, 203] (by decide +kernel) (by decide +kernel)
set_option maxRecDepth 20000 in
theorem gX6_untilPassed_X5_copyFrom : GoodIn wsX6_untilPassed (wsV RX6 228 RX5 yX5_copyFrom wsX5_copyFrom) := goodIn_app (goodIn_of _ (by decide +kernel)) ggX6_untilPassed_X5_copyFrom
set_option maxRecDepth 20000 in
theorem ggX6_untilPassed_X4_hasPassed : GoodIn wsX6_untilPassed wsX4_hasPassed := goodIn_r _ [78, 68, 79, 80, 81, 36, 82, 38, 196, 197, 198, 199, 200, 201, 202, 203, 208] (by decide +kernel) (by decide +kernel)
set_option maxRecDepth 20000 in
theorem gX6_untilPassed_X4_hasPassed : GoodIn wsX6_untilPassed (wsV RX6 191 RX4 yX4_hasPassed wsX4_hasPassed) := goodIn_app (goodIn_of _ (by decide +kernel)) ggX6_untilPassed_X4_hasPassed
set_option maxRecDepth 20000 in
theorem ggX6_untilPassed_X5_makeSteps : GoodIn wsX6_untilPassed wsX5_makeSteps := goodIn_r _ [86, 18, 21, 87, 88, 89, 27, 90, 91, 92, 93, 94, 32, 95, 96, 97, 98, 31, 29, 30, 99, 40, 41, 42, 100, 80, 81, 36, 82, 38, 101, 102, 103, 16, 104, 19, 23, 105, 106, 107, 50, 108, 109, 110, 111, 53, 112, 113, 114, 115, 55, 116, 117, 118, 119, 120, 121, 20, 122, 123, 124, 125, 126, 56, 127, 128, 129, 130, 64, 131, 72, 79, 132, 133, 134, 135, 71, 136, 76, 77, 78, 68, 137, 138, 139, 140, 141, 142, 143, 144, 145, 146, 147, 148, 149, 22, 150, 151, 152, 153, 154, 155, 156, 157, 158, 159, 160, 57, 161, 162, 163, 164, 165, 69, 166, 167, 168, 169, 170, 171, 172, 173, 174, 175, 176, 177, 178, 179, 180, 190, 191, 192, 193, 194, 195, 204, 205, 206, 207, 208, 209, 210, 211, 212, 213, 214, 215, 216, 196, 197, 198, 199, 200, 201, 202, 203] (by decide +kernel) (by decide +kernel)
set_option maxRecDepth 20000 in
theorem gX6_untilPassed_X5_makeSteps : GoodIn wsX6_untilPassed (wsV RX6 139 RX5 yX5_makeSteps wsX5_makeSteps) := goodIn_app (goodIn_of _ (by decide +kernel)) ggX6_untilPassed_X5_makeSteps
theorem dX6_untilPassed_0 : decode cX6_untilPassed 0 = .ok (.aload_n 0, 1) := by decide +kernel
theorem dX6_untilPassed_1 : decode cX6_untilPassed 1 = .ok (.iload_n 1, 1) := by decide +kernel
theorem dX6_untilPassed_2 : decode cX6_untilPassed 2 = .ok (.invokevirtual 179, 3) := by decide +kernel
theorem dX6_untilPassed_5 : decode cX6_untilPassed 5 = .ok (.ifCond .ne 7, 3) := by decide +kernel
theorem dX6_untilPassed_8 : decode cX6_untilPassed 8 = .ok (.sipush (-1001), 3) := by decide +kernel
theorem dX6_untilPassed_11 : decode cX6_untilPassed 11 = .ok (.ireturn, 1) := by decide +kernel
theorem dX6_untilPassed_12 : decode cX6_untilPassed 12 = .ok (.aload_n 0, 1) := by decide +kernel
theorem dX6_untilPassed_13 : decode cX6_untilPassed 13 = .ok (.getfield 16, 3) := by decide +kernel
theorem dX6_untilPassed_16 : decode cX6_untilPassed 16 = .ok (.aload_n 0, 1) := by decide +kernel
theorem dX6_untilPassed_17 : decode cX6_untilPassed 17 = .ok (.getfield 10, 3) := by decide +kernel
theorem dX6_untilPassed_20 : decode cX6_untilPassed 20 = .ok (.invokevirtual 228, 3) := by decide +kernel
theorem dX6_untilPassed_23 : decode cX6_untilPassed 23 = .ok (.iconst 0, 1) := by decide +kernel
theorem dX6_untilPassed_24 : decode cX6_untilPassed 24 = .ok (.istore_n 2, 1) := by decide +kernel
theorem dX6_untilPassed_25 : decode cX6_untilPassed 25 = .ok (.iload_n 2, 1) := by decide +kernel
theorem dX6_untilPassed_26 : decode cX6_untilPassed 26 = .ok (.sipush 1000, 3) := by decide +kernel
theorem dX6_untilPassed_29 : decode cX6_untilPassed 29 = .ok (.if_icmp .gt 33, 3) := by decide +kernel
theorem dX6_untilPassed_32 : decode cX6_untilPassed 32 = .ok (.aload_n 0, 1) := by decide +kernel
theorem dX6_untilPassed_33 : decode cX6_untilPassed 33 = .ok (.getfield 16, 3) := by decide +kernel
theorem dX6_untilPassed_36 : decode cX6_untilPassed 36 = .ok (.getfield 117, 3) := by decide +kernel
theorem dX6_untilPassed_39 : decode cX6_untilPassed 39 = .ok (.iload_n 1, 1) := by decide +kernel
theorem dX6_untilPassed_40 : decode cX6_untilPassed 40 = .ok (.invokevirtual 191, 3) := by decide +kernel
theorem dX6_untilPassed_43 : decode cX6_untilPassed 43 = .ok (.ifCond .eq 5, 3) := by decide +kernel
theorem dX6_untilPassed_46 : decode cX6_untilPassed 46 = .ok (.iload_n 2, 1) := by decide +kernel
theorem dX6_untilPassed_47 : decode cX6_untilPassed 47 = .ok (.ireturn, 1) := by decide +kernel
theorem dX6_untilPassed_48 : decode cX6_untilPassed 48 = .ok (.aload_n 0, 1) := by decide +kernel
theorem dX6_untilPassed_49 : decode cX6_untilPassed 49 = .ok (.getfield 16, 3) := by decide +kernel
theorem dX6_untilPassed_52 : decode cX6_untilPassed 52 = .ok (.iconst 1, 1) := by decide +kernel
theorem dX6_untilPassed_53 : decode cX6_untilPassed 53 = .ok (.invokevirtual 139, 3) := by decide +kernel
theorem dX6_untilPassed_56 : decode cX6_untilPassed 56 = .ok (.iinc 2 1, 3) := by decide +kernel
theorem dX6_untilPassed_59 : decode cX6_untilPassed 59 = .ok (.goto (-34), 3) := by decide +kernel
theorem dX6_untilPassed_62 : decode cX6_untilPassed 62 = .ok (.sipush (-1006), 3) := by decide +kernel
theorem dX6_untilPassed_65 : decode cX6_untilPassed 65 = .ok (.ireturn, 1) := by decide +kernel
set_option maxRecDepth 20000 in
theorem ggX6_ifRun_X6_isWithin : GoodIn wsX6_ifRun wsX6_isWithin := goodIn_r _ [6] (by decide +kernel) (by decide +kernel)
set_option maxRecDepth 20000 in
theorem gX6_ifRun_X6_isWithin : GoodIn wsX6_ifRun (va_wsS RX6 49 yX6_isWithin wsX6_isWithin) := goodIn_app (goodIn_of _ (by decide +kernel)) ggX6_ifRun_X6_isWithin
set_option maxRecDepth 20000 in
theorem ggX6_ifRun_X5_copyFrom : GoodIn wsX6_ifRun wsX5_copyFrom := goodIn_r _ [11, 12, 13, 14, 15, 16, 17, 18, 19, 20, 21, 22, 23, 24, 25, 26, 27, 28, 29, 30, 31, 32, 33, 34, 35, 36, 37, 38, 39, 40, 41, 42, 43, 44, 45, 46, 47, 48, 49, 50, 51, 52, 53, 54, 55, 56, 57, 58, 59, 60, 61, 62, 63, 64, 65, 66, 67, 68, 191, 192, 193, 194, 195, 196, 197, 198, 199, 200, 201, 202, 203, 204, 205, 206, 207, 208, 209, 210, 211, 212, 213, 214, 215, 216, 217] (by decide +kernel) (by decide +kernel)
set_option maxRecDepth 20000 in
theorem gX6_ifRun_X5_copyFrom : GoodIn wsX6_ifRun (wsV RX6 228 RX5 yX5_copyFrom wsX5_copyFrom) := goodIn_app (goodIn_of _ (by decide +kernel)) ggX6_ifRun_X5_copyFrom
set_option maxRecDepth 20000 in
theorem ggX6_ifRun_X5_makeSteps : GoodIn wsX6_ifRun wsX5_makeSteps := goodIn_r _ [72, 12, 15, 73, 74, 75, 21, 76, 77, 78, 79, 80, 26, 81, 82, 83, 84, 25, 23, 24, 85, 34, 35, 36, 86, 87, 88, 30, 89, 32, 90, 91, 92, 10, 93, 13, 17, 94, 95, 96, 44, 97, 98, 99, 100, 47, 101, 102, 103, 104, 49, 105, 106, 107, 108, 109, 110, 14, 111, 112, 113, 114, 115, 50, 116, 117, 118, 119, 58, 120, 66, 121, 122, 123, 124, 125, 65, 126, 127, 128, 129, 62, 130, 131, 132, 133, 134, 135, 136, 137, 138, 139, 140, 141, 142, 16, 143, 144, 145, 146, 147, 148, 149, 150, 151, 152, 153, 51, 154, 155, 156, 157, 158, 63, 159, 160, 161, 162, 163, 164, 165, 166, 167, 168, 169, 170, 171, 172, 173, 191, 192, 193, 194, 195, 196, 197, 198, 199, 200, 201, 202, 203, 204, 205, 206, 207, 208, 209, 210, 211, 212, 213, 214, 215, 216, 217] (by decide +kernel) (by decide +kernel)
set_option maxRecDepth 20000 in
theorem gX6_ifRun_X5_makeSteps : GoodIn wsX6_ifRun (wsV RX6 139 RX5 yX5_makeSteps wsX5_makeSteps) := goodIn_app (goodIn_of _ (by decide +kernel)) ggX6_ifRun_X5_makeSteps
set_option maxRecDepth 20000 in
theorem ggX6_ifRun_X5_tally : GoodIn wsX6_ifRun wsX5_tally := goodIn_r _ [177, 13, 145, 168, 14, 169, 17, 178, 179, 180, 30, 181, 32, 191, 192, 193, 194, 195, 196, 202, 203, 204, 205, 206, 207, 208, 209, 210, 211, 212, 213, 214, 215, 216, 217, 201] (by decide +kernel) (by decide +kernel)
set_option maxRecDepth 20000 in
theorem gX6_ifRun_X5_tally : GoodIn wsX6_ifRun (wsV RX6 232 RX5 yX5_tally wsX5_tally) := goodIn_app (goodIn_of _ (by decide +kernel)) ggX6_ifRun_X5_tally
theorem dX6_ifRun_0 : decode cX6_ifRun 0 = .ok (.iload_n 1, 1) := by decide +kernel
theorem dX6_ifRun_1 : decode cX6_ifRun 1 = .ok (.iconst 1, 1) := by decide +kernel
theorem dX6_ifRun_2 : decode cX6_ifRun 2 = .ok (.sipush 1000, 3) := by decide +kernel
theorem dX6_ifRun_5 : decode cX6_ifRun 5 = .ok (.invokestatic 49, 3) := by decide +kernel
theorem dX6_ifRun_8 : decode cX6_ifRun 8 = .ok (.ifCond .eq 12, 3) := by decide +kernel
theorem dX6_ifRun_11 : decode cX6_ifRun 11 = .ok (.iload_n 2, 1) := by decide +kernel
theorem dX6_ifRun_12 : decode cX6_ifRun 12 = .ok (.iconst 0, 1) := by decide +kernel
theorem dX6_ifRun_13 : decode cX6_ifRun 13 = .ok (.iconst 3, 1) := by decide +kernel
theorem dX6_ifRun_14 : decode cX6_ifRun 14 = .ok (.invokestatic 49, 3) := by decide +kernel
theorem dX6_ifRun_17 : decode cX6_ifRun 17 = .ok (.ifCond .ne 7, 3) := by decide +kernel
theorem dX6_ifRun_20 : decode cX6_ifRun 20 = .ok (.sipush (-1002), 3) := by decide +kernel
theorem dX6_ifRun_23 : decode cX6_ifRun 23 = .ok (.ireturn, 1) := by decide +kernel
theorem dX6_ifRun_24 : decode cX6_ifRun 24 = .ok (.aload_n 0, 1) := by decide +kernel
theorem dX6_ifRun_25 : decode cX6_ifRun 25 = .ok (.getfield 16, 3) := by decide +kernel
theorem dX6_ifRun_28 : decode cX6_ifRun 28 = .ok (.aload_n 0, 1) := by decide +kernel
theorem dX6_ifRun_29 : decode cX6_ifRun 29 = .ok (.getfield 10, 3) := by decide +kernel
theorem dX6_ifRun_32 : decode cX6_ifRun 32 = .ok (.invokevirtual 228, 3) := by decide +kernel
theorem dX6_ifRun_35 : decode cX6_ifRun 35 = .ok (.aload_n 0, 1) := by decide +kernel
theorem dX6_ifRun_36 : decode cX6_ifRun 36 = .ok (.getfield 16, 3) := by decide +kernel
theorem dX6_ifRun_39 : decode cX6_ifRun 39 = .ok (.iload_n 1, 1) := by decide +kernel
theorem dX6_ifRun_40 : decode cX6_ifRun 40 = .ok (.invokevirtual 139, 3) := by decide +kernel
theorem dX6_ifRun_43 : decode cX6_ifRun 43 = .ok (.aload_n 0, 1) := by decide +kernel
theorem dX6_ifRun_44 : decode cX6_ifRun 44 = .ok (.getfield 16, 3) := by decide +kernel
theorem dX6_ifRun_47 : decode cX6_ifRun 47 = .ok (.iload_n 2, 1) := by decide +kernel
theorem dX6_ifRun_48 : decode cX6_ifRun 48 = .ok (.invokevirtual 232, 3) := by decide +kernel
theorem dX6_ifRun_51 : decode cX6_ifRun 51 = .ok (.aload_n 0, 1) := by decide +kernel
theorem dX6_ifRun_52 : decode cX6_ifRun 52 = .ok (.getfield 10, 3) := by decide +kernel
theorem dX6_ifRun_55 : decode cX6_ifRun 55 = .ok (.iload_n 2, 1) := by decide +kernel
theorem dX6_ifRun_56 : decode cX6_ifRun 56 = .ok (.invokevirtual 232, 3) := by decide +kernel
theorem dX6_ifRun_59 : decode cX6_ifRun 59 = .ok (.isub, 1) := by decide +kernel
theorem dX6_ifRun_60 : decode cX6_ifRun 60 = .ok (.ireturn, 1) := by decide +kernel
set_option maxRecDepth 20000 in
theorem ggX6_leastSlack_X6_isGate : GoodIn wsX6_leastSlack wsX6_isGate := goodIn_r _ [9, 10, 11, 8, 12] (by decide +kernel) (by decide +kernel)
set_option maxRecDepth 20000 in
theorem gX6_leastSlack_X6_isGate : GoodIn wsX6_leastSlack (va_wsS RX6 85 yX6_isGate wsX6_isGate) := goodIn_app (goodIn_of _ (by decide +kernel)) ggX6_leastSlack_X6_isGate
set_option maxRecDepth 20000 in
theorem ggX6_leastSlack_X6_isWithin : GoodIn wsX6_leastSlack wsX6_isWithin := goodIn_r _ [12] (by decide +kernel) (by decide +kernel)
set_option maxRecDepth 20000 in
theorem gX6_leastSlack_X6_isWithin : GoodIn wsX6_leastSlack (va_wsS RX6 49 yX6_isWithin wsX6_isWithin) := goodIn_app (goodIn_of _ (by decide +kernel)) ggX6_leastSlack_X6_isWithin
set_option maxRecDepth 20000 in
theorem ggX6_leastSlack_X6_findGapsAhead : GoodIn wsX6_leastSlack wsX6_findGapsAhead := goodIn_r _ [16, 17, 1, 18, 19, 20, 21, 22, 23, 24, 25, 26, 27, 28, 29, 30, 31, 32, 33, 34, 35, 36, 37, 38, 39, 40, 41, 42, 43, 44, 45, 46, 47, 48, 49, 50, 200, 201, 202, 203, 204, 205, 206, 207, 208, 209, 210, 211, 212, 213, 214, 231, 232, 233, 234, 235] (by decide +kernel) (by decide +kernel)
set_option maxRecDepth 20000 in
theorem gX6_leastSlack_X6_findGapsAhead : GoodIn wsX6_leastSlack (wsV RX6 235 RX6 yX6_findGapsAhead wsX6_findGapsAhead) := goodIn_app (goodIn_of _ (by decide +kernel)) ggX6_leastSlack_X6_findGapsAhead
set_option maxRecDepth 20000 in
theorem ggX6_leastSlack_X0_sum : GoodIn wsX6_leastSlack wsX0_sum := goodIn_r _ [54, 46, 235] (by decide +kernel) (by decide +kernel)
set_option maxRecDepth 20000 in
theorem gX6_leastSlack_X0_sum : GoodIn wsX6_leastSlack (wsV RX6 110 RX0 yX0_sum wsX0_sum) := goodIn_app (goodIn_of _ (by decide +kernel)) ggX6_leastSlack_X0_sum
set_option maxRecDepth 20000 in
theorem ggX6_leastSlack_X6_wordsPassingWith : GoodIn wsX6_leastSlack wsX6_wordsPassingWith := goodIn_r _ [58, 59, 1, 4, 60, 17, 5, 61, 62, 63, 64, 65, 66, 67, 68, 69, 70, 71, 72, 73, 74, 23, 75, 35, 36, 34, 29, 76, 77, 78, 44, 79, 46, 80, 38, 39, 40, 81, 82, 83, 84, 85, 86, 87, 88, 89, 90, 91, 92, 93, 94, 95, 96, 97, 98, 99, 100, 101, 102, 103, 104, 105, 106, 107, 108, 109, 110, 111, 112, 47, 48, 49, 50, 113, 42, 43, 45, 114, 115, 116, 117, 118, 119, 120, 121, 122, 123, 124, 125, 126, 127, 128, 129, 130, 131, 132, 133, 134, 135, 136, 137, 138, 139, 140, 141, 142, 143, 144, 145, 146, 147, 148, 149, 150, 151, 152, 153, 154, 155, 156, 157, 158, 159, 160, 161, 162, 163, 164, 165, 166, 167, 168, 169, 170, 171, 172, 173, 174, 175, 176, 177, 178, 179, 180, 181, 182, 183, 184, 185, 186, 187, 188, 189, 190, 191, 192, 193, 194, 51, 52, 53, 54, 200, 201, 202, 203, 204, 205, 206, 207, 208, 209, 210, 211, 212, 213, 214, 223, 224, 225, 226, 227, 228, 229, 230, 231, 232, 233, 234, 235, 215, 216, 217, 218, 219, 220, 221, 222] (by decide +kernel) (by decide +kernel)
set_option maxRecDepth 20000 in
theorem gX6_leastSlack_X6_wordsPassingWith : GoodIn wsX6_leastSlack (wsV RX6 238 RX6 yX6_wordsPassingWith wsX6_wordsPassingWith) := goodIn_app (goodIn_of _ (by decide +kernel)) ggX6_leastSlack_X6_wordsPassingWith
set_option maxRecDepth 20000 in
theorem ggX6_leastSlack_X6_hasGapAhead : GoodIn wsX6_leastSlack wsX6_hasGapAhead := goodIn_r _ [198, 17, 199, 123, 39, 124, 113, 42, 43, 44, 45, 46, 200, 201, 202, 203, 204, 205, 206, 207, 208, 235] (by decide +kernel) (by decide +kernel)
set_option maxRecDepth 20000 in
theorem gX6_leastSlack_X6_hasGapAhead : GoodIn wsX6_leastSlack (wsV RX6 241 RX6 yX6_hasGapAhead wsX6_hasGapAhead) := goodIn_app (goodIn_of _ (by decide +kernel)) ggX6_leastSlack_X6_hasGapAhead
theorem dX6_leastSlack_0 : decode cX6_leastSlack 0 = .ok (.iload_n 1, 1) := by decide +kernel
theorem dX6_leastSlack_1 : decode cX6_leastSlack 1 = .ok (.invokestatic 85, 3) := by decide +kernel
theorem dX6_leastSlack_4 : decode cX6_leastSlack 4 = .ok (.ifCond .ne 7, 3) := by decide +kernel
theorem dX6_leastSlack_7 : decode cX6_leastSlack 7 = .ok (.sipush (-1001), 3) := by decide +kernel
theorem dX6_leastSlack_10 : decode cX6_leastSlack 10 = .ok (.ireturn, 1) := by decide +kernel
theorem dX6_leastSlack_11 : decode cX6_leastSlack 11 = .ok (.iload_n 2, 1) := by decide +kernel
theorem dX6_leastSlack_12 : decode cX6_leastSlack 12 = .ok (.iconst 0, 1) := by decide +kernel
theorem dX6_leastSlack_13 : decode cX6_leastSlack 13 = .ok (.iconst 1, 1) := by decide +kernel
theorem dX6_leastSlack_14 : decode cX6_leastSlack 14 = .ok (.invokestatic 49, 3) := by decide +kernel
theorem dX6_leastSlack_17 : decode cX6_leastSlack 17 = .ok (.ifCond .ne 7, 3) := by decide +kernel
theorem dX6_leastSlack_20 : decode cX6_leastSlack 20 = .ok (.sipush (-1002), 3) := by decide +kernel
theorem dX6_leastSlack_23 : decode cX6_leastSlack 23 = .ok (.ireturn, 1) := by decide +kernel
theorem dX6_leastSlack_24 : decode cX6_leastSlack 24 = .ok (.aload_n 0, 1) := by decide +kernel
theorem dX6_leastSlack_25 : decode cX6_leastSlack 25 = .ok (.invokevirtual 235, 3) := by decide +kernel
theorem dX6_leastSlack_28 : decode cX6_leastSlack 28 = .ok (.aload_n 0, 1) := by decide +kernel
theorem dX6_leastSlack_29 : decode cX6_leastSlack 29 = .ok (.getfield 10, 3) := by decide +kernel
theorem dX6_leastSlack_32 : decode cX6_leastSlack 32 = .ok (.getfield 117, 3) := by decide +kernel
theorem dX6_leastSlack_35 : decode cX6_leastSlack 35 = .ok (.getfield 121, 3) := by decide +kernel
theorem dX6_leastSlack_38 : decode cX6_leastSlack 38 = .ok (.aload_n 0, 1) := by decide +kernel
theorem dX6_leastSlack_39 : decode cX6_leastSlack 39 = .ok (.getfield 10, 3) := by decide +kernel
theorem dX6_leastSlack_42 : decode cX6_leastSlack 42 = .ok (.getfield 88, 3) := by decide +kernel
theorem dX6_leastSlack_45 : decode cX6_leastSlack 45 = .ok (.getfield 136, 3) := by decide +kernel
theorem dX6_leastSlack_48 : decode cX6_leastSlack 48 = .ok (.invokevirtual 110, 3) := by decide +kernel
theorem dX6_leastSlack_51 : decode cX6_leastSlack 51 = .ok (.isub, 1) := by decide +kernel
theorem dX6_leastSlack_52 : decode cX6_leastSlack 52 = .ok (.istore_n 3, 1) := by decide +kernel
theorem dX6_leastSlack_53 : decode cX6_leastSlack 53 = .ok (.iconst 0, 1) := by decide +kernel
theorem dX6_leastSlack_54 : decode cX6_leastSlack 54 = .ok (.istore 4, 2) := by decide +kernel
theorem dX6_leastSlack_56 : decode cX6_leastSlack 56 = .ok (.aload_n 0, 1) := by decide +kernel
theorem dX6_leastSlack_57 : decode cX6_leastSlack 57 = .ok (.iload_n 1, 1) := by decide +kernel
theorem dX6_leastSlack_58 : decode cX6_leastSlack 58 = .ok (.iconst 0, 1) := by decide +kernel
theorem dX6_leastSlack_59 : decode cX6_leastSlack 59 = .ok (.invokevirtual 238, 3) := by decide +kernel
theorem dX6_leastSlack_62 : decode cX6_leastSlack 62 = .ok (.istore 5, 2) := by decide +kernel
theorem dX6_leastSlack_64 : decode cX6_leastSlack 64 = .ok (.iconst 1, 1) := by decide +kernel
theorem dX6_leastSlack_65 : decode cX6_leastSlack 65 = .ok (.istore 6, 2) := by decide +kernel
theorem dX6_leastSlack_67 : decode cX6_leastSlack 67 = .ok (.iload 6, 2) := by decide +kernel
theorem dX6_leastSlack_69 : decode cX6_leastSlack 69 = .ok (.bipush 99, 2) := by decide +kernel
theorem dX6_leastSlack_71 : decode cX6_leastSlack 71 = .ok (.if_icmp .gt 53, 3) := by decide +kernel
theorem dX6_leastSlack_74 : decode cX6_leastSlack 74 = .ok (.iload 5, 2) := by decide +kernel
theorem dX6_leastSlack_76 : decode cX6_leastSlack 76 = .ok (.iload_n 3, 1) := by decide +kernel
theorem dX6_leastSlack_77 : decode cX6_leastSlack 77 = .ok (.if_icmp .ge 47, 3) := by decide +kernel
theorem dX6_leastSlack_80 : decode cX6_leastSlack 80 = .ok (.aload_n 0, 1) := by decide +kernel
theorem dX6_leastSlack_81 : decode cX6_leastSlack 81 = .ok (.iload 6, 2) := by decide +kernel
theorem dX6_leastSlack_83 : decode cX6_leastSlack 83 = .ok (.invokevirtual 241, 3) := by decide +kernel
theorem dX6_leastSlack_86 : decode cX6_leastSlack 86 = .ok (.ifCond .eq 13, 3) := by decide +kernel
theorem dX6_leastSlack_89 : decode cX6_leastSlack 89 = .ok (.aload_n 0, 1) := by decide +kernel
theorem dX6_leastSlack_90 : decode cX6_leastSlack 90 = .ok (.iload_n 1, 1) := by decide +kernel
theorem dX6_leastSlack_91 : decode cX6_leastSlack 91 = .ok (.iload 6, 2) := by decide +kernel
theorem dX6_leastSlack_93 : decode cX6_leastSlack 93 = .ok (.invokevirtual 238, 3) := by decide +kernel
theorem dX6_leastSlack_96 : decode cX6_leastSlack 96 = .ok (.goto 5, 3) := by decide +kernel
theorem dX6_leastSlack_99 : decode cX6_leastSlack 99 = .ok (.iload 5, 2) := by decide +kernel
theorem dX6_leastSlack_101 : decode cX6_leastSlack 101 = .ok (.istore 7, 2) := by decide +kernel
theorem dX6_leastSlack_103 : decode cX6_leastSlack 103 = .ok (.iload 7, 2) := by decide +kernel
theorem dX6_leastSlack_105 : decode cX6_leastSlack 105 = .ok (.iload 5, 2) := by decide +kernel
theorem dX6_leastSlack_107 : decode cX6_leastSlack 107 = .ok (.if_icmp .le 11, 3) := by decide +kernel
theorem dX6_leastSlack_110 : decode cX6_leastSlack 110 = .ok (.iload 6, 2) := by decide +kernel
theorem dX6_leastSlack_112 : decode cX6_leastSlack 112 = .ok (.istore 4, 2) := by decide +kernel
theorem dX6_leastSlack_114 : decode cX6_leastSlack 114 = .ok (.iload 7, 2) := by decide +kernel
theorem dX6_leastSlack_116 : decode cX6_leastSlack 116 = .ok (.istore 5, 2) := by decide +kernel
theorem dX6_leastSlack_118 : decode cX6_leastSlack 118 = .ok (.iinc 6 1, 3) := by decide +kernel
theorem dX6_leastSlack_121 : decode cX6_leastSlack 121 = .ok (.goto (-54), 3) := by decide +kernel
theorem dX6_leastSlack_124 : decode cX6_leastSlack 124 = .ok (.iload_n 2, 1) := by decide +kernel
theorem dX6_leastSlack_125 : decode cX6_leastSlack 125 = .ok (.ifCond .ne 8, 3) := by decide +kernel
theorem dX6_leastSlack_128 : decode cX6_leastSlack 128 = .ok (.iload 4, 2) := by decide +kernel
theorem dX6_leastSlack_130 : decode cX6_leastSlack 130 = .ok (.goto 5, 3) := by decide +kernel
theorem dX6_leastSlack_133 : decode cX6_leastSlack 133 = .ok (.iload 5, 2) := by decide +kernel
theorem dX6_leastSlack_135 : decode cX6_leastSlack 135 = .ok (.ireturn, 1) := by decide +kernel
set_option maxRecDepth 20000 in
theorem ggX6_bestLie_X6_isStore : GoodIn wsX6_bestLie wsX6_isStore := goodIn_r _ [4, 5, 6, 3, 7] (by decide +kernel) (by decide +kernel)
set_option maxRecDepth 20000 in
theorem gX6_bestLie_X6_isStore : GoodIn wsX6_bestLie (va_wsS RX6 45 yX6_isStore wsX6_isStore) := goodIn_app (goodIn_of _ (by decide +kernel)) ggX6_bestLie_X6_isStore
set_option maxRecDepth 20000 in
theorem ggX6_bestLie_X6_isGate : GoodIn wsX6_bestLie wsX6_isGate := goodIn_r _ [10, 5, 6, 3, 7] (by decide +kernel) (by decide +kernel)
set_option maxRecDepth 20000 in
theorem gX6_bestLie_X6_isGate : GoodIn wsX6_bestLie (va_wsS RX6 85 yX6_isGate wsX6_isGate) := goodIn_app (goodIn_of _ (by decide +kernel)) ggX6_bestLie_X6_isGate
set_option maxRecDepth 20000 in
theorem ggX6_bestLie_X6_findGapsAhead : GoodIn wsX6_bestLie wsX6_findGapsAhead := goodIn_r _ [14, 15, 16, 17, 18, 19, 20, 21, 22, 23, 24, 25, 26, 27, 28, 29, 30, 31, 32, 33, 34, 35, 36, 37, 38, 39, 40, 41, 42, 43, 44, 45, 46, 47, 48, 49, 61, 62, 63, 64, 65, 66, 67, 68, 69, 70, 71, 72, 73, 74, 75, 76, 77, 78, 79, 80] (by decide +kernel) (by decide +kernel)
set_option maxRecDepth 20000 in
theorem gX6_bestLie_X6_findGapsAhead : GoodIn wsX6_bestLie (wsV RX6 235 RX6 yX6_findGapsAhead wsX6_findGapsAhead) := goodIn_app (goodIn_of _ (by decide +kernel)) ggX6_bestLie_X6_findGapsAhead
set_option maxRecDepth 20000 in
theorem ggX6_bestLie_X6_openStepsWith : GoodIn wsX6_bestLie wsX6_openStepsWith := goodIn_r _ [53, 16, 17, 54, 55, 56, 15, 57, 58, 38, 59, 60, 41, 42, 43, 44, 45, 61, 62, 63, 64, 65, 66, 67, 68, 69, 70, 71, 72, 73, 74, 75, 76, 77, 78, 79, 81, 82, 83, 84, 85, 86, 87, 88, 80] (by decide +kernel) (by decide +kernel)
set_option maxRecDepth 20000 in
theorem gX6_bestLie_X6_openStepsWith : GoodIn wsX6_bestLie (wsV RX6 244 RX6 yX6_openStepsWith wsX6_openStepsWith) := goodIn_app (goodIn_of _ (by decide +kernel)) ggX6_bestLie_X6_openStepsWith
theorem dX6_bestLie_0 : decode cX6_bestLie 0 = .ok (.iload_n 1, 1) := by decide +kernel
theorem dX6_bestLie_1 : decode cX6_bestLie 1 = .ok (.invokestatic 45, 3) := by decide +kernel
theorem dX6_bestLie_4 : decode cX6_bestLie 4 = .ok (.ifCond .eq 10, 3) := by decide +kernel
theorem dX6_bestLie_7 : decode cX6_bestLie 7 = .ok (.iload_n 2, 1) := by decide +kernel
theorem dX6_bestLie_8 : decode cX6_bestLie 8 = .ok (.invokestatic 85, 3) := by decide +kernel
theorem dX6_bestLie_11 : decode cX6_bestLie 11 = .ok (.ifCond .ne 7, 3) := by decide +kernel
theorem dX6_bestLie_14 : decode cX6_bestLie 14 = .ok (.sipush (-1001), 3) := by decide +kernel
theorem dX6_bestLie_17 : decode cX6_bestLie 17 = .ok (.ireturn, 1) := by decide +kernel
theorem dX6_bestLie_18 : decode cX6_bestLie 18 = .ok (.aload_n 0, 1) := by decide +kernel
theorem dX6_bestLie_19 : decode cX6_bestLie 19 = .ok (.invokevirtual 235, 3) := by decide +kernel
theorem dX6_bestLie_22 : decode cX6_bestLie 22 = .ok (.iconst 0, 1) := by decide +kernel
theorem dX6_bestLie_23 : decode cX6_bestLie 23 = .ok (.istore_n 3, 1) := by decide +kernel
theorem dX6_bestLie_24 : decode cX6_bestLie 24 = .ok (.aload_n 0, 1) := by decide +kernel
theorem dX6_bestLie_25 : decode cX6_bestLie 25 = .ok (.iload_n 1, 1) := by decide +kernel
theorem dX6_bestLie_26 : decode cX6_bestLie 26 = .ok (.iload_n 2, 1) := by decide +kernel
theorem dX6_bestLie_27 : decode cX6_bestLie 27 = .ok (.iconst 0, 1) := by decide +kernel
theorem dX6_bestLie_28 : decode cX6_bestLie 28 = .ok (.invokevirtual 244, 3) := by decide +kernel
theorem dX6_bestLie_31 : decode cX6_bestLie 31 = .ok (.istore 4, 2) := by decide +kernel
theorem dX6_bestLie_33 : decode cX6_bestLie 33 = .ok (.iconst 1, 1) := by decide +kernel
theorem dX6_bestLie_34 : decode cX6_bestLie 34 = .ok (.istore 5, 2) := by decide +kernel
theorem dX6_bestLie_36 : decode cX6_bestLie 36 = .ok (.iload 5, 2) := by decide +kernel
theorem dX6_bestLie_38 : decode cX6_bestLie 38 = .ok (.bipush 100, 2) := by decide +kernel
theorem dX6_bestLie_40 : decode cX6_bestLie 40 = .ok (.if_icmp .gt 57, 3) := by decide +kernel
theorem dX6_bestLie_43 : decode cX6_bestLie 43 = .ok (.iload 5, 2) := by decide +kernel
theorem dX6_bestLie_45 : decode cX6_bestLie 45 = .ok (.iconst 1, 1) := by decide +kernel
theorem dX6_bestLie_46 : decode cX6_bestLie 46 = .ok (.iand, 1) := by decide +kernel
theorem dX6_bestLie_47 : decode cX6_bestLie 47 = .ok (.iconst 1, 1) := by decide +kernel
theorem dX6_bestLie_48 : decode cX6_bestLie 48 = .ok (.if_icmp .ne 13, 3) := by decide +kernel
theorem dX6_bestLie_51 : decode cX6_bestLie 51 = .ok (.iload 5, 2) := by decide +kernel
theorem dX6_bestLie_53 : decode cX6_bestLie 53 = .ok (.iconst 1, 1) := by decide +kernel
theorem dX6_bestLie_54 : decode cX6_bestLie 54 = .ok (.iadd, 1) := by decide +kernel
theorem dX6_bestLie_55 : decode cX6_bestLie 55 = .ok (.ineg, 1) := by decide +kernel
theorem dX6_bestLie_56 : decode cX6_bestLie 56 = .ok (.iconst 2, 1) := by decide +kernel
theorem dX6_bestLie_57 : decode cX6_bestLie 57 = .ok (.idiv, 1) := by decide +kernel
theorem dX6_bestLie_58 : decode cX6_bestLie 58 = .ok (.goto 7, 3) := by decide +kernel
theorem dX6_bestLie_61 : decode cX6_bestLie 61 = .ok (.iload 5, 2) := by decide +kernel
theorem dX6_bestLie_63 : decode cX6_bestLie 63 = .ok (.iconst 2, 1) := by decide +kernel
theorem dX6_bestLie_64 : decode cX6_bestLie 64 = .ok (.idiv, 1) := by decide +kernel
theorem dX6_bestLie_65 : decode cX6_bestLie 65 = .ok (.istore 6, 2) := by decide +kernel
theorem dX6_bestLie_67 : decode cX6_bestLie 67 = .ok (.aload_n 0, 1) := by decide +kernel
theorem dX6_bestLie_68 : decode cX6_bestLie 68 = .ok (.iload_n 1, 1) := by decide +kernel
theorem dX6_bestLie_69 : decode cX6_bestLie 69 = .ok (.iload_n 2, 1) := by decide +kernel
theorem dX6_bestLie_70 : decode cX6_bestLie 70 = .ok (.iload 6, 2) := by decide +kernel
theorem dX6_bestLie_72 : decode cX6_bestLie 72 = .ok (.invokevirtual 244, 3) := by decide +kernel
theorem dX6_bestLie_75 : decode cX6_bestLie 75 = .ok (.istore 7, 2) := by decide +kernel
theorem dX6_bestLie_77 : decode cX6_bestLie 77 = .ok (.iload 7, 2) := by decide +kernel
theorem dX6_bestLie_79 : decode cX6_bestLie 79 = .ok (.iload 4, 2) := by decide +kernel
theorem dX6_bestLie_81 : decode cX6_bestLie 81 = .ok (.if_icmp .le 10, 3) := by decide +kernel
theorem dX6_bestLie_84 : decode cX6_bestLie 84 = .ok (.iload 6, 2) := by decide +kernel
theorem dX6_bestLie_86 : decode cX6_bestLie 86 = .ok (.istore_n 3, 1) := by decide +kernel
theorem dX6_bestLie_87 : decode cX6_bestLie 87 = .ok (.iload 7, 2) := by decide +kernel
theorem dX6_bestLie_89 : decode cX6_bestLie 89 = .ok (.istore 4, 2) := by decide +kernel
theorem dX6_bestLie_91 : decode cX6_bestLie 91 = .ok (.iinc 5 1, 3) := by decide +kernel
theorem dX6_bestLie_94 : decode cX6_bestLie 94 = .ok (.goto (-58), 3) := by decide +kernel
theorem dX6_bestLie_97 : decode cX6_bestLie 97 = .ok (.iload_n 3, 1) := by decide +kernel
theorem dX6_bestLie_98 : decode cX6_bestLie 98 = .ok (.ireturn, 1) := by decide +kernel
set_option maxRecDepth 20000 in
theorem ggX6_write_X6_codesIn : GoodIn wsX6_write wsX6_codesIn := goodIn_r _ [6, 7, 8, 9, 5, 10] (by decide +kernel) (by decide +kernel)
set_option maxRecDepth 20000 in
theorem gX6_write_X6_codesIn : GoodIn wsX6_write (va_wsS RX6 248 yX6_codesIn wsX6_codesIn) := goodIn_app (goodIn_of _ (by decide +kernel)) ggX6_write_X6_codesIn
set_option maxRecDepth 20000 in
theorem ggX6_write_X6_codeAt : GoodIn wsX6_write wsX6_codeAt := goodIn_r _ [13] (by decide +kernel) (by decide +kernel)
set_option maxRecDepth 20000 in
theorem gX6_write_X6_codeAt : GoodIn wsX6_write (va_wsS RX6 252 yX6_codeAt wsX6_codeAt) := goodIn_app (goodIn_of _ (by decide +kernel)) ggX6_write_X6_codeAt
set_option maxRecDepth 20000 in
theorem ggX6_write_X2_append : GoodIn wsX6_write wsX2_append := goodIn_r _ [18, 19, 20, 21, 22, 23, 24, 25, 26, 36, 37, 38] (by decide +kernel) (by decide +kernel)
set_option maxRecDepth 20000 in
theorem gX6_write_X2_append : GoodIn wsX6_write (wsV RX6 256 RX2 yX2_append wsX2_append) := goodIn_app (goodIn_of _ (by decide +kernel)) ggX6_write_X2_append
theorem dX6_write_0 : decode cX6_write 0 = .ok (.lload_n 1, 1) := by decide +kernel
theorem dX6_write_1 : decode cX6_write 1 = .ok (.invokestatic 248, 3) := by decide +kernel
theorem dX6_write_4 : decode cX6_write 4 = .ok (.istore_n 3, 1) := by decide +kernel
theorem dX6_write_5 : decode cX6_write 5 = .ok (.iload_n 3, 1) := by decide +kernel
theorem dX6_write_6 : decode cX6_write 6 = .ok (.sipush (-1002), 3) := by decide +kernel
theorem dX6_write_9 : decode cX6_write 9 = .ok (.if_icmp .ne 7, 3) := by decide +kernel
theorem dX6_write_12 : decode cX6_write 12 = .ok (.sipush (-1002), 3) := by decide +kernel
theorem dX6_write_15 : decode cX6_write 15 = .ok (.ireturn, 1) := by decide +kernel
theorem dX6_write_16 : decode cX6_write 16 = .ok (.aload_n 0, 1) := by decide +kernel
theorem dX6_write_17 : decode cX6_write 17 = .ok (.getfield 22, 3) := by decide +kernel
theorem dX6_write_20 : decode cX6_write 20 = .ok (.getfield 132, 3) := by decide +kernel
theorem dX6_write_23 : decode cX6_write 23 = .ok (.iload_n 3, 1) := by decide +kernel
theorem dX6_write_24 : decode cX6_write 24 = .ok (.iadd, 1) := by decide +kernel
theorem dX6_write_25 : decode cX6_write 25 = .ok (.bipush 60, 2) := by decide +kernel
theorem dX6_write_27 : decode cX6_write 27 = .ok (.if_icmp .le 7, 3) := by decide +kernel
theorem dX6_write_30 : decode cX6_write 30 = .ok (.sipush (-1004), 3) := by decide +kernel
theorem dX6_write_33 : decode cX6_write 33 = .ok (.ireturn, 1) := by decide +kernel
theorem dX6_write_34 : decode cX6_write 34 = .ok (.iload_n 3, 1) := by decide +kernel
theorem dX6_write_35 : decode cX6_write 35 = .ok (.iconst 1, 1) := by decide +kernel
theorem dX6_write_36 : decode cX6_write 36 = .ok (.isub, 1) := by decide +kernel
theorem dX6_write_37 : decode cX6_write 37 = .ok (.istore 4, 2) := by decide +kernel
theorem dX6_write_39 : decode cX6_write 39 = .ok (.iload 4, 2) := by decide +kernel
theorem dX6_write_41 : decode cX6_write 41 = .ok (.ifCond .lt 22, 3) := by decide +kernel
theorem dX6_write_44 : decode cX6_write 44 = .ok (.aload_n 0, 1) := by decide +kernel
theorem dX6_write_45 : decode cX6_write 45 = .ok (.getfield 22, 3) := by decide +kernel
theorem dX6_write_48 : decode cX6_write 48 = .ok (.lload_n 1, 1) := by decide +kernel
theorem dX6_write_49 : decode cX6_write 49 = .ok (.iload 4, 2) := by decide +kernel
theorem dX6_write_51 : decode cX6_write 51 = .ok (.invokestatic 252, 3) := by decide +kernel
theorem dX6_write_54 : decode cX6_write 54 = .ok (.invokevirtual 256, 3) := by decide +kernel
theorem dX6_write_57 : decode cX6_write 57 = .ok (.iinc 4 (-1), 3) := by decide +kernel
theorem dX6_write_60 : decode cX6_write 60 = .ok (.goto (-21), 3) := by decide +kernel
theorem dX6_write_63 : decode cX6_write 63 = .ok (.aload_n 0, 1) := by decide +kernel
theorem dX6_write_64 : decode cX6_write 64 = .ok (.getfield 22, 3) := by decide +kernel
theorem dX6_write_67 : decode cX6_write 67 = .ok (.getfield 132, 3) := by decide +kernel
theorem dX6_write_70 : decode cX6_write 70 = .ok (.ireturn, 1) := by decide +kernel
theorem dX6_wipe_0 : decode cX6_wipe 0 = .ok (.aload_n 0, 1) := by decide +kernel
theorem dX6_wipe_1 : decode cX6_wipe 1 = .ok (.getfield 22, 3) := by decide +kernel
theorem dX6_wipe_4 : decode cX6_wipe 4 = .ok (.getfield 132, 3) := by decide +kernel
theorem dX6_wipe_7 : decode cX6_wipe 7 = .ok (.istore_n 1, 1) := by decide +kernel
theorem dX6_wipe_8 : decode cX6_wipe 8 = .ok (.aload_n 0, 1) := by decide +kernel
theorem dX6_wipe_9 : decode cX6_wipe 9 = .ok (.getfield 22, 3) := by decide +kernel
theorem dX6_wipe_12 : decode cX6_wipe 12 = .ok (.iconst 0, 1) := by decide +kernel
theorem dX6_wipe_13 : decode cX6_wipe 13 = .ok (.putfield 132, 3) := by decide +kernel
theorem dX6_wipe_16 : decode cX6_wipe 16 = .ok (.iload_n 1, 1) := by decide +kernel
theorem dX6_wipe_17 : decode cX6_wipe 17 = .ok (.ireturn, 1) := by decide +kernel
set_option maxRecDepth 20000 in
theorem ggX6_undo_X6_worldIn : GoodIn wsX6_undo wsX6_worldIn := goodIn_r _ [8] (by decide +kernel) (by decide +kernel)
set_option maxRecDepth 20000 in
theorem gX6_undo_X6_worldIn : GoodIn wsX6_undo (va_wsS RX6 262 yX6_worldIn wsX6_worldIn) := goodIn_app (goodIn_of _ (by decide +kernel)) ggX6_undo_X6_worldIn
set_option maxRecDepth 20000 in
theorem ggX6_undo_X5_copyFrom : GoodIn wsX6_undo wsX5_copyFrom := goodIn_r _ [13, 14, 15, 16, 17, 18, 19, 20, 21, 22, 23, 24, 25, 26, 27, 28, 29, 30, 31, 32, 33, 34, 35, 36, 37, 38, 39, 40, 41, 42, 43, 44, 45, 46, 47, 48, 49, 50, 51, 52, 53, 54, 55, 56, 57, 58, 59, 60, 61, 62, 63, 64, 65, 66, 67, 68, 69, 70, 80, 81, 82, 83, 84, 85, 86, 87, 88, 89, 90, 91, 92, 93, 94, 95, 96, 97, 98, 99, 100, 101, 102, 103, 104, 105, 106] (by decide +kernel) (by decide +kernel)
set_option maxRecDepth 20000 in
theorem gX6_undo_X5_copyFrom : GoodIn wsX6_undo (wsV RX6 228 RX5 yX5_copyFrom wsX5_copyFrom) := goodIn_app (goodIn_of _ (by decide +kernel)) ggX6_undo_X5_copyFrom
theorem dX6_undo_0 : decode cX6_undo 0 = .ok (.aload_n 0, 1) := by decide +kernel
theorem dX6_undo_1 : decode cX6_undo 1 = .ok (.getfield 219, 3) := by decide +kernel
theorem dX6_undo_4 : decode cX6_undo 4 = .ok (.ifCond .ne 7, 3) := by decide +kernel
theorem dX6_undo_7 : decode cX6_undo 7 = .ok (.sipush (-1005), 3) := by decide +kernel
theorem dX6_undo_10 : decode cX6_undo 10 = .ok (.ireturn, 1) := by decide +kernel
theorem dX6_undo_11 : decode cX6_undo 11 = .ok (.aload_n 0, 1) := by decide +kernel
theorem dX6_undo_12 : decode cX6_undo 12 = .ok (.aload_n 0, 1) := by decide +kernel
theorem dX6_undo_13 : decode cX6_undo 13 = .ok (.getfield 259, 3) := by decide +kernel
theorem dX6_undo_16 : decode cX6_undo 16 = .ok (.ifCond .ne 7, 3) := by decide +kernel
theorem dX6_undo_19 : decode cX6_undo 19 = .ok (.iconst 5, 1) := by decide +kernel
theorem dX6_undo_20 : decode cX6_undo 20 = .ok (.goto 9, 3) := by decide +kernel
theorem dX6_undo_23 : decode cX6_undo 23 = .ok (.aload_n 0, 1) := by decide +kernel
theorem dX6_undo_24 : decode cX6_undo 24 = .ok (.getfield 259, 3) := by decide +kernel
theorem dX6_undo_27 : decode cX6_undo 27 = .ok (.iconst 1, 1) := by decide +kernel
theorem dX6_undo_28 : decode cX6_undo 28 = .ok (.isub, 1) := by decide +kernel
theorem dX6_undo_29 : decode cX6_undo 29 = .ok (.putfield 259, 3) := by decide +kernel
theorem dX6_undo_32 : decode cX6_undo 32 = .ok (.aload_n 0, 1) := by decide +kernel
theorem dX6_undo_33 : decode cX6_undo 33 = .ok (.dup, 1) := by decide +kernel
theorem dX6_undo_34 : decode cX6_undo 34 = .ok (.getfield 219, 3) := by decide +kernel
theorem dX6_undo_37 : decode cX6_undo 37 = .ok (.iconst 1, 1) := by decide +kernel
theorem dX6_undo_38 : decode cX6_undo 38 = .ok (.isub, 1) := by decide +kernel
theorem dX6_undo_39 : decode cX6_undo 39 = .ok (.putfield 219, 3) := by decide +kernel
theorem dX6_undo_42 : decode cX6_undo 42 = .ok (.aload_n 0, 1) := by decide +kernel
theorem dX6_undo_43 : decode cX6_undo 43 = .ok (.getfield 10, 3) := by decide +kernel
theorem dX6_undo_46 : decode cX6_undo 46 = .ok (.aload_n 0, 1) := by decide +kernel
theorem dX6_undo_47 : decode cX6_undo 47 = .ok (.getfield 26, 3) := by decide +kernel
theorem dX6_undo_50 : decode cX6_undo 50 = .ok (.aload_n 0, 1) := by decide +kernel
theorem dX6_undo_51 : decode cX6_undo 51 = .ok (.getfield 259, 3) := by decide +kernel
theorem dX6_undo_54 : decode cX6_undo 54 = .ok (.invokestatic 262, 3) := by decide +kernel
theorem dX6_undo_57 : decode cX6_undo 57 = .ok (.invokevirtual 228, 3) := by decide +kernel
theorem dX6_undo_60 : decode cX6_undo 60 = .ok (.aload_n 0, 1) := by decide +kernel
theorem dX6_undo_61 : decode cX6_undo 61 = .ok (.getfield 219, 3) := by decide +kernel
theorem dX6_undo_64 : decode cX6_undo 64 = .ok (.ireturn, 1) := by decide +kernel
theorem dX6_isWithin_0 : decode cX6_isWithin 0 = .ok (.iload_n 0, 1) := by decide +kernel
theorem dX6_isWithin_1 : decode cX6_isWithin 1 = .ok (.iload_n 1, 1) := by decide +kernel
theorem dX6_isWithin_2 : decode cX6_isWithin 2 = .ok (.if_icmp .lt 12, 3) := by decide +kernel
theorem dX6_isWithin_5 : decode cX6_isWithin 5 = .ok (.iload_n 0, 1) := by decide +kernel
theorem dX6_isWithin_6 : decode cX6_isWithin 6 = .ok (.iload_n 2, 1) := by decide +kernel
theorem dX6_isWithin_7 : decode cX6_isWithin 7 = .ok (.if_icmp .gt 7, 3) := by decide +kernel
theorem dX6_isWithin_10 : decode cX6_isWithin 10 = .ok (.iconst 1, 1) := by decide +kernel
theorem dX6_isWithin_11 : decode cX6_isWithin 11 = .ok (.goto 4, 3) := by decide +kernel
theorem dX6_isWithin_14 : decode cX6_isWithin 14 = .ok (.iconst 0, 1) := by decide +kernel
theorem dX6_isWithin_15 : decode cX6_isWithin 15 = .ok (.ireturn, 1) := by decide +kernel
set_option maxRecDepth 20000 in
theorem ggX6_isStore_X6_isWithin : GoodIn wsX6_isStore wsX6_isWithin := goodIn_r _ [4] (by decide +kernel) (by decide +kernel)
set_option maxRecDepth 20000 in
theorem gX6_isStore_X6_isWithin : GoodIn wsX6_isStore (va_wsS RX6 49 yX6_isWithin wsX6_isWithin) := goodIn_app (goodIn_of _ (by decide +kernel)) ggX6_isStore_X6_isWithin
theorem dX6_isStore_0 : decode cX6_isStore 0 = .ok (.iload_n 0, 1) := by decide +kernel
theorem dX6_isStore_1 : decode cX6_isStore 1 = .ok (.iconst 0, 1) := by decide +kernel
theorem dX6_isStore_2 : decode cX6_isStore 2 = .ok (.iconst 1, 1) := by decide +kernel
theorem dX6_isStore_3 : decode cX6_isStore 3 = .ok (.invokestatic 49, 3) := by decide +kernel
theorem dX6_isStore_6 : decode cX6_isStore 6 = .ok (.ireturn, 1) := by decide +kernel
set_option maxRecDepth 20000 in
theorem ggX6_isGate_X6_isWithin : GoodIn wsX6_isGate wsX6_isWithin := goodIn_r _ [4] (by decide +kernel) (by decide +kernel)
set_option maxRecDepth 20000 in
theorem gX6_isGate_X6_isWithin : GoodIn wsX6_isGate (va_wsS RX6 49 yX6_isWithin wsX6_isWithin) := goodIn_app (goodIn_of _ (by decide +kernel)) ggX6_isGate_X6_isWithin
theorem dX6_isGate_0 : decode cX6_isGate 0 = .ok (.iload_n 0, 1) := by decide +kernel
theorem dX6_isGate_1 : decode cX6_isGate 1 = .ok (.iconst 0, 1) := by decide +kernel
theorem dX6_isGate_2 : decode cX6_isGate 2 = .ok (.iconst 3, 1) := by decide +kernel
theorem dX6_isGate_3 : decode cX6_isGate 3 = .ok (.invokestatic 49, 3) := by decide +kernel
theorem dX6_isGate_6 : decode cX6_isGate 6 = .ok (.ireturn, 1) := by decide +kernel
set_option maxRecDepth 20000 in
theorem ggX6_isWord_X6_isWithin : GoodIn wsX6_isWord wsX6_isWithin := goodIn_r _ [7] (by decide +kernel) (by decide +kernel)
set_option maxRecDepth 20000 in
theorem gX6_isWord_X6_isWithin : GoodIn wsX6_isWord (va_wsS RX6 49 yX6_isWithin wsX6_isWithin) := goodIn_app (goodIn_of _ (by decide +kernel)) ggX6_isWord_X6_isWithin
theorem dX6_isWord_0 : decode cX6_isWord 0 = .ok (.iload_n 1, 1) := by decide +kernel
theorem dX6_isWord_1 : decode cX6_isWord 1 = .ok (.iconst 0, 1) := by decide +kernel
theorem dX6_isWord_2 : decode cX6_isWord 2 = .ok (.aload_n 0, 1) := by decide +kernel
theorem dX6_isWord_3 : decode cX6_isWord 3 = .ok (.getfield 10, 3) := by decide +kernel
theorem dX6_isWord_6 : decode cX6_isWord 6 = .ok (.getfield 117, 3) := by decide +kernel
theorem dX6_isWord_9 : decode cX6_isWord 9 = .ok (.getfield 121, 3) := by decide +kernel
theorem dX6_isWord_12 : decode cX6_isWord 12 = .ok (.iconst 1, 1) := by decide +kernel
theorem dX6_isWord_13 : decode cX6_isWord 13 = .ok (.isub, 1) := by decide +kernel
theorem dX6_isWord_14 : decode cX6_isWord 14 = .ok (.invokestatic 49, 3) := by decide +kernel
theorem dX6_isWord_17 : decode cX6_isWord 17 = .ok (.ireturn, 1) := by decide +kernel
theorem dX6_worldIn_0 : decode cX6_worldIn 0 = .ok (.iload_n 1, 1) := by decide +kernel
theorem dX6_worldIn_1 : decode cX6_worldIn 1 = .ok (.ifCond .lt 15, 3) := by decide +kernel
theorem dX6_worldIn_4 : decode cX6_worldIn 4 = .ok (.iload_n 1, 1) := by decide +kernel
theorem dX6_worldIn_5 : decode cX6_worldIn 5 = .ok (.aload_n 0, 1) := by decide +kernel
theorem dX6_worldIn_6 : decode cX6_worldIn 6 = .ok (.arraylength, 1) := by decide +kernel
theorem dX6_worldIn_7 : decode cX6_worldIn 7 = .ok (.if_icmp .ge 9, 3) := by decide +kernel
theorem dX6_worldIn_10 : decode cX6_worldIn 10 = .ok (.aload_n 0, 1) := by decide +kernel
theorem dX6_worldIn_11 : decode cX6_worldIn 11 = .ok (.iload_n 1, 1) := by decide +kernel
theorem dX6_worldIn_12 : decode cX6_worldIn 12 = .ok (.aaload, 1) := by decide +kernel
theorem dX6_worldIn_13 : decode cX6_worldIn 13 = .ok (.goto 4, 3) := by decide +kernel
theorem dX6_worldIn_16 : decode cX6_worldIn 16 = .ok (.aconst_null, 1) := by decide +kernel
theorem dX6_worldIn_17 : decode cX6_worldIn 17 = .ok (.areturn, 1) := by decide +kernel
set_option maxRecDepth 20000 in
theorem ggX6_copyInto_X6_worldIn : GoodIn wsX6_copyInto wsX6_worldIn := goodIn_r _ [5] (by decide +kernel) (by decide +kernel)
set_option maxRecDepth 20000 in
theorem gX6_copyInto_X6_worldIn : GoodIn wsX6_copyInto (va_wsS RX6 262 yX6_worldIn wsX6_worldIn) := goodIn_app (goodIn_of _ (by decide +kernel)) ggX6_copyInto_X6_worldIn
set_option maxRecDepth 20000 in
theorem ggX6_copyInto_X5_copyFrom : GoodIn wsX6_copyInto wsX5_copyFrom := goodIn_r _ [10, 11, 12, 13, 14, 15, 16, 17, 18, 19, 20, 21, 22, 23, 24, 25, 26, 27, 28, 29, 30, 31, 32, 33, 34, 35, 36, 37, 38, 39, 40, 41, 42, 43, 44, 45, 46, 47, 48, 49, 50, 51, 52, 53, 54, 55, 56, 57, 58, 59, 60, 61, 62, 63, 64, 65, 66, 67, 77, 78, 79, 80, 81, 82, 83, 84, 85, 86, 87, 88, 89, 90, 91, 92, 93, 94, 95, 96, 97, 98, 99, 100, 101, 102, 103] (by decide +kernel) (by decide +kernel)
set_option maxRecDepth 20000 in
theorem gX6_copyInto_X5_copyFrom : GoodIn wsX6_copyInto (wsV RX6 228 RX5 yX5_copyFrom wsX5_copyFrom) := goodIn_app (goodIn_of _ (by decide +kernel)) ggX6_copyInto_X5_copyFrom
theorem dX6_copyInto_0 : decode cX6_copyInto 0 = .ok (.aload_n 1, 1) := by decide +kernel
theorem dX6_copyInto_1 : decode cX6_copyInto 1 = .ok (.iload_n 2, 1) := by decide +kernel
theorem dX6_copyInto_2 : decode cX6_copyInto 2 = .ok (.invokestatic 262, 3) := by decide +kernel
theorem dX6_copyInto_5 : decode cX6_copyInto 5 = .ok (.astore_n 3, 1) := by decide +kernel
theorem dX6_copyInto_6 : decode cX6_copyInto 6 = .ok (.aload_n 3, 1) := by decide +kernel
theorem dX6_copyInto_7 : decode cX6_copyInto 7 = .ok (.ifnull 11, 3) := by decide +kernel
theorem dX6_copyInto_10 : decode cX6_copyInto 10 = .ok (.aload_n 3, 1) := by decide +kernel
theorem dX6_copyInto_11 : decode cX6_copyInto 11 = .ok (.aload_n 0, 1) := by decide +kernel
theorem dX6_copyInto_12 : decode cX6_copyInto 12 = .ok (.getfield 10, 3) := by decide +kernel
theorem dX6_copyInto_15 : decode cX6_copyInto 15 = .ok (.invokevirtual 228, 3) := by decide +kernel
theorem dX6_copyInto_18 : decode cX6_copyInto 18 = .ok (.return_, 1) := by decide +kernel
set_option maxRecDepth 20000 in
theorem ggX6_record_X6_copyInto : GoodIn wsX6_record wsX6_copyInto := goodIn_r _ [12, 13, 14, 15, 11, 16, 17, 18, 19, 20, 21, 22, 23, 24, 25, 26, 27, 28, 29, 30, 31, 32, 33, 34, 35, 36, 37, 38, 39, 40, 41, 42, 43, 5, 6, 7, 44, 45, 46, 47, 48, 49, 50, 51, 52, 53, 54, 55, 56, 57, 58, 59, 60, 61, 62, 63, 64, 65, 66, 67, 68, 69, 70, 71, 72, 73, 74, 75, 76, 77, 78, 79, 80, 81, 82, 83, 84, 85, 86, 87, 88, 89, 90, 91, 92, 93, 94, 95, 96, 97, 98, 99, 100, 101, 102, 103, 104, 105, 106, 107, 108, 109, 110, 111] (by decide +kernel) (by decide +kernel)
set_option maxRecDepth 20000 in
theorem gX6_record_X6_copyInto : GoodIn wsX6_record (wsV RX6 266 RX6 yX6_copyInto wsX6_copyInto) := goodIn_app (goodIn_of _ (by decide +kernel)) ggX6_record_X6_copyInto
theorem dX6_record_0 : decode cX6_record 0 = .ok (.aload_n 0, 1) := by decide +kernel
theorem dX6_record_1 : decode cX6_record 1 = .ok (.aload_n 0, 1) := by decide +kernel
theorem dX6_record_2 : decode cX6_record 2 = .ok (.getfield 26, 3) := by decide +kernel
theorem dX6_record_5 : decode cX6_record 5 = .ok (.aload_n 0, 1) := by decide +kernel
theorem dX6_record_6 : decode cX6_record 6 = .ok (.getfield 259, 3) := by decide +kernel
theorem dX6_record_9 : decode cX6_record 9 = .ok (.invokevirtual 266, 3) := by decide +kernel
theorem dX6_record_12 : decode cX6_record 12 = .ok (.aload_n 0, 1) := by decide +kernel
theorem dX6_record_13 : decode cX6_record 13 = .ok (.aload_n 0, 1) := by decide +kernel
theorem dX6_record_14 : decode cX6_record 14 = .ok (.getfield 259, 3) := by decide +kernel
theorem dX6_record_17 : decode cX6_record 17 = .ok (.iconst 5, 1) := by decide +kernel
theorem dX6_record_18 : decode cX6_record 18 = .ok (.if_icmp .ne 7, 3) := by decide +kernel
theorem dX6_record_21 : decode cX6_record 21 = .ok (.iconst 0, 1) := by decide +kernel
theorem dX6_record_22 : decode cX6_record 22 = .ok (.goto 9, 3) := by decide +kernel
theorem dX6_record_25 : decode cX6_record 25 = .ok (.aload_n 0, 1) := by decide +kernel
theorem dX6_record_26 : decode cX6_record 26 = .ok (.getfield 259, 3) := by decide +kernel
theorem dX6_record_29 : decode cX6_record 29 = .ok (.iconst 1, 1) := by decide +kernel
theorem dX6_record_30 : decode cX6_record 30 = .ok (.iadd, 1) := by decide +kernel
theorem dX6_record_31 : decode cX6_record 31 = .ok (.putfield 259, 3) := by decide +kernel
theorem dX6_record_34 : decode cX6_record 34 = .ok (.aload_n 0, 1) := by decide +kernel
theorem dX6_record_35 : decode cX6_record 35 = .ok (.aload_n 0, 1) := by decide +kernel
theorem dX6_record_36 : decode cX6_record 36 = .ok (.getfield 219, 3) := by decide +kernel
theorem dX6_record_39 : decode cX6_record 39 = .ok (.iconst 1, 1) := by decide +kernel
theorem dX6_record_40 : decode cX6_record 40 = .ok (.iadd, 1) := by decide +kernel
theorem dX6_record_41 : decode cX6_record 41 = .ok (.bipush 6, 2) := by decide +kernel
theorem dX6_record_43 : decode cX6_record 43 = .ok (.invokestatic 270, 3) := by decide +kernel
theorem dX6_record_46 : decode cX6_record 46 = .ok (.putfield 219, 3) := by decide +kernel
theorem dX6_record_49 : decode cX6_record 49 = .ok (.return_, 1) := by decide +kernel
set_option maxRecDepth 20000 in
theorem ggX6_bringWords_X4_startWord : GoodIn wsX6_bringWords wsX4_startWord := goodIn_r _ [10, 11, 12, 13, 14, 15, 16, 17, 18, 19, 20, 21, 22, 23, 9, 24, 25, 26, 27, 28, 29, 30, 58, 59, 60, 61, 62, 63, 64, 65, 66] (by decide +kernel) (by decide +kernel)
set_option maxRecDepth 20000 in
theorem gX6_bringWords_X4_startWord : GoodIn wsX6_bringWords (wsV RX6 275 RX4 yX4_startWord wsX4_startWord) := goodIn_app (goodIn_of _ (by decide +kernel)) ggX6_bringWords_X4_startWord
set_option maxRecDepth 20000 in
theorem ggX6_bringWords_X0_get : GoodIn wsX6_bringWords wsX0_get := goodIn_r _ [30, 20, 66] (by decide +kernel) (by decide +kernel)
set_option maxRecDepth 20000 in
theorem gX6_bringWords_X0_get : GoodIn wsX6_bringWords (wsV RX6 77 RX0 yX0_get wsX0_get) := goodIn_app (goodIn_of _ (by decide +kernel)) ggX6_bringWords_X0_get
set_option maxRecDepth 20000 in
theorem ggX6_bringWords_X4_addLetter : GoodIn wsX6_bringWords wsX4_addLetter := goodIn_r _ [35, 11, 12, 36, 27, 28, 29, 18, 30, 20, 15, 16, 17, 19, 37, 38, 39, 40, 58, 59, 60, 61, 62, 63, 64, 65, 66] (by decide +kernel) (by decide +kernel)
set_option maxRecDepth 20000 in
theorem gX6_bringWords_X4_addLetter : GoodIn wsX6_bringWords (wsV RX6 281 RX4 yX4_addLetter wsX4_addLetter) := goodIn_app (goodIn_of _ (by decide +kernel)) ggX6_bringWords_X4_addLetter
theorem dX6_bringWords_0 : decode cX6_bringWords 0 = .ok (.aload_n 0, 1) := by decide +kernel
theorem dX6_bringWords_1 : decode cX6_bringWords 1 = .ok (.getfield 10, 3) := by decide +kernel
theorem dX6_bringWords_4 : decode cX6_bringWords 4 = .ok (.getfield 117, 3) := by decide +kernel
theorem dX6_bringWords_7 : decode cX6_bringWords 7 = .ok (.iload_n 1, 1) := by decide +kernel
theorem dX6_bringWords_8 : decode cX6_bringWords 8 = .ok (.invokevirtual 275, 3) := by decide +kernel
theorem dX6_bringWords_11 : decode cX6_bringWords 11 = .ok (.iconst 0, 1) := by decide +kernel
theorem dX6_bringWords_12 : decode cX6_bringWords 12 = .ok (.istore_n 2, 1) := by decide +kernel
theorem dX6_bringWords_13 : decode cX6_bringWords 13 = .ok (.iload_n 2, 1) := by decide +kernel
theorem dX6_bringWords_14 : decode cX6_bringWords 14 = .ok (.aload_n 0, 1) := by decide +kernel
theorem dX6_bringWords_15 : decode cX6_bringWords 15 = .ok (.getfield 22, 3) := by decide +kernel
theorem dX6_bringWords_18 : decode cX6_bringWords 18 = .ok (.getfield 132, 3) := by decide +kernel
theorem dX6_bringWords_21 : decode cX6_bringWords 21 = .ok (.if_icmp .ge 52, 3) := by decide +kernel
theorem dX6_bringWords_24 : decode cX6_bringWords 24 = .ok (.aload_n 0, 1) := by decide +kernel
theorem dX6_bringWords_25 : decode cX6_bringWords 25 = .ok (.getfield 22, 3) := by decide +kernel
theorem dX6_bringWords_28 : decode cX6_bringWords 28 = .ok (.getfield 278, 3) := by decide +kernel
theorem dX6_bringWords_31 : decode cX6_bringWords 31 = .ok (.iload_n 2, 1) := by decide +kernel
theorem dX6_bringWords_32 : decode cX6_bringWords 32 = .ok (.invokevirtual 77, 3) := by decide +kernel
theorem dX6_bringWords_35 : decode cX6_bringWords 35 = .ok (.istore_n 3, 1) := by decide +kernel
theorem dX6_bringWords_36 : decode cX6_bringWords 36 = .ok (.iload_n 3, 1) := by decide +kernel
theorem dX6_bringWords_37 : decode cX6_bringWords 37 = .ok (.bipush 44, 2) := by decide +kernel
theorem dX6_bringWords_39 : decode cX6_bringWords 39 = .ok (.if_icmp .ne 17, 3) := by decide +kernel
theorem dX6_bringWords_42 : decode cX6_bringWords 42 = .ok (.aload_n 0, 1) := by decide +kernel
theorem dX6_bringWords_43 : decode cX6_bringWords 43 = .ok (.getfield 10, 3) := by decide +kernel
theorem dX6_bringWords_46 : decode cX6_bringWords 46 = .ok (.getfield 117, 3) := by decide +kernel
theorem dX6_bringWords_49 : decode cX6_bringWords 49 = .ok (.iload_n 1, 1) := by decide +kernel
theorem dX6_bringWords_50 : decode cX6_bringWords 50 = .ok (.invokevirtual 275, 3) := by decide +kernel
theorem dX6_bringWords_53 : decode cX6_bringWords 53 = .ok (.goto 14, 3) := by decide +kernel
theorem dX6_bringWords_56 : decode cX6_bringWords 56 = .ok (.aload_n 0, 1) := by decide +kernel
theorem dX6_bringWords_57 : decode cX6_bringWords 57 = .ok (.getfield 10, 3) := by decide +kernel
theorem dX6_bringWords_60 : decode cX6_bringWords 60 = .ok (.getfield 117, 3) := by decide +kernel
theorem dX6_bringWords_63 : decode cX6_bringWords 63 = .ok (.iload_n 3, 1) := by decide +kernel
theorem dX6_bringWords_64 : decode cX6_bringWords 64 = .ok (.invokevirtual 281, 3) := by decide +kernel
theorem dX6_bringWords_67 : decode cX6_bringWords 67 = .ok (.iinc 2 1, 3) := by decide +kernel
theorem dX6_bringWords_70 : decode cX6_bringWords 70 = .ok (.goto (-57), 3) := by decide +kernel
theorem dX6_bringWords_73 : decode cX6_bringWords 73 = .ok (.return_, 1) := by decide +kernel
set_option maxRecDepth 20000 in
theorem ggX6_codesIn_X6_isWithin : GoodIn wsX6_codesIn wsX6_isWithin := goodIn_r _ [5] (by decide +kernel) (by decide +kernel)
set_option maxRecDepth 20000 in
theorem gX6_codesIn_X6_isWithin : GoodIn wsX6_codesIn (va_wsS RX6 49 yX6_isWithin wsX6_isWithin) := goodIn_app (goodIn_of _ (by decide +kernel)) ggX6_codesIn_X6_isWithin
theorem dX6_codesIn_0 : decode cX6_codesIn 0 = .ok (.lload_n 0, 1) := by decide +kernel
theorem dX6_codesIn_1 : decode cX6_codesIn 1 = .ok (.lstore_n 2, 1) := by decide +kernel
theorem dX6_codesIn_2 : decode cX6_codesIn 2 = .ok (.iconst 0, 1) := by decide +kernel
theorem dX6_codesIn_3 : decode cX6_codesIn 3 = .ok (.istore 4, 2) := by decide +kernel
theorem dX6_codesIn_5 : decode cX6_codesIn 5 = .ok (.iconst 0, 1) := by decide +kernel
theorem dX6_codesIn_6 : decode cX6_codesIn 6 = .ok (.istore 5, 2) := by decide +kernel
theorem dX6_codesIn_8 : decode cX6_codesIn 8 = .ok (.iload 5, 2) := by decide +kernel
theorem dX6_codesIn_10 : decode cX6_codesIn 10 = .ok (.bipush 8, 2) := by decide +kernel
theorem dX6_codesIn_12 : decode cX6_codesIn 12 = .ok (.if_icmp .ge 43, 3) := by decide +kernel
theorem dX6_codesIn_15 : decode cX6_codesIn 15 = .ok (.lload_n 2, 1) := by decide +kernel
theorem dX6_codesIn_16 : decode cX6_codesIn 16 = .ok (.lconst 0, 1) := by decide +kernel
theorem dX6_codesIn_17 : decode cX6_codesIn 17 = .ok (.lcmp, 1) := by decide +kernel
theorem dX6_codesIn_18 : decode cX6_codesIn 18 = .ok (.ifCond .eq 37, 3) := by decide +kernel
theorem dX6_codesIn_21 : decode cX6_codesIn 21 = .ok (.lload_n 2, 1) := by decide +kernel
theorem dX6_codesIn_22 : decode cX6_codesIn 22 = .ok (.ldc2_w 284, 3) := by decide +kernel
theorem dX6_codesIn_25 : decode cX6_codesIn 25 = .ok (.land, 1) := by decide +kernel
theorem dX6_codesIn_26 : decode cX6_codesIn 26 = .ok (.l2i, 1) := by decide +kernel
theorem dX6_codesIn_27 : decode cX6_codesIn 27 = .ok (.bipush 33, 2) := by decide +kernel
theorem dX6_codesIn_29 : decode cX6_codesIn 29 = .ok (.bipush 126, 2) := by decide +kernel
theorem dX6_codesIn_31 : decode cX6_codesIn 31 = .ok (.invokestatic 49, 3) := by decide +kernel
theorem dX6_codesIn_34 : decode cX6_codesIn 34 = .ok (.ifCond .ne 7, 3) := by decide +kernel
theorem dX6_codesIn_37 : decode cX6_codesIn 37 = .ok (.sipush (-1002), 3) := by decide +kernel
theorem dX6_codesIn_40 : decode cX6_codesIn 40 = .ok (.ireturn, 1) := by decide +kernel
theorem dX6_codesIn_41 : decode cX6_codesIn 41 = .ok (.iinc 4 1, 3) := by decide +kernel
theorem dX6_codesIn_44 : decode cX6_codesIn 44 = .ok (.lload_n 2, 1) := by decide +kernel
theorem dX6_codesIn_45 : decode cX6_codesIn 45 = .ok (.bipush 8, 2) := by decide +kernel
theorem dX6_codesIn_47 : decode cX6_codesIn 47 = .ok (.lushr, 1) := by decide +kernel
theorem dX6_codesIn_48 : decode cX6_codesIn 48 = .ok (.lstore_n 2, 1) := by decide +kernel
theorem dX6_codesIn_49 : decode cX6_codesIn 49 = .ok (.iinc 5 1, 3) := by decide +kernel
theorem dX6_codesIn_52 : decode cX6_codesIn 52 = .ok (.goto (-44), 3) := by decide +kernel
theorem dX6_codesIn_55 : decode cX6_codesIn 55 = .ok (.iload 4, 2) := by decide +kernel
theorem dX6_codesIn_57 : decode cX6_codesIn 57 = .ok (.ifCond .ne 9, 3) := by decide +kernel
theorem dX6_codesIn_60 : decode cX6_codesIn 60 = .ok (.sipush (-1002), 3) := by decide +kernel
theorem dX6_codesIn_63 : decode cX6_codesIn 63 = .ok (.goto 5, 3) := by decide +kernel
theorem dX6_codesIn_66 : decode cX6_codesIn 66 = .ok (.iload 4, 2) := by decide +kernel
theorem dX6_codesIn_68 : decode cX6_codesIn 68 = .ok (.ireturn, 1) := by decide +kernel
theorem dX6_codeAt_0 : decode cX6_codeAt 0 = .ok (.lload_n 0, 1) := by decide +kernel
theorem dX6_codeAt_1 : decode cX6_codeAt 1 = .ok (.bipush 8, 2) := by decide +kernel
theorem dX6_codeAt_3 : decode cX6_codeAt 3 = .ok (.iload_n 2, 1) := by decide +kernel
theorem dX6_codeAt_4 : decode cX6_codeAt 4 = .ok (.imul, 1) := by decide +kernel
theorem dX6_codeAt_5 : decode cX6_codeAt 5 = .ok (.lushr, 1) := by decide +kernel
theorem dX6_codeAt_6 : decode cX6_codeAt 6 = .ok (.l2i, 1) := by decide +kernel
theorem dX6_codeAt_7 : decode cX6_codeAt 7 = .ok (.sipush 255, 3) := by decide +kernel
theorem dX6_codeAt_10 : decode cX6_codeAt 10 = .ok (.iand, 1) := by decide +kernel
theorem dX6_codeAt_11 : decode cX6_codeAt 11 = .ok (.ireturn, 1) := by decide +kernel
set_option maxRecDepth 20000 in
theorem ggX6_findGapsAhead_X3_gapAt : GoodIn wsX6_findGapsAhead wsX3_gapAt := goodIn_r _ [9, 10, 11, 12, 8, 13, 14, 15, 16, 17, 18, 19, 20, 21, 22, 23, 24, 25, 26, 27, 28, 29, 30, 31, 51, 52, 53, 54, 55] (by decide +kernel) (by decide +kernel)
set_option maxRecDepth 20000 in
theorem gX6_findGapsAhead_X3_gapAt : GoodIn wsX6_findGapsAhead (wsV RX6 286 RX3 yX3_gapAt wsX3_gapAt) := goodIn_app (goodIn_of _ (by decide +kernel)) ggX6_findGapsAhead_X3_gapAt
set_option maxRecDepth 20000 in
theorem ggX6_findGapsAhead_X0_set : GoodIn wsX6_findGapsAhead wsX0_set := goodIn_r _ [35, 31, 55] (by decide +kernel) (by decide +kernel)
set_option maxRecDepth 20000 in
theorem gX6_findGapsAhead_X0_set : GoodIn wsX6_findGapsAhead (wsV RX6 81 RX0 yX0_set wsX0_set) := goodIn_app (goodIn_of _ (by decide +kernel)) ggX6_findGapsAhead_X0_set
theorem dX6_findGapsAhead_0 : decode cX6_findGapsAhead 0 = .ok (.iconst 0, 1) := by decide +kernel
theorem dX6_findGapsAhead_1 : decode cX6_findGapsAhead 1 = .ok (.istore_n 1, 1) := by decide +kernel
theorem dX6_findGapsAhead_2 : decode cX6_findGapsAhead 2 = .ok (.iload_n 1, 1) := by decide +kernel
theorem dX6_findGapsAhead_3 : decode cX6_findGapsAhead 3 = .ok (.sipush 200, 3) := by decide +kernel
theorem dX6_findGapsAhead_6 : decode cX6_findGapsAhead 6 = .ok (.if_icmp .ge 36, 3) := by decide +kernel
theorem dX6_findGapsAhead_9 : decode cX6_findGapsAhead 9 = .ok (.aload_n 0, 1) := by decide +kernel
theorem dX6_findGapsAhead_10 : decode cX6_findGapsAhead 10 = .ok (.getfield 42, 3) := by decide +kernel
theorem dX6_findGapsAhead_13 : decode cX6_findGapsAhead 13 = .ok (.iload_n 1, 1) := by decide +kernel
theorem dX6_findGapsAhead_14 : decode cX6_findGapsAhead 14 = .ok (.aload_n 0, 1) := by decide +kernel
theorem dX6_findGapsAhead_15 : decode cX6_findGapsAhead 15 = .ok (.getfield 10, 3) := by decide +kernel
theorem dX6_findGapsAhead_18 : decode cX6_findGapsAhead 18 = .ok (.getfield 56, 3) := by decide +kernel
theorem dX6_findGapsAhead_21 : decode cX6_findGapsAhead 21 = .ok (.aload_n 0, 1) := by decide +kernel
theorem dX6_findGapsAhead_22 : decode cX6_findGapsAhead 22 = .ok (.getfield 10, 3) := by decide +kernel
theorem dX6_findGapsAhead_25 : decode cX6_findGapsAhead 25 = .ok (.getfield 66, 3) := by decide +kernel
theorem dX6_findGapsAhead_28 : decode cX6_findGapsAhead 28 = .ok (.iload_n 1, 1) := by decide +kernel
theorem dX6_findGapsAhead_29 : decode cX6_findGapsAhead 29 = .ok (.iadd, 1) := by decide +kernel
theorem dX6_findGapsAhead_30 : decode cX6_findGapsAhead 30 = .ok (.invokevirtual 286, 3) := by decide +kernel
theorem dX6_findGapsAhead_33 : decode cX6_findGapsAhead 33 = .ok (.invokevirtual 81, 3) := by decide +kernel
theorem dX6_findGapsAhead_36 : decode cX6_findGapsAhead 36 = .ok (.iinc 1 1, 3) := by decide +kernel
theorem dX6_findGapsAhead_39 : decode cX6_findGapsAhead 39 = .ok (.goto (-37), 3) := by decide +kernel
theorem dX6_findGapsAhead_42 : decode cX6_findGapsAhead 42 = .ok (.return_, 1) := by decide +kernel
set_option maxRecDepth 20000 in
theorem ggX6_hasGapAhead_X0_get : GoodIn wsX6_hasGapAhead wsX0_get := goodIn_r _ [10, 11, 21] (by decide +kernel) (by decide +kernel)
set_option maxRecDepth 20000 in
theorem gX6_hasGapAhead_X0_get : GoodIn wsX6_hasGapAhead (wsV RX6 77 RX0 yX0_get wsX0_get) := goodIn_app (goodIn_of _ (by decide +kernel)) ggX6_hasGapAhead_X0_get
theorem dX6_hasGapAhead_0 : decode cX6_hasGapAhead 0 = .ok (.iconst 0, 1) := by decide +kernel
theorem dX6_hasGapAhead_1 : decode cX6_hasGapAhead 1 = .ok (.istore_n 2, 1) := by decide +kernel
theorem dX6_hasGapAhead_2 : decode cX6_hasGapAhead 2 = .ok (.iload_n 2, 1) := by decide +kernel
theorem dX6_hasGapAhead_3 : decode cX6_hasGapAhead 3 = .ok (.sipush 200, 3) := by decide +kernel
theorem dX6_hasGapAhead_6 : decode cX6_hasGapAhead 6 = .ok (.if_icmp .ge 26, 3) := by decide +kernel
theorem dX6_hasGapAhead_9 : decode cX6_hasGapAhead 9 = .ok (.aload_n 0, 1) := by decide +kernel
theorem dX6_hasGapAhead_10 : decode cX6_hasGapAhead 10 = .ok (.getfield 42, 3) := by decide +kernel
theorem dX6_hasGapAhead_13 : decode cX6_hasGapAhead 13 = .ok (.iload_n 2, 1) := by decide +kernel
theorem dX6_hasGapAhead_14 : decode cX6_hasGapAhead 14 = .ok (.invokevirtual 77, 3) := by decide +kernel
theorem dX6_hasGapAhead_17 : decode cX6_hasGapAhead 17 = .ok (.invokestatic 289, 3) := by decide +kernel
theorem dX6_hasGapAhead_20 : decode cX6_hasGapAhead 20 = .ok (.iload_n 1, 1) := by decide +kernel
theorem dX6_hasGapAhead_21 : decode cX6_hasGapAhead 21 = .ok (.if_icmp .ne 5, 3) := by decide +kernel
theorem dX6_hasGapAhead_24 : decode cX6_hasGapAhead 24 = .ok (.iconst 1, 1) := by decide +kernel
theorem dX6_hasGapAhead_25 : decode cX6_hasGapAhead 25 = .ok (.ireturn, 1) := by decide +kernel
theorem dX6_hasGapAhead_26 : decode cX6_hasGapAhead 26 = .ok (.iinc 2 1, 3) := by decide +kernel
theorem dX6_hasGapAhead_29 : decode cX6_hasGapAhead 29 = .ok (.goto (-27), 3) := by decide +kernel
theorem dX6_hasGapAhead_32 : decode cX6_hasGapAhead 32 = .ok (.iconst 0, 1) := by decide +kernel
theorem dX6_hasGapAhead_33 : decode cX6_hasGapAhead 33 = .ok (.ireturn, 1) := by decide +kernel
set_option maxRecDepth 20000 in
theorem ggX6_wordsPassingWith_X5_copyFrom : GoodIn wsX6_wordsPassingWith wsX5_copyFrom := goodIn_r _ [11, 12, 13, 14, 15, 16, 17, 18, 19, 20, 21, 22, 23, 24, 25, 26, 27, 28, 29, 30, 31, 32, 33, 34, 35, 36, 37, 38, 39, 40, 41, 42, 43, 44, 45, 46, 47, 48, 49, 50, 51, 52, 53, 54, 55, 56, 57, 58, 59, 60, 61, 62, 63, 64, 65, 66, 67, 68, 171, 172, 173, 174, 175, 176, 185, 186, 187, 188, 189, 177, 178, 179, 180, 181, 182, 183, 184, 190, 191, 192, 193, 194, 195, 196, 197] (by decide +kernel) (by decide +kernel)
set_option maxRecDepth 20000 in
theorem gX6_wordsPassingWith_X5_copyFrom : GoodIn wsX6_wordsPassingWith (wsV RX6 228 RX5 yX5_copyFrom wsX5_copyFrom) := goodIn_app (goodIn_of _ (by decide +kernel)) ggX6_wordsPassingWith_X5_copyFrom
set_option maxRecDepth 20000 in
theorem ggX6_wordsPassingWith_X0_set : GoodIn wsX6_wordsPassingWith wsX0_set := goodIn_r _ [72, 32, 189] (by decide +kernel) (by decide +kernel)
set_option maxRecDepth 20000 in
theorem gX6_wordsPassingWith_X0_set : GoodIn wsX6_wordsPassingWith (wsV RX6 81 RX0 yX0_set wsX0_set) := goodIn_app (goodIn_of _ (by decide +kernel)) ggX6_wordsPassingWith_X0_set
set_option maxRecDepth 20000 in
theorem ggX6_wordsPassingWith_X0_get : GoodIn wsX6_wordsPassingWith wsX0_get := goodIn_r _ [76, 32, 189] (by decide +kernel) (by decide +kernel)
set_option maxRecDepth 20000 in
theorem gX6_wordsPassingWith_X0_get : GoodIn wsX6_wordsPassingWith (wsV RX6 77 RX0 yX0_get wsX0_get) := goodIn_app (goodIn_of _ (by decide +kernel)) ggX6_wordsPassingWith_X0_get
set_option maxRecDepth 20000 in
theorem ggX6_wordsPassingWith_X5_stepAcross : GoodIn wsX6_wordsPassingWith wsX5_stepAcross := goodIn_r _ [80, 13, 17, 15, 81, 82, 83, 44, 84, 85, 86, 35, 87, 47, 88, 89, 90, 91, 49, 92, 74, 75, 30, 76, 32, 93, 94, 95, 10, 96, 97, 14, 98, 99, 100, 101, 102, 50, 103, 104, 105, 106, 58, 107, 66, 108, 109, 110, 111, 112, 65, 113, 114, 115, 116, 62, 117, 118, 119, 120, 121, 70, 71, 72, 122, 123, 124, 125, 126, 16, 127, 128, 129, 130, 131, 132, 133, 134, 135, 136, 137, 51, 138, 139, 140, 141, 142, 63, 143, 144, 145, 146, 147, 148, 149, 150, 151, 152, 153, 154, 155, 156, 157, 171, 172, 173, 174, 175, 176, 177, 178, 179, 180, 181, 182, 183, 184, 189, 190, 191, 192, 193, 194, 195, 196, 197] (by decide +kernel) (by decide +kernel)
set_option maxRecDepth 20000 in
theorem gX6_wordsPassingWith_X5_stepAcross : GoodIn wsX6_wordsPassingWith (wsV RX6 292 RX5 yX5_stepAcross wsX5_stepAcross) := goodIn_app (goodIn_of _ (by decide +kernel)) ggX6_wordsPassingWith_X5_stepAcross
set_option maxRecDepth 20000 in
theorem ggX6_wordsPassingWith_X0_sum : GoodIn wsX6_wordsPassingWith wsX0_sum := goodIn_r _ [161, 32, 189] (by decide +kernel) (by decide +kernel)
set_option maxRecDepth 20000 in
theorem gX6_wordsPassingWith_X0_sum : GoodIn wsX6_wordsPassingWith (wsV RX6 110 RX0 yX0_sum wsX0_sum) := goodIn_app (goodIn_of _ (by decide +kernel)) ggX6_wordsPassingWith_X0_sum
theorem dX6_wordsPassingWith_0 : decode cX6_wordsPassingWith 0 = .ok (.aload_n 0, 1) := by decide +kernel
theorem dX6_wordsPassingWith_1 : decode cX6_wordsPassingWith 1 = .ok (.getfield 16, 3) := by decide +kernel
theorem dX6_wordsPassingWith_4 : decode cX6_wordsPassingWith 4 = .ok (.aload_n 0, 1) := by decide +kernel
theorem dX6_wordsPassingWith_5 : decode cX6_wordsPassingWith 5 = .ok (.getfield 10, 3) := by decide +kernel
theorem dX6_wordsPassingWith_8 : decode cX6_wordsPassingWith 8 = .ok (.invokevirtual 228, 3) := by decide +kernel
theorem dX6_wordsPassingWith_11 : decode cX6_wordsPassingWith 11 = .ok (.aload_n 0, 1) := by decide +kernel
theorem dX6_wordsPassingWith_12 : decode cX6_wordsPassingWith 12 = .ok (.getfield 16, 3) := by decide +kernel
theorem dX6_wordsPassingWith_15 : decode cX6_wordsPassingWith 15 = .ok (.getfield 88, 3) := by decide +kernel
theorem dX6_wordsPassingWith_18 : decode cX6_wordsPassingWith 18 = .ok (.getfield 100, 3) := by decide +kernel
theorem dX6_wordsPassingWith_21 : decode cX6_wordsPassingWith 21 = .ok (.iload_n 1, 1) := by decide +kernel
theorem dX6_wordsPassingWith_22 : decode cX6_wordsPassingWith 22 = .ok (.iload_n 2, 1) := by decide +kernel
theorem dX6_wordsPassingWith_23 : decode cX6_wordsPassingWith 23 = .ok (.invokevirtual 81, 3) := by decide +kernel
theorem dX6_wordsPassingWith_26 : decode cX6_wordsPassingWith 26 = .ok (.iconst 0, 1) := by decide +kernel
theorem dX6_wordsPassingWith_27 : decode cX6_wordsPassingWith 27 = .ok (.istore_n 3, 1) := by decide +kernel
theorem dX6_wordsPassingWith_28 : decode cX6_wordsPassingWith 28 = .ok (.iload_n 3, 1) := by decide +kernel
theorem dX6_wordsPassingWith_29 : decode cX6_wordsPassingWith 29 = .ok (.sipush 200, 3) := by decide +kernel
theorem dX6_wordsPassingWith_32 : decode cX6_wordsPassingWith 32 = .ok (.if_icmp .ge 24, 3) := by decide +kernel
theorem dX6_wordsPassingWith_35 : decode cX6_wordsPassingWith 35 = .ok (.aload_n 0, 1) := by decide +kernel
theorem dX6_wordsPassingWith_36 : decode cX6_wordsPassingWith 36 = .ok (.getfield 16, 3) := by decide +kernel
theorem dX6_wordsPassingWith_39 : decode cX6_wordsPassingWith 39 = .ok (.aload_n 0, 1) := by decide +kernel
theorem dX6_wordsPassingWith_40 : decode cX6_wordsPassingWith 40 = .ok (.getfield 42, 3) := by decide +kernel
theorem dX6_wordsPassingWith_43 : decode cX6_wordsPassingWith 43 = .ok (.iload_n 3, 1) := by decide +kernel
theorem dX6_wordsPassingWith_44 : decode cX6_wordsPassingWith 44 = .ok (.invokevirtual 77, 3) := by decide +kernel
theorem dX6_wordsPassingWith_47 : decode cX6_wordsPassingWith 47 = .ok (.invokevirtual 292, 3) := by decide +kernel
theorem dX6_wordsPassingWith_50 : decode cX6_wordsPassingWith 50 = .ok (.iinc 3 1, 3) := by decide +kernel
theorem dX6_wordsPassingWith_53 : decode cX6_wordsPassingWith 53 = .ok (.goto (-25), 3) := by decide +kernel
theorem dX6_wordsPassingWith_56 : decode cX6_wordsPassingWith 56 = .ok (.aload_n 0, 1) := by decide +kernel
theorem dX6_wordsPassingWith_57 : decode cX6_wordsPassingWith 57 = .ok (.getfield 16, 3) := by decide +kernel
theorem dX6_wordsPassingWith_60 : decode cX6_wordsPassingWith 60 = .ok (.getfield 88, 3) := by decide +kernel
theorem dX6_wordsPassingWith_63 : decode cX6_wordsPassingWith 63 = .ok (.getfield 136, 3) := by decide +kernel
theorem dX6_wordsPassingWith_66 : decode cX6_wordsPassingWith 66 = .ok (.invokevirtual 110, 3) := by decide +kernel
theorem dX6_wordsPassingWith_69 : decode cX6_wordsPassingWith 69 = .ok (.aload_n 0, 1) := by decide +kernel
theorem dX6_wordsPassingWith_70 : decode cX6_wordsPassingWith 70 = .ok (.getfield 10, 3) := by decide +kernel
theorem dX6_wordsPassingWith_73 : decode cX6_wordsPassingWith 73 = .ok (.getfield 88, 3) := by decide +kernel
theorem dX6_wordsPassingWith_76 : decode cX6_wordsPassingWith 76 = .ok (.getfield 136, 3) := by decide +kernel
theorem dX6_wordsPassingWith_79 : decode cX6_wordsPassingWith 79 = .ok (.invokevirtual 110, 3) := by decide +kernel
theorem dX6_wordsPassingWith_82 : decode cX6_wordsPassingWith 82 = .ok (.isub, 1) := by decide +kernel
theorem dX6_wordsPassingWith_83 : decode cX6_wordsPassingWith 83 = .ok (.ireturn, 1) := by decide +kernel
set_option maxRecDepth 20000 in
theorem ggX6_openStepsWith_X0_get : GoodIn wsX6_openStepsWith wsX0_get := goodIn_r _ [15, 16, 44] (by decide +kernel) (by decide +kernel)
set_option maxRecDepth 20000 in
theorem gX6_openStepsWith_X0_get : GoodIn wsX6_openStepsWith (wsV RX6 77 RX0 yX0_get wsX0_get) := goodIn_app (goodIn_of _ (by decide +kernel)) ggX6_openStepsWith_X0_get
theorem dX6_openStepsWith_0 : decode cX6_openStepsWith 0 = .ok (.iload_n 3, 1) := by decide +kernel
theorem dX6_openStepsWith_1 : decode cX6_openStepsWith 1 = .ok (.aload_n 0, 1) := by decide +kernel
theorem dX6_openStepsWith_2 : decode cX6_openStepsWith 2 = .ok (.getfield 10, 3) := by decide +kernel
theorem dX6_openStepsWith_5 : decode cX6_openStepsWith 5 = .ok (.getfield 56, 3) := by decide +kernel
theorem dX6_openStepsWith_8 : decode cX6_openStepsWith 8 = .ok (.getfield 74, 3) := by decide +kernel
theorem dX6_openStepsWith_11 : decode cX6_openStepsWith 11 = .ok (.iload_n 1, 1) := by decide +kernel
theorem dX6_openStepsWith_12 : decode cX6_openStepsWith 12 = .ok (.invokevirtual 77, 3) := by decide +kernel
theorem dX6_openStepsWith_15 : decode cX6_openStepsWith 15 = .ok (.isub, 1) := by decide +kernel
theorem dX6_openStepsWith_16 : decode cX6_openStepsWith 16 = .ok (.istore 4, 2) := by decide +kernel
theorem dX6_openStepsWith_18 : decode cX6_openStepsWith 18 = .ok (.iload_n 1, 1) := by decide +kernel
theorem dX6_openStepsWith_19 : decode cX6_openStepsWith 19 = .ok (.ifCond .ne 8, 3) := by decide +kernel
theorem dX6_openStepsWith_22 : decode cX6_openStepsWith 22 = .ok (.iload 4, 2) := by decide +kernel
theorem dX6_openStepsWith_24 : decode cX6_openStepsWith 24 = .ok (.goto 6, 3) := by decide +kernel
theorem dX6_openStepsWith_27 : decode cX6_openStepsWith 27 = .ok (.iload 4, 2) := by decide +kernel
theorem dX6_openStepsWith_29 : decode cX6_openStepsWith 29 = .ok (.ineg, 1) := by decide +kernel
theorem dX6_openStepsWith_30 : decode cX6_openStepsWith 30 = .ok (.istore 5, 2) := by decide +kernel
theorem dX6_openStepsWith_32 : decode cX6_openStepsWith 32 = .ok (.aload_n 0, 1) := by decide +kernel
theorem dX6_openStepsWith_33 : decode cX6_openStepsWith 33 = .ok (.getfield 10, 3) := by decide +kernel
theorem dX6_openStepsWith_36 : decode cX6_openStepsWith 36 = .ok (.getfield 88, 3) := by decide +kernel
theorem dX6_openStepsWith_39 : decode cX6_openStepsWith 39 = .ok (.getfield 100, 3) := by decide +kernel
theorem dX6_openStepsWith_42 : decode cX6_openStepsWith 42 = .ok (.iload_n 2, 1) := by decide +kernel
theorem dX6_openStepsWith_43 : decode cX6_openStepsWith 43 = .ok (.invokevirtual 77, 3) := by decide +kernel
theorem dX6_openStepsWith_46 : decode cX6_openStepsWith 46 = .ok (.istore 6, 2) := by decide +kernel
theorem dX6_openStepsWith_48 : decode cX6_openStepsWith 48 = .ok (.iconst 0, 1) := by decide +kernel
theorem dX6_openStepsWith_49 : decode cX6_openStepsWith 49 = .ok (.istore 7, 2) := by decide +kernel
theorem dX6_openStepsWith_51 : decode cX6_openStepsWith 51 = .ok (.iconst 0, 1) := by decide +kernel
theorem dX6_openStepsWith_52 : decode cX6_openStepsWith 52 = .ok (.istore 8, 2) := by decide +kernel
theorem dX6_openStepsWith_54 : decode cX6_openStepsWith 54 = .ok (.iload 8, 2) := by decide +kernel
theorem dX6_openStepsWith_56 : decode cX6_openStepsWith 56 = .ok (.sipush 200, 3) := by decide +kernel
theorem dX6_openStepsWith_59 : decode cX6_openStepsWith 59 = .ok (.if_icmp .ge 32, 3) := by decide +kernel
theorem dX6_openStepsWith_62 : decode cX6_openStepsWith 62 = .ok (.aload_n 0, 1) := by decide +kernel
theorem dX6_openStepsWith_63 : decode cX6_openStepsWith 63 = .ok (.getfield 42, 3) := by decide +kernel
theorem dX6_openStepsWith_66 : decode cX6_openStepsWith 66 = .ok (.iload 8, 2) := by decide +kernel
theorem dX6_openStepsWith_68 : decode cX6_openStepsWith 68 = .ok (.invokevirtual 77, 3) := by decide +kernel
theorem dX6_openStepsWith_71 : decode cX6_openStepsWith 71 = .ok (.iload 5, 2) := by decide +kernel
theorem dX6_openStepsWith_73 : decode cX6_openStepsWith 73 = .ok (.iadd, 1) := by decide +kernel
theorem dX6_openStepsWith_74 : decode cX6_openStepsWith 74 = .ok (.invokestatic 289, 3) := by decide +kernel
theorem dX6_openStepsWith_77 : decode cX6_openStepsWith 77 = .ok (.iload 6, 2) := by decide +kernel
theorem dX6_openStepsWith_79 : decode cX6_openStepsWith 79 = .ok (.if_icmp .gt 6, 3) := by decide +kernel
theorem dX6_openStepsWith_82 : decode cX6_openStepsWith 82 = .ok (.iinc 7 1, 3) := by decide +kernel
theorem dX6_openStepsWith_85 : decode cX6_openStepsWith 85 = .ok (.iinc 8 1, 3) := by decide +kernel
theorem dX6_openStepsWith_88 : decode cX6_openStepsWith 88 = .ok (.goto (-34), 3) := by decide +kernel
theorem dX6_openStepsWith_91 : decode cX6_openStepsWith 91 = .ok (.iload 7, 2) := by decide +kernel
theorem dX6_openStepsWith_93 : decode cX6_openStepsWith 93 = .ok (.ireturn, 1) := by decide +kernel
