set_option maxRecDepth 20000 in
theorem ggX7_init_X7_ofStore : GoodIn wsX7_init wsX7_ofStore := goodIn_r _ [15] (by decide +kernel) (by decide +kernel)
set_option maxRecDepth 20000 in
theorem gX7_init_X7_ofStore : GoodIn wsX7_init (va_wsS RX7 29 yX7_ofStore wsX7_ofStore) := goodIn_app (goodIn_of _ (by decide +kernel)) ggX7_init_X7_ofStore
set_option maxRecDepth 20000 in
theorem ggX7_init_X7_ofGate : GoodIn wsX7_init wsX7_ofGate := goodIn_r _ [18] (by decide +kernel) (by decide +kernel)
set_option maxRecDepth 20000 in
theorem gX7_init_X7_ofGate : GoodIn wsX7_init (va_wsS RX7 33 yX7_ofGate wsX7_ofGate) := goodIn_app (goodIn_of _ (by decide +kernel)) ggX7_init_X7_ofGate
theorem dX7_init_0 : decode cX7_init 0 = .ok (.aload_n 0, 1) := by decide +kernel
theorem dX7_init_1 : decode cX7_init 1 = .ok (.invokespecial 1, 3) := by decide +kernel
theorem dX7_init_4 : decode cX7_init 4 = .ok (.aload_n 0, 1) := by decide +kernel
theorem dX7_init_5 : decode cX7_init 5 = .ok (.sipush 131, 3) := by decide +kernel
theorem dX7_init_8 : decode cX7_init 8 = .ok (.newarray .int, 2) := by decide +kernel
theorem dX7_init_10 : decode cX7_init 10 = .ok (.putfield 7, 3) := by decide +kernel
theorem dX7_init_13 : decode cX7_init 13 = .ok (.aload_n 0, 1) := by decide +kernel
theorem dX7_init_14 : decode cX7_init 14 = .ok (.sipush 131, 3) := by decide +kernel
theorem dX7_init_17 : decode cX7_init 17 = .ok (.newarray .int, 2) := by decide +kernel
theorem dX7_init_19 : decode cX7_init 19 = .ok (.putfield 13, 3) := by decide +kernel
theorem dX7_init_22 : decode cX7_init 22 = .ok (.aload_n 0, 1) := by decide +kernel
theorem dX7_init_23 : decode cX7_init 23 = .ok (.sipush 786, 3) := by decide +kernel
theorem dX7_init_26 : decode cX7_init 26 = .ok (.newarray .int, 2) := by decide +kernel
theorem dX7_init_28 : decode cX7_init 28 = .ok (.putfield 16, 3) := by decide +kernel
theorem dX7_init_31 : decode cX7_init 31 = .ok (.aload_n 0, 1) := by decide +kernel
theorem dX7_init_32 : decode cX7_init 32 = .ok (.sipush 262, 3) := by decide +kernel
theorem dX7_init_35 : decode cX7_init 35 = .ok (.newarray .int, 2) := by decide +kernel
theorem dX7_init_37 : decode cX7_init 37 = .ok (.putfield 19, 3) := by decide +kernel
theorem dX7_init_40 : decode cX7_init 40 = .ok (.aload_n 0, 1) := by decide +kernel
theorem dX7_init_41 : decode cX7_init 41 = .ok (.iconst 2, 1) := by decide +kernel
theorem dX7_init_42 : decode cX7_init 42 = .ok (.newarray .boolean, 2) := by decide +kernel
theorem dX7_init_44 : decode cX7_init 44 = .ok (.putfield 22, 3) := by decide +kernel
theorem dX7_init_47 : decode cX7_init 47 = .ok (.aload_n 0, 1) := by decide +kernel
theorem dX7_init_48 : decode cX7_init 48 = .ok (.bipush 60, 2) := by decide +kernel
theorem dX7_init_50 : decode cX7_init 50 = .ok (.newarray .int, 2) := by decide +kernel
theorem dX7_init_52 : decode cX7_init 52 = .ok (.putfield 26, 3) := by decide +kernel
theorem dX7_init_55 : decode cX7_init 55 = .ok (.iconst 0, 1) := by decide +kernel
theorem dX7_init_56 : decode cX7_init 56 = .ok (.istore_n 1, 1) := by decide +kernel
theorem dX7_init_57 : decode cX7_init 57 = .ok (.iload_n 1, 1) := by decide +kernel
theorem dX7_init_58 : decode cX7_init 58 = .ok (.iconst 2, 1) := by decide +kernel
theorem dX7_init_59 : decode cX7_init 59 = .ok (.if_icmp .ge 49, 3) := by decide +kernel
theorem dX7_init_62 : decode cX7_init 62 = .ok (.aload_n 0, 1) := by decide +kernel
theorem dX7_init_63 : decode cX7_init 63 = .ok (.getfield 7, 3) := by decide +kernel
theorem dX7_init_66 : decode cX7_init 66 = .ok (.iload_n 1, 1) := by decide +kernel
theorem dX7_init_67 : decode cX7_init 67 = .ok (.iconst 0, 1) := by decide +kernel
theorem dX7_init_68 : decode cX7_init 68 = .ok (.invokestatic 29, 3) := by decide +kernel
theorem dX7_init_71 : decode cX7_init 71 = .ok (.bipush 100, 2) := by decide +kernel
theorem dX7_init_73 : decode cX7_init 73 = .ok (.iastore, 1) := by decide +kernel
theorem dX7_init_74 : decode cX7_init 74 = .ok (.aload_n 0, 1) := by decide +kernel
theorem dX7_init_75 : decode cX7_init 75 = .ok (.getfield 7, 3) := by decide +kernel
theorem dX7_init_78 : decode cX7_init 78 = .ok (.iload_n 1, 1) := by decide +kernel
theorem dX7_init_79 : decode cX7_init 79 = .ok (.iconst 1, 1) := by decide +kernel
theorem dX7_init_80 : decode cX7_init 80 = .ok (.invokestatic 29, 3) := by decide +kernel
theorem dX7_init_83 : decode cX7_init 83 = .ok (.bipush 30, 2) := by decide +kernel
theorem dX7_init_85 : decode cX7_init 85 = .ok (.iastore, 1) := by decide +kernel
theorem dX7_init_86 : decode cX7_init 86 = .ok (.aload_n 0, 1) := by decide +kernel
theorem dX7_init_87 : decode cX7_init 87 = .ok (.getfield 7, 3) := by decide +kernel
theorem dX7_init_90 : decode cX7_init 90 = .ok (.iload_n 1, 1) := by decide +kernel
theorem dX7_init_91 : decode cX7_init 91 = .ok (.iconst 2, 1) := by decide +kernel
theorem dX7_init_92 : decode cX7_init 92 = .ok (.invokestatic 29, 3) := by decide +kernel
theorem dX7_init_95 : decode cX7_init 95 = .ok (.bipush 24, 2) := by decide +kernel
theorem dX7_init_97 : decode cX7_init 97 = .ok (.iconst 4, 1) := by decide +kernel
theorem dX7_init_98 : decode cX7_init 98 = .ok (.iload_n 1, 1) := by decide +kernel
theorem dX7_init_99 : decode cX7_init 99 = .ok (.imul, 1) := by decide +kernel
theorem dX7_init_100 : decode cX7_init 100 = .ok (.isub, 1) := by decide +kernel
theorem dX7_init_101 : decode cX7_init 101 = .ok (.iastore, 1) := by decide +kernel
theorem dX7_init_102 : decode cX7_init 102 = .ok (.iinc 1 1, 3) := by decide +kernel
theorem dX7_init_105 : decode cX7_init 105 = .ok (.goto (-48), 3) := by decide +kernel
theorem dX7_init_108 : decode cX7_init 108 = .ok (.iconst 0, 1) := by decide +kernel
theorem dX7_init_109 : decode cX7_init 109 = .ok (.istore_n 1, 1) := by decide +kernel
theorem dX7_init_110 : decode cX7_init 110 = .ok (.iload_n 1, 1) := by decide +kernel
theorem dX7_init_111 : decode cX7_init 111 = .ok (.iconst 4, 1) := by decide +kernel
theorem dX7_init_112 : decode cX7_init 112 = .ok (.if_icmp .ge 46, 3) := by decide +kernel
theorem dX7_init_115 : decode cX7_init 115 = .ok (.aload_n 0, 1) := by decide +kernel
theorem dX7_init_116 : decode cX7_init 116 = .ok (.getfield 7, 3) := by decide +kernel
theorem dX7_init_119 : decode cX7_init 119 = .ok (.iload_n 1, 1) := by decide +kernel
theorem dX7_init_120 : decode cX7_init 120 = .ok (.iconst 0, 1) := by decide +kernel
theorem dX7_init_121 : decode cX7_init 121 = .ok (.invokestatic 33, 3) := by decide +kernel
theorem dX7_init_124 : decode cX7_init 124 = .ok (.iload_n 1, 1) := by decide +kernel
theorem dX7_init_125 : decode cX7_init 125 = .ok (.iconst 2, 1) := by decide +kernel
theorem dX7_init_126 : decode cX7_init 126 = .ok (.irem, 1) := by decide +kernel
theorem dX7_init_127 : decode cX7_init 127 = .ok (.iastore, 1) := by decide +kernel
theorem dX7_init_128 : decode cX7_init 128 = .ok (.aload_n 0, 1) := by decide +kernel
theorem dX7_init_129 : decode cX7_init 129 = .ok (.getfield 7, 3) := by decide +kernel
theorem dX7_init_132 : decode cX7_init 132 = .ok (.iload_n 1, 1) := by decide +kernel
theorem dX7_init_133 : decode cX7_init 133 = .ok (.iconst 1, 1) := by decide +kernel
theorem dX7_init_134 : decode cX7_init 134 = .ok (.invokestatic 33, 3) := by decide +kernel
theorem dX7_init_137 : decode cX7_init 137 = .ok (.iconst 5, 1) := by decide +kernel
theorem dX7_init_138 : decode cX7_init 138 = .ok (.iastore, 1) := by decide +kernel
theorem dX7_init_139 : decode cX7_init 139 = .ok (.aload_n 0, 1) := by decide +kernel
theorem dX7_init_140 : decode cX7_init 140 = .ok (.getfield 7, 3) := by decide +kernel
theorem dX7_init_143 : decode cX7_init 143 = .ok (.iload_n 1, 1) := by decide +kernel
theorem dX7_init_144 : decode cX7_init 144 = .ok (.iconst 4, 1) := by decide +kernel
theorem dX7_init_145 : decode cX7_init 145 = .ok (.invokestatic 33, 3) := by decide +kernel
theorem dX7_init_148 : decode cX7_init 148 = .ok (.sipush (-1006), 3) := by decide +kernel
theorem dX7_init_151 : decode cX7_init 151 = .ok (.iastore, 1) := by decide +kernel
theorem dX7_init_152 : decode cX7_init 152 = .ok (.iinc 1 1, 3) := by decide +kernel
theorem dX7_init_155 : decode cX7_init 155 = .ok (.goto (-45), 3) := by decide +kernel
theorem dX7_init_158 : decode cX7_init 158 = .ok (.return_, 1) := by decide +kernel
theorem dX7_in_0 : decode cX7_in 0 = .ok (.iload_n 0, 1) := by decide +kernel
theorem dX7_in_1 : decode cX7_in 1 = .ok (.iload_n 1, 1) := by decide +kernel
theorem dX7_in_2 : decode cX7_in 2 = .ok (.if_icmp .lt 12, 3) := by decide +kernel
theorem dX7_in_5 : decode cX7_in 5 = .ok (.iload_n 0, 1) := by decide +kernel
theorem dX7_in_6 : decode cX7_in 6 = .ok (.iload_n 2, 1) := by decide +kernel
theorem dX7_in_7 : decode cX7_in 7 = .ok (.if_icmp .gt 7, 3) := by decide +kernel
theorem dX7_in_10 : decode cX7_in 10 = .ok (.iconst 1, 1) := by decide +kernel
theorem dX7_in_11 : decode cX7_in 11 = .ok (.goto 4, 3) := by decide +kernel
theorem dX7_in_14 : decode cX7_in 14 = .ok (.iconst 0, 1) := by decide +kernel
theorem dX7_in_15 : decode cX7_in 15 = .ok (.ireturn, 1) := by decide +kernel
set_option maxRecDepth 20000 in
theorem ggX7_isStore_X7_in : GoodIn wsX7_isStore wsX7_in := goodIn_r _ [4] (by decide +kernel) (by decide +kernel)
set_option maxRecDepth 20000 in
theorem gX7_isStore_X7_in : GoodIn wsX7_isStore (va_wsS RX7 36 yX7_in wsX7_in) := goodIn_app (goodIn_of _ (by decide +kernel)) ggX7_isStore_X7_in
theorem dX7_isStore_0 : decode cX7_isStore 0 = .ok (.iload_n 0, 1) := by decide +kernel
theorem dX7_isStore_1 : decode cX7_isStore 1 = .ok (.iconst 0, 1) := by decide +kernel
theorem dX7_isStore_2 : decode cX7_isStore 2 = .ok (.iconst 1, 1) := by decide +kernel
theorem dX7_isStore_3 : decode cX7_isStore 3 = .ok (.invokestatic 36, 3) := by decide +kernel
theorem dX7_isStore_6 : decode cX7_isStore 6 = .ok (.ireturn, 1) := by decide +kernel
set_option maxRecDepth 20000 in
theorem ggX7_isGate_X7_in : GoodIn wsX7_isGate wsX7_in := goodIn_r _ [4] (by decide +kernel) (by decide +kernel)
set_option maxRecDepth 20000 in
theorem gX7_isGate_X7_in : GoodIn wsX7_isGate (va_wsS RX7 36 yX7_in wsX7_in) := goodIn_app (goodIn_of _ (by decide +kernel)) ggX7_isGate_X7_in
theorem dX7_isGate_0 : decode cX7_isGate 0 = .ok (.iload_n 0, 1) := by decide +kernel
theorem dX7_isGate_1 : decode cX7_isGate 1 = .ok (.iconst 0, 1) := by decide +kernel
theorem dX7_isGate_2 : decode cX7_isGate 2 = .ok (.iconst 3, 1) := by decide +kernel
theorem dX7_isGate_3 : decode cX7_isGate 3 = .ok (.invokestatic 36, 3) := by decide +kernel
theorem dX7_isGate_6 : decode cX7_isGate 6 = .ok (.ireturn, 1) := by decide +kernel
set_option maxRecDepth 20000 in
theorem ggX7_isWord_X7_in : GoodIn wsX7_isWord wsX7_in := goodIn_r _ [5] (by decide +kernel) (by decide +kernel)
set_option maxRecDepth 20000 in
theorem gX7_isWord_X7_in : GoodIn wsX7_isWord (va_wsS RX7 36 yX7_in wsX7_in) := goodIn_app (goodIn_of _ (by decide +kernel)) ggX7_isWord_X7_in
theorem dX7_isWord_0 : decode cX7_isWord 0 = .ok (.iload_n 1, 1) := by decide +kernel
theorem dX7_isWord_1 : decode cX7_isWord 1 = .ok (.iconst 0, 1) := by decide +kernel
theorem dX7_isWord_2 : decode cX7_isWord 2 = .ok (.aload_n 0, 1) := by decide +kernel
theorem dX7_isWord_3 : decode cX7_isWord 3 = .ok (.getfield 7, 3) := by decide +kernel
theorem dX7_isWord_6 : decode cX7_isWord 6 = .ok (.iconst 4, 1) := by decide +kernel
theorem dX7_isWord_7 : decode cX7_isWord 7 = .ok (.iaload, 1) := by decide +kernel
theorem dX7_isWord_8 : decode cX7_isWord 8 = .ok (.iconst 1, 1) := by decide +kernel
theorem dX7_isWord_9 : decode cX7_isWord 9 = .ok (.isub, 1) := by decide +kernel
theorem dX7_isWord_10 : decode cX7_isWord 10 = .ok (.invokestatic 36, 3) := by decide +kernel
theorem dX7_isWord_13 : decode cX7_isWord 13 = .ok (.ireturn, 1) := by decide +kernel
theorem dX7_ofStore_0 : decode cX7_ofStore 0 = .ok (.iconst 5, 1) := by decide +kernel
theorem dX7_ofStore_1 : decode cX7_ofStore 1 = .ok (.iconst 4, 1) := by decide +kernel
theorem dX7_ofStore_2 : decode cX7_ofStore 2 = .ok (.iload_n 0, 1) := by decide +kernel
theorem dX7_ofStore_3 : decode cX7_ofStore 3 = .ok (.imul, 1) := by decide +kernel
theorem dX7_ofStore_4 : decode cX7_ofStore 4 = .ok (.iadd, 1) := by decide +kernel
theorem dX7_ofStore_5 : decode cX7_ofStore 5 = .ok (.iload_n 1, 1) := by decide +kernel
theorem dX7_ofStore_6 : decode cX7_ofStore 6 = .ok (.iadd, 1) := by decide +kernel
theorem dX7_ofStore_7 : decode cX7_ofStore 7 = .ok (.ireturn, 1) := by decide +kernel
theorem dX7_ofGate_0 : decode cX7_ofGate 0 = .ok (.bipush 13, 2) := by decide +kernel
theorem dX7_ofGate_2 : decode cX7_ofGate 2 = .ok (.bipush 8, 2) := by decide +kernel
theorem dX7_ofGate_4 : decode cX7_ofGate 4 = .ok (.iload_n 0, 1) := by decide +kernel
theorem dX7_ofGate_5 : decode cX7_ofGate 5 = .ok (.imul, 1) := by decide +kernel
theorem dX7_ofGate_6 : decode cX7_ofGate 6 = .ok (.iadd, 1) := by decide +kernel
theorem dX7_ofGate_7 : decode cX7_ofGate 7 = .ok (.iload_n 1, 1) := by decide +kernel
theorem dX7_ofGate_8 : decode cX7_ofGate 8 = .ok (.iadd, 1) := by decide +kernel
theorem dX7_ofGate_9 : decode cX7_ofGate 9 = .ok (.ireturn, 1) := by decide +kernel
theorem dX7_ofWord_0 : decode cX7_ofWord 0 = .ok (.bipush 71, 2) := by decide +kernel
theorem dX7_ofWord_2 : decode cX7_ofWord 2 = .ok (.iconst 5, 1) := by decide +kernel
theorem dX7_ofWord_3 : decode cX7_ofWord 3 = .ok (.iload_n 0, 1) := by decide +kernel
theorem dX7_ofWord_4 : decode cX7_ofWord 4 = .ok (.imul, 1) := by decide +kernel
theorem dX7_ofWord_5 : decode cX7_ofWord 5 = .ok (.iadd, 1) := by decide +kernel
theorem dX7_ofWord_6 : decode cX7_ofWord 6 = .ok (.iload_n 1, 1) := by decide +kernel
theorem dX7_ofWord_7 : decode cX7_ofWord 7 = .ok (.iadd, 1) := by decide +kernel
theorem dX7_ofWord_8 : decode cX7_ofWord 8 = .ok (.ireturn, 1) := by decide +kernel
theorem dX7_inRow_0 : decode cX7_inRow 0 = .ok (.bipush 47, 2) := by decide +kernel
theorem dX7_inRow_2 : decode cX7_inRow 2 = .ok (.bipush 12, 2) := by decide +kernel
theorem dX7_inRow_4 : decode cX7_inRow 4 = .ok (.iload_n 0, 1) := by decide +kernel
theorem dX7_inRow_5 : decode cX7_inRow 5 = .ok (.imul, 1) := by decide +kernel
theorem dX7_inRow_6 : decode cX7_inRow 6 = .ok (.iadd, 1) := by decide +kernel
theorem dX7_inRow_7 : decode cX7_inRow 7 = .ok (.iload_n 1, 1) := by decide +kernel
theorem dX7_inRow_8 : decode cX7_inRow 8 = .ok (.iadd, 1) := by decide +kernel
theorem dX7_inRow_9 : decode cX7_inRow 9 = .ok (.ireturn, 1) := by decide +kernel
theorem dX7_record_0 : decode cX7_record 0 = .ok (.aload_n 0, 1) := by decide +kernel
theorem dX7_record_1 : decode cX7_record 1 = .ok (.getfield 40, 3) := by decide +kernel
theorem dX7_record_4 : decode cX7_record 4 = .ok (.bipush 6, 2) := by decide +kernel
theorem dX7_record_6 : decode cX7_record 6 = .ok (.if_icmp .ne 44, 3) := by decide +kernel
theorem dX7_record_9 : decode cX7_record 9 = .ok (.iconst 0, 1) := by decide +kernel
theorem dX7_record_10 : decode cX7_record 10 = .ok (.istore_n 1, 1) := by decide +kernel
theorem dX7_record_11 : decode cX7_record 11 = .ok (.iload_n 1, 1) := by decide +kernel
theorem dX7_record_12 : decode cX7_record 12 = .ok (.sipush 655, 3) := by decide +kernel
theorem dX7_record_15 : decode cX7_record 15 = .ok (.if_icmp .ge 25, 3) := by decide +kernel
theorem dX7_record_18 : decode cX7_record 18 = .ok (.aload_n 0, 1) := by decide +kernel
theorem dX7_record_19 : decode cX7_record 19 = .ok (.getfield 16, 3) := by decide +kernel
theorem dX7_record_22 : decode cX7_record 22 = .ok (.iload_n 1, 1) := by decide +kernel
theorem dX7_record_23 : decode cX7_record 23 = .ok (.aload_n 0, 1) := by decide +kernel
theorem dX7_record_24 : decode cX7_record 24 = .ok (.getfield 16, 3) := by decide +kernel
theorem dX7_record_27 : decode cX7_record 27 = .ok (.iload_n 1, 1) := by decide +kernel
theorem dX7_record_28 : decode cX7_record 28 = .ok (.sipush 131, 3) := by decide +kernel
theorem dX7_record_31 : decode cX7_record 31 = .ok (.iadd, 1) := by decide +kernel
theorem dX7_record_32 : decode cX7_record 32 = .ok (.iaload, 1) := by decide +kernel
theorem dX7_record_33 : decode cX7_record 33 = .ok (.iastore, 1) := by decide +kernel
theorem dX7_record_34 : decode cX7_record 34 = .ok (.iinc 1 1, 3) := by decide +kernel
theorem dX7_record_37 : decode cX7_record 37 = .ok (.goto (-26), 3) := by decide +kernel
theorem dX7_record_40 : decode cX7_record 40 = .ok (.aload_n 0, 1) := by decide +kernel
theorem dX7_record_41 : decode cX7_record 41 = .ok (.dup, 1) := by decide +kernel
theorem dX7_record_42 : decode cX7_record 42 = .ok (.getfield 40, 3) := by decide +kernel
theorem dX7_record_45 : decode cX7_record 45 = .ok (.iconst 1, 1) := by decide +kernel
theorem dX7_record_46 : decode cX7_record 46 = .ok (.isub, 1) := by decide +kernel
theorem dX7_record_47 : decode cX7_record 47 = .ok (.putfield 40, 3) := by decide +kernel
theorem dX7_record_50 : decode cX7_record 50 = .ok (.iconst 0, 1) := by decide +kernel
theorem dX7_record_51 : decode cX7_record 51 = .ok (.istore_n 1, 1) := by decide +kernel
theorem dX7_record_52 : decode cX7_record 52 = .ok (.iload_n 1, 1) := by decide +kernel
theorem dX7_record_53 : decode cX7_record 53 = .ok (.sipush 131, 3) := by decide +kernel
theorem dX7_record_56 : decode cX7_record 56 = .ok (.if_icmp .ge 30, 3) := by decide +kernel
theorem dX7_record_59 : decode cX7_record 59 = .ok (.aload_n 0, 1) := by decide +kernel
theorem dX7_record_60 : decode cX7_record 60 = .ok (.getfield 16, 3) := by decide +kernel
theorem dX7_record_63 : decode cX7_record 63 = .ok (.sipush 131, 3) := by decide +kernel
theorem dX7_record_66 : decode cX7_record 66 = .ok (.aload_n 0, 1) := by decide +kernel
theorem dX7_record_67 : decode cX7_record 67 = .ok (.getfield 40, 3) := by decide +kernel
theorem dX7_record_70 : decode cX7_record 70 = .ok (.imul, 1) := by decide +kernel
theorem dX7_record_71 : decode cX7_record 71 = .ok (.iload_n 1, 1) := by decide +kernel
theorem dX7_record_72 : decode cX7_record 72 = .ok (.iadd, 1) := by decide +kernel
theorem dX7_record_73 : decode cX7_record 73 = .ok (.aload_n 0, 1) := by decide +kernel
theorem dX7_record_74 : decode cX7_record 74 = .ok (.getfield 7, 3) := by decide +kernel
theorem dX7_record_77 : decode cX7_record 77 = .ok (.iload_n 1, 1) := by decide +kernel
theorem dX7_record_78 : decode cX7_record 78 = .ok (.iaload, 1) := by decide +kernel
theorem dX7_record_79 : decode cX7_record 79 = .ok (.iastore, 1) := by decide +kernel
theorem dX7_record_80 : decode cX7_record 80 = .ok (.iinc 1 1, 3) := by decide +kernel
theorem dX7_record_83 : decode cX7_record 83 = .ok (.goto (-31), 3) := by decide +kernel
theorem dX7_record_86 : decode cX7_record 86 = .ok (.aload_n 0, 1) := by decide +kernel
theorem dX7_record_87 : decode cX7_record 87 = .ok (.dup, 1) := by decide +kernel
theorem dX7_record_88 : decode cX7_record 88 = .ok (.getfield 40, 3) := by decide +kernel
theorem dX7_record_91 : decode cX7_record 91 = .ok (.iconst 1, 1) := by decide +kernel
theorem dX7_record_92 : decode cX7_record 92 = .ok (.iadd, 1) := by decide +kernel
theorem dX7_record_93 : decode cX7_record 93 = .ok (.putfield 40, 3) := by decide +kernel
theorem dX7_record_96 : decode cX7_record 96 = .ok (.return_, 1) := by decide +kernel
theorem dX7_putAside_0 : decode cX7_putAside 0 = .ok (.iconst 0, 1) := by decide +kernel
theorem dX7_putAside_1 : decode cX7_putAside 1 = .ok (.istore_n 1, 1) := by decide +kernel
theorem dX7_putAside_2 : decode cX7_putAside 2 = .ok (.iload_n 1, 1) := by decide +kernel
theorem dX7_putAside_3 : decode cX7_putAside 3 = .ok (.sipush 131, 3) := by decide +kernel
theorem dX7_putAside_6 : decode cX7_putAside 6 = .ok (.if_icmp .ge 21, 3) := by decide +kernel
theorem dX7_putAside_9 : decode cX7_putAside 9 = .ok (.aload_n 0, 1) := by decide +kernel
theorem dX7_putAside_10 : decode cX7_putAside 10 = .ok (.getfield 13, 3) := by decide +kernel
theorem dX7_putAside_13 : decode cX7_putAside 13 = .ok (.iload_n 1, 1) := by decide +kernel
theorem dX7_putAside_14 : decode cX7_putAside 14 = .ok (.aload_n 0, 1) := by decide +kernel
theorem dX7_putAside_15 : decode cX7_putAside 15 = .ok (.getfield 7, 3) := by decide +kernel
theorem dX7_putAside_18 : decode cX7_putAside 18 = .ok (.iload_n 1, 1) := by decide +kernel
theorem dX7_putAside_19 : decode cX7_putAside 19 = .ok (.iaload, 1) := by decide +kernel
theorem dX7_putAside_20 : decode cX7_putAside 20 = .ok (.iastore, 1) := by decide +kernel
theorem dX7_putAside_21 : decode cX7_putAside 21 = .ok (.iinc 1 1, 3) := by decide +kernel
theorem dX7_putAside_24 : decode cX7_putAside 24 = .ok (.goto (-22), 3) := by decide +kernel
theorem dX7_putAside_27 : decode cX7_putAside 27 = .ok (.return_, 1) := by decide +kernel
theorem dX7_putBack_0 : decode cX7_putBack 0 = .ok (.iconst 0, 1) := by decide +kernel
theorem dX7_putBack_1 : decode cX7_putBack 1 = .ok (.istore_n 1, 1) := by decide +kernel
theorem dX7_putBack_2 : decode cX7_putBack 2 = .ok (.iload_n 1, 1) := by decide +kernel
theorem dX7_putBack_3 : decode cX7_putBack 3 = .ok (.sipush 131, 3) := by decide +kernel
theorem dX7_putBack_6 : decode cX7_putBack 6 = .ok (.if_icmp .ge 21, 3) := by decide +kernel
theorem dX7_putBack_9 : decode cX7_putBack 9 = .ok (.aload_n 0, 1) := by decide +kernel
theorem dX7_putBack_10 : decode cX7_putBack 10 = .ok (.getfield 7, 3) := by decide +kernel
theorem dX7_putBack_13 : decode cX7_putBack 13 = .ok (.iload_n 1, 1) := by decide +kernel
theorem dX7_putBack_14 : decode cX7_putBack 14 = .ok (.aload_n 0, 1) := by decide +kernel
theorem dX7_putBack_15 : decode cX7_putBack 15 = .ok (.getfield 13, 3) := by decide +kernel
theorem dX7_putBack_18 : decode cX7_putBack 18 = .ok (.iload_n 1, 1) := by decide +kernel
theorem dX7_putBack_19 : decode cX7_putBack 19 = .ok (.iaload, 1) := by decide +kernel
theorem dX7_putBack_20 : decode cX7_putBack 20 = .ok (.iastore, 1) := by decide +kernel
theorem dX7_putBack_21 : decode cX7_putBack 21 = .ok (.iinc 1 1, 3) := by decide +kernel
theorem dX7_putBack_24 : decode cX7_putBack 24 = .ok (.goto (-22), 3) := by decide +kernel
theorem dX7_putBack_27 : decode cX7_putBack 27 = .ok (.return_, 1) := by decide +kernel
set_option maxRecDepth 20000 in
theorem ggX7_level_X7_ofStore : GoodIn wsX7_level wsX7_ofStore := goodIn_r _ [5] (by decide +kernel) (by decide +kernel)
set_option maxRecDepth 20000 in
theorem gX7_level_X7_ofStore : GoodIn wsX7_level (va_wsS RX7 29 yX7_ofStore wsX7_ofStore) := goodIn_app (goodIn_of _ (by decide +kernel)) ggX7_level_X7_ofStore
theorem dX7_level_0 : decode cX7_level 0 = .ok (.aload_n 0, 1) := by decide +kernel
theorem dX7_level_1 : decode cX7_level 1 = .ok (.getfield 7, 3) := by decide +kernel
theorem dX7_level_4 : decode cX7_level 4 = .ok (.iload_n 1, 1) := by decide +kernel
theorem dX7_level_5 : decode cX7_level 5 = .ok (.iconst 2, 1) := by decide +kernel
theorem dX7_level_6 : decode cX7_level 6 = .ok (.invokestatic 29, 3) := by decide +kernel
theorem dX7_level_9 : decode cX7_level 9 = .ok (.iaload, 1) := by decide +kernel
theorem dX7_level_10 : decode cX7_level 10 = .ok (.istore_n 3, 1) := by decide +kernel
theorem dX7_level_11 : decode cX7_level 11 = .ok (.iload_n 2, 1) := by decide +kernel
theorem dX7_level_12 : decode cX7_level 12 = .ok (.iload_n 3, 1) := by decide +kernel
theorem dX7_level_13 : decode cX7_level 13 = .ok (.irem, 1) := by decide +kernel
theorem dX7_level_14 : decode cX7_level 14 = .ok (.istore 4, 2) := by decide +kernel
theorem dX7_level_16 : decode cX7_level 16 = .ok (.iload 4, 2) := by decide +kernel
theorem dX7_level_18 : decode cX7_level 18 = .ok (.iload_n 3, 1) := by decide +kernel
theorem dX7_level_19 : decode cX7_level 19 = .ok (.iload 4, 2) := by decide +kernel
theorem dX7_level_21 : decode cX7_level 21 = .ok (.isub, 1) := by decide +kernel
theorem dX7_level_22 : decode cX7_level 22 = .ok (.if_icmp .ge 8, 3) := by decide +kernel
theorem dX7_level_25 : decode cX7_level 25 = .ok (.iload 4, 2) := by decide +kernel
theorem dX7_level_27 : decode cX7_level 27 = .ok (.goto 7, 3) := by decide +kernel
theorem dX7_level_30 : decode cX7_level 30 = .ok (.iload_n 3, 1) := by decide +kernel
theorem dX7_level_31 : decode cX7_level 31 = .ok (.iload 4, 2) := by decide +kernel
theorem dX7_level_33 : decode cX7_level 33 = .ok (.isub, 1) := by decide +kernel
theorem dX7_level_34 : decode cX7_level 34 = .ok (.istore 5, 2) := by decide +kernel
theorem dX7_level_36 : decode cX7_level 36 = .ok (.aload_n 0, 1) := by decide +kernel
theorem dX7_level_37 : decode cX7_level 37 = .ok (.getfield 7, 3) := by decide +kernel
theorem dX7_level_40 : decode cX7_level 40 = .ok (.iload_n 1, 1) := by decide +kernel
theorem dX7_level_41 : decode cX7_level 41 = .ok (.iconst 0, 1) := by decide +kernel
theorem dX7_level_42 : decode cX7_level 42 = .ok (.invokestatic 29, 3) := by decide +kernel
theorem dX7_level_45 : decode cX7_level 45 = .ok (.iaload, 1) := by decide +kernel
theorem dX7_level_46 : decode cX7_level 46 = .ok (.aload_n 0, 1) := by decide +kernel
theorem dX7_level_47 : decode cX7_level 47 = .ok (.getfield 7, 3) := by decide +kernel
theorem dX7_level_50 : decode cX7_level 50 = .ok (.iload_n 1, 1) := by decide +kernel
theorem dX7_level_51 : decode cX7_level 51 = .ok (.iconst 1, 1) := by decide +kernel
theorem dX7_level_52 : decode cX7_level 52 = .ok (.invokestatic 29, 3) := by decide +kernel
theorem dX7_level_55 : decode cX7_level 55 = .ok (.iaload, 1) := by decide +kernel
theorem dX7_level_56 : decode cX7_level 56 = .ok (.isub, 1) := by decide +kernel
theorem dX7_level_57 : decode cX7_level 57 = .ok (.iconst 4, 1) := by decide +kernel
theorem dX7_level_58 : decode cX7_level 58 = .ok (.aload_n 0, 1) := by decide +kernel
theorem dX7_level_59 : decode cX7_level 59 = .ok (.getfield 7, 3) := by decide +kernel
theorem dX7_level_62 : decode cX7_level 62 = .ok (.iload_n 1, 1) := by decide +kernel
theorem dX7_level_63 : decode cX7_level 63 = .ok (.iconst 1, 1) := by decide +kernel
theorem dX7_level_64 : decode cX7_level 64 = .ok (.invokestatic 29, 3) := by decide +kernel
theorem dX7_level_67 : decode cX7_level 67 = .ok (.iaload, 1) := by decide +kernel
theorem dX7_level_68 : decode cX7_level 68 = .ok (.imul, 1) := by decide +kernel
theorem dX7_level_69 : decode cX7_level 69 = .ok (.iload 5, 2) := by decide +kernel
theorem dX7_level_71 : decode cX7_level 71 = .ok (.imul, 1) := by decide +kernel
theorem dX7_level_72 : decode cX7_level 72 = .ok (.iload_n 3, 1) := by decide +kernel
theorem dX7_level_73 : decode cX7_level 73 = .ok (.idiv, 1) := by decide +kernel
theorem dX7_level_74 : decode cX7_level 74 = .ok (.iadd, 1) := by decide +kernel
theorem dX7_level_75 : decode cX7_level 75 = .ok (.ireturn, 1) := by decide +kernel
set_option maxRecDepth 20000 in
theorem ggX7_off_X7_level : GoodIn wsX7_off wsX7_level := goodIn_r _ [6, 1, 7, 8, 5, 9, 10, 11, 12, 13, 14, 15, 16, 17] (by decide +kernel) (by decide +kernel)
set_option maxRecDepth 20000 in
theorem gX7_off_X7_level : GoodIn wsX7_off (wsV RX7 44 RX7 yX7_level wsX7_level) := goodIn_app (goodIn_of _ (by decide +kernel)) ggX7_off_X7_level
set_option maxRecDepth 20000 in
theorem ggX7_off_X7_ofStore : GoodIn wsX7_off wsX7_ofStore := goodIn_r _ [9] (by decide +kernel) (by decide +kernel)
set_option maxRecDepth 20000 in
theorem gX7_off_X7_ofStore : GoodIn wsX7_off (va_wsS RX7 29 yX7_ofStore wsX7_ofStore) := goodIn_app (goodIn_of _ (by decide +kernel)) ggX7_off_X7_ofStore
theorem dX7_off_0 : decode cX7_off 0 = .ok (.aload_n 0, 1) := by decide +kernel
theorem dX7_off_1 : decode cX7_off 1 = .ok (.iconst 0, 1) := by decide +kernel
theorem dX7_off_2 : decode cX7_off 2 = .ok (.iload_n 1, 1) := by decide +kernel
theorem dX7_off_3 : decode cX7_off 3 = .ok (.invokevirtual 44, 3) := by decide +kernel
theorem dX7_off_6 : decode cX7_off 6 = .ok (.aload_n 0, 1) := by decide +kernel
theorem dX7_off_7 : decode cX7_off 7 = .ok (.getfield 7, 3) := by decide +kernel
theorem dX7_off_10 : decode cX7_off 10 = .ok (.iconst 0, 1) := by decide +kernel
theorem dX7_off_11 : decode cX7_off 11 = .ok (.iconst 3, 1) := by decide +kernel
theorem dX7_off_12 : decode cX7_off 12 = .ok (.invokestatic 29, 3) := by decide +kernel
theorem dX7_off_15 : decode cX7_off 15 = .ok (.iaload, 1) := by decide +kernel
theorem dX7_off_16 : decode cX7_off 16 = .ok (.iadd, 1) := by decide +kernel
theorem dX7_off_17 : decode cX7_off 17 = .ok (.istore_n 2, 1) := by decide +kernel
theorem dX7_off_18 : decode cX7_off 18 = .ok (.aload_n 0, 1) := by decide +kernel
theorem dX7_off_19 : decode cX7_off 19 = .ok (.iconst 1, 1) := by decide +kernel
theorem dX7_off_20 : decode cX7_off 20 = .ok (.iload_n 1, 1) := by decide +kernel
theorem dX7_off_21 : decode cX7_off 21 = .ok (.invokevirtual 44, 3) := by decide +kernel
theorem dX7_off_24 : decode cX7_off 24 = .ok (.aload_n 0, 1) := by decide +kernel
theorem dX7_off_25 : decode cX7_off 25 = .ok (.getfield 7, 3) := by decide +kernel
theorem dX7_off_28 : decode cX7_off 28 = .ok (.iconst 1, 1) := by decide +kernel
theorem dX7_off_29 : decode cX7_off 29 = .ok (.iconst 3, 1) := by decide +kernel
theorem dX7_off_30 : decode cX7_off 30 = .ok (.invokestatic 29, 3) := by decide +kernel
theorem dX7_off_33 : decode cX7_off 33 = .ok (.iaload, 1) := by decide +kernel
theorem dX7_off_34 : decode cX7_off 34 = .ok (.iadd, 1) := by decide +kernel
theorem dX7_off_35 : decode cX7_off 35 = .ok (.istore_n 3, 1) := by decide +kernel
theorem dX7_off_36 : decode cX7_off 36 = .ok (.iload_n 2, 1) := by decide +kernel
theorem dX7_off_37 : decode cX7_off 37 = .ok (.iload_n 3, 1) := by decide +kernel
theorem dX7_off_38 : decode cX7_off 38 = .ok (.if_icmp .le 9, 3) := by decide +kernel
theorem dX7_off_41 : decode cX7_off 41 = .ok (.iload_n 2, 1) := by decide +kernel
theorem dX7_off_42 : decode cX7_off 42 = .ok (.iload_n 3, 1) := by decide +kernel
theorem dX7_off_43 : decode cX7_off 43 = .ok (.isub, 1) := by decide +kernel
theorem dX7_off_44 : decode cX7_off 44 = .ok (.goto 6, 3) := by decide +kernel
theorem dX7_off_47 : decode cX7_off 47 = .ok (.iload_n 3, 1) := by decide +kernel
theorem dX7_off_48 : decode cX7_off 48 = .ok (.iload_n 2, 1) := by decide +kernel
theorem dX7_off_49 : decode cX7_off 49 = .ok (.isub, 1) := by decide +kernel
theorem dX7_off_50 : decode cX7_off 50 = .ok (.ireturn, 1) := by decide +kernel
set_option maxRecDepth 20000 in
theorem ggX7_isOpen_X7_ofGate : GoodIn wsX7_isOpen wsX7_ofGate := goodIn_r _ [5] (by decide +kernel) (by decide +kernel)
set_option maxRecDepth 20000 in
theorem gX7_isOpen_X7_ofGate : GoodIn wsX7_isOpen (va_wsS RX7 33 yX7_ofGate wsX7_ofGate) := goodIn_app (goodIn_of _ (by decide +kernel)) ggX7_isOpen_X7_ofGate
set_option maxRecDepth 20000 in
theorem ggX7_isOpen_X7_off : GoodIn wsX7_isOpen wsX7_off := goodIn_r _ [9, 1, 10, 11, 12, 4, 13, 14, 15, 16, 17, 18, 19, 20, 21, 22, 23, 24] (by decide +kernel) (by decide +kernel)
set_option maxRecDepth 20000 in
theorem gX7_isOpen_X7_off : GoodIn wsX7_isOpen (wsV RX7 47 RX7 yX7_off wsX7_off) := goodIn_app (goodIn_of _ (by decide +kernel)) ggX7_isOpen_X7_off
theorem dX7_isOpen_0 : decode cX7_isOpen 0 = .ok (.aload_n 0, 1) := by decide +kernel
theorem dX7_isOpen_1 : decode cX7_isOpen 1 = .ok (.getfield 7, 3) := by decide +kernel
theorem dX7_isOpen_4 : decode cX7_isOpen 4 = .ok (.iload_n 1, 1) := by decide +kernel
theorem dX7_isOpen_5 : decode cX7_isOpen 5 = .ok (.iconst 3, 1) := by decide +kernel
theorem dX7_isOpen_6 : decode cX7_isOpen 6 = .ok (.invokestatic 33, 3) := by decide +kernel
theorem dX7_isOpen_9 : decode cX7_isOpen 9 = .ok (.iaload, 1) := by decide +kernel
theorem dX7_isOpen_10 : decode cX7_isOpen 10 = .ok (.ifCond .ne 25, 3) := by decide +kernel
theorem dX7_isOpen_13 : decode cX7_isOpen 13 = .ok (.aload_n 0, 1) := by decide +kernel
theorem dX7_isOpen_14 : decode cX7_isOpen 14 = .ok (.iload_n 2, 1) := by decide +kernel
theorem dX7_isOpen_15 : decode cX7_isOpen 15 = .ok (.invokevirtual 47, 3) := by decide +kernel
theorem dX7_isOpen_18 : decode cX7_isOpen 18 = .ok (.aload_n 0, 1) := by decide +kernel
theorem dX7_isOpen_19 : decode cX7_isOpen 19 = .ok (.getfield 7, 3) := by decide +kernel
theorem dX7_isOpen_22 : decode cX7_isOpen 22 = .ok (.iload_n 1, 1) := by decide +kernel
theorem dX7_isOpen_23 : decode cX7_isOpen 23 = .ok (.iconst 1, 1) := by decide +kernel
theorem dX7_isOpen_24 : decode cX7_isOpen 24 = .ok (.invokestatic 33, 3) := by decide +kernel
theorem dX7_isOpen_27 : decode cX7_isOpen 27 = .ok (.iaload, 1) := by decide +kernel
theorem dX7_isOpen_28 : decode cX7_isOpen 28 = .ok (.if_icmp .gt 7, 3) := by decide +kernel
theorem dX7_isOpen_31 : decode cX7_isOpen 31 = .ok (.iconst 1, 1) := by decide +kernel
theorem dX7_isOpen_32 : decode cX7_isOpen 32 = .ok (.goto 4, 3) := by decide +kernel
theorem dX7_isOpen_35 : decode cX7_isOpen 35 = .ok (.iconst 0, 1) := by decide +kernel
theorem dX7_isOpen_36 : decode cX7_isOpen 36 = .ok (.ireturn, 1) := by decide +kernel
set_option maxRecDepth 20000 in
theorem ggX7_openNow_X7_isOpen : GoodIn wsX7_openNow wsX7_isOpen := goodIn_r _ [6, 1, 7, 8, 5, 9, 10, 11, 12, 13, 14, 15, 16, 17, 18, 19, 20, 21, 22, 23, 24, 25, 26, 27, 28] (by decide +kernel) (by decide +kernel)
set_option maxRecDepth 20000 in
theorem gX7_openNow_X7_isOpen : GoodIn wsX7_openNow (wsV RX7 51 RX7 yX7_isOpen wsX7_isOpen) := goodIn_app (goodIn_of _ (by decide +kernel)) ggX7_openNow_X7_isOpen
theorem dX7_openNow_0 : decode cX7_openNow 0 = .ok (.iconst 0, 1) := by decide +kernel
theorem dX7_openNow_1 : decode cX7_openNow 1 = .ok (.istore_n 1, 1) := by decide +kernel
theorem dX7_openNow_2 : decode cX7_openNow 2 = .ok (.iconst 0, 1) := by decide +kernel
theorem dX7_openNow_3 : decode cX7_openNow 3 = .ok (.istore_n 2, 1) := by decide +kernel
theorem dX7_openNow_4 : decode cX7_openNow 4 = .ok (.iload_n 2, 1) := by decide +kernel
theorem dX7_openNow_5 : decode cX7_openNow 5 = .ok (.iconst 4, 1) := by decide +kernel
theorem dX7_openNow_6 : decode cX7_openNow 6 = .ok (.if_icmp .ge 33, 3) := by decide +kernel
theorem dX7_openNow_9 : decode cX7_openNow 9 = .ok (.iload_n 1, 1) := by decide +kernel
theorem dX7_openNow_10 : decode cX7_openNow 10 = .ok (.aload_n 0, 1) := by decide +kernel
theorem dX7_openNow_11 : decode cX7_openNow 11 = .ok (.iload_n 2, 1) := by decide +kernel
theorem dX7_openNow_12 : decode cX7_openNow 12 = .ok (.aload_n 0, 1) := by decide +kernel
theorem dX7_openNow_13 : decode cX7_openNow 13 = .ok (.getfield 7, 3) := by decide +kernel
theorem dX7_openNow_16 : decode cX7_openNow 16 = .ok (.iconst 0, 1) := by decide +kernel
theorem dX7_openNow_17 : decode cX7_openNow 17 = .ok (.iaload, 1) := by decide +kernel
theorem dX7_openNow_18 : decode cX7_openNow 18 = .ok (.invokevirtual 51, 3) := by decide +kernel
theorem dX7_openNow_21 : decode cX7_openNow 21 = .ok (.ifCond .eq 9, 3) := by decide +kernel
theorem dX7_openNow_24 : decode cX7_openNow 24 = .ok (.iconst 1, 1) := by decide +kernel
theorem dX7_openNow_25 : decode cX7_openNow 25 = .ok (.iload_n 2, 1) := by decide +kernel
theorem dX7_openNow_26 : decode cX7_openNow 26 = .ok (.ishl, 1) := by decide +kernel
theorem dX7_openNow_27 : decode cX7_openNow 27 = .ok (.goto 4, 3) := by decide +kernel
theorem dX7_openNow_30 : decode cX7_openNow 30 = .ok (.iconst 0, 1) := by decide +kernel
theorem dX7_openNow_31 : decode cX7_openNow 31 = .ok (.ior, 1) := by decide +kernel
theorem dX7_openNow_32 : decode cX7_openNow 32 = .ok (.istore_n 1, 1) := by decide +kernel
theorem dX7_openNow_33 : decode cX7_openNow 33 = .ok (.iinc 2 1, 3) := by decide +kernel
theorem dX7_openNow_36 : decode cX7_openNow 36 = .ok (.goto (-32), 3) := by decide +kernel
theorem dX7_openNow_39 : decode cX7_openNow 39 = .ok (.iload_n 1, 1) := by decide +kernel
theorem dX7_openNow_40 : decode cX7_openNow 40 = .ok (.ireturn, 1) := by decide +kernel
set_option maxRecDepth 20000 in
theorem ggX7_lettersOf_X7_ofWord : GoodIn wsX7_lettersOf wsX7_ofWord := goodIn_r _ [5] (by decide +kernel) (by decide +kernel)
set_option maxRecDepth 20000 in
theorem gX7_lettersOf_X7_ofWord : GoodIn wsX7_lettersOf (va_wsS RX7 55 yX7_ofWord wsX7_ofWord) := goodIn_app (goodIn_of _ (by decide +kernel)) ggX7_lettersOf_X7_ofWord
theorem dX7_lettersOf_0 : decode cX7_lettersOf 0 = .ok (.iconst 0, 1) := by decide +kernel
theorem dX7_lettersOf_1 : decode cX7_lettersOf 1 = .ok (.istore_n 2, 1) := by decide +kernel
theorem dX7_lettersOf_2 : decode cX7_lettersOf 2 = .ok (.aload_n 0, 1) := by decide +kernel
theorem dX7_lettersOf_3 : decode cX7_lettersOf 3 = .ok (.getfield 7, 3) := by decide +kernel
theorem dX7_lettersOf_6 : decode cX7_lettersOf 6 = .ok (.iload_n 1, 1) := by decide +kernel
theorem dX7_lettersOf_7 : decode cX7_lettersOf 7 = .ok (.iconst 0, 1) := by decide +kernel
theorem dX7_lettersOf_8 : decode cX7_lettersOf 8 = .ok (.invokestatic 55, 3) := by decide +kernel
theorem dX7_lettersOf_11 : decode cX7_lettersOf 11 = .ok (.iaload, 1) := by decide +kernel
theorem dX7_lettersOf_12 : decode cX7_lettersOf 12 = .ok (.istore_n 3, 1) := by decide +kernel
theorem dX7_lettersOf_13 : decode cX7_lettersOf 13 = .ok (.iload_n 3, 1) := by decide +kernel
theorem dX7_lettersOf_14 : decode cX7_lettersOf 14 = .ok (.ifCond .le 14, 3) := by decide +kernel
theorem dX7_lettersOf_17 : decode cX7_lettersOf 17 = .ok (.iinc 2 1, 3) := by decide +kernel
theorem dX7_lettersOf_20 : decode cX7_lettersOf 20 = .ok (.iload_n 3, 1) := by decide +kernel
theorem dX7_lettersOf_21 : decode cX7_lettersOf 21 = .ok (.bipush 27, 2) := by decide +kernel
theorem dX7_lettersOf_23 : decode cX7_lettersOf 23 = .ok (.idiv, 1) := by decide +kernel
theorem dX7_lettersOf_24 : decode cX7_lettersOf 24 = .ok (.istore_n 3, 1) := by decide +kernel
theorem dX7_lettersOf_25 : decode cX7_lettersOf 25 = .ok (.goto (-12), 3) := by decide +kernel
theorem dX7_lettersOf_28 : decode cX7_lettersOf 28 = .ok (.iload_n 2, 1) := by decide +kernel
theorem dX7_lettersOf_29 : decode cX7_lettersOf 29 = .ok (.ireturn, 1) := by decide +kernel
set_option maxRecDepth 20000 in
theorem ggX7_letterOf_X7_ofWord : GoodIn wsX7_letterOf wsX7_ofWord := goodIn_r _ [5] (by decide +kernel) (by decide +kernel)
set_option maxRecDepth 20000 in
theorem gX7_letterOf_X7_ofWord : GoodIn wsX7_letterOf (va_wsS RX7 55 yX7_ofWord wsX7_ofWord) := goodIn_app (goodIn_of _ (by decide +kernel)) ggX7_letterOf_X7_ofWord
set_option maxRecDepth 20000 in
theorem ggX7_letterOf_X7_lettersOf : GoodIn wsX7_letterOf wsX7_lettersOf := goodIn_r _ [9, 1, 2, 3, 4, 5, 13, 14, 15, 16, 17, 18, 19, 20] (by decide +kernel) (by decide +kernel)
set_option maxRecDepth 20000 in
theorem gX7_letterOf_X7_lettersOf : GoodIn wsX7_letterOf (wsV RX7 58 RX7 yX7_lettersOf wsX7_lettersOf) := goodIn_app (goodIn_of _ (by decide +kernel)) ggX7_letterOf_X7_lettersOf
set_option maxRecDepth 20000 in
theorem ggX7_letterOf_X7_in : GoodIn wsX7_letterOf wsX7_in := goodIn_r _ [12] (by decide +kernel) (by decide +kernel)
set_option maxRecDepth 20000 in
theorem gX7_letterOf_X7_in : GoodIn wsX7_letterOf (va_wsS RX7 36 yX7_in wsX7_in) := goodIn_app (goodIn_of _ (by decide +kernel)) ggX7_letterOf_X7_in
theorem dX7_letterOf_0 : decode cX7_letterOf 0 = .ok (.aload_n 0, 1) := by decide +kernel
theorem dX7_letterOf_1 : decode cX7_letterOf 1 = .ok (.getfield 7, 3) := by decide +kernel
theorem dX7_letterOf_4 : decode cX7_letterOf 4 = .ok (.iload_n 1, 1) := by decide +kernel
theorem dX7_letterOf_5 : decode cX7_letterOf 5 = .ok (.iconst 0, 1) := by decide +kernel
theorem dX7_letterOf_6 : decode cX7_letterOf 6 = .ok (.invokestatic 55, 3) := by decide +kernel
theorem dX7_letterOf_9 : decode cX7_letterOf 9 = .ok (.iaload, 1) := by decide +kernel
theorem dX7_letterOf_10 : decode cX7_letterOf 10 = .ok (.istore_n 3, 1) := by decide +kernel
theorem dX7_letterOf_11 : decode cX7_letterOf 11 = .ok (.aload_n 0, 1) := by decide +kernel
theorem dX7_letterOf_12 : decode cX7_letterOf 12 = .ok (.iload_n 1, 1) := by decide +kernel
theorem dX7_letterOf_13 : decode cX7_letterOf 13 = .ok (.invokevirtual 58, 3) := by decide +kernel
theorem dX7_letterOf_16 : decode cX7_letterOf 16 = .ok (.iconst 1, 1) := by decide +kernel
theorem dX7_letterOf_17 : decode cX7_letterOf 17 = .ok (.isub, 1) := by decide +kernel
theorem dX7_letterOf_18 : decode cX7_letterOf 18 = .ok (.istore 4, 2) := by decide +kernel
theorem dX7_letterOf_20 : decode cX7_letterOf 20 = .ok (.iload 4, 2) := by decide +kernel
theorem dX7_letterOf_22 : decode cX7_letterOf 22 = .ok (.iload_n 2, 1) := by decide +kernel
theorem dX7_letterOf_23 : decode cX7_letterOf 23 = .ok (.if_icmp .le 14, 3) := by decide +kernel
theorem dX7_letterOf_26 : decode cX7_letterOf 26 = .ok (.iload_n 3, 1) := by decide +kernel
theorem dX7_letterOf_27 : decode cX7_letterOf 27 = .ok (.bipush 27, 2) := by decide +kernel
theorem dX7_letterOf_29 : decode cX7_letterOf 29 = .ok (.idiv, 1) := by decide +kernel
theorem dX7_letterOf_30 : decode cX7_letterOf 30 = .ok (.istore_n 3, 1) := by decide +kernel
theorem dX7_letterOf_31 : decode cX7_letterOf 31 = .ok (.iinc 4 (-1), 3) := by decide +kernel
theorem dX7_letterOf_34 : decode cX7_letterOf 34 = .ok (.goto (-14), 3) := by decide +kernel
theorem dX7_letterOf_37 : decode cX7_letterOf 37 = .ok (.iload_n 2, 1) := by decide +kernel
theorem dX7_letterOf_38 : decode cX7_letterOf 38 = .ok (.iconst 0, 1) := by decide +kernel
theorem dX7_letterOf_39 : decode cX7_letterOf 39 = .ok (.aload_n 0, 1) := by decide +kernel
theorem dX7_letterOf_40 : decode cX7_letterOf 40 = .ok (.iload_n 1, 1) := by decide +kernel
theorem dX7_letterOf_41 : decode cX7_letterOf 41 = .ok (.invokevirtual 58, 3) := by decide +kernel
theorem dX7_letterOf_44 : decode cX7_letterOf 44 = .ok (.iconst 1, 1) := by decide +kernel
theorem dX7_letterOf_45 : decode cX7_letterOf 45 = .ok (.isub, 1) := by decide +kernel
theorem dX7_letterOf_46 : decode cX7_letterOf 46 = .ok (.invokestatic 36, 3) := by decide +kernel
theorem dX7_letterOf_49 : decode cX7_letterOf 49 = .ok (.ifCond .eq 13, 3) := by decide +kernel
theorem dX7_letterOf_52 : decode cX7_letterOf 52 = .ok (.bipush 96, 2) := by decide +kernel
theorem dX7_letterOf_54 : decode cX7_letterOf 54 = .ok (.iload_n 3, 1) := by decide +kernel
theorem dX7_letterOf_55 : decode cX7_letterOf 55 = .ok (.bipush 27, 2) := by decide +kernel
theorem dX7_letterOf_57 : decode cX7_letterOf 57 = .ok (.irem, 1) := by decide +kernel
theorem dX7_letterOf_58 : decode cX7_letterOf 58 = .ok (.iadd, 1) := by decide +kernel
theorem dX7_letterOf_59 : decode cX7_letterOf 59 = .ok (.goto 6, 3) := by decide +kernel
theorem dX7_letterOf_62 : decode cX7_letterOf 62 = .ok (.sipush (-1006), 3) := by decide +kernel
theorem dX7_letterOf_65 : decode cX7_letterOf 65 = .ok (.ireturn, 1) := by decide +kernel
set_option maxRecDepth 20000 in
theorem ggX7_hasPassed_X7_ofWord : GoodIn wsX7_hasPassed wsX7_ofWord := goodIn_r _ [5] (by decide +kernel) (by decide +kernel)
set_option maxRecDepth 20000 in
theorem gX7_hasPassed_X7_ofWord : GoodIn wsX7_hasPassed (va_wsS RX7 55 yX7_ofWord wsX7_ofWord) := goodIn_app (goodIn_of _ (by decide +kernel)) ggX7_hasPassed_X7_ofWord
theorem dX7_hasPassed_0 : decode cX7_hasPassed 0 = .ok (.aload_n 0, 1) := by decide +kernel
theorem dX7_hasPassed_1 : decode cX7_hasPassed 1 = .ok (.getfield 7, 3) := by decide +kernel
theorem dX7_hasPassed_4 : decode cX7_hasPassed 4 = .ok (.iload_n 1, 1) := by decide +kernel
theorem dX7_hasPassed_5 : decode cX7_hasPassed 5 = .ok (.iconst 1, 1) := by decide +kernel
theorem dX7_hasPassed_6 : decode cX7_hasPassed 6 = .ok (.invokestatic 55, 3) := by decide +kernel
theorem dX7_hasPassed_9 : decode cX7_hasPassed 9 = .ok (.iaload, 1) := by decide +kernel
theorem dX7_hasPassed_10 : decode cX7_hasPassed 10 = .ok (.iconst 1, 1) := by decide +kernel
theorem dX7_hasPassed_11 : decode cX7_hasPassed 11 = .ok (.if_icmp .ne 7, 3) := by decide +kernel
theorem dX7_hasPassed_14 : decode cX7_hasPassed 14 = .ok (.iconst 1, 1) := by decide +kernel
theorem dX7_hasPassed_15 : decode cX7_hasPassed 15 = .ok (.goto 4, 3) := by decide +kernel
theorem dX7_hasPassed_18 : decode cX7_hasPassed 18 = .ok (.iconst 0, 1) := by decide +kernel
theorem dX7_hasPassed_19 : decode cX7_hasPassed 19 = .ok (.ireturn, 1) := by decide +kernel
set_option maxRecDepth 20000 in
theorem ggX7_comes_X7_inRow : GoodIn wsX7_comes wsX7_inRow := goodIn_r _ [5] (by decide +kernel) (by decide +kernel)
set_option maxRecDepth 20000 in
theorem gX7_comes_X7_inRow : GoodIn wsX7_comes (va_wsS RX7 61 yX7_inRow wsX7_inRow) := goodIn_app (goodIn_of _ (by decide +kernel)) ggX7_comes_X7_inRow
theorem dX7_comes_0 : decode cX7_comes 0 = .ok (.aload_n 0, 1) := by decide +kernel
theorem dX7_comes_1 : decode cX7_comes 1 = .ok (.getfield 7, 3) := by decide +kernel
theorem dX7_comes_4 : decode cX7_comes 4 = .ok (.iload_n 1, 1) := by decide +kernel
theorem dX7_comes_5 : decode cX7_comes 5 = .ok (.aload_n 0, 1) := by decide +kernel
theorem dX7_comes_6 : decode cX7_comes 6 = .ok (.getfield 7, 3) := by decide +kernel
theorem dX7_comes_9 : decode cX7_comes 9 = .ok (.bipush 45, 2) := by decide +kernel
theorem dX7_comes_11 : decode cX7_comes 11 = .ok (.iload_n 1, 1) := by decide +kernel
theorem dX7_comes_12 : decode cX7_comes 12 = .ok (.iadd, 1) := by decide +kernel
theorem dX7_comes_13 : decode cX7_comes 13 = .ok (.iaload, 1) := by decide +kernel
theorem dX7_comes_14 : decode cX7_comes 14 = .ok (.invokestatic 61, 3) := by decide +kernel
theorem dX7_comes_17 : decode cX7_comes 17 = .ok (.iload_n 2, 1) := by decide +kernel
theorem dX7_comes_18 : decode cX7_comes 18 = .ok (.iastore, 1) := by decide +kernel
theorem dX7_comes_19 : decode cX7_comes 19 = .ok (.aload_n 0, 1) := by decide +kernel
theorem dX7_comes_20 : decode cX7_comes 20 = .ok (.getfield 7, 3) := by decide +kernel
theorem dX7_comes_23 : decode cX7_comes 23 = .ok (.bipush 45, 2) := by decide +kernel
theorem dX7_comes_25 : decode cX7_comes 25 = .ok (.iload_n 1, 1) := by decide +kernel
theorem dX7_comes_26 : decode cX7_comes 26 = .ok (.iadd, 1) := by decide +kernel
theorem dX7_comes_27 : decode cX7_comes 27 = .ok (.dup2, 1) := by decide +kernel
theorem dX7_comes_28 : decode cX7_comes 28 = .ok (.iaload, 1) := by decide +kernel
theorem dX7_comes_29 : decode cX7_comes 29 = .ok (.iconst 1, 1) := by decide +kernel
theorem dX7_comes_30 : decode cX7_comes 30 = .ok (.iadd, 1) := by decide +kernel
theorem dX7_comes_31 : decode cX7_comes 31 = .ok (.iastore, 1) := by decide +kernel
theorem dX7_comes_32 : decode cX7_comes 32 = .ok (.return_, 1) := by decide +kernel
set_option maxRecDepth 20000 in
theorem ggX7_goesBack_X7_inRow : GoodIn wsX7_goesBack wsX7_inRow := goodIn_r _ [5] (by decide +kernel) (by decide +kernel)
set_option maxRecDepth 20000 in
theorem gX7_goesBack_X7_inRow : GoodIn wsX7_goesBack (va_wsS RX7 61 yX7_inRow wsX7_inRow) := goodIn_app (goodIn_of _ (by decide +kernel)) ggX7_goesBack_X7_inRow
theorem dX7_goesBack_0 : decode cX7_goesBack 0 = .ok (.aload_n 0, 1) := by decide +kernel
theorem dX7_goesBack_1 : decode cX7_goesBack 1 = .ok (.getfield 7, 3) := by decide +kernel
theorem dX7_goesBack_4 : decode cX7_goesBack 4 = .ok (.bipush 45, 2) := by decide +kernel
theorem dX7_goesBack_6 : decode cX7_goesBack 6 = .ok (.iload_n 1, 1) := by decide +kernel
theorem dX7_goesBack_7 : decode cX7_goesBack 7 = .ok (.iadd, 1) := by decide +kernel
theorem dX7_goesBack_8 : decode cX7_goesBack 8 = .ok (.iaload, 1) := by decide +kernel
theorem dX7_goesBack_9 : decode cX7_goesBack 9 = .ok (.istore_n 3, 1) := by decide +kernel
theorem dX7_goesBack_10 : decode cX7_goesBack 10 = .ok (.iload_n 3, 1) := by decide +kernel
theorem dX7_goesBack_11 : decode cX7_goesBack 11 = .ok (.ifCond .le 31, 3) := by decide +kernel
theorem dX7_goesBack_14 : decode cX7_goesBack 14 = .ok (.aload_n 0, 1) := by decide +kernel
theorem dX7_goesBack_15 : decode cX7_goesBack 15 = .ok (.getfield 7, 3) := by decide +kernel
theorem dX7_goesBack_18 : decode cX7_goesBack 18 = .ok (.iload_n 1, 1) := by decide +kernel
theorem dX7_goesBack_19 : decode cX7_goesBack 19 = .ok (.iload_n 3, 1) := by decide +kernel
theorem dX7_goesBack_20 : decode cX7_goesBack 20 = .ok (.invokestatic 61, 3) := by decide +kernel
theorem dX7_goesBack_23 : decode cX7_goesBack 23 = .ok (.aload_n 0, 1) := by decide +kernel
theorem dX7_goesBack_24 : decode cX7_goesBack 24 = .ok (.getfield 7, 3) := by decide +kernel
theorem dX7_goesBack_27 : decode cX7_goesBack 27 = .ok (.iload_n 1, 1) := by decide +kernel
theorem dX7_goesBack_28 : decode cX7_goesBack 28 = .ok (.iload_n 3, 1) := by decide +kernel
theorem dX7_goesBack_29 : decode cX7_goesBack 29 = .ok (.iconst 1, 1) := by decide +kernel
theorem dX7_goesBack_30 : decode cX7_goesBack 30 = .ok (.isub, 1) := by decide +kernel
theorem dX7_goesBack_31 : decode cX7_goesBack 31 = .ok (.invokestatic 61, 3) := by decide +kernel
theorem dX7_goesBack_34 : decode cX7_goesBack 34 = .ok (.iaload, 1) := by decide +kernel
theorem dX7_goesBack_35 : decode cX7_goesBack 35 = .ok (.iastore, 1) := by decide +kernel
theorem dX7_goesBack_36 : decode cX7_goesBack 36 = .ok (.iinc 3 (-1), 3) := by decide +kernel
theorem dX7_goesBack_39 : decode cX7_goesBack 39 = .ok (.goto (-29), 3) := by decide +kernel
theorem dX7_goesBack_42 : decode cX7_goesBack 42 = .ok (.aload_n 0, 1) := by decide +kernel
theorem dX7_goesBack_43 : decode cX7_goesBack 43 = .ok (.getfield 7, 3) := by decide +kernel
theorem dX7_goesBack_46 : decode cX7_goesBack 46 = .ok (.iload_n 1, 1) := by decide +kernel
theorem dX7_goesBack_47 : decode cX7_goesBack 47 = .ok (.iconst 0, 1) := by decide +kernel
theorem dX7_goesBack_48 : decode cX7_goesBack 48 = .ok (.invokestatic 61, 3) := by decide +kernel
theorem dX7_goesBack_51 : decode cX7_goesBack 51 = .ok (.iload_n 2, 1) := by decide +kernel
theorem dX7_goesBack_52 : decode cX7_goesBack 52 = .ok (.iastore, 1) := by decide +kernel
theorem dX7_goesBack_53 : decode cX7_goesBack 53 = .ok (.aload_n 0, 1) := by decide +kernel
theorem dX7_goesBack_54 : decode cX7_goesBack 54 = .ok (.getfield 7, 3) := by decide +kernel
theorem dX7_goesBack_57 : decode cX7_goesBack 57 = .ok (.bipush 45, 2) := by decide +kernel
theorem dX7_goesBack_59 : decode cX7_goesBack 59 = .ok (.iload_n 1, 1) := by decide +kernel
theorem dX7_goesBack_60 : decode cX7_goesBack 60 = .ok (.iadd, 1) := by decide +kernel
theorem dX7_goesBack_61 : decode cX7_goesBack 61 = .ok (.dup2, 1) := by decide +kernel
theorem dX7_goesBack_62 : decode cX7_goesBack 62 = .ok (.iaload, 1) := by decide +kernel
theorem dX7_goesBack_63 : decode cX7_goesBack 63 = .ok (.iconst 1, 1) := by decide +kernel
theorem dX7_goesBack_64 : decode cX7_goesBack 64 = .ok (.iadd, 1) := by decide +kernel
theorem dX7_goesBack_65 : decode cX7_goesBack 65 = .ok (.iastore, 1) := by decide +kernel
theorem dX7_goesBack_66 : decode cX7_goesBack 66 = .ok (.return_, 1) := by decide +kernel
set_option maxRecDepth 20000 in
theorem ggX7_takes_X7_inRow : GoodIn wsX7_takes wsX7_inRow := goodIn_r _ [5] (by decide +kernel) (by decide +kernel)
set_option maxRecDepth 20000 in
theorem gX7_takes_X7_inRow : GoodIn wsX7_takes (va_wsS RX7 61 yX7_inRow wsX7_inRow) := goodIn_app (goodIn_of _ (by decide +kernel)) ggX7_takes_X7_inRow
set_option maxRecDepth 20000 in
theorem ggX7_takes_X7_hasPassed : GoodIn wsX7_takes wsX7_hasPassed := goodIn_r _ [9, 1, 10, 11, 4, 12, 13, 14, 15, 16, 17, 18, 19, 20] (by decide +kernel) (by decide +kernel)
set_option maxRecDepth 20000 in
theorem gX7_takes_X7_hasPassed : GoodIn wsX7_takes (wsV RX7 64 RX7 yX7_hasPassed wsX7_hasPassed) := goodIn_app (goodIn_of _ (by decide +kernel)) ggX7_takes_X7_hasPassed
theorem dX7_takes_0 : decode cX7_takes 0 = .ok (.iconst 0, 1) := by decide +kernel
theorem dX7_takes_1 : decode cX7_takes 1 = .ok (.istore_n 2, 1) := by decide +kernel
theorem dX7_takes_2 : decode cX7_takes 2 = .ok (.iload_n 2, 1) := by decide +kernel
theorem dX7_takes_3 : decode cX7_takes 3 = .ok (.aload_n 0, 1) := by decide +kernel
theorem dX7_takes_4 : decode cX7_takes 4 = .ok (.getfield 7, 3) := by decide +kernel
theorem dX7_takes_7 : decode cX7_takes 7 = .ok (.bipush 45, 2) := by decide +kernel
theorem dX7_takes_9 : decode cX7_takes 9 = .ok (.iload_n 1, 1) := by decide +kernel
theorem dX7_takes_10 : decode cX7_takes 10 = .ok (.iadd, 1) := by decide +kernel
theorem dX7_takes_11 : decode cX7_takes 11 = .ok (.iaload, 1) := by decide +kernel
theorem dX7_takes_12 : decode cX7_takes 12 = .ok (.if_icmp .ge 26, 3) := by decide +kernel
theorem dX7_takes_15 : decode cX7_takes 15 = .ok (.aload_n 0, 1) := by decide +kernel
theorem dX7_takes_16 : decode cX7_takes 16 = .ok (.aload_n 0, 1) := by decide +kernel
theorem dX7_takes_17 : decode cX7_takes 17 = .ok (.getfield 7, 3) := by decide +kernel
theorem dX7_takes_20 : decode cX7_takes 20 = .ok (.iload_n 1, 1) := by decide +kernel
theorem dX7_takes_21 : decode cX7_takes 21 = .ok (.iload_n 2, 1) := by decide +kernel
theorem dX7_takes_22 : decode cX7_takes 22 = .ok (.invokestatic 61, 3) := by decide +kernel
theorem dX7_takes_25 : decode cX7_takes 25 = .ok (.iaload, 1) := by decide +kernel
theorem dX7_takes_26 : decode cX7_takes 26 = .ok (.invokevirtual 64, 3) := by decide +kernel
theorem dX7_takes_29 : decode cX7_takes 29 = .ok (.ifCond .eq 9, 3) := by decide +kernel
theorem dX7_takes_32 : decode cX7_takes 32 = .ok (.iinc 2 1, 3) := by decide +kernel
theorem dX7_takes_35 : decode cX7_takes 35 = .ok (.goto (-33), 3) := by decide +kernel
theorem dX7_takes_38 : decode cX7_takes 38 = .ok (.iload_n 2, 1) := by decide +kernel
theorem dX7_takes_39 : decode cX7_takes 39 = .ok (.aload_n 0, 1) := by decide +kernel
theorem dX7_takes_40 : decode cX7_takes 40 = .ok (.getfield 7, 3) := by decide +kernel
theorem dX7_takes_43 : decode cX7_takes 43 = .ok (.bipush 45, 2) := by decide +kernel
theorem dX7_takes_45 : decode cX7_takes 45 = .ok (.iload_n 1, 1) := by decide +kernel
theorem dX7_takes_46 : decode cX7_takes 46 = .ok (.iadd, 1) := by decide +kernel
theorem dX7_takes_47 : decode cX7_takes 47 = .ok (.iaload, 1) := by decide +kernel
theorem dX7_takes_48 : decode cX7_takes 48 = .ok (.if_icmp .ne 7, 3) := by decide +kernel
theorem dX7_takes_51 : decode cX7_takes 51 = .ok (.sipush (-1006), 3) := by decide +kernel
theorem dX7_takes_54 : decode cX7_takes 54 = .ok (.ireturn, 1) := by decide +kernel
theorem dX7_takes_55 : decode cX7_takes 55 = .ok (.aload_n 0, 1) := by decide +kernel
theorem dX7_takes_56 : decode cX7_takes 56 = .ok (.getfield 7, 3) := by decide +kernel
theorem dX7_takes_59 : decode cX7_takes 59 = .ok (.iload_n 1, 1) := by decide +kernel
theorem dX7_takes_60 : decode cX7_takes 60 = .ok (.iload_n 2, 1) := by decide +kernel
theorem dX7_takes_61 : decode cX7_takes 61 = .ok (.invokestatic 61, 3) := by decide +kernel
theorem dX7_takes_64 : decode cX7_takes 64 = .ok (.iaload, 1) := by decide +kernel
theorem dX7_takes_65 : decode cX7_takes 65 = .ok (.istore_n 3, 1) := by decide +kernel
theorem dX7_takes_66 : decode cX7_takes 66 = .ok (.aload_n 0, 1) := by decide +kernel
theorem dX7_takes_67 : decode cX7_takes 67 = .ok (.getfield 7, 3) := by decide +kernel
theorem dX7_takes_70 : decode cX7_takes 70 = .ok (.bipush 45, 2) := by decide +kernel
theorem dX7_takes_72 : decode cX7_takes 72 = .ok (.iload_n 1, 1) := by decide +kernel
theorem dX7_takes_73 : decode cX7_takes 73 = .ok (.iadd, 1) := by decide +kernel
theorem dX7_takes_74 : decode cX7_takes 74 = .ok (.dup2, 1) := by decide +kernel
theorem dX7_takes_75 : decode cX7_takes 75 = .ok (.iaload, 1) := by decide +kernel
theorem dX7_takes_76 : decode cX7_takes 76 = .ok (.iconst 1, 1) := by decide +kernel
theorem dX7_takes_77 : decode cX7_takes 77 = .ok (.isub, 1) := by decide +kernel
theorem dX7_takes_78 : decode cX7_takes 78 = .ok (.iastore, 1) := by decide +kernel
theorem dX7_takes_79 : decode cX7_takes 79 = .ok (.iload_n 2, 1) := by decide +kernel
theorem dX7_takes_80 : decode cX7_takes 80 = .ok (.istore 4, 2) := by decide +kernel
theorem dX7_takes_82 : decode cX7_takes 82 = .ok (.iload 4, 2) := by decide +kernel
theorem dX7_takes_84 : decode cX7_takes 84 = .ok (.aload_n 0, 1) := by decide +kernel
theorem dX7_takes_85 : decode cX7_takes 85 = .ok (.getfield 7, 3) := by decide +kernel
theorem dX7_takes_88 : decode cX7_takes 88 = .ok (.bipush 45, 2) := by decide +kernel
theorem dX7_takes_90 : decode cX7_takes 90 = .ok (.iload_n 1, 1) := by decide +kernel
theorem dX7_takes_91 : decode cX7_takes 91 = .ok (.iadd, 1) := by decide +kernel
theorem dX7_takes_92 : decode cX7_takes 92 = .ok (.iaload, 1) := by decide +kernel
theorem dX7_takes_93 : decode cX7_takes 93 = .ok (.if_icmp .ge 33, 3) := by decide +kernel
theorem dX7_takes_96 : decode cX7_takes 96 = .ok (.aload_n 0, 1) := by decide +kernel
theorem dX7_takes_97 : decode cX7_takes 97 = .ok (.getfield 7, 3) := by decide +kernel
theorem dX7_takes_100 : decode cX7_takes 100 = .ok (.iload_n 1, 1) := by decide +kernel
theorem dX7_takes_101 : decode cX7_takes 101 = .ok (.iload 4, 2) := by decide +kernel
theorem dX7_takes_103 : decode cX7_takes 103 = .ok (.invokestatic 61, 3) := by decide +kernel
theorem dX7_takes_106 : decode cX7_takes 106 = .ok (.aload_n 0, 1) := by decide +kernel
theorem dX7_takes_107 : decode cX7_takes 107 = .ok (.getfield 7, 3) := by decide +kernel
theorem dX7_takes_110 : decode cX7_takes 110 = .ok (.iload_n 1, 1) := by decide +kernel
theorem dX7_takes_111 : decode cX7_takes 111 = .ok (.iload 4, 2) := by decide +kernel
theorem dX7_takes_113 : decode cX7_takes 113 = .ok (.iconst 1, 1) := by decide +kernel
theorem dX7_takes_114 : decode cX7_takes 114 = .ok (.iadd, 1) := by decide +kernel
theorem dX7_takes_115 : decode cX7_takes 115 = .ok (.invokestatic 61, 3) := by decide +kernel
theorem dX7_takes_118 : decode cX7_takes 118 = .ok (.iaload, 1) := by decide +kernel
theorem dX7_takes_119 : decode cX7_takes 119 = .ok (.iastore, 1) := by decide +kernel
theorem dX7_takes_120 : decode cX7_takes 120 = .ok (.iinc 4 1, 3) := by decide +kernel
theorem dX7_takes_123 : decode cX7_takes 123 = .ok (.goto (-41), 3) := by decide +kernel
theorem dX7_takes_126 : decode cX7_takes 126 = .ok (.aload_n 0, 1) := by decide +kernel
theorem dX7_takes_127 : decode cX7_takes 127 = .ok (.getfield 7, 3) := by decide +kernel
theorem dX7_takes_130 : decode cX7_takes 130 = .ok (.iload_n 1, 1) := by decide +kernel
theorem dX7_takes_131 : decode cX7_takes 131 = .ok (.aload_n 0, 1) := by decide +kernel
theorem dX7_takes_132 : decode cX7_takes 132 = .ok (.getfield 7, 3) := by decide +kernel
theorem dX7_takes_135 : decode cX7_takes 135 = .ok (.bipush 45, 2) := by decide +kernel
theorem dX7_takes_137 : decode cX7_takes 137 = .ok (.iload_n 1, 1) := by decide +kernel
theorem dX7_takes_138 : decode cX7_takes 138 = .ok (.iadd, 1) := by decide +kernel
theorem dX7_takes_139 : decode cX7_takes 139 = .ok (.iaload, 1) := by decide +kernel
theorem dX7_takes_140 : decode cX7_takes 140 = .ok (.invokestatic 61, 3) := by decide +kernel
theorem dX7_takes_143 : decode cX7_takes 143 = .ok (.iconst 0, 1) := by decide +kernel
theorem dX7_takes_144 : decode cX7_takes 144 = .ok (.iastore, 1) := by decide +kernel
theorem dX7_takes_145 : decode cX7_takes 145 = .ok (.iload_n 3, 1) := by decide +kernel
theorem dX7_takes_146 : decode cX7_takes 146 = .ok (.ireturn, 1) := by decide +kernel
set_option maxRecDepth 20000 in
theorem ggX7_acts_X7_isOpen : GoodIn wsX7_acts wsX7_isOpen := goodIn_r _ [6, 1, 7, 8, 5, 9, 10, 11, 12, 13, 14, 15, 16, 17, 18, 19, 20, 47, 48, 49, 50, 51, 52, 53, 54] (by decide +kernel) (by decide +kernel)
set_option maxRecDepth 20000 in
theorem gX7_acts_X7_isOpen : GoodIn wsX7_acts (wsV RX7 51 RX7 yX7_isOpen wsX7_isOpen) := goodIn_app (goodIn_of _ (by decide +kernel)) ggX7_acts_X7_isOpen
set_option maxRecDepth 20000 in
theorem ggX7_acts_X7_ofGate : GoodIn wsX7_acts wsX7_ofGate := goodIn_r _ [9] (by decide +kernel) (by decide +kernel)
set_option maxRecDepth 20000 in
theorem gX7_acts_X7_ofGate : GoodIn wsX7_acts (va_wsS RX7 33 yX7_ofGate wsX7_ofGate) := goodIn_app (goodIn_of _ (by decide +kernel)) ggX7_acts_X7_ofGate
set_option maxRecDepth 20000 in
theorem ggX7_acts_X7_takes : GoodIn wsX7_acts wsX7_takes := goodIn_r _ [24, 1, 25, 26, 5, 27, 28, 29, 30, 31, 32, 33, 34, 47, 48, 49, 50, 51, 52, 53, 54] (by decide +kernel) (by decide +kernel)
set_option maxRecDepth 20000 in
theorem gX7_acts_X7_takes : GoodIn wsX7_acts (wsV RX7 68 RX7 yX7_takes wsX7_takes) := goodIn_app (goodIn_of _ (by decide +kernel)) ggX7_acts_X7_takes
set_option maxRecDepth 20000 in
theorem ggX7_acts_X7_lettersOf : GoodIn wsX7_acts wsX7_lettersOf := goodIn_r _ [38, 1, 32, 33, 5, 34, 47, 48, 49, 50, 51, 52, 53, 54] (by decide +kernel) (by decide +kernel)
set_option maxRecDepth 20000 in
theorem gX7_acts_X7_lettersOf : GoodIn wsX7_acts (wsV RX7 58 RX7 yX7_lettersOf wsX7_lettersOf) := goodIn_app (goodIn_of _ (by decide +kernel)) ggX7_acts_X7_lettersOf
set_option maxRecDepth 20000 in
theorem ggX7_acts_X7_ofWord : GoodIn wsX7_acts wsX7_ofWord := goodIn_r _ [34] (by decide +kernel) (by decide +kernel)
set_option maxRecDepth 20000 in
theorem gX7_acts_X7_ofWord : GoodIn wsX7_acts (va_wsS RX7 55 yX7_ofWord wsX7_ofWord) := goodIn_app (goodIn_of _ (by decide +kernel)) ggX7_acts_X7_ofWord
set_option maxRecDepth 20000 in
theorem ggX7_acts_X7_comes : GoodIn wsX7_acts wsX7_comes := goodIn_r _ [42, 1, 25, 26, 5, 27, 47, 48, 49, 50, 51, 52, 53, 54] (by decide +kernel) (by decide +kernel)
set_option maxRecDepth 20000 in
theorem gX7_acts_X7_comes : GoodIn wsX7_acts (wsV RX7 71 RX7 yX7_comes wsX7_comes) := goodIn_app (goodIn_of _ (by decide +kernel)) ggX7_acts_X7_comes
set_option maxRecDepth 20000 in
theorem ggX7_acts_X7_goesBack : GoodIn wsX7_acts wsX7_goesBack := goodIn_r _ [46, 1, 25, 26, 5, 27, 47, 48, 49, 50, 51, 52, 53, 54] (by decide +kernel) (by decide +kernel)
set_option maxRecDepth 20000 in
theorem gX7_acts_X7_goesBack : GoodIn wsX7_acts (wsV RX7 75 RX7 yX7_goesBack wsX7_goesBack) := goodIn_app (goodIn_of _ (by decide +kernel)) ggX7_acts_X7_goesBack
theorem dX7_acts_0 : decode cX7_acts 0 = .ok (.aload_n 0, 1) := by decide +kernel
theorem dX7_acts_1 : decode cX7_acts 1 = .ok (.iload_n 1, 1) := by decide +kernel
theorem dX7_acts_2 : decode cX7_acts 2 = .ok (.aload_n 0, 1) := by decide +kernel
theorem dX7_acts_3 : decode cX7_acts 3 = .ok (.getfield 7, 3) := by decide +kernel
theorem dX7_acts_6 : decode cX7_acts 6 = .ok (.iconst 0, 1) := by decide +kernel
theorem dX7_acts_7 : decode cX7_acts 7 = .ok (.iaload, 1) := by decide +kernel
theorem dX7_acts_8 : decode cX7_acts 8 = .ok (.invokevirtual 51, 3) := by decide +kernel
theorem dX7_acts_11 : decode cX7_acts 11 = .ok (.istore_n 2, 1) := by decide +kernel
theorem dX7_acts_12 : decode cX7_acts 12 = .ok (.aload_n 0, 1) := by decide +kernel
theorem dX7_acts_13 : decode cX7_acts 13 = .ok (.getfield 7, 3) := by decide +kernel
theorem dX7_acts_16 : decode cX7_acts 16 = .ok (.iload_n 1, 1) := by decide +kernel
theorem dX7_acts_17 : decode cX7_acts 17 = .ok (.iconst 0, 1) := by decide +kernel
theorem dX7_acts_18 : decode cX7_acts 18 = .ok (.invokestatic 33, 3) := by decide +kernel
theorem dX7_acts_21 : decode cX7_acts 21 = .ok (.iaload, 1) := by decide +kernel
theorem dX7_acts_22 : decode cX7_acts 22 = .ok (.istore_n 3, 1) := by decide +kernel
theorem dX7_acts_23 : decode cX7_acts 23 = .ok (.iload_n 2, 1) := by decide +kernel
theorem dX7_acts_24 : decode cX7_acts 24 = .ok (.ifCond .eq 34, 3) := by decide +kernel
theorem dX7_acts_27 : decode cX7_acts 27 = .ok (.aload_n 0, 1) := by decide +kernel
theorem dX7_acts_28 : decode cX7_acts 28 = .ok (.getfield 7, 3) := by decide +kernel
theorem dX7_acts_31 : decode cX7_acts 31 = .ok (.iload_n 1, 1) := by decide +kernel
theorem dX7_acts_32 : decode cX7_acts 32 = .ok (.iconst 4, 1) := by decide +kernel
theorem dX7_acts_33 : decode cX7_acts 33 = .ok (.invokestatic 33, 3) := by decide +kernel
theorem dX7_acts_36 : decode cX7_acts 36 = .ok (.iaload, 1) := by decide +kernel
theorem dX7_acts_37 : decode cX7_acts 37 = .ok (.sipush (-1006), 3) := by decide +kernel
theorem dX7_acts_40 : decode cX7_acts 40 = .ok (.if_icmp .ne 18, 3) := by decide +kernel
theorem dX7_acts_43 : decode cX7_acts 43 = .ok (.aload_n 0, 1) := by decide +kernel
theorem dX7_acts_44 : decode cX7_acts 44 = .ok (.getfield 7, 3) := by decide +kernel
theorem dX7_acts_47 : decode cX7_acts 47 = .ok (.iload_n 1, 1) := by decide +kernel
theorem dX7_acts_48 : decode cX7_acts 48 = .ok (.iconst 4, 1) := by decide +kernel
theorem dX7_acts_49 : decode cX7_acts 49 = .ok (.invokestatic 33, 3) := by decide +kernel
theorem dX7_acts_52 : decode cX7_acts 52 = .ok (.aload_n 0, 1) := by decide +kernel
theorem dX7_acts_53 : decode cX7_acts 53 = .ok (.iload_n 3, 1) := by decide +kernel
theorem dX7_acts_54 : decode cX7_acts 54 = .ok (.invokevirtual 68, 3) := by decide +kernel
theorem dX7_acts_57 : decode cX7_acts 57 = .ok (.iastore, 1) := by decide +kernel
theorem dX7_acts_58 : decode cX7_acts 58 = .ok (.aload_n 0, 1) := by decide +kernel
theorem dX7_acts_59 : decode cX7_acts 59 = .ok (.getfield 7, 3) := by decide +kernel
theorem dX7_acts_62 : decode cX7_acts 62 = .ok (.iload_n 1, 1) := by decide +kernel
theorem dX7_acts_63 : decode cX7_acts 63 = .ok (.iconst 4, 1) := by decide +kernel
theorem dX7_acts_64 : decode cX7_acts 64 = .ok (.invokestatic 33, 3) := by decide +kernel
theorem dX7_acts_67 : decode cX7_acts 67 = .ok (.iaload, 1) := by decide +kernel
theorem dX7_acts_68 : decode cX7_acts 68 = .ok (.istore 4, 2) := by decide +kernel
theorem dX7_acts_70 : decode cX7_acts 70 = .ok (.iload_n 2, 1) := by decide +kernel
theorem dX7_acts_71 : decode cX7_acts 71 = .ok (.ifCond .eq 146, 3) := by decide +kernel
theorem dX7_acts_74 : decode cX7_acts 74 = .ok (.iload 4, 2) := by decide +kernel
theorem dX7_acts_76 : decode cX7_acts 76 = .ok (.sipush (-1006), 3) := by decide +kernel
theorem dX7_acts_79 : decode cX7_acts 79 = .ok (.if_icmp .eq 138, 3) := by decide +kernel
theorem dX7_acts_82 : decode cX7_acts 82 = .ok (.aload_n 0, 1) := by decide +kernel
theorem dX7_acts_83 : decode cX7_acts 83 = .ok (.getfield 7, 3) := by decide +kernel
theorem dX7_acts_86 : decode cX7_acts 86 = .ok (.iload_n 1, 1) := by decide +kernel
theorem dX7_acts_87 : decode cX7_acts 87 = .ok (.iconst 5, 1) := by decide +kernel
theorem dX7_acts_88 : decode cX7_acts 88 = .ok (.invokestatic 33, 3) := by decide +kernel
theorem dX7_acts_91 : decode cX7_acts 91 = .ok (.dup2, 1) := by decide +kernel
theorem dX7_acts_92 : decode cX7_acts 92 = .ok (.iaload, 1) := by decide +kernel
theorem dX7_acts_93 : decode cX7_acts 93 = .ok (.iconst 1, 1) := by decide +kernel
theorem dX7_acts_94 : decode cX7_acts 94 = .ok (.iadd, 1) := by decide +kernel
theorem dX7_acts_95 : decode cX7_acts 95 = .ok (.iastore, 1) := by decide +kernel
theorem dX7_acts_96 : decode cX7_acts 96 = .ok (.aload_n 0, 1) := by decide +kernel
theorem dX7_acts_97 : decode cX7_acts 97 = .ok (.getfield 7, 3) := by decide +kernel
theorem dX7_acts_100 : decode cX7_acts 100 = .ok (.iconst 2, 1) := by decide +kernel
theorem dX7_acts_101 : decode cX7_acts 101 = .ok (.dup2, 1) := by decide +kernel
theorem dX7_acts_102 : decode cX7_acts 102 = .ok (.iaload, 1) := by decide +kernel
theorem dX7_acts_103 : decode cX7_acts 103 = .ok (.iconst 1, 1) := by decide +kernel
theorem dX7_acts_104 : decode cX7_acts 104 = .ok (.iadd, 1) := by decide +kernel
theorem dX7_acts_105 : decode cX7_acts 105 = .ok (.iastore, 1) := by decide +kernel
theorem dX7_acts_106 : decode cX7_acts 106 = .ok (.aload_n 0, 1) := by decide +kernel
theorem dX7_acts_107 : decode cX7_acts 107 = .ok (.getfield 7, 3) := by decide +kernel
theorem dX7_acts_110 : decode cX7_acts 110 = .ok (.iload_n 1, 1) := by decide +kernel
theorem dX7_acts_111 : decode cX7_acts 111 = .ok (.iconst 5, 1) := by decide +kernel
theorem dX7_acts_112 : decode cX7_acts 112 = .ok (.invokestatic 33, 3) := by decide +kernel
theorem dX7_acts_115 : decode cX7_acts 115 = .ok (.iaload, 1) := by decide +kernel
theorem dX7_acts_116 : decode cX7_acts 116 = .ok (.aload_n 0, 1) := by decide +kernel
theorem dX7_acts_117 : decode cX7_acts 117 = .ok (.iload 4, 2) := by decide +kernel
theorem dX7_acts_119 : decode cX7_acts 119 = .ok (.invokevirtual 58, 3) := by decide +kernel
theorem dX7_acts_122 : decode cX7_acts 122 = .ok (.if_icmp .ne 209, 3) := by decide +kernel
theorem dX7_acts_125 : decode cX7_acts 125 = .ok (.aload_n 0, 1) := by decide +kernel
theorem dX7_acts_126 : decode cX7_acts 126 = .ok (.getfield 7, 3) := by decide +kernel
theorem dX7_acts_129 : decode cX7_acts 129 = .ok (.iload 4, 2) := by decide +kernel
theorem dX7_acts_131 : decode cX7_acts 131 = .ok (.iconst 1, 1) := by decide +kernel
theorem dX7_acts_132 : decode cX7_acts 132 = .ok (.invokestatic 55, 3) := by decide +kernel
theorem dX7_acts_135 : decode cX7_acts 135 = .ok (.iconst 1, 1) := by decide +kernel
theorem dX7_acts_136 : decode cX7_acts 136 = .ok (.iastore, 1) := by decide +kernel
theorem dX7_acts_137 : decode cX7_acts 137 = .ok (.aload_n 0, 1) := by decide +kernel
theorem dX7_acts_138 : decode cX7_acts 138 = .ok (.getfield 7, 3) := by decide +kernel
theorem dX7_acts_141 : decode cX7_acts 141 = .ok (.iload 4, 2) := by decide +kernel
theorem dX7_acts_143 : decode cX7_acts 143 = .ok (.iconst 2, 1) := by decide +kernel
theorem dX7_acts_144 : decode cX7_acts 144 = .ok (.invokestatic 55, 3) := by decide +kernel
theorem dX7_acts_147 : decode cX7_acts 147 = .ok (.aload_n 0, 1) := by decide +kernel
theorem dX7_acts_148 : decode cX7_acts 148 = .ok (.getfield 7, 3) := by decide +kernel
theorem dX7_acts_151 : decode cX7_acts 151 = .ok (.iconst 0, 1) := by decide +kernel
theorem dX7_acts_152 : decode cX7_acts 152 = .ok (.iaload, 1) := by decide +kernel
theorem dX7_acts_153 : decode cX7_acts 153 = .ok (.iastore, 1) := by decide +kernel
theorem dX7_acts_154 : decode cX7_acts 154 = .ok (.aload_n 0, 1) := by decide +kernel
theorem dX7_acts_155 : decode cX7_acts 155 = .ok (.getfield 7, 3) := by decide +kernel
theorem dX7_acts_158 : decode cX7_acts 158 = .ok (.iload 4, 2) := by decide +kernel
theorem dX7_acts_160 : decode cX7_acts 160 = .ok (.iconst 3, 1) := by decide +kernel
theorem dX7_acts_161 : decode cX7_acts 161 = .ok (.invokestatic 55, 3) := by decide +kernel
theorem dX7_acts_164 : decode cX7_acts 164 = .ok (.iload_n 1, 1) := by decide +kernel
theorem dX7_acts_165 : decode cX7_acts 165 = .ok (.iastore, 1) := by decide +kernel
theorem dX7_acts_166 : decode cX7_acts 166 = .ok (.aload_n 0, 1) := by decide +kernel
theorem dX7_acts_167 : decode cX7_acts 167 = .ok (.getfield 7, 3) := by decide +kernel
theorem dX7_acts_170 : decode cX7_acts 170 = .ok (.iload_n 1, 1) := by decide +kernel
theorem dX7_acts_171 : decode cX7_acts 171 = .ok (.bipush 6, 2) := by decide +kernel
theorem dX7_acts_173 : decode cX7_acts 173 = .ok (.invokestatic 33, 3) := by decide +kernel
theorem dX7_acts_176 : decode cX7_acts 176 = .ok (.dup2, 1) := by decide +kernel
theorem dX7_acts_177 : decode cX7_acts 177 = .ok (.iaload, 1) := by decide +kernel
theorem dX7_acts_178 : decode cX7_acts 178 = .ok (.iconst 1, 1) := by decide +kernel
theorem dX7_acts_179 : decode cX7_acts 179 = .ok (.iadd, 1) := by decide +kernel
theorem dX7_acts_180 : decode cX7_acts 180 = .ok (.iastore, 1) := by decide +kernel
theorem dX7_acts_181 : decode cX7_acts 181 = .ok (.aload_n 0, 1) := by decide +kernel
theorem dX7_acts_182 : decode cX7_acts 182 = .ok (.getfield 7, 3) := by decide +kernel
theorem dX7_acts_185 : decode cX7_acts 185 = .ok (.iload_n 1, 1) := by decide +kernel
theorem dX7_acts_186 : decode cX7_acts 186 = .ok (.iconst 4, 1) := by decide +kernel
theorem dX7_acts_187 : decode cX7_acts 187 = .ok (.invokestatic 33, 3) := by decide +kernel
theorem dX7_acts_190 : decode cX7_acts 190 = .ok (.sipush (-1006), 3) := by decide +kernel
theorem dX7_acts_193 : decode cX7_acts 193 = .ok (.iastore, 1) := by decide +kernel
theorem dX7_acts_194 : decode cX7_acts 194 = .ok (.aload_n 0, 1) := by decide +kernel
theorem dX7_acts_195 : decode cX7_acts 195 = .ok (.getfield 7, 3) := by decide +kernel
theorem dX7_acts_198 : decode cX7_acts 198 = .ok (.iload_n 1, 1) := by decide +kernel
theorem dX7_acts_199 : decode cX7_acts 199 = .ok (.iconst 5, 1) := by decide +kernel
theorem dX7_acts_200 : decode cX7_acts 200 = .ok (.invokestatic 33, 3) := by decide +kernel
theorem dX7_acts_203 : decode cX7_acts 203 = .ok (.iconst 0, 1) := by decide +kernel
theorem dX7_acts_204 : decode cX7_acts 204 = .ok (.iastore, 1) := by decide +kernel
theorem dX7_acts_205 : decode cX7_acts 205 = .ok (.aload_n 0, 1) := by decide +kernel
theorem dX7_acts_206 : decode cX7_acts 206 = .ok (.iconst 1, 1) := by decide +kernel
theorem dX7_acts_207 : decode cX7_acts 207 = .ok (.iload_n 3, 1) := by decide +kernel
theorem dX7_acts_208 : decode cX7_acts 208 = .ok (.isub, 1) := by decide +kernel
theorem dX7_acts_209 : decode cX7_acts 209 = .ok (.iload 4, 2) := by decide +kernel
theorem dX7_acts_211 : decode cX7_acts 211 = .ok (.invokevirtual 71, 3) := by decide +kernel
theorem dX7_acts_214 : decode cX7_acts 214 = .ok (.goto 117, 3) := by decide +kernel
theorem dX7_acts_217 : decode cX7_acts 217 = .ok (.iload_n 2, 1) := by decide +kernel
theorem dX7_acts_218 : decode cX7_acts 218 = .ok (.ifCond .ne 113, 3) := by decide +kernel
theorem dX7_acts_221 : decode cX7_acts 221 = .ok (.iload 4, 2) := by decide +kernel
theorem dX7_acts_223 : decode cX7_acts 223 = .ok (.sipush (-1006), 3) := by decide +kernel
theorem dX7_acts_226 : decode cX7_acts 226 = .ok (.if_icmp .eq 105, 3) := by decide +kernel
theorem dX7_acts_229 : decode cX7_acts 229 = .ok (.aload_n 0, 1) := by decide +kernel
theorem dX7_acts_230 : decode cX7_acts 230 = .ok (.getfield 7, 3) := by decide +kernel
theorem dX7_acts_233 : decode cX7_acts 233 = .ok (.iload_n 1, 1) := by decide +kernel
theorem dX7_acts_234 : decode cX7_acts 234 = .ok (.iconst 2, 1) := by decide +kernel
theorem dX7_acts_235 : decode cX7_acts 235 = .ok (.invokestatic 33, 3) := by decide +kernel
theorem dX7_acts_238 : decode cX7_acts 238 = .ok (.iaload, 1) := by decide +kernel
theorem dX7_acts_239 : decode cX7_acts 239 = .ok (.ifCond .ne 92, 3) := by decide +kernel
theorem dX7_acts_242 : decode cX7_acts 242 = .ok (.aload_n 0, 1) := by decide +kernel
theorem dX7_acts_243 : decode cX7_acts 243 = .ok (.getfield 7, 3) := by decide +kernel
theorem dX7_acts_246 : decode cX7_acts 246 = .ok (.iconst 3, 1) := by decide +kernel
theorem dX7_acts_247 : decode cX7_acts 247 = .ok (.dup2, 1) := by decide +kernel
theorem dX7_acts_248 : decode cX7_acts 248 = .ok (.iaload, 1) := by decide +kernel
theorem dX7_acts_249 : decode cX7_acts 249 = .ok (.aload_n 0, 1) := by decide +kernel
theorem dX7_acts_250 : decode cX7_acts 250 = .ok (.getfield 7, 3) := by decide +kernel
theorem dX7_acts_253 : decode cX7_acts 253 = .ok (.iload_n 1, 1) := by decide +kernel
theorem dX7_acts_254 : decode cX7_acts 254 = .ok (.iconst 5, 1) := by decide +kernel
theorem dX7_acts_255 : decode cX7_acts 255 = .ok (.invokestatic 33, 3) := by decide +kernel
theorem dX7_acts_258 : decode cX7_acts 258 = .ok (.iaload, 1) := by decide +kernel
theorem dX7_acts_259 : decode cX7_acts 259 = .ok (.iadd, 1) := by decide +kernel
theorem dX7_acts_260 : decode cX7_acts 260 = .ok (.iastore, 1) := by decide +kernel
theorem dX7_acts_261 : decode cX7_acts 261 = .ok (.aload_n 0, 1) := by decide +kernel
theorem dX7_acts_262 : decode cX7_acts 262 = .ok (.getfield 7, 3) := by decide +kernel
theorem dX7_acts_265 : decode cX7_acts 265 = .ok (.iload_n 1, 1) := by decide +kernel
theorem dX7_acts_266 : decode cX7_acts 266 = .ok (.bipush 7, 2) := by decide +kernel
theorem dX7_acts_268 : decode cX7_acts 268 = .ok (.invokestatic 33, 3) := by decide +kernel
theorem dX7_acts_271 : decode cX7_acts 271 = .ok (.dup2, 1) := by decide +kernel
theorem dX7_acts_272 : decode cX7_acts 272 = .ok (.iaload, 1) := by decide +kernel
theorem dX7_acts_273 : decode cX7_acts 273 = .ok (.aload_n 0, 1) := by decide +kernel
theorem dX7_acts_274 : decode cX7_acts 274 = .ok (.getfield 7, 3) := by decide +kernel
theorem dX7_acts_277 : decode cX7_acts 277 = .ok (.iload_n 1, 1) := by decide +kernel
theorem dX7_acts_278 : decode cX7_acts 278 = .ok (.iconst 5, 1) := by decide +kernel
theorem dX7_acts_279 : decode cX7_acts 279 = .ok (.invokestatic 33, 3) := by decide +kernel
theorem dX7_acts_282 : decode cX7_acts 282 = .ok (.iaload, 1) := by decide +kernel
theorem dX7_acts_283 : decode cX7_acts 283 = .ok (.iadd, 1) := by decide +kernel
theorem dX7_acts_284 : decode cX7_acts 284 = .ok (.iastore, 1) := by decide +kernel
theorem dX7_acts_285 : decode cX7_acts 285 = .ok (.aload_n 0, 1) := by decide +kernel
theorem dX7_acts_286 : decode cX7_acts 286 = .ok (.getfield 7, 3) := by decide +kernel
theorem dX7_acts_289 : decode cX7_acts 289 = .ok (.iload 4, 2) := by decide +kernel
theorem dX7_acts_291 : decode cX7_acts 291 = .ok (.iconst 4, 1) := by decide +kernel
theorem dX7_acts_292 : decode cX7_acts 292 = .ok (.invokestatic 55, 3) := by decide +kernel
theorem dX7_acts_295 : decode cX7_acts 295 = .ok (.dup2, 1) := by decide +kernel
theorem dX7_acts_296 : decode cX7_acts 296 = .ok (.iaload, 1) := by decide +kernel
theorem dX7_acts_297 : decode cX7_acts 297 = .ok (.iconst 1, 1) := by decide +kernel
theorem dX7_acts_298 : decode cX7_acts 298 = .ok (.iadd, 1) := by decide +kernel
theorem dX7_acts_299 : decode cX7_acts 299 = .ok (.iastore, 1) := by decide +kernel
theorem dX7_acts_300 : decode cX7_acts 300 = .ok (.aload_n 0, 1) := by decide +kernel
theorem dX7_acts_301 : decode cX7_acts 301 = .ok (.getfield 7, 3) := by decide +kernel
theorem dX7_acts_304 : decode cX7_acts 304 = .ok (.iload_n 1, 1) := by decide +kernel
theorem dX7_acts_305 : decode cX7_acts 305 = .ok (.iconst 4, 1) := by decide +kernel
theorem dX7_acts_306 : decode cX7_acts 306 = .ok (.invokestatic 33, 3) := by decide +kernel
theorem dX7_acts_309 : decode cX7_acts 309 = .ok (.sipush (-1006), 3) := by decide +kernel
theorem dX7_acts_312 : decode cX7_acts 312 = .ok (.iastore, 1) := by decide +kernel
theorem dX7_acts_313 : decode cX7_acts 313 = .ok (.aload_n 0, 1) := by decide +kernel
theorem dX7_acts_314 : decode cX7_acts 314 = .ok (.getfield 7, 3) := by decide +kernel
theorem dX7_acts_317 : decode cX7_acts 317 = .ok (.iload_n 1, 1) := by decide +kernel
theorem dX7_acts_318 : decode cX7_acts 318 = .ok (.iconst 5, 1) := by decide +kernel
theorem dX7_acts_319 : decode cX7_acts 319 = .ok (.invokestatic 33, 3) := by decide +kernel
theorem dX7_acts_322 : decode cX7_acts 322 = .ok (.iconst 0, 1) := by decide +kernel
theorem dX7_acts_323 : decode cX7_acts 323 = .ok (.iastore, 1) := by decide +kernel
theorem dX7_acts_324 : decode cX7_acts 324 = .ok (.aload_n 0, 1) := by decide +kernel
theorem dX7_acts_325 : decode cX7_acts 325 = .ok (.iload_n 3, 1) := by decide +kernel
theorem dX7_acts_326 : decode cX7_acts 326 = .ok (.iload 4, 2) := by decide +kernel
theorem dX7_acts_328 : decode cX7_acts 328 = .ok (.invokevirtual 75, 3) := by decide +kernel
theorem dX7_acts_331 : decode cX7_acts 331 = .ok (.return_, 1) := by decide +kernel
set_option maxRecDepth 20000 in
theorem ggX7_step_X7_openNow : GoodIn wsX7_step wsX7_openNow := goodIn_r _ [6, 1, 7, 8, 9, 5, 10, 11, 12, 13, 14, 15, 16, 17, 18, 19, 20, 21, 22, 23, 24, 55, 56, 57, 58, 59, 60, 61, 62] (by decide +kernel) (by decide +kernel)
set_option maxRecDepth 20000 in
theorem gX7_step_X7_openNow : GoodIn wsX7_step (wsV RX7 78 RX7 yX7_openNow wsX7_openNow) := goodIn_app (goodIn_of _ (by decide +kernel)) ggX7_step_X7_openNow
set_option maxRecDepth 20000 in
theorem ggX7_step_X7_acts : GoodIn wsX7_step wsX7_acts := goodIn_r _ [28, 1, 7, 8, 9, 5, 10, 11, 12, 13, 14, 15, 16, 17, 18, 19, 20, 21, 22, 23, 24, 29, 30, 31, 32, 33, 34, 35, 36, 37, 38, 39, 40, 41, 42, 43, 44, 45, 46, 47, 48, 49, 50, 51, 52, 53, 54, 55, 56, 57, 58, 59, 60, 61, 62] (by decide +kernel) (by decide +kernel)
set_option maxRecDepth 20000 in
theorem gX7_step_X7_acts : GoodIn wsX7_step (wsV RX7 82 RX7 yX7_acts wsX7_acts) := goodIn_app (goodIn_of _ (by decide +kernel)) ggX7_step_X7_acts
theorem dX7_step_0 : decode cX7_step 0 = .ok (.aload_n 0, 1) := by decide +kernel
theorem dX7_step_1 : decode cX7_step 1 = .ok (.getfield 7, 3) := by decide +kernel
theorem dX7_step_4 : decode cX7_step 4 = .ok (.iconst 1, 1) := by decide +kernel
theorem dX7_step_5 : decode cX7_step 5 = .ok (.dup2, 1) := by decide +kernel
theorem dX7_step_6 : decode cX7_step 6 = .ok (.iaload, 1) := by decide +kernel
theorem dX7_step_7 : decode cX7_step 7 = .ok (.aload_n 0, 1) := by decide +kernel
theorem dX7_step_8 : decode cX7_step 8 = .ok (.invokevirtual 78, 3) := by decide +kernel
theorem dX7_step_11 : decode cX7_step 11 = .ok (.ifCond .ne 7, 3) := by decide +kernel
theorem dX7_step_14 : decode cX7_step 14 = .ok (.iconst 1, 1) := by decide +kernel
theorem dX7_step_15 : decode cX7_step 15 = .ok (.goto 4, 3) := by decide +kernel
theorem dX7_step_18 : decode cX7_step 18 = .ok (.iconst 0, 1) := by decide +kernel
theorem dX7_step_19 : decode cX7_step 19 = .ok (.iadd, 1) := by decide +kernel
theorem dX7_step_20 : decode cX7_step 20 = .ok (.iastore, 1) := by decide +kernel
theorem dX7_step_21 : decode cX7_step 21 = .ok (.iconst 0, 1) := by decide +kernel
theorem dX7_step_22 : decode cX7_step 22 = .ok (.istore_n 1, 1) := by decide +kernel
theorem dX7_step_23 : decode cX7_step 23 = .ok (.iload_n 1, 1) := by decide +kernel
theorem dX7_step_24 : decode cX7_step 24 = .ok (.iconst 4, 1) := by decide +kernel
theorem dX7_step_25 : decode cX7_step 25 = .ok (.if_icmp .ge 14, 3) := by decide +kernel
theorem dX7_step_28 : decode cX7_step 28 = .ok (.aload_n 0, 1) := by decide +kernel
theorem dX7_step_29 : decode cX7_step 29 = .ok (.iload_n 1, 1) := by decide +kernel
theorem dX7_step_30 : decode cX7_step 30 = .ok (.invokevirtual 82, 3) := by decide +kernel
theorem dX7_step_33 : decode cX7_step 33 = .ok (.iinc 1 1, 3) := by decide +kernel
theorem dX7_step_36 : decode cX7_step 36 = .ok (.goto (-13), 3) := by decide +kernel
theorem dX7_step_39 : decode cX7_step 39 = .ok (.aload_n 0, 1) := by decide +kernel
theorem dX7_step_40 : decode cX7_step 40 = .ok (.getfield 7, 3) := by decide +kernel
theorem dX7_step_43 : decode cX7_step 43 = .ok (.iconst 0, 1) := by decide +kernel
theorem dX7_step_44 : decode cX7_step 44 = .ok (.dup2, 1) := by decide +kernel
theorem dX7_step_45 : decode cX7_step 45 = .ok (.iaload, 1) := by decide +kernel
theorem dX7_step_46 : decode cX7_step 46 = .ok (.iconst 1, 1) := by decide +kernel
theorem dX7_step_47 : decode cX7_step 47 = .ok (.iadd, 1) := by decide +kernel
theorem dX7_step_48 : decode cX7_step 48 = .ok (.iastore, 1) := by decide +kernel
theorem dX7_step_49 : decode cX7_step 49 = .ok (.return_, 1) := by decide +kernel
set_option maxRecDepth 20000 in
theorem ggX7_runs_X7_step : GoodIn wsX7_runs wsX7_step := goodIn_r _ [5, 6, 7, 8, 9, 4, 10, 11, 12, 13, 14, 15, 16, 17, 18, 19, 20, 21, 22, 23, 24, 25, 26, 27, 28, 29, 30, 31, 32, 33, 34, 35, 36, 37, 38, 39, 40, 41, 42, 43, 44, 45, 46, 47, 48, 49, 50, 51, 52, 53, 54, 55, 56, 57, 58, 59, 60, 61, 62, 63, 64, 65, 66] (by decide +kernel) (by decide +kernel)
set_option maxRecDepth 20000 in
theorem gX7_runs_X7_step : GoodIn wsX7_runs (wsV RX7 86 RX7 yX7_step wsX7_step) := goodIn_app (goodIn_of _ (by decide +kernel)) ggX7_runs_X7_step
theorem dX7_runs_0 : decode cX7_runs 0 = .ok (.iconst 0, 1) := by decide +kernel
theorem dX7_runs_1 : decode cX7_runs 1 = .ok (.istore_n 2, 1) := by decide +kernel
theorem dX7_runs_2 : decode cX7_runs 2 = .ok (.iload_n 2, 1) := by decide +kernel
theorem dX7_runs_3 : decode cX7_runs 3 = .ok (.iload_n 1, 1) := by decide +kernel
theorem dX7_runs_4 : decode cX7_runs 4 = .ok (.if_icmp .ge 13, 3) := by decide +kernel
theorem dX7_runs_7 : decode cX7_runs 7 = .ok (.aload_n 0, 1) := by decide +kernel
theorem dX7_runs_8 : decode cX7_runs 8 = .ok (.invokevirtual 86, 3) := by decide +kernel
theorem dX7_runs_11 : decode cX7_runs 11 = .ok (.iinc 2 1, 3) := by decide +kernel
theorem dX7_runs_14 : decode cX7_runs 14 = .ok (.goto (-12), 3) := by decide +kernel
theorem dX7_runs_17 : decode cX7_runs 17 = .ok (.return_, 1) := by decide +kernel
set_option maxRecDepth 20000 in
theorem ggX7_passedWords_X7_ofWord : GoodIn wsX7_passedWords wsX7_ofWord := goodIn_r _ [5] (by decide +kernel) (by decide +kernel)
set_option maxRecDepth 20000 in
theorem gX7_passedWords_X7_ofWord : GoodIn wsX7_passedWords (va_wsS RX7 55 yX7_ofWord wsX7_ofWord) := goodIn_app (goodIn_of _ (by decide +kernel)) ggX7_passedWords_X7_ofWord
theorem dX7_passedWords_0 : decode cX7_passedWords 0 = .ok (.iconst 0, 1) := by decide +kernel
theorem dX7_passedWords_1 : decode cX7_passedWords 1 = .ok (.istore_n 1, 1) := by decide +kernel
theorem dX7_passedWords_2 : decode cX7_passedWords 2 = .ok (.iconst 0, 1) := by decide +kernel
theorem dX7_passedWords_3 : decode cX7_passedWords 3 = .ok (.istore_n 2, 1) := by decide +kernel
theorem dX7_passedWords_4 : decode cX7_passedWords 4 = .ok (.iload_n 2, 1) := by decide +kernel
theorem dX7_passedWords_5 : decode cX7_passedWords 5 = .ok (.aload_n 0, 1) := by decide +kernel
theorem dX7_passedWords_6 : decode cX7_passedWords 6 = .ok (.getfield 7, 3) := by decide +kernel
theorem dX7_passedWords_9 : decode cX7_passedWords 9 = .ok (.iconst 4, 1) := by decide +kernel
theorem dX7_passedWords_10 : decode cX7_passedWords 10 = .ok (.iaload, 1) := by decide +kernel
theorem dX7_passedWords_11 : decode cX7_passedWords 11 = .ok (.if_icmp .ge 22, 3) := by decide +kernel
theorem dX7_passedWords_14 : decode cX7_passedWords 14 = .ok (.iload_n 1, 1) := by decide +kernel
theorem dX7_passedWords_15 : decode cX7_passedWords 15 = .ok (.aload_n 0, 1) := by decide +kernel
theorem dX7_passedWords_16 : decode cX7_passedWords 16 = .ok (.getfield 7, 3) := by decide +kernel
theorem dX7_passedWords_19 : decode cX7_passedWords 19 = .ok (.iload_n 2, 1) := by decide +kernel
theorem dX7_passedWords_20 : decode cX7_passedWords 20 = .ok (.iconst 1, 1) := by decide +kernel
theorem dX7_passedWords_21 : decode cX7_passedWords 21 = .ok (.invokestatic 55, 3) := by decide +kernel
theorem dX7_passedWords_24 : decode cX7_passedWords 24 = .ok (.iaload, 1) := by decide +kernel
theorem dX7_passedWords_25 : decode cX7_passedWords 25 = .ok (.iadd, 1) := by decide +kernel
theorem dX7_passedWords_26 : decode cX7_passedWords 26 = .ok (.istore_n 1, 1) := by decide +kernel
theorem dX7_passedWords_27 : decode cX7_passedWords 27 = .ok (.iinc 2 1, 3) := by decide +kernel
theorem dX7_passedWords_30 : decode cX7_passedWords 30 = .ok (.goto (-26), 3) := by decide +kernel
theorem dX7_passedWords_33 : decode cX7_passedWords 33 = .ok (.iload_n 1, 1) := by decide +kernel
theorem dX7_passedWords_34 : decode cX7_passedWords 34 = .ok (.ireturn, 1) := by decide +kernel
set_option maxRecDepth 20000 in
theorem ggX7_backs_X7_ofWord : GoodIn wsX7_backs wsX7_ofWord := goodIn_r _ [5] (by decide +kernel) (by decide +kernel)
set_option maxRecDepth 20000 in
theorem gX7_backs_X7_ofWord : GoodIn wsX7_backs (va_wsS RX7 55 yX7_ofWord wsX7_ofWord) := goodIn_app (goodIn_of _ (by decide +kernel)) ggX7_backs_X7_ofWord
theorem dX7_backs_0 : decode cX7_backs 0 = .ok (.iconst 0, 1) := by decide +kernel
theorem dX7_backs_1 : decode cX7_backs 1 = .ok (.istore_n 1, 1) := by decide +kernel
theorem dX7_backs_2 : decode cX7_backs 2 = .ok (.iconst 0, 1) := by decide +kernel
theorem dX7_backs_3 : decode cX7_backs 3 = .ok (.istore_n 2, 1) := by decide +kernel
theorem dX7_backs_4 : decode cX7_backs 4 = .ok (.iload_n 2, 1) := by decide +kernel
theorem dX7_backs_5 : decode cX7_backs 5 = .ok (.aload_n 0, 1) := by decide +kernel
theorem dX7_backs_6 : decode cX7_backs 6 = .ok (.getfield 7, 3) := by decide +kernel
theorem dX7_backs_9 : decode cX7_backs 9 = .ok (.iconst 4, 1) := by decide +kernel
theorem dX7_backs_10 : decode cX7_backs 10 = .ok (.iaload, 1) := by decide +kernel
theorem dX7_backs_11 : decode cX7_backs 11 = .ok (.if_icmp .ge 22, 3) := by decide +kernel
theorem dX7_backs_14 : decode cX7_backs 14 = .ok (.iload_n 1, 1) := by decide +kernel
theorem dX7_backs_15 : decode cX7_backs 15 = .ok (.aload_n 0, 1) := by decide +kernel
theorem dX7_backs_16 : decode cX7_backs 16 = .ok (.getfield 7, 3) := by decide +kernel
theorem dX7_backs_19 : decode cX7_backs 19 = .ok (.iload_n 2, 1) := by decide +kernel
theorem dX7_backs_20 : decode cX7_backs 20 = .ok (.iconst 4, 1) := by decide +kernel
theorem dX7_backs_21 : decode cX7_backs 21 = .ok (.invokestatic 55, 3) := by decide +kernel
theorem dX7_backs_24 : decode cX7_backs 24 = .ok (.iaload, 1) := by decide +kernel
theorem dX7_backs_25 : decode cX7_backs 25 = .ok (.iadd, 1) := by decide +kernel
theorem dX7_backs_26 : decode cX7_backs 26 = .ok (.istore_n 1, 1) := by decide +kernel
theorem dX7_backs_27 : decode cX7_backs 27 = .ok (.iinc 2 1, 3) := by decide +kernel
theorem dX7_backs_30 : decode cX7_backs 30 = .ok (.goto (-26), 3) := by decide +kernel
theorem dX7_backs_33 : decode cX7_backs 33 = .ok (.iload_n 1, 1) := by decide +kernel
theorem dX7_backs_34 : decode cX7_backs 34 = .ok (.ireturn, 1) := by decide +kernel
set_option maxRecDepth 20000 in
theorem ggX7_tide_X7_isStore : GoodIn wsX7_tide wsX7_isStore := goodIn_r _ [5, 6, 7, 4, 8] (by decide +kernel) (by decide +kernel)
set_option maxRecDepth 20000 in
theorem gX7_tide_X7_isStore : GoodIn wsX7_tide (va_wsS RX7 89 yX7_isStore wsX7_isStore) := goodIn_app (goodIn_of _ (by decide +kernel)) ggX7_tide_X7_isStore
set_option maxRecDepth 20000 in
theorem ggX7_tide_X7_in : GoodIn wsX7_tide wsX7_in := goodIn_r _ [8] (by decide +kernel) (by decide +kernel)
set_option maxRecDepth 20000 in
theorem gX7_tide_X7_in : GoodIn wsX7_tide (va_wsS RX7 36 yX7_in wsX7_in) := goodIn_app (goodIn_of _ (by decide +kernel)) ggX7_tide_X7_in
set_option maxRecDepth 20000 in
theorem ggX7_tide_X7_record : GoodIn wsX7_tide wsX7_record := goodIn_r _ [12, 13, 14, 1, 22, 23, 24, 25, 26, 27, 28, 29] (by decide +kernel) (by decide +kernel)
set_option maxRecDepth 20000 in
theorem gX7_tide_X7_record : GoodIn wsX7_tide (wsV RX7 92 RX7 yX7_record wsX7_record) := goodIn_app (goodIn_of _ (by decide +kernel)) ggX7_tide_X7_record
set_option maxRecDepth 20000 in
theorem ggX7_tide_X7_ofStore : GoodIn wsX7_tide wsX7_ofStore := goodIn_r _ [17] (by decide +kernel) (by decide +kernel)
set_option maxRecDepth 20000 in
theorem gX7_tide_X7_ofStore : GoodIn wsX7_tide (va_wsS RX7 29 yX7_ofStore wsX7_ofStore) := goodIn_app (goodIn_of _ (by decide +kernel)) ggX7_tide_X7_ofStore
set_option maxRecDepth 20000 in
theorem ggX7_tide_X7_level : GoodIn wsX7_tide wsX7_level := goodIn_r _ [21, 1, 15, 16, 4, 17, 22, 23, 24, 25, 26, 27, 28, 29] (by decide +kernel) (by decide +kernel)
set_option maxRecDepth 20000 in
theorem gX7_tide_X7_level : GoodIn wsX7_tide (wsV RX7 44 RX7 yX7_level wsX7_level) := goodIn_app (goodIn_of _ (by decide +kernel)) ggX7_tide_X7_level
theorem dX7_tide_0 : decode cX7_tide 0 = .ok (.iload_n 1, 1) := by decide +kernel
theorem dX7_tide_1 : decode cX7_tide 1 = .ok (.invokestatic 89, 3) := by decide +kernel
theorem dX7_tide_4 : decode cX7_tide 4 = .ok (.ifCond .ne 7, 3) := by decide +kernel
theorem dX7_tide_7 : decode cX7_tide 7 = .ok (.sipush (-1001), 3) := by decide +kernel
theorem dX7_tide_10 : decode cX7_tide 10 = .ok (.ireturn, 1) := by decide +kernel
theorem dX7_tide_11 : decode cX7_tide 11 = .ok (.iload_n 2, 1) := by decide +kernel
theorem dX7_tide_12 : decode cX7_tide 12 = .ok (.iconst 0, 1) := by decide +kernel
theorem dX7_tide_13 : decode cX7_tide 13 = .ok (.sipush 300, 3) := by decide +kernel
theorem dX7_tide_16 : decode cX7_tide 16 = .ok (.invokestatic 36, 3) := by decide +kernel
theorem dX7_tide_19 : decode cX7_tide 19 = .ok (.ifCond .eq 24, 3) := by decide +kernel
theorem dX7_tide_22 : decode cX7_tide 22 = .ok (.iload_n 3, 1) := by decide +kernel
theorem dX7_tide_23 : decode cX7_tide 23 = .ok (.iconst 0, 1) := by decide +kernel
theorem dX7_tide_24 : decode cX7_tide 24 = .ok (.bipush 100, 2) := by decide +kernel
theorem dX7_tide_26 : decode cX7_tide 26 = .ok (.invokestatic 36, 3) := by decide +kernel
theorem dX7_tide_29 : decode cX7_tide 29 = .ok (.ifCond .eq 14, 3) := by decide +kernel
theorem dX7_tide_32 : decode cX7_tide 32 = .ok (.iload 4, 2) := by decide +kernel
theorem dX7_tide_34 : decode cX7_tide 34 = .ok (.iconst 2, 1) := by decide +kernel
theorem dX7_tide_35 : decode cX7_tide 35 = .ok (.bipush 60, 2) := by decide +kernel
theorem dX7_tide_37 : decode cX7_tide 37 = .ok (.invokestatic 36, 3) := by decide +kernel
theorem dX7_tide_40 : decode cX7_tide 40 = .ok (.ifCond .ne 7, 3) := by decide +kernel
theorem dX7_tide_43 : decode cX7_tide 43 = .ok (.sipush (-1002), 3) := by decide +kernel
theorem dX7_tide_46 : decode cX7_tide 46 = .ok (.ireturn, 1) := by decide +kernel
theorem dX7_tide_47 : decode cX7_tide 47 = .ok (.aload_n 0, 1) := by decide +kernel
theorem dX7_tide_48 : decode cX7_tide 48 = .ok (.invokevirtual 92, 3) := by decide +kernel
theorem dX7_tide_51 : decode cX7_tide 51 = .ok (.aload_n 0, 1) := by decide +kernel
theorem dX7_tide_52 : decode cX7_tide 52 = .ok (.getfield 7, 3) := by decide +kernel
theorem dX7_tide_55 : decode cX7_tide 55 = .ok (.iload_n 1, 1) := by decide +kernel
theorem dX7_tide_56 : decode cX7_tide 56 = .ok (.iconst 0, 1) := by decide +kernel
theorem dX7_tide_57 : decode cX7_tide 57 = .ok (.invokestatic 29, 3) := by decide +kernel
theorem dX7_tide_60 : decode cX7_tide 60 = .ok (.iload_n 2, 1) := by decide +kernel
theorem dX7_tide_61 : decode cX7_tide 61 = .ok (.iastore, 1) := by decide +kernel
theorem dX7_tide_62 : decode cX7_tide 62 = .ok (.aload_n 0, 1) := by decide +kernel
theorem dX7_tide_63 : decode cX7_tide 63 = .ok (.getfield 7, 3) := by decide +kernel
theorem dX7_tide_66 : decode cX7_tide 66 = .ok (.iload_n 1, 1) := by decide +kernel
theorem dX7_tide_67 : decode cX7_tide 67 = .ok (.iconst 1, 1) := by decide +kernel
theorem dX7_tide_68 : decode cX7_tide 68 = .ok (.invokestatic 29, 3) := by decide +kernel
theorem dX7_tide_71 : decode cX7_tide 71 = .ok (.iload_n 3, 1) := by decide +kernel
theorem dX7_tide_72 : decode cX7_tide 72 = .ok (.iastore, 1) := by decide +kernel
theorem dX7_tide_73 : decode cX7_tide 73 = .ok (.aload_n 0, 1) := by decide +kernel
theorem dX7_tide_74 : decode cX7_tide 74 = .ok (.getfield 7, 3) := by decide +kernel
theorem dX7_tide_77 : decode cX7_tide 77 = .ok (.iload_n 1, 1) := by decide +kernel
theorem dX7_tide_78 : decode cX7_tide 78 = .ok (.iconst 2, 1) := by decide +kernel
theorem dX7_tide_79 : decode cX7_tide 79 = .ok (.invokestatic 29, 3) := by decide +kernel
theorem dX7_tide_82 : decode cX7_tide 82 = .ok (.iload 4, 2) := by decide +kernel
theorem dX7_tide_84 : decode cX7_tide 84 = .ok (.iastore, 1) := by decide +kernel
theorem dX7_tide_85 : decode cX7_tide 85 = .ok (.aload_n 0, 1) := by decide +kernel
theorem dX7_tide_86 : decode cX7_tide 86 = .ok (.iload_n 1, 1) := by decide +kernel
theorem dX7_tide_87 : decode cX7_tide 87 = .ok (.aload_n 0, 1) := by decide +kernel
theorem dX7_tide_88 : decode cX7_tide 88 = .ok (.getfield 7, 3) := by decide +kernel
theorem dX7_tide_91 : decode cX7_tide 91 = .ok (.iconst 0, 1) := by decide +kernel
theorem dX7_tide_92 : decode cX7_tide 92 = .ok (.iaload, 1) := by decide +kernel
theorem dX7_tide_93 : decode cX7_tide 93 = .ok (.invokevirtual 44, 3) := by decide +kernel
theorem dX7_tide_96 : decode cX7_tide 96 = .ok (.ireturn, 1) := by decide +kernel
set_option maxRecDepth 20000 in
theorem ggX7_lays_X7_record : GoodIn wsX7_lays wsX7_record := goodIn_r _ [6, 7, 8, 1, 9, 10, 11, 12, 13, 14, 15, 16] (by decide +kernel) (by decide +kernel)
set_option maxRecDepth 20000 in
theorem gX7_lays_X7_record : GoodIn wsX7_lays (wsV RX7 92 RX7 yX7_record wsX7_record) := goodIn_app (goodIn_of _ (by decide +kernel)) ggX7_lays_X7_record
theorem dX7_lays_0 : decode cX7_lays 0 = .ok (.aload_n 0, 1) := by decide +kernel
theorem dX7_lays_1 : decode cX7_lays 1 = .ok (.invokevirtual 92, 3) := by decide +kernel
theorem dX7_lays_4 : decode cX7_lays 4 = .ok (.aload_n 0, 1) := by decide +kernel
theorem dX7_lays_5 : decode cX7_lays 5 = .ok (.getfield 7, 3) := by decide +kernel
theorem dX7_lays_8 : decode cX7_lays 8 = .ok (.iload_n 1, 1) := by decide +kernel
theorem dX7_lays_9 : decode cX7_lays 9 = .ok (.iaload, 1) := by decide +kernel
theorem dX7_lays_10 : decode cX7_lays 10 = .ok (.istore_n 3, 1) := by decide +kernel
theorem dX7_lays_11 : decode cX7_lays 11 = .ok (.aload_n 0, 1) := by decide +kernel
theorem dX7_lays_12 : decode cX7_lays 12 = .ok (.getfield 7, 3) := by decide +kernel
theorem dX7_lays_15 : decode cX7_lays 15 = .ok (.iload_n 1, 1) := by decide +kernel
theorem dX7_lays_16 : decode cX7_lays 16 = .ok (.iload_n 2, 1) := by decide +kernel
theorem dX7_lays_17 : decode cX7_lays 17 = .ok (.iastore, 1) := by decide +kernel
theorem dX7_lays_18 : decode cX7_lays 18 = .ok (.iload_n 3, 1) := by decide +kernel
theorem dX7_lays_19 : decode cX7_lays 19 = .ok (.ireturn, 1) := by decide +kernel
set_option maxRecDepth 20000 in
theorem ggX7_gauge_X7_isStore : GoodIn wsX7_gauge wsX7_isStore := goodIn_r _ [4, 5, 6, 3, 7] (by decide +kernel) (by decide +kernel)
set_option maxRecDepth 20000 in
theorem gX7_gauge_X7_isStore : GoodIn wsX7_gauge (va_wsS RX7 89 yX7_isStore wsX7_isStore) := goodIn_app (goodIn_of _ (by decide +kernel)) ggX7_gauge_X7_isStore
set_option maxRecDepth 20000 in
theorem ggX7_gauge_X7_in : GoodIn wsX7_gauge wsX7_in := goodIn_r _ [7] (by decide +kernel) (by decide +kernel)
set_option maxRecDepth 20000 in
theorem gX7_gauge_X7_in : GoodIn wsX7_gauge (va_wsS RX7 36 yX7_in wsX7_in) := goodIn_app (goodIn_of _ (by decide +kernel)) ggX7_gauge_X7_in
set_option maxRecDepth 20000 in
theorem ggX7_gauge_X7_ofStore : GoodIn wsX7_gauge wsX7_ofStore := goodIn_r _ [10] (by decide +kernel) (by decide +kernel)
set_option maxRecDepth 20000 in
theorem gX7_gauge_X7_ofStore : GoodIn wsX7_gauge (va_wsS RX7 29 yX7_ofStore wsX7_ofStore) := goodIn_app (goodIn_of _ (by decide +kernel)) ggX7_gauge_X7_ofStore
set_option maxRecDepth 20000 in
theorem ggX7_gauge_X7_lays : GoodIn wsX7_gauge wsX7_lays := goodIn_r _ [14, 15, 16, 17, 18, 3, 19, 20, 21, 22, 23, 24, 25, 26, 27, 28, 29] (by decide +kernel) (by decide +kernel)
set_option maxRecDepth 20000 in
theorem gX7_gauge_X7_lays : GoodIn wsX7_gauge (wsV RX7 95 RX7 yX7_lays wsX7_lays) := goodIn_app (goodIn_of _ (by decide +kernel)) ggX7_gauge_X7_lays
theorem dX7_gauge_0 : decode cX7_gauge 0 = .ok (.iload_n 1, 1) := by decide +kernel
theorem dX7_gauge_1 : decode cX7_gauge 1 = .ok (.invokestatic 89, 3) := by decide +kernel
theorem dX7_gauge_4 : decode cX7_gauge 4 = .ok (.ifCond .ne 7, 3) := by decide +kernel
theorem dX7_gauge_7 : decode cX7_gauge 7 = .ok (.sipush (-1001), 3) := by decide +kernel
theorem dX7_gauge_10 : decode cX7_gauge 10 = .ok (.ireturn, 1) := by decide +kernel
theorem dX7_gauge_11 : decode cX7_gauge 11 = .ok (.iload_n 2, 1) := by decide +kernel
theorem dX7_gauge_12 : decode cX7_gauge 12 = .ok (.bipush (-50), 2) := by decide +kernel
theorem dX7_gauge_14 : decode cX7_gauge 14 = .ok (.bipush 50, 2) := by decide +kernel
theorem dX7_gauge_16 : decode cX7_gauge 16 = .ok (.invokestatic 36, 3) := by decide +kernel
theorem dX7_gauge_19 : decode cX7_gauge 19 = .ok (.ifCond .eq 16, 3) := by decide +kernel
theorem dX7_gauge_22 : decode cX7_gauge 22 = .ok (.aload_n 0, 1) := by decide +kernel
theorem dX7_gauge_23 : decode cX7_gauge 23 = .ok (.iload_n 1, 1) := by decide +kernel
theorem dX7_gauge_24 : decode cX7_gauge 24 = .ok (.iconst 3, 1) := by decide +kernel
theorem dX7_gauge_25 : decode cX7_gauge 25 = .ok (.invokestatic 29, 3) := by decide +kernel
theorem dX7_gauge_28 : decode cX7_gauge 28 = .ok (.iload_n 2, 1) := by decide +kernel
theorem dX7_gauge_29 : decode cX7_gauge 29 = .ok (.invokevirtual 95, 3) := by decide +kernel
theorem dX7_gauge_32 : decode cX7_gauge 32 = .ok (.goto 6, 3) := by decide +kernel
theorem dX7_gauge_35 : decode cX7_gauge 35 = .ok (.sipush (-1002), 3) := by decide +kernel
theorem dX7_gauge_38 : decode cX7_gauge 38 = .ok (.ireturn, 1) := by decide +kernel
set_option maxRecDepth 20000 in
theorem ggX7_gate_X7_isGate : GoodIn wsX7_gate wsX7_isGate := goodIn_r _ [5, 6, 7, 4, 8] (by decide +kernel) (by decide +kernel)
set_option maxRecDepth 20000 in
theorem gX7_gate_X7_isGate : GoodIn wsX7_gate (va_wsS RX7 98 yX7_isGate wsX7_isGate) := goodIn_app (goodIn_of _ (by decide +kernel)) ggX7_gate_X7_isGate
set_option maxRecDepth 20000 in
theorem ggX7_gate_X7_in : GoodIn wsX7_gate wsX7_in := goodIn_r _ [8] (by decide +kernel) (by decide +kernel)
set_option maxRecDepth 20000 in
theorem gX7_gate_X7_in : GoodIn wsX7_gate (va_wsS RX7 36 yX7_in wsX7_in) := goodIn_app (goodIn_of _ (by decide +kernel)) ggX7_gate_X7_in
set_option maxRecDepth 20000 in
theorem ggX7_gate_X7_ofGate : GoodIn wsX7_gate wsX7_ofGate := goodIn_r _ [11] (by decide +kernel) (by decide +kernel)
set_option maxRecDepth 20000 in
theorem gX7_gate_X7_ofGate : GoodIn wsX7_gate (va_wsS RX7 33 yX7_ofGate wsX7_ofGate) := goodIn_app (goodIn_of _ (by decide +kernel)) ggX7_gate_X7_ofGate
set_option maxRecDepth 20000 in
theorem ggX7_gate_X7_lays : GoodIn wsX7_gate wsX7_lays := goodIn_r _ [15, 1, 16, 17, 18, 4, 19, 20, 21, 22, 23, 24, 25, 26, 27, 28, 29] (by decide +kernel) (by decide +kernel)
set_option maxRecDepth 20000 in
theorem gX7_gate_X7_lays : GoodIn wsX7_gate (wsV RX7 95 RX7 yX7_lays wsX7_lays) := goodIn_app (goodIn_of _ (by decide +kernel)) ggX7_gate_X7_lays
theorem dX7_gate_0 : decode cX7_gate 0 = .ok (.iload_n 1, 1) := by decide +kernel
theorem dX7_gate_1 : decode cX7_gate 1 = .ok (.invokestatic 98, 3) := by decide +kernel
theorem dX7_gate_4 : decode cX7_gate 4 = .ok (.ifCond .ne 7, 3) := by decide +kernel
theorem dX7_gate_7 : decode cX7_gate 7 = .ok (.sipush (-1001), 3) := by decide +kernel
theorem dX7_gate_10 : decode cX7_gate 10 = .ok (.ireturn, 1) := by decide +kernel
theorem dX7_gate_11 : decode cX7_gate 11 = .ok (.iload_n 2, 1) := by decide +kernel
theorem dX7_gate_12 : decode cX7_gate 12 = .ok (.iconst 0, 1) := by decide +kernel
theorem dX7_gate_13 : decode cX7_gate 13 = .ok (.iconst 1, 1) := by decide +kernel
theorem dX7_gate_14 : decode cX7_gate 14 = .ok (.invokestatic 36, 3) := by decide +kernel
theorem dX7_gate_17 : decode cX7_gate 17 = .ok (.ifCond .eq 23, 3) := by decide +kernel
theorem dX7_gate_20 : decode cX7_gate 20 = .ok (.iload_n 3, 1) := by decide +kernel
theorem dX7_gate_21 : decode cX7_gate 21 = .ok (.iconst 0, 1) := by decide +kernel
theorem dX7_gate_22 : decode cX7_gate 22 = .ok (.bipush 99, 2) := by decide +kernel
theorem dX7_gate_24 : decode cX7_gate 24 = .ok (.invokestatic 36, 3) := by decide +kernel
theorem dX7_gate_27 : decode cX7_gate 27 = .ok (.ifCond .eq 13, 3) := by decide +kernel
theorem dX7_gate_30 : decode cX7_gate 30 = .ok (.iload 4, 2) := by decide +kernel
theorem dX7_gate_32 : decode cX7_gate 32 = .ok (.iconst 0, 1) := by decide +kernel
theorem dX7_gate_33 : decode cX7_gate 33 = .ok (.iconst 1, 1) := by decide +kernel
theorem dX7_gate_34 : decode cX7_gate 34 = .ok (.invokestatic 36, 3) := by decide +kernel
theorem dX7_gate_37 : decode cX7_gate 37 = .ok (.ifCond .ne 7, 3) := by decide +kernel
theorem dX7_gate_40 : decode cX7_gate 40 = .ok (.sipush (-1002), 3) := by decide +kernel
theorem dX7_gate_43 : decode cX7_gate 43 = .ok (.ireturn, 1) := by decide +kernel
theorem dX7_gate_44 : decode cX7_gate 44 = .ok (.aload_n 0, 1) := by decide +kernel
theorem dX7_gate_45 : decode cX7_gate 45 = .ok (.getfield 7, 3) := by decide +kernel
theorem dX7_gate_48 : decode cX7_gate 48 = .ok (.iload_n 1, 1) := by decide +kernel
theorem dX7_gate_49 : decode cX7_gate 49 = .ok (.iconst 4, 1) := by decide +kernel
theorem dX7_gate_50 : decode cX7_gate 50 = .ok (.invokestatic 33, 3) := by decide +kernel
theorem dX7_gate_53 : decode cX7_gate 53 = .ok (.iaload, 1) := by decide +kernel
theorem dX7_gate_54 : decode cX7_gate 54 = .ok (.sipush (-1006), 3) := by decide +kernel
theorem dX7_gate_57 : decode cX7_gate 57 = .ok (.if_icmp .eq 21, 3) := by decide +kernel
theorem dX7_gate_60 : decode cX7_gate 60 = .ok (.aload_n 0, 1) := by decide +kernel
theorem dX7_gate_61 : decode cX7_gate 61 = .ok (.getfield 7, 3) := by decide +kernel
theorem dX7_gate_64 : decode cX7_gate 64 = .ok (.iload_n 1, 1) := by decide +kernel
theorem dX7_gate_65 : decode cX7_gate 65 = .ok (.iconst 0, 1) := by decide +kernel
theorem dX7_gate_66 : decode cX7_gate 66 = .ok (.invokestatic 33, 3) := by decide +kernel
theorem dX7_gate_69 : decode cX7_gate 69 = .ok (.iaload, 1) := by decide +kernel
theorem dX7_gate_70 : decode cX7_gate 70 = .ok (.iload_n 2, 1) := by decide +kernel
theorem dX7_gate_71 : decode cX7_gate 71 = .ok (.if_icmp .eq 7, 3) := by decide +kernel
theorem dX7_gate_74 : decode cX7_gate 74 = .ok (.sipush (-1005), 3) := by decide +kernel
theorem dX7_gate_77 : decode cX7_gate 77 = .ok (.ireturn, 1) := by decide +kernel
theorem dX7_gate_78 : decode cX7_gate 78 = .ok (.aload_n 0, 1) := by decide +kernel
theorem dX7_gate_79 : decode cX7_gate 79 = .ok (.iload_n 1, 1) := by decide +kernel
theorem dX7_gate_80 : decode cX7_gate 80 = .ok (.iconst 1, 1) := by decide +kernel
theorem dX7_gate_81 : decode cX7_gate 81 = .ok (.invokestatic 33, 3) := by decide +kernel
theorem dX7_gate_84 : decode cX7_gate 84 = .ok (.iload_n 3, 1) := by decide +kernel
theorem dX7_gate_85 : decode cX7_gate 85 = .ok (.invokevirtual 95, 3) := by decide +kernel
theorem dX7_gate_88 : decode cX7_gate 88 = .ok (.istore 5, 2) := by decide +kernel
theorem dX7_gate_90 : decode cX7_gate 90 = .ok (.aload_n 0, 1) := by decide +kernel
theorem dX7_gate_91 : decode cX7_gate 91 = .ok (.getfield 7, 3) := by decide +kernel
theorem dX7_gate_94 : decode cX7_gate 94 = .ok (.iload_n 1, 1) := by decide +kernel
theorem dX7_gate_95 : decode cX7_gate 95 = .ok (.iconst 0, 1) := by decide +kernel
theorem dX7_gate_96 : decode cX7_gate 96 = .ok (.invokestatic 33, 3) := by decide +kernel
theorem dX7_gate_99 : decode cX7_gate 99 = .ok (.iload_n 2, 1) := by decide +kernel
theorem dX7_gate_100 : decode cX7_gate 100 = .ok (.iastore, 1) := by decide +kernel
theorem dX7_gate_101 : decode cX7_gate 101 = .ok (.aload_n 0, 1) := by decide +kernel
theorem dX7_gate_102 : decode cX7_gate 102 = .ok (.getfield 7, 3) := by decide +kernel
theorem dX7_gate_105 : decode cX7_gate 105 = .ok (.iload_n 1, 1) := by decide +kernel
theorem dX7_gate_106 : decode cX7_gate 106 = .ok (.iconst 2, 1) := by decide +kernel
theorem dX7_gate_107 : decode cX7_gate 107 = .ok (.invokestatic 33, 3) := by decide +kernel
theorem dX7_gate_110 : decode cX7_gate 110 = .ok (.iload 4, 2) := by decide +kernel
theorem dX7_gate_112 : decode cX7_gate 112 = .ok (.iastore, 1) := by decide +kernel
theorem dX7_gate_113 : decode cX7_gate 113 = .ok (.iload 5, 2) := by decide +kernel
theorem dX7_gate_115 : decode cX7_gate 115 = .ok (.ireturn, 1) := by decide +kernel
set_option maxRecDepth 20000 in
theorem ggX7_shut_X7_isGate : GoodIn wsX7_shut wsX7_isGate := goodIn_r _ [5, 6, 7, 4, 8] (by decide +kernel) (by decide +kernel)
set_option maxRecDepth 20000 in
theorem gX7_shut_X7_isGate : GoodIn wsX7_shut (va_wsS RX7 98 yX7_isGate wsX7_isGate) := goodIn_app (goodIn_of _ (by decide +kernel)) ggX7_shut_X7_isGate
set_option maxRecDepth 20000 in
theorem ggX7_shut_X7_ofGate : GoodIn wsX7_shut wsX7_ofGate := goodIn_r _ [11] (by decide +kernel) (by decide +kernel)
set_option maxRecDepth 20000 in
theorem gX7_shut_X7_ofGate : GoodIn wsX7_shut (va_wsS RX7 33 yX7_ofGate wsX7_ofGate) := goodIn_app (goodIn_of _ (by decide +kernel)) ggX7_shut_X7_ofGate
set_option maxRecDepth 20000 in
theorem ggX7_shut_X7_lays : GoodIn wsX7_shut wsX7_lays := goodIn_r _ [15, 1, 16, 17, 18, 4, 19, 20, 21, 22, 23, 24, 25, 26, 27, 28, 29] (by decide +kernel) (by decide +kernel)
set_option maxRecDepth 20000 in
theorem gX7_shut_X7_lays : GoodIn wsX7_shut (wsV RX7 95 RX7 yX7_lays wsX7_lays) := goodIn_app (goodIn_of _ (by decide +kernel)) ggX7_shut_X7_lays
theorem dX7_shut_0 : decode cX7_shut 0 = .ok (.iload_n 1, 1) := by decide +kernel
theorem dX7_shut_1 : decode cX7_shut 1 = .ok (.invokestatic 98, 3) := by decide +kernel
theorem dX7_shut_4 : decode cX7_shut 4 = .ok (.ifCond .ne 7, 3) := by decide +kernel
theorem dX7_shut_7 : decode cX7_shut 7 = .ok (.sipush (-1001), 3) := by decide +kernel
theorem dX7_shut_10 : decode cX7_shut 10 = .ok (.ireturn, 1) := by decide +kernel
theorem dX7_shut_11 : decode cX7_shut 11 = .ok (.aload_n 0, 1) := by decide +kernel
theorem dX7_shut_12 : decode cX7_shut 12 = .ok (.getfield 7, 3) := by decide +kernel
theorem dX7_shut_15 : decode cX7_shut 15 = .ok (.iload_n 1, 1) := by decide +kernel
theorem dX7_shut_16 : decode cX7_shut 16 = .ok (.iconst 3, 1) := by decide +kernel
theorem dX7_shut_17 : decode cX7_shut 17 = .ok (.invokestatic 33, 3) := by decide +kernel
theorem dX7_shut_20 : decode cX7_shut 20 = .ok (.iaload, 1) := by decide +kernel
theorem dX7_shut_21 : decode cX7_shut 21 = .ok (.iload_n 2, 1) := by decide +kernel
theorem dX7_shut_22 : decode cX7_shut 22 = .ok (.ifCond .eq 7, 3) := by decide +kernel
theorem dX7_shut_25 : decode cX7_shut 25 = .ok (.iconst 1, 1) := by decide +kernel
theorem dX7_shut_26 : decode cX7_shut 26 = .ok (.goto 4, 3) := by decide +kernel
theorem dX7_shut_29 : decode cX7_shut 29 = .ok (.iconst 0, 1) := by decide +kernel
theorem dX7_shut_30 : decode cX7_shut 30 = .ok (.if_icmp .ne 7, 3) := by decide +kernel
theorem dX7_shut_33 : decode cX7_shut 33 = .ok (.sipush (-1005), 3) := by decide +kernel
theorem dX7_shut_36 : decode cX7_shut 36 = .ok (.ireturn, 1) := by decide +kernel
theorem dX7_shut_37 : decode cX7_shut 37 = .ok (.aload_n 0, 1) := by decide +kernel
theorem dX7_shut_38 : decode cX7_shut 38 = .ok (.iload_n 1, 1) := by decide +kernel
theorem dX7_shut_39 : decode cX7_shut 39 = .ok (.iconst 3, 1) := by decide +kernel
theorem dX7_shut_40 : decode cX7_shut 40 = .ok (.invokestatic 33, 3) := by decide +kernel
theorem dX7_shut_43 : decode cX7_shut 43 = .ok (.iload_n 2, 1) := by decide +kernel
theorem dX7_shut_44 : decode cX7_shut 44 = .ok (.ifCond .eq 7, 3) := by decide +kernel
theorem dX7_shut_47 : decode cX7_shut 47 = .ok (.iconst 1, 1) := by decide +kernel
theorem dX7_shut_48 : decode cX7_shut 48 = .ok (.goto 4, 3) := by decide +kernel
theorem dX7_shut_51 : decode cX7_shut 51 = .ok (.iconst 0, 1) := by decide +kernel
theorem dX7_shut_52 : decode cX7_shut 52 = .ok (.invokevirtual 95, 3) := by decide +kernel
theorem dX7_shut_55 : decode cX7_shut 55 = .ok (.istore_n 3, 1) := by decide +kernel
theorem dX7_shut_56 : decode cX7_shut 56 = .ok (.aload_n 0, 1) := by decide +kernel
theorem dX7_shut_57 : decode cX7_shut 57 = .ok (.getfield 7, 3) := by decide +kernel
theorem dX7_shut_60 : decode cX7_shut 60 = .ok (.iconst 0, 1) := by decide +kernel
theorem dX7_shut_61 : decode cX7_shut 61 = .ok (.iconst 3, 1) := by decide +kernel
theorem dX7_shut_62 : decode cX7_shut 62 = .ok (.invokestatic 33, 3) := by decide +kernel
theorem dX7_shut_65 : decode cX7_shut 65 = .ok (.iaload, 1) := by decide +kernel
theorem dX7_shut_66 : decode cX7_shut 66 = .ok (.aload_n 0, 1) := by decide +kernel
theorem dX7_shut_67 : decode cX7_shut 67 = .ok (.getfield 7, 3) := by decide +kernel
theorem dX7_shut_70 : decode cX7_shut 70 = .ok (.iconst 1, 1) := by decide +kernel
theorem dX7_shut_71 : decode cX7_shut 71 = .ok (.iconst 3, 1) := by decide +kernel
theorem dX7_shut_72 : decode cX7_shut 72 = .ok (.invokestatic 33, 3) := by decide +kernel
theorem dX7_shut_75 : decode cX7_shut 75 = .ok (.iaload, 1) := by decide +kernel
theorem dX7_shut_76 : decode cX7_shut 76 = .ok (.iadd, 1) := by decide +kernel
theorem dX7_shut_77 : decode cX7_shut 77 = .ok (.aload_n 0, 1) := by decide +kernel
theorem dX7_shut_78 : decode cX7_shut 78 = .ok (.getfield 7, 3) := by decide +kernel
theorem dX7_shut_81 : decode cX7_shut 81 = .ok (.iconst 2, 1) := by decide +kernel
theorem dX7_shut_82 : decode cX7_shut 82 = .ok (.iconst 3, 1) := by decide +kernel
theorem dX7_shut_83 : decode cX7_shut 83 = .ok (.invokestatic 33, 3) := by decide +kernel
theorem dX7_shut_86 : decode cX7_shut 86 = .ok (.iaload, 1) := by decide +kernel
theorem dX7_shut_87 : decode cX7_shut 87 = .ok (.iadd, 1) := by decide +kernel
theorem dX7_shut_88 : decode cX7_shut 88 = .ok (.aload_n 0, 1) := by decide +kernel
theorem dX7_shut_89 : decode cX7_shut 89 = .ok (.getfield 7, 3) := by decide +kernel
theorem dX7_shut_92 : decode cX7_shut 92 = .ok (.iconst 3, 1) := by decide +kernel
theorem dX7_shut_93 : decode cX7_shut 93 = .ok (.iconst 3, 1) := by decide +kernel
theorem dX7_shut_94 : decode cX7_shut 94 = .ok (.invokestatic 33, 3) := by decide +kernel
theorem dX7_shut_97 : decode cX7_shut 97 = .ok (.iaload, 1) := by decide +kernel
theorem dX7_shut_98 : decode cX7_shut 98 = .ok (.iadd, 1) := by decide +kernel
theorem dX7_shut_99 : decode cX7_shut 99 = .ok (.ireturn, 1) := by decide +kernel
set_option maxRecDepth 20000 in
theorem ggX7_run_X7_in : GoodIn wsX7_run wsX7_in := goodIn_r _ [6] (by decide +kernel) (by decide +kernel)
set_option maxRecDepth 20000 in
theorem gX7_run_X7_in : GoodIn wsX7_run (va_wsS RX7 36 yX7_in wsX7_in) := goodIn_app (goodIn_of _ (by decide +kernel)) ggX7_run_X7_in
set_option maxRecDepth 20000 in
theorem ggX7_run_X7_record : GoodIn wsX7_run wsX7_record := goodIn_r _ [10, 11, 12, 1, 77, 78, 79, 80, 81, 82, 83, 84] (by decide +kernel) (by decide +kernel)
set_option maxRecDepth 20000 in
theorem gX7_run_X7_record : GoodIn wsX7_run (wsV RX7 92 RX7 yX7_record wsX7_record) := goodIn_app (goodIn_of _ (by decide +kernel)) ggX7_run_X7_record
set_option maxRecDepth 20000 in
theorem ggX7_run_X7_passedWords : GoodIn wsX7_run wsX7_passedWords := goodIn_r _ [16, 1, 17, 18, 5, 19, 77, 78, 79, 80, 81, 82, 83, 84] (by decide +kernel) (by decide +kernel)
set_option maxRecDepth 20000 in
theorem gX7_run_X7_passedWords : GoodIn wsX7_run (wsV RX7 102 RX7 yX7_passedWords wsX7_passedWords) := goodIn_app (goodIn_of _ (by decide +kernel)) ggX7_run_X7_passedWords
set_option maxRecDepth 20000 in
theorem ggX7_run_X7_runs : GoodIn wsX7_run wsX7_runs := goodIn_r _ [23, 24, 25, 26, 5, 27, 1, 28, 29, 30, 31, 32, 33, 34, 35, 36, 37, 38, 39, 40, 41, 42, 43, 44, 45, 46, 47, 48, 49, 50, 51, 52, 53, 54, 55, 56, 57, 58, 59, 60, 61, 62, 63, 64, 17, 18, 19, 65, 66, 67, 68, 69, 70, 71, 72, 73, 74, 75, 76, 77, 78, 79, 80, 81, 82, 83, 84] (by decide +kernel) (by decide +kernel)
set_option maxRecDepth 20000 in
theorem gX7_run_X7_runs : GoodIn wsX7_run (wsV RX7 105 RX7 yX7_runs wsX7_runs) := goodIn_app (goodIn_of _ (by decide +kernel)) ggX7_run_X7_runs
theorem dX7_run_0 : decode cX7_run 0 = .ok (.iload_n 1, 1) := by decide +kernel
theorem dX7_run_1 : decode cX7_run 1 = .ok (.iconst 1, 1) := by decide +kernel
theorem dX7_run_2 : decode cX7_run 2 = .ok (.sipush 500, 3) := by decide +kernel
theorem dX7_run_5 : decode cX7_run 5 = .ok (.invokestatic 36, 3) := by decide +kernel
theorem dX7_run_8 : decode cX7_run 8 = .ok (.ifCond .ne 7, 3) := by decide +kernel
theorem dX7_run_11 : decode cX7_run 11 = .ok (.sipush (-1002), 3) := by decide +kernel
theorem dX7_run_14 : decode cX7_run 14 = .ok (.ireturn, 1) := by decide +kernel
theorem dX7_run_15 : decode cX7_run 15 = .ok (.aload_n 0, 1) := by decide +kernel
theorem dX7_run_16 : decode cX7_run 16 = .ok (.getfield 7, 3) := by decide +kernel
theorem dX7_run_19 : decode cX7_run 19 = .ok (.iconst 0, 1) := by decide +kernel
theorem dX7_run_20 : decode cX7_run 20 = .ok (.iaload, 1) := by decide +kernel
theorem dX7_run_21 : decode cX7_run 21 = .ok (.iload_n 1, 1) := by decide +kernel
theorem dX7_run_22 : decode cX7_run 22 = .ok (.iadd, 1) := by decide +kernel
theorem dX7_run_23 : decode cX7_run 23 = .ok (.ldc 101, 2) := by decide +kernel
theorem dX7_run_25 : decode cX7_run 25 = .ok (.if_icmp .le 7, 3) := by decide +kernel
theorem dX7_run_28 : decode cX7_run 28 = .ok (.sipush (-1004), 3) := by decide +kernel
theorem dX7_run_31 : decode cX7_run 31 = .ok (.ireturn, 1) := by decide +kernel
theorem dX7_run_32 : decode cX7_run 32 = .ok (.aload_n 0, 1) := by decide +kernel
theorem dX7_run_33 : decode cX7_run 33 = .ok (.invokevirtual 92, 3) := by decide +kernel
theorem dX7_run_36 : decode cX7_run 36 = .ok (.aload_n 0, 1) := by decide +kernel
theorem dX7_run_37 : decode cX7_run 37 = .ok (.invokevirtual 102, 3) := by decide +kernel
theorem dX7_run_40 : decode cX7_run 40 = .ok (.istore_n 2, 1) := by decide +kernel
theorem dX7_run_41 : decode cX7_run 41 = .ok (.aload_n 0, 1) := by decide +kernel
theorem dX7_run_42 : decode cX7_run 42 = .ok (.iload_n 1, 1) := by decide +kernel
theorem dX7_run_43 : decode cX7_run 43 = .ok (.invokevirtual 105, 3) := by decide +kernel
theorem dX7_run_46 : decode cX7_run 46 = .ok (.aload_n 0, 1) := by decide +kernel
theorem dX7_run_47 : decode cX7_run 47 = .ok (.invokevirtual 102, 3) := by decide +kernel
theorem dX7_run_50 : decode cX7_run 50 = .ok (.iload_n 2, 1) := by decide +kernel
theorem dX7_run_51 : decode cX7_run 51 = .ok (.isub, 1) := by decide +kernel
theorem dX7_run_52 : decode cX7_run 52 = .ok (.ireturn, 1) := by decide +kernel
set_option maxRecDepth 20000 in
theorem ggX7_sumOf_X7_inRow : GoodIn wsX7_sumOf wsX7_inRow := goodIn_r _ [5] (by decide +kernel) (by decide +kernel)
set_option maxRecDepth 20000 in
theorem gX7_sumOf_X7_inRow : GoodIn wsX7_sumOf (va_wsS RX7 61 yX7_inRow wsX7_inRow) := goodIn_app (goodIn_of _ (by decide +kernel)) ggX7_sumOf_X7_inRow
set_option maxRecDepth 20000 in
theorem ggX7_sumOf_X7_lettersOf : GoodIn wsX7_sumOf wsX7_lettersOf := goodIn_r _ [9, 1, 10, 11, 4, 12, 17, 18, 19, 20, 21, 22, 23, 24] (by decide +kernel) (by decide +kernel)
set_option maxRecDepth 20000 in
theorem gX7_sumOf_X7_lettersOf : GoodIn wsX7_sumOf (wsV RX7 58 RX7 yX7_lettersOf wsX7_lettersOf) := goodIn_app (goodIn_of _ (by decide +kernel)) ggX7_sumOf_X7_lettersOf
set_option maxRecDepth 20000 in
theorem ggX7_sumOf_X7_hasPassed : GoodIn wsX7_sumOf wsX7_hasPassed := goodIn_r _ [16, 1, 10, 11, 4, 12, 17, 18, 19, 20, 21, 22, 23, 24] (by decide +kernel) (by decide +kernel)
set_option maxRecDepth 20000 in
theorem gX7_sumOf_X7_hasPassed : GoodIn wsX7_sumOf (wsV RX7 64 RX7 yX7_hasPassed wsX7_hasPassed) := goodIn_app (goodIn_of _ (by decide +kernel)) ggX7_sumOf_X7_hasPassed
theorem dX7_sumOf_0 : decode cX7_sumOf 0 = .ok (.iconst 0, 1) := by decide +kernel
theorem dX7_sumOf_1 : decode cX7_sumOf 1 = .ok (.istore_n 3, 1) := by decide +kernel
theorem dX7_sumOf_2 : decode cX7_sumOf 2 = .ok (.iconst 0, 1) := by decide +kernel
theorem dX7_sumOf_3 : decode cX7_sumOf 3 = .ok (.istore 4, 2) := by decide +kernel
theorem dX7_sumOf_5 : decode cX7_sumOf 5 = .ok (.iload 4, 2) := by decide +kernel
theorem dX7_sumOf_7 : decode cX7_sumOf 7 = .ok (.aload_n 0, 1) := by decide +kernel
theorem dX7_sumOf_8 : decode cX7_sumOf 8 = .ok (.getfield 7, 3) := by decide +kernel
theorem dX7_sumOf_11 : decode cX7_sumOf 11 = .ok (.bipush 45, 2) := by decide +kernel
theorem dX7_sumOf_13 : decode cX7_sumOf 13 = .ok (.iload_n 1, 1) := by decide +kernel
theorem dX7_sumOf_14 : decode cX7_sumOf 14 = .ok (.iadd, 1) := by decide +kernel
theorem dX7_sumOf_15 : decode cX7_sumOf 15 = .ok (.iaload, 1) := by decide +kernel
theorem dX7_sumOf_16 : decode cX7_sumOf 16 = .ok (.if_icmp .ge 64, 3) := by decide +kernel
theorem dX7_sumOf_19 : decode cX7_sumOf 19 = .ok (.aload_n 0, 1) := by decide +kernel
theorem dX7_sumOf_20 : decode cX7_sumOf 20 = .ok (.getfield 7, 3) := by decide +kernel
theorem dX7_sumOf_23 : decode cX7_sumOf 23 = .ok (.iload_n 1, 1) := by decide +kernel
theorem dX7_sumOf_24 : decode cX7_sumOf 24 = .ok (.iload 4, 2) := by decide +kernel
theorem dX7_sumOf_26 : decode cX7_sumOf 26 = .ok (.invokestatic 61, 3) := by decide +kernel
theorem dX7_sumOf_29 : decode cX7_sumOf 29 = .ok (.iaload, 1) := by decide +kernel
theorem dX7_sumOf_30 : decode cX7_sumOf 30 = .ok (.istore 5, 2) := by decide +kernel
theorem dX7_sumOf_32 : decode cX7_sumOf 32 = .ok (.iload_n 3, 1) := by decide +kernel
theorem dX7_sumOf_33 : decode cX7_sumOf 33 = .ok (.iload_n 2, 1) := by decide +kernel
theorem dX7_sumOf_34 : decode cX7_sumOf 34 = .ok (.bipush 6, 2) := by decide +kernel
theorem dX7_sumOf_36 : decode cX7_sumOf 36 = .ok (.if_icmp .ne 7, 3) := by decide +kernel
theorem dX7_sumOf_39 : decode cX7_sumOf 39 = .ok (.iconst 1, 1) := by decide +kernel
theorem dX7_sumOf_40 : decode cX7_sumOf 40 = .ok (.goto 32, 3) := by decide +kernel
theorem dX7_sumOf_43 : decode cX7_sumOf 43 = .ok (.iload_n 2, 1) := by decide +kernel
theorem dX7_sumOf_44 : decode cX7_sumOf 44 = .ok (.bipush 7, 2) := by decide +kernel
theorem dX7_sumOf_46 : decode cX7_sumOf 46 = .ok (.if_icmp .ne 12, 3) := by decide +kernel
theorem dX7_sumOf_49 : decode cX7_sumOf 49 = .ok (.aload_n 0, 1) := by decide +kernel
theorem dX7_sumOf_50 : decode cX7_sumOf 50 = .ok (.iload 5, 2) := by decide +kernel
theorem dX7_sumOf_52 : decode cX7_sumOf 52 = .ok (.invokevirtual 58, 3) := by decide +kernel
theorem dX7_sumOf_55 : decode cX7_sumOf 55 = .ok (.goto 17, 3) := by decide +kernel
theorem dX7_sumOf_58 : decode cX7_sumOf 58 = .ok (.aload_n 0, 1) := by decide +kernel
theorem dX7_sumOf_59 : decode cX7_sumOf 59 = .ok (.iload 5, 2) := by decide +kernel
theorem dX7_sumOf_61 : decode cX7_sumOf 61 = .ok (.invokevirtual 64, 3) := by decide +kernel
theorem dX7_sumOf_64 : decode cX7_sumOf 64 = .ok (.ifCond .eq 7, 3) := by decide +kernel
theorem dX7_sumOf_67 : decode cX7_sumOf 67 = .ok (.iconst 0, 1) := by decide +kernel
theorem dX7_sumOf_68 : decode cX7_sumOf 68 = .ok (.goto 4, 3) := by decide +kernel
theorem dX7_sumOf_71 : decode cX7_sumOf 71 = .ok (.iconst 1, 1) := by decide +kernel
theorem dX7_sumOf_72 : decode cX7_sumOf 72 = .ok (.iadd, 1) := by decide +kernel
theorem dX7_sumOf_73 : decode cX7_sumOf 73 = .ok (.istore_n 3, 1) := by decide +kernel
theorem dX7_sumOf_74 : decode cX7_sumOf 74 = .ok (.iinc 4 1, 3) := by decide +kernel
theorem dX7_sumOf_77 : decode cX7_sumOf 77 = .ok (.goto (-72), 3) := by decide +kernel
theorem dX7_sumOf_80 : decode cX7_sumOf 80 = .ok (.iload_n 3, 1) := by decide +kernel
theorem dX7_sumOf_81 : decode cX7_sumOf 81 = .ok (.ireturn, 1) := by decide +kernel
set_option maxRecDepth 20000 in
theorem ggX7_store_X7_isStore : GoodIn wsX7_store wsX7_isStore := goodIn_r _ [5, 6, 7, 4, 8] (by decide +kernel) (by decide +kernel)
set_option maxRecDepth 20000 in
theorem gX7_store_X7_isStore : GoodIn wsX7_store (va_wsS RX7 89 yX7_isStore wsX7_isStore) := goodIn_app (goodIn_of _ (by decide +kernel)) ggX7_store_X7_isStore
set_option maxRecDepth 20000 in
theorem ggX7_store_X7_ofStore : GoodIn wsX7_store wsX7_ofStore := goodIn_r _ [11] (by decide +kernel) (by decide +kernel)
set_option maxRecDepth 20000 in
theorem gX7_store_X7_ofStore : GoodIn wsX7_store (va_wsS RX7 29 yX7_ofStore wsX7_ofStore) := goodIn_app (goodIn_of _ (by decide +kernel)) ggX7_store_X7_ofStore
set_option maxRecDepth 20000 in
theorem ggX7_store_X7_level : GoodIn wsX7_store wsX7_level := goodIn_r _ [15, 1, 9, 10, 4, 11, 34, 35, 36, 37, 38, 39, 40, 41] (by decide +kernel) (by decide +kernel)
set_option maxRecDepth 20000 in
theorem gX7_store_X7_level : GoodIn wsX7_store (wsV RX7 44 RX7 yX7_level wsX7_level) := goodIn_app (goodIn_of _ (by decide +kernel)) ggX7_store_X7_level
set_option maxRecDepth 20000 in
theorem ggX7_store_X7_sumOf : GoodIn wsX7_store wsX7_sumOf := goodIn_r _ [19, 1, 20, 21, 4, 22, 23, 24, 25, 26, 27, 28, 29, 30, 31, 32, 33, 34, 35, 36, 37, 38, 39, 40, 41] (by decide +kernel) (by decide +kernel)
set_option maxRecDepth 20000 in
theorem gX7_store_X7_sumOf : GoodIn wsX7_store (wsV RX7 108 RX7 yX7_sumOf wsX7_sumOf) := goodIn_app (goodIn_of _ (by decide +kernel)) ggX7_store_X7_sumOf
theorem dX7_store_0 : decode cX7_store 0 = .ok (.iload_n 1, 1) := by decide +kernel
theorem dX7_store_1 : decode cX7_store 1 = .ok (.invokestatic 89, 3) := by decide +kernel
theorem dX7_store_4 : decode cX7_store 4 = .ok (.ifCond .ne 7, 3) := by decide +kernel
theorem dX7_store_7 : decode cX7_store 7 = .ok (.sipush (-1001), 3) := by decide +kernel
theorem dX7_store_10 : decode cX7_store 10 = .ok (.ireturn, 1) := by decide +kernel
theorem dX7_store_11 : decode cX7_store 11 = .ok (.iload_n 2, 1) := by decide +kernel
theorem dX7_store_12 : decode cX7_store 12 = .ok (.tableswitch 105 0 8 #[52, 52, 52, 52, 63, 75, 98, 98, 98], 52) := by decide +kernel
theorem dX7_store_64 : decode cX7_store 64 = .ok (.aload_n 0, 1) := by decide +kernel
theorem dX7_store_65 : decode cX7_store 65 = .ok (.getfield 7, 3) := by decide +kernel
theorem dX7_store_68 : decode cX7_store 68 = .ok (.iload_n 1, 1) := by decide +kernel
theorem dX7_store_69 : decode cX7_store 69 = .ok (.iload_n 2, 1) := by decide +kernel
theorem dX7_store_70 : decode cX7_store 70 = .ok (.invokestatic 29, 3) := by decide +kernel
theorem dX7_store_73 : decode cX7_store 73 = .ok (.iaload, 1) := by decide +kernel
theorem dX7_store_74 : decode cX7_store 74 = .ok (.ireturn, 1) := by decide +kernel
theorem dX7_store_75 : decode cX7_store 75 = .ok (.aload_n 0, 1) := by decide +kernel
theorem dX7_store_76 : decode cX7_store 76 = .ok (.iload_n 1, 1) := by decide +kernel
theorem dX7_store_77 : decode cX7_store 77 = .ok (.aload_n 0, 1) := by decide +kernel
theorem dX7_store_78 : decode cX7_store 78 = .ok (.getfield 7, 3) := by decide +kernel
theorem dX7_store_81 : decode cX7_store 81 = .ok (.iconst 0, 1) := by decide +kernel
theorem dX7_store_82 : decode cX7_store 82 = .ok (.iaload, 1) := by decide +kernel
theorem dX7_store_83 : decode cX7_store 83 = .ok (.invokevirtual 44, 3) := by decide +kernel
theorem dX7_store_86 : decode cX7_store 86 = .ok (.ireturn, 1) := by decide +kernel
theorem dX7_store_87 : decode cX7_store 87 = .ok (.aload_n 0, 1) := by decide +kernel
theorem dX7_store_88 : decode cX7_store 88 = .ok (.iload_n 1, 1) := by decide +kernel
theorem dX7_store_89 : decode cX7_store 89 = .ok (.aload_n 0, 1) := by decide +kernel
theorem dX7_store_90 : decode cX7_store 90 = .ok (.getfield 7, 3) := by decide +kernel
theorem dX7_store_93 : decode cX7_store 93 = .ok (.iconst 0, 1) := by decide +kernel
theorem dX7_store_94 : decode cX7_store 94 = .ok (.iaload, 1) := by decide +kernel
theorem dX7_store_95 : decode cX7_store 95 = .ok (.invokevirtual 44, 3) := by decide +kernel
theorem dX7_store_98 : decode cX7_store 98 = .ok (.aload_n 0, 1) := by decide +kernel
theorem dX7_store_99 : decode cX7_store 99 = .ok (.getfield 7, 3) := by decide +kernel
theorem dX7_store_102 : decode cX7_store 102 = .ok (.iload_n 1, 1) := by decide +kernel
theorem dX7_store_103 : decode cX7_store 103 = .ok (.iconst 3, 1) := by decide +kernel
theorem dX7_store_104 : decode cX7_store 104 = .ok (.invokestatic 29, 3) := by decide +kernel
theorem dX7_store_107 : decode cX7_store 107 = .ok (.iaload, 1) := by decide +kernel
theorem dX7_store_108 : decode cX7_store 108 = .ok (.iadd, 1) := by decide +kernel
theorem dX7_store_109 : decode cX7_store 109 = .ok (.ireturn, 1) := by decide +kernel
theorem dX7_store_110 : decode cX7_store 110 = .ok (.aload_n 0, 1) := by decide +kernel
theorem dX7_store_111 : decode cX7_store 111 = .ok (.iload_n 1, 1) := by decide +kernel
theorem dX7_store_112 : decode cX7_store 112 = .ok (.iload_n 2, 1) := by decide +kernel
theorem dX7_store_113 : decode cX7_store 113 = .ok (.invokevirtual 108, 3) := by decide +kernel
theorem dX7_store_116 : decode cX7_store 116 = .ok (.ireturn, 1) := by decide +kernel
theorem dX7_store_117 : decode cX7_store 117 = .ok (.sipush (-1002), 3) := by decide +kernel
theorem dX7_store_120 : decode cX7_store 120 = .ok (.ireturn, 1) := by decide +kernel
set_option maxRecDepth 20000 in
theorem ggX7_gateOf_X7_isGate : GoodIn wsX7_gateOf wsX7_isGate := goodIn_r _ [5, 6, 7, 4, 8] (by decide +kernel) (by decide +kernel)
set_option maxRecDepth 20000 in
theorem gX7_gateOf_X7_isGate : GoodIn wsX7_gateOf (va_wsS RX7 98 yX7_isGate wsX7_isGate) := goodIn_app (goodIn_of _ (by decide +kernel)) ggX7_gateOf_X7_isGate
set_option maxRecDepth 20000 in
theorem ggX7_gateOf_X7_isOpen : GoodIn wsX7_gateOf wsX7_isOpen := goodIn_r _ [12, 1, 13, 14, 4, 15, 16, 17, 18, 19, 20, 21, 22, 23, 24, 25, 26, 27, 28, 29, 30, 31, 32, 33, 34] (by decide +kernel) (by decide +kernel)
set_option maxRecDepth 20000 in
theorem gX7_gateOf_X7_isOpen : GoodIn wsX7_gateOf (wsV RX7 51 RX7 yX7_isOpen wsX7_isOpen) := goodIn_app (goodIn_of _ (by decide +kernel)) ggX7_gateOf_X7_isOpen
set_option maxRecDepth 20000 in
theorem ggX7_gateOf_X7_in : GoodIn wsX7_gateOf wsX7_in := goodIn_r _ [8] (by decide +kernel) (by decide +kernel)
set_option maxRecDepth 20000 in
theorem gX7_gateOf_X7_in : GoodIn wsX7_gateOf (va_wsS RX7 36 yX7_in wsX7_in) := goodIn_app (goodIn_of _ (by decide +kernel)) ggX7_gateOf_X7_in
set_option maxRecDepth 20000 in
theorem ggX7_gateOf_X7_ofGate : GoodIn wsX7_gateOf wsX7_ofGate := goodIn_r _ [15] (by decide +kernel) (by decide +kernel)
set_option maxRecDepth 20000 in
theorem gX7_gateOf_X7_ofGate : GoodIn wsX7_gateOf (va_wsS RX7 33 yX7_ofGate wsX7_ofGate) := goodIn_app (goodIn_of _ (by decide +kernel)) ggX7_gateOf_X7_ofGate
theorem dX7_gateOf_0 : decode cX7_gateOf 0 = .ok (.iload_n 1, 1) := by decide +kernel
theorem dX7_gateOf_1 : decode cX7_gateOf 1 = .ok (.invokestatic 98, 3) := by decide +kernel
theorem dX7_gateOf_4 : decode cX7_gateOf 4 = .ok (.ifCond .ne 7, 3) := by decide +kernel
theorem dX7_gateOf_7 : decode cX7_gateOf 7 = .ok (.sipush (-1001), 3) := by decide +kernel
theorem dX7_gateOf_10 : decode cX7_gateOf 10 = .ok (.ireturn, 1) := by decide +kernel
theorem dX7_gateOf_11 : decode cX7_gateOf 11 = .ok (.iload_n 2, 1) := by decide +kernel
theorem dX7_gateOf_12 : decode cX7_gateOf 12 = .ok (.iconst 4, 1) := by decide +kernel
theorem dX7_gateOf_13 : decode cX7_gateOf 13 = .ok (.if_icmp .ne 23, 3) := by decide +kernel
theorem dX7_gateOf_16 : decode cX7_gateOf 16 = .ok (.aload_n 0, 1) := by decide +kernel
theorem dX7_gateOf_17 : decode cX7_gateOf 17 = .ok (.iload_n 1, 1) := by decide +kernel
theorem dX7_gateOf_18 : decode cX7_gateOf 18 = .ok (.aload_n 0, 1) := by decide +kernel
theorem dX7_gateOf_19 : decode cX7_gateOf 19 = .ok (.getfield 7, 3) := by decide +kernel
theorem dX7_gateOf_22 : decode cX7_gateOf 22 = .ok (.iconst 0, 1) := by decide +kernel
theorem dX7_gateOf_23 : decode cX7_gateOf 23 = .ok (.iaload, 1) := by decide +kernel
theorem dX7_gateOf_24 : decode cX7_gateOf 24 = .ok (.invokevirtual 51, 3) := by decide +kernel
theorem dX7_gateOf_27 : decode cX7_gateOf 27 = .ok (.ifCond .eq 7, 3) := by decide +kernel
theorem dX7_gateOf_30 : decode cX7_gateOf 30 = .ok (.iconst 1, 1) := by decide +kernel
theorem dX7_gateOf_31 : decode cX7_gateOf 31 = .ok (.goto 4, 3) := by decide +kernel
theorem dX7_gateOf_34 : decode cX7_gateOf 34 = .ok (.iconst 0, 1) := by decide +kernel
theorem dX7_gateOf_35 : decode cX7_gateOf 35 = .ok (.ireturn, 1) := by decide +kernel
theorem dX7_gateOf_36 : decode cX7_gateOf 36 = .ok (.iload_n 2, 1) := by decide +kernel
theorem dX7_gateOf_37 : decode cX7_gateOf 37 = .ok (.iconst 0, 1) := by decide +kernel
theorem dX7_gateOf_38 : decode cX7_gateOf 38 = .ok (.iconst 3, 1) := by decide +kernel
theorem dX7_gateOf_39 : decode cX7_gateOf 39 = .ok (.invokestatic 36, 3) := by decide +kernel
theorem dX7_gateOf_42 : decode cX7_gateOf 42 = .ok (.ifCond .eq 16, 3) := by decide +kernel
theorem dX7_gateOf_45 : decode cX7_gateOf 45 = .ok (.aload_n 0, 1) := by decide +kernel
theorem dX7_gateOf_46 : decode cX7_gateOf 46 = .ok (.getfield 7, 3) := by decide +kernel
theorem dX7_gateOf_49 : decode cX7_gateOf 49 = .ok (.iload_n 1, 1) := by decide +kernel
theorem dX7_gateOf_50 : decode cX7_gateOf 50 = .ok (.iload_n 2, 1) := by decide +kernel
theorem dX7_gateOf_51 : decode cX7_gateOf 51 = .ok (.invokestatic 33, 3) := by decide +kernel
theorem dX7_gateOf_54 : decode cX7_gateOf 54 = .ok (.iaload, 1) := by decide +kernel
theorem dX7_gateOf_55 : decode cX7_gateOf 55 = .ok (.goto 31, 3) := by decide +kernel
theorem dX7_gateOf_58 : decode cX7_gateOf 58 = .ok (.iload_n 2, 1) := by decide +kernel
theorem dX7_gateOf_59 : decode cX7_gateOf 59 = .ok (.iconst 5, 1) := by decide +kernel
theorem dX7_gateOf_60 : decode cX7_gateOf 60 = .ok (.bipush 8, 2) := by decide +kernel
theorem dX7_gateOf_62 : decode cX7_gateOf 62 = .ok (.invokestatic 36, 3) := by decide +kernel
theorem dX7_gateOf_65 : decode cX7_gateOf 65 = .ok (.ifCond .eq 18, 3) := by decide +kernel
theorem dX7_gateOf_68 : decode cX7_gateOf 68 = .ok (.aload_n 0, 1) := by decide +kernel
theorem dX7_gateOf_69 : decode cX7_gateOf 69 = .ok (.getfield 7, 3) := by decide +kernel
theorem dX7_gateOf_72 : decode cX7_gateOf 72 = .ok (.iload_n 1, 1) := by decide +kernel
theorem dX7_gateOf_73 : decode cX7_gateOf 73 = .ok (.iload_n 2, 1) := by decide +kernel
theorem dX7_gateOf_74 : decode cX7_gateOf 74 = .ok (.iconst 1, 1) := by decide +kernel
theorem dX7_gateOf_75 : decode cX7_gateOf 75 = .ok (.isub, 1) := by decide +kernel
theorem dX7_gateOf_76 : decode cX7_gateOf 76 = .ok (.invokestatic 33, 3) := by decide +kernel
theorem dX7_gateOf_79 : decode cX7_gateOf 79 = .ok (.iaload, 1) := by decide +kernel
theorem dX7_gateOf_80 : decode cX7_gateOf 80 = .ok (.goto 6, 3) := by decide +kernel
theorem dX7_gateOf_83 : decode cX7_gateOf 83 = .ok (.sipush (-1002), 3) := by decide +kernel
theorem dX7_gateOf_86 : decode cX7_gateOf 86 = .ok (.ireturn, 1) := by decide +kernel
set_option maxRecDepth 20000 in
theorem ggX7_whereIs_X7_inRow : GoodIn wsX7_whereIs wsX7_inRow := goodIn_r _ [5] (by decide +kernel) (by decide +kernel)
set_option maxRecDepth 20000 in
theorem gX7_whereIs_X7_inRow : GoodIn wsX7_whereIs (va_wsS RX7 61 yX7_inRow wsX7_inRow) := goodIn_app (goodIn_of _ (by decide +kernel)) ggX7_whereIs_X7_inRow
set_option maxRecDepth 20000 in
theorem ggX7_whereIs_X7_ofGate : GoodIn wsX7_whereIs wsX7_ofGate := goodIn_r _ [8] (by decide +kernel) (by decide +kernel)
set_option maxRecDepth 20000 in
theorem gX7_whereIs_X7_ofGate : GoodIn wsX7_whereIs (va_wsS RX7 33 yX7_ofGate wsX7_ofGate) := goodIn_app (goodIn_of _ (by decide +kernel)) ggX7_whereIs_X7_ofGate
theorem dX7_whereIs_0 : decode cX7_whereIs 0 = .ok (.iconst 0, 1) := by decide +kernel
theorem dX7_whereIs_1 : decode cX7_whereIs 1 = .ok (.istore_n 2, 1) := by decide +kernel
theorem dX7_whereIs_2 : decode cX7_whereIs 2 = .ok (.iconst 0, 1) := by decide +kernel
theorem dX7_whereIs_3 : decode cX7_whereIs 3 = .ok (.istore_n 3, 1) := by decide +kernel
theorem dX7_whereIs_4 : decode cX7_whereIs 4 = .ok (.iload_n 3, 1) := by decide +kernel
theorem dX7_whereIs_5 : decode cX7_whereIs 5 = .ok (.aload_n 0, 1) := by decide +kernel
theorem dX7_whereIs_6 : decode cX7_whereIs 6 = .ok (.getfield 7, 3) := by decide +kernel
theorem dX7_whereIs_9 : decode cX7_whereIs 9 = .ok (.bipush 45, 2) := by decide +kernel
theorem dX7_whereIs_11 : decode cX7_whereIs 11 = .ok (.iaload, 1) := by decide +kernel
theorem dX7_whereIs_12 : decode cX7_whereIs 12 = .ok (.if_icmp .ge 29, 3) := by decide +kernel
theorem dX7_whereIs_15 : decode cX7_whereIs 15 = .ok (.aload_n 0, 1) := by decide +kernel
theorem dX7_whereIs_16 : decode cX7_whereIs 16 = .ok (.getfield 7, 3) := by decide +kernel
theorem dX7_whereIs_19 : decode cX7_whereIs 19 = .ok (.iconst 0, 1) := by decide +kernel
theorem dX7_whereIs_20 : decode cX7_whereIs 20 = .ok (.iload_n 3, 1) := by decide +kernel
theorem dX7_whereIs_21 : decode cX7_whereIs 21 = .ok (.invokestatic 61, 3) := by decide +kernel
theorem dX7_whereIs_24 : decode cX7_whereIs 24 = .ok (.iaload, 1) := by decide +kernel
theorem dX7_whereIs_25 : decode cX7_whereIs 25 = .ok (.iload_n 1, 1) := by decide +kernel
theorem dX7_whereIs_26 : decode cX7_whereIs 26 = .ok (.if_icmp .ne 7, 3) := by decide +kernel
theorem dX7_whereIs_29 : decode cX7_whereIs 29 = .ok (.iload_n 3, 1) := by decide +kernel
theorem dX7_whereIs_30 : decode cX7_whereIs 30 = .ok (.goto 4, 3) := by decide +kernel
theorem dX7_whereIs_33 : decode cX7_whereIs 33 = .ok (.iload_n 2, 1) := by decide +kernel
theorem dX7_whereIs_34 : decode cX7_whereIs 34 = .ok (.istore_n 2, 1) := by decide +kernel
theorem dX7_whereIs_35 : decode cX7_whereIs 35 = .ok (.iinc 3 1, 3) := by decide +kernel
theorem dX7_whereIs_38 : decode cX7_whereIs 38 = .ok (.goto (-34), 3) := by decide +kernel
theorem dX7_whereIs_41 : decode cX7_whereIs 41 = .ok (.iconst 0, 1) := by decide +kernel
theorem dX7_whereIs_42 : decode cX7_whereIs 42 = .ok (.istore_n 3, 1) := by decide +kernel
theorem dX7_whereIs_43 : decode cX7_whereIs 43 = .ok (.iload_n 3, 1) := by decide +kernel
theorem dX7_whereIs_44 : decode cX7_whereIs 44 = .ok (.aload_n 0, 1) := by decide +kernel
theorem dX7_whereIs_45 : decode cX7_whereIs 45 = .ok (.getfield 7, 3) := by decide +kernel
theorem dX7_whereIs_48 : decode cX7_whereIs 48 = .ok (.bipush 46, 2) := by decide +kernel
theorem dX7_whereIs_50 : decode cX7_whereIs 50 = .ok (.iaload, 1) := by decide +kernel
theorem dX7_whereIs_51 : decode cX7_whereIs 51 = .ok (.if_icmp .ge 32, 3) := by decide +kernel
theorem dX7_whereIs_54 : decode cX7_whereIs 54 = .ok (.aload_n 0, 1) := by decide +kernel
theorem dX7_whereIs_55 : decode cX7_whereIs 55 = .ok (.getfield 7, 3) := by decide +kernel
theorem dX7_whereIs_58 : decode cX7_whereIs 58 = .ok (.iconst 1, 1) := by decide +kernel
theorem dX7_whereIs_59 : decode cX7_whereIs 59 = .ok (.iload_n 3, 1) := by decide +kernel
theorem dX7_whereIs_60 : decode cX7_whereIs 60 = .ok (.invokestatic 61, 3) := by decide +kernel
theorem dX7_whereIs_63 : decode cX7_whereIs 63 = .ok (.iaload, 1) := by decide +kernel
theorem dX7_whereIs_64 : decode cX7_whereIs 64 = .ok (.iload_n 1, 1) := by decide +kernel
theorem dX7_whereIs_65 : decode cX7_whereIs 65 = .ok (.if_icmp .ne 10, 3) := by decide +kernel
theorem dX7_whereIs_68 : decode cX7_whereIs 68 = .ok (.bipush 100, 2) := by decide +kernel
theorem dX7_whereIs_70 : decode cX7_whereIs 70 = .ok (.iload_n 3, 1) := by decide +kernel
theorem dX7_whereIs_71 : decode cX7_whereIs 71 = .ok (.iadd, 1) := by decide +kernel
theorem dX7_whereIs_72 : decode cX7_whereIs 72 = .ok (.goto 4, 3) := by decide +kernel
theorem dX7_whereIs_75 : decode cX7_whereIs 75 = .ok (.iload_n 2, 1) := by decide +kernel
theorem dX7_whereIs_76 : decode cX7_whereIs 76 = .ok (.istore_n 2, 1) := by decide +kernel
theorem dX7_whereIs_77 : decode cX7_whereIs 77 = .ok (.iinc 3 1, 3) := by decide +kernel
theorem dX7_whereIs_80 : decode cX7_whereIs 80 = .ok (.goto (-37), 3) := by decide +kernel
theorem dX7_whereIs_83 : decode cX7_whereIs 83 = .ok (.iconst 0, 1) := by decide +kernel
theorem dX7_whereIs_84 : decode cX7_whereIs 84 = .ok (.istore_n 3, 1) := by decide +kernel
theorem dX7_whereIs_85 : decode cX7_whereIs 85 = .ok (.iload_n 3, 1) := by decide +kernel
theorem dX7_whereIs_86 : decode cX7_whereIs 86 = .ok (.iconst 4, 1) := by decide +kernel
theorem dX7_whereIs_87 : decode cX7_whereIs 87 = .ok (.if_icmp .ge 36, 3) := by decide +kernel
theorem dX7_whereIs_90 : decode cX7_whereIs 90 = .ok (.aload_n 0, 1) := by decide +kernel
theorem dX7_whereIs_91 : decode cX7_whereIs 91 = .ok (.getfield 7, 3) := by decide +kernel
theorem dX7_whereIs_94 : decode cX7_whereIs 94 = .ok (.iload_n 3, 1) := by decide +kernel
theorem dX7_whereIs_95 : decode cX7_whereIs 95 = .ok (.iconst 4, 1) := by decide +kernel
theorem dX7_whereIs_96 : decode cX7_whereIs 96 = .ok (.invokestatic 33, 3) := by decide +kernel
theorem dX7_whereIs_99 : decode cX7_whereIs 99 = .ok (.iaload, 1) := by decide +kernel
theorem dX7_whereIs_100 : decode cX7_whereIs 100 = .ok (.iload_n 1, 1) := by decide +kernel
theorem dX7_whereIs_101 : decode cX7_whereIs 101 = .ok (.if_icmp .ne 14, 3) := by decide +kernel
theorem dX7_whereIs_104 : decode cX7_whereIs 104 = .ok (.sipush 299, 3) := by decide +kernel
theorem dX7_whereIs_107 : decode cX7_whereIs 107 = .ok (.bipush 100, 2) := by decide +kernel
theorem dX7_whereIs_109 : decode cX7_whereIs 109 = .ok (.iload_n 3, 1) := by decide +kernel
theorem dX7_whereIs_110 : decode cX7_whereIs 110 = .ok (.imul, 1) := by decide +kernel
theorem dX7_whereIs_111 : decode cX7_whereIs 111 = .ok (.iadd, 1) := by decide +kernel
theorem dX7_whereIs_112 : decode cX7_whereIs 112 = .ok (.goto 4, 3) := by decide +kernel
theorem dX7_whereIs_115 : decode cX7_whereIs 115 = .ok (.iload_n 2, 1) := by decide +kernel
theorem dX7_whereIs_116 : decode cX7_whereIs 116 = .ok (.istore_n 2, 1) := by decide +kernel
theorem dX7_whereIs_117 : decode cX7_whereIs 117 = .ok (.iinc 3 1, 3) := by decide +kernel
theorem dX7_whereIs_120 : decode cX7_whereIs 120 = .ok (.goto (-35), 3) := by decide +kernel
theorem dX7_whereIs_123 : decode cX7_whereIs 123 = .ok (.iload_n 2, 1) := by decide +kernel
theorem dX7_whereIs_124 : decode cX7_whereIs 124 = .ok (.ireturn, 1) := by decide +kernel
set_option maxRecDepth 20000 in
theorem ggX7_word_X7_isWord : GoodIn wsX7_word wsX7_isWord := goodIn_r _ [6, 1, 7, 8, 5, 9, 31, 32, 33, 34, 35, 36, 37, 38] (by decide +kernel) (by decide +kernel)
set_option maxRecDepth 20000 in
theorem gX7_word_X7_isWord : GoodIn wsX7_word (wsV RX7 111 RX7 yX7_isWord wsX7_isWord) := goodIn_app (goodIn_of _ (by decide +kernel)) ggX7_word_X7_isWord
set_option maxRecDepth 20000 in
theorem ggX7_word_X7_whereIs : GoodIn wsX7_word wsX7_whereIs := goodIn_r _ [13, 1, 14, 15, 5, 16, 17, 18, 19, 31, 32, 33, 34, 35, 36, 37, 38] (by decide +kernel) (by decide +kernel)
set_option maxRecDepth 20000 in
theorem gX7_word_X7_whereIs : GoodIn wsX7_word (wsV RX7 114 RX7 yX7_whereIs wsX7_whereIs) := goodIn_app (goodIn_of _ (by decide +kernel)) ggX7_word_X7_whereIs
set_option maxRecDepth 20000 in
theorem ggX7_word_X7_lettersOf : GoodIn wsX7_word wsX7_lettersOf := goodIn_r _ [23, 1, 24, 25, 5, 26, 31, 32, 33, 34, 35, 36, 37, 38] (by decide +kernel) (by decide +kernel)
set_option maxRecDepth 20000 in
theorem gX7_word_X7_lettersOf : GoodIn wsX7_word (wsV RX7 58 RX7 yX7_lettersOf wsX7_lettersOf) := goodIn_app (goodIn_of _ (by decide +kernel)) ggX7_word_X7_lettersOf
set_option maxRecDepth 20000 in
theorem ggX7_word_X7_ofWord : GoodIn wsX7_word wsX7_ofWord := goodIn_r _ [26] (by decide +kernel) (by decide +kernel)
set_option maxRecDepth 20000 in
theorem gX7_word_X7_ofWord : GoodIn wsX7_word (va_wsS RX7 55 yX7_ofWord wsX7_ofWord) := goodIn_app (goodIn_of _ (by decide +kernel)) ggX7_word_X7_ofWord
set_option maxRecDepth 20000 in
theorem ggX7_word_X7_letterOf : GoodIn wsX7_word wsX7_letterOf := goodIn_r _ [30, 1, 24, 25, 5, 26, 20, 21, 22, 23, 7, 8, 9, 31, 32, 33, 34, 35, 36, 37, 38] (by decide +kernel) (by decide +kernel)
set_option maxRecDepth 20000 in
theorem gX7_word_X7_letterOf : GoodIn wsX7_word (wsV RX7 117 RX7 yX7_letterOf wsX7_letterOf) := goodIn_app (goodIn_of _ (by decide +kernel)) ggX7_word_X7_letterOf
theorem dX7_word_0 : decode cX7_word 0 = .ok (.aload_n 0, 1) := by decide +kernel
theorem dX7_word_1 : decode cX7_word 1 = .ok (.iload_n 1, 1) := by decide +kernel
theorem dX7_word_2 : decode cX7_word 2 = .ok (.invokevirtual 111, 3) := by decide +kernel
theorem dX7_word_5 : decode cX7_word 5 = .ok (.ifCond .ne 7, 3) := by decide +kernel
theorem dX7_word_8 : decode cX7_word 8 = .ok (.sipush (-1001), 3) := by decide +kernel
theorem dX7_word_11 : decode cX7_word 11 = .ok (.ireturn, 1) := by decide +kernel
theorem dX7_word_12 : decode cX7_word 12 = .ok (.iload_n 2, 1) := by decide +kernel
theorem dX7_word_13 : decode cX7_word 13 = .ok (.tableswitch 99 0 6 #[43, 52, 80, 86, 86, 86, 86], 43) := by decide +kernel
theorem dX7_word_56 : decode cX7_word 56 = .ok (.aload_n 0, 1) := by decide +kernel
theorem dX7_word_57 : decode cX7_word 57 = .ok (.iload_n 1, 1) := by decide +kernel
theorem dX7_word_58 : decode cX7_word 58 = .ok (.invokevirtual 114, 3) := by decide +kernel
theorem dX7_word_61 : decode cX7_word 61 = .ok (.bipush 100, 2) := by decide +kernel
theorem dX7_word_63 : decode cX7_word 63 = .ok (.idiv, 1) := by decide +kernel
theorem dX7_word_64 : decode cX7_word 64 = .ok (.ireturn, 1) := by decide +kernel
theorem dX7_word_65 : decode cX7_word 65 = .ok (.aload_n 0, 1) := by decide +kernel
theorem dX7_word_66 : decode cX7_word 66 = .ok (.iload_n 1, 1) := by decide +kernel
theorem dX7_word_67 : decode cX7_word 67 = .ok (.invokevirtual 114, 3) := by decide +kernel
theorem dX7_word_70 : decode cX7_word 70 = .ok (.bipush 100, 2) := by decide +kernel
theorem dX7_word_72 : decode cX7_word 72 = .ok (.irem, 1) := by decide +kernel
theorem dX7_word_73 : decode cX7_word 73 = .ok (.bipush 99, 2) := by decide +kernel
theorem dX7_word_75 : decode cX7_word 75 = .ok (.if_icmp .ne 9, 3) := by decide +kernel
theorem dX7_word_78 : decode cX7_word 78 = .ok (.sipush (-1006), 3) := by decide +kernel
theorem dX7_word_81 : decode cX7_word 81 = .ok (.goto 11, 3) := by decide +kernel
theorem dX7_word_84 : decode cX7_word 84 = .ok (.aload_n 0, 1) := by decide +kernel
theorem dX7_word_85 : decode cX7_word 85 = .ok (.iload_n 1, 1) := by decide +kernel
theorem dX7_word_86 : decode cX7_word 86 = .ok (.invokevirtual 114, 3) := by decide +kernel
theorem dX7_word_89 : decode cX7_word 89 = .ok (.bipush 100, 2) := by decide +kernel
theorem dX7_word_91 : decode cX7_word 91 = .ok (.irem, 1) := by decide +kernel
theorem dX7_word_92 : decode cX7_word 92 = .ok (.ireturn, 1) := by decide +kernel
theorem dX7_word_93 : decode cX7_word 93 = .ok (.aload_n 0, 1) := by decide +kernel
theorem dX7_word_94 : decode cX7_word 94 = .ok (.iload_n 1, 1) := by decide +kernel
theorem dX7_word_95 : decode cX7_word 95 = .ok (.invokevirtual 58, 3) := by decide +kernel
theorem dX7_word_98 : decode cX7_word 98 = .ok (.ireturn, 1) := by decide +kernel
theorem dX7_word_99 : decode cX7_word 99 = .ok (.aload_n 0, 1) := by decide +kernel
theorem dX7_word_100 : decode cX7_word 100 = .ok (.getfield 7, 3) := by decide +kernel
theorem dX7_word_103 : decode cX7_word 103 = .ok (.iload_n 1, 1) := by decide +kernel
theorem dX7_word_104 : decode cX7_word 104 = .ok (.iload_n 2, 1) := by decide +kernel
theorem dX7_word_105 : decode cX7_word 105 = .ok (.iconst 2, 1) := by decide +kernel
theorem dX7_word_106 : decode cX7_word 106 = .ok (.isub, 1) := by decide +kernel
theorem dX7_word_107 : decode cX7_word 107 = .ok (.invokestatic 55, 3) := by decide +kernel
theorem dX7_word_110 : decode cX7_word 110 = .ok (.iaload, 1) := by decide +kernel
theorem dX7_word_111 : decode cX7_word 111 = .ok (.ireturn, 1) := by decide +kernel
theorem dX7_word_112 : decode cX7_word 112 = .ok (.iload_n 2, 1) := by decide +kernel
theorem dX7_word_113 : decode cX7_word 113 = .ok (.ifCond .ge 9, 3) := by decide +kernel
theorem dX7_word_116 : decode cX7_word 116 = .ok (.sipush (-1002), 3) := by decide +kernel
theorem dX7_word_119 : decode cX7_word 119 = .ok (.goto 12, 3) := by decide +kernel
theorem dX7_word_122 : decode cX7_word 122 = .ok (.aload_n 0, 1) := by decide +kernel
theorem dX7_word_123 : decode cX7_word 123 = .ok (.iload_n 1, 1) := by decide +kernel
theorem dX7_word_124 : decode cX7_word 124 = .ok (.iload_n 2, 1) := by decide +kernel
theorem dX7_word_125 : decode cX7_word 125 = .ok (.bipush 7, 2) := by decide +kernel
theorem dX7_word_127 : decode cX7_word 127 = .ok (.isub, 1) := by decide +kernel
theorem dX7_word_128 : decode cX7_word 128 = .ok (.invokevirtual 117, 3) := by decide +kernel
theorem dX7_word_131 : decode cX7_word 131 = .ok (.ireturn, 1) := by decide +kernel
set_option maxRecDepth 20000 in
theorem ggX7_at_X7_isStore : GoodIn wsX7_at wsX7_isStore := goodIn_r _ [5, 6, 7, 4, 8] (by decide +kernel) (by decide +kernel)
set_option maxRecDepth 20000 in
theorem gX7_at_X7_isStore : GoodIn wsX7_at (va_wsS RX7 89 yX7_isStore wsX7_isStore) := goodIn_app (goodIn_of _ (by decide +kernel)) ggX7_at_X7_isStore
set_option maxRecDepth 20000 in
theorem ggX7_at_X7_in : GoodIn wsX7_at wsX7_in := goodIn_r _ [8] (by decide +kernel) (by decide +kernel)
set_option maxRecDepth 20000 in
theorem gX7_at_X7_in : GoodIn wsX7_at (va_wsS RX7 36 yX7_in wsX7_in) := goodIn_app (goodIn_of _ (by decide +kernel)) ggX7_at_X7_in
set_option maxRecDepth 20000 in
theorem ggX7_at_X7_inRow : GoodIn wsX7_at wsX7_inRow := goodIn_r _ [11] (by decide +kernel) (by decide +kernel)
set_option maxRecDepth 20000 in
theorem gX7_at_X7_inRow : GoodIn wsX7_at (va_wsS RX7 61 yX7_inRow wsX7_inRow) := goodIn_app (goodIn_of _ (by decide +kernel)) ggX7_at_X7_inRow
theorem dX7_at_0 : decode cX7_at 0 = .ok (.iload_n 1, 1) := by decide +kernel
theorem dX7_at_1 : decode cX7_at 1 = .ok (.invokestatic 89, 3) := by decide +kernel
theorem dX7_at_4 : decode cX7_at 4 = .ok (.ifCond .eq 35, 3) := by decide +kernel
theorem dX7_at_7 : decode cX7_at 7 = .ok (.iload_n 2, 1) := by decide +kernel
theorem dX7_at_8 : decode cX7_at 8 = .ok (.iconst 0, 1) := by decide +kernel
theorem dX7_at_9 : decode cX7_at 9 = .ok (.aload_n 0, 1) := by decide +kernel
theorem dX7_at_10 : decode cX7_at 10 = .ok (.getfield 7, 3) := by decide +kernel
theorem dX7_at_13 : decode cX7_at 13 = .ok (.bipush 45, 2) := by decide +kernel
theorem dX7_at_15 : decode cX7_at 15 = .ok (.iload_n 1, 1) := by decide +kernel
theorem dX7_at_16 : decode cX7_at 16 = .ok (.iadd, 1) := by decide +kernel
theorem dX7_at_17 : decode cX7_at 17 = .ok (.iaload, 1) := by decide +kernel
theorem dX7_at_18 : decode cX7_at 18 = .ok (.iconst 1, 1) := by decide +kernel
theorem dX7_at_19 : decode cX7_at 19 = .ok (.isub, 1) := by decide +kernel
theorem dX7_at_20 : decode cX7_at 20 = .ok (.invokestatic 36, 3) := by decide +kernel
theorem dX7_at_23 : decode cX7_at 23 = .ok (.ifCond .eq 16, 3) := by decide +kernel
theorem dX7_at_26 : decode cX7_at 26 = .ok (.aload_n 0, 1) := by decide +kernel
theorem dX7_at_27 : decode cX7_at 27 = .ok (.getfield 7, 3) := by decide +kernel
theorem dX7_at_30 : decode cX7_at 30 = .ok (.iload_n 1, 1) := by decide +kernel
theorem dX7_at_31 : decode cX7_at 31 = .ok (.iload_n 2, 1) := by decide +kernel
theorem dX7_at_32 : decode cX7_at 32 = .ok (.invokestatic 61, 3) := by decide +kernel
theorem dX7_at_35 : decode cX7_at 35 = .ok (.iaload, 1) := by decide +kernel
theorem dX7_at_36 : decode cX7_at 36 = .ok (.goto 6, 3) := by decide +kernel
theorem dX7_at_39 : decode cX7_at 39 = .ok (.sipush (-1001), 3) := by decide +kernel
theorem dX7_at_42 : decode cX7_at 42 = .ok (.ireturn, 1) := by decide +kernel
set_option maxRecDepth 20000 in
theorem ggX7_inGates_X7_ofGate : GoodIn wsX7_inGates wsX7_ofGate := goodIn_r _ [5] (by decide +kernel) (by decide +kernel)
set_option maxRecDepth 20000 in
theorem gX7_inGates_X7_ofGate : GoodIn wsX7_inGates (va_wsS RX7 33 yX7_ofGate wsX7_ofGate) := goodIn_app (goodIn_of _ (by decide +kernel)) ggX7_inGates_X7_ofGate
theorem dX7_inGates_0 : decode cX7_inGates 0 = .ok (.iconst 0, 1) := by decide +kernel
theorem dX7_inGates_1 : decode cX7_inGates 1 = .ok (.istore_n 1, 1) := by decide +kernel
theorem dX7_inGates_2 : decode cX7_inGates 2 = .ok (.iconst 0, 1) := by decide +kernel
theorem dX7_inGates_3 : decode cX7_inGates 3 = .ok (.istore_n 2, 1) := by decide +kernel
theorem dX7_inGates_4 : decode cX7_inGates 4 = .ok (.iload_n 2, 1) := by decide +kernel
theorem dX7_inGates_5 : decode cX7_inGates 5 = .ok (.iconst 4, 1) := by decide +kernel
theorem dX7_inGates_6 : decode cX7_inGates 6 = .ok (.if_icmp .ge 33, 3) := by decide +kernel
theorem dX7_inGates_9 : decode cX7_inGates 9 = .ok (.iload_n 1, 1) := by decide +kernel
theorem dX7_inGates_10 : decode cX7_inGates 10 = .ok (.aload_n 0, 1) := by decide +kernel
theorem dX7_inGates_11 : decode cX7_inGates 11 = .ok (.getfield 7, 3) := by decide +kernel
theorem dX7_inGates_14 : decode cX7_inGates 14 = .ok (.iload_n 2, 1) := by decide +kernel
theorem dX7_inGates_15 : decode cX7_inGates 15 = .ok (.iconst 4, 1) := by decide +kernel
theorem dX7_inGates_16 : decode cX7_inGates 16 = .ok (.invokestatic 33, 3) := by decide +kernel
theorem dX7_inGates_19 : decode cX7_inGates 19 = .ok (.iaload, 1) := by decide +kernel
theorem dX7_inGates_20 : decode cX7_inGates 20 = .ok (.sipush (-1006), 3) := by decide +kernel
theorem dX7_inGates_23 : decode cX7_inGates 23 = .ok (.if_icmp .ne 7, 3) := by decide +kernel
theorem dX7_inGates_26 : decode cX7_inGates 26 = .ok (.iconst 0, 1) := by decide +kernel
theorem dX7_inGates_27 : decode cX7_inGates 27 = .ok (.goto 4, 3) := by decide +kernel
theorem dX7_inGates_30 : decode cX7_inGates 30 = .ok (.iconst 1, 1) := by decide +kernel
theorem dX7_inGates_31 : decode cX7_inGates 31 = .ok (.iadd, 1) := by decide +kernel
theorem dX7_inGates_32 : decode cX7_inGates 32 = .ok (.istore_n 1, 1) := by decide +kernel
theorem dX7_inGates_33 : decode cX7_inGates 33 = .ok (.iinc 2 1, 3) := by decide +kernel
theorem dX7_inGates_36 : decode cX7_inGates 36 = .ok (.goto (-32), 3) := by decide +kernel
theorem dX7_inGates_39 : decode cX7_inGates 39 = .ok (.iload_n 1, 1) := by decide +kernel
theorem dX7_inGates_40 : decode cX7_inGates 40 = .ok (.ireturn, 1) := by decide +kernel
set_option maxRecDepth 20000 in
theorem ggX7_count_X7_passedWords : GoodIn wsX7_count wsX7_passedWords := goodIn_r _ [8, 1, 9, 10, 7, 11, 38, 39, 40, 41, 42, 43, 44, 45] (by decide +kernel) (by decide +kernel)
set_option maxRecDepth 20000 in
theorem gX7_count_X7_passedWords : GoodIn wsX7_count (wsV RX7 102 RX7 yX7_passedWords wsX7_passedWords) := goodIn_app (goodIn_of _ (by decide +kernel)) ggX7_count_X7_passedWords
set_option maxRecDepth 20000 in
theorem ggX7_count_X7_inGates : GoodIn wsX7_count wsX7_inGates := goodIn_r _ [15, 1, 16, 17, 7, 18, 38, 39, 40, 41, 42, 43, 44, 45] (by decide +kernel) (by decide +kernel)
set_option maxRecDepth 20000 in
theorem gX7_count_X7_inGates : GoodIn wsX7_count (wsV RX7 120 RX7 yX7_inGates wsX7_inGates) := goodIn_app (goodIn_of _ (by decide +kernel)) ggX7_count_X7_inGates
set_option maxRecDepth 20000 in
theorem ggX7_count_X7_openNow : GoodIn wsX7_count wsX7_openNow := goodIn_r _ [22, 1, 23, 24, 25, 7, 26, 16, 17, 18, 27, 28, 29, 30, 31, 32, 33, 34, 35, 36, 37, 38, 39, 40, 41, 42, 43, 44, 45] (by decide +kernel) (by decide +kernel)
set_option maxRecDepth 20000 in
theorem gX7_count_X7_openNow : GoodIn wsX7_count (wsV RX7 78 RX7 yX7_openNow wsX7_openNow) := goodIn_app (goodIn_of _ (by decide +kernel)) ggX7_count_X7_openNow
theorem dX7_count_0 : decode cX7_count 0 = .ok (.iload_n 1, 1) := by decide +kernel
theorem dX7_count_1 : decode cX7_count 1 = .ok (.tableswitch 133 0 10 #[59, 66, 73, 78, 95, 100, 100, 111, 116, 123, 128], 59) := by decide +kernel
theorem dX7_count_60 : decode cX7_count 60 = .ok (.aload_n 0, 1) := by decide +kernel
theorem dX7_count_61 : decode cX7_count 61 = .ok (.getfield 7, 3) := by decide +kernel
theorem dX7_count_64 : decode cX7_count 64 = .ok (.iconst 0, 1) := by decide +kernel
theorem dX7_count_65 : decode cX7_count 65 = .ok (.iaload, 1) := by decide +kernel
theorem dX7_count_66 : decode cX7_count 66 = .ok (.ireturn, 1) := by decide +kernel
theorem dX7_count_67 : decode cX7_count 67 = .ok (.aload_n 0, 1) := by decide +kernel
theorem dX7_count_68 : decode cX7_count 68 = .ok (.getfield 7, 3) := by decide +kernel
theorem dX7_count_71 : decode cX7_count 71 = .ok (.iconst 4, 1) := by decide +kernel
theorem dX7_count_72 : decode cX7_count 72 = .ok (.iaload, 1) := by decide +kernel
theorem dX7_count_73 : decode cX7_count 73 = .ok (.ireturn, 1) := by decide +kernel
theorem dX7_count_74 : decode cX7_count 74 = .ok (.aload_n 0, 1) := by decide +kernel
theorem dX7_count_75 : decode cX7_count 75 = .ok (.invokevirtual 102, 3) := by decide +kernel
theorem dX7_count_78 : decode cX7_count 78 = .ok (.ireturn, 1) := by decide +kernel
theorem dX7_count_79 : decode cX7_count 79 = .ok (.aload_n 0, 1) := by decide +kernel
theorem dX7_count_80 : decode cX7_count 80 = .ok (.getfield 7, 3) := by decide +kernel
theorem dX7_count_83 : decode cX7_count 83 = .ok (.iconst 4, 1) := by decide +kernel
theorem dX7_count_84 : decode cX7_count 84 = .ok (.iaload, 1) := by decide +kernel
theorem dX7_count_85 : decode cX7_count 85 = .ok (.aload_n 0, 1) := by decide +kernel
theorem dX7_count_86 : decode cX7_count 86 = .ok (.invokevirtual 102, 3) := by decide +kernel
theorem dX7_count_89 : decode cX7_count 89 = .ok (.isub, 1) := by decide +kernel
theorem dX7_count_90 : decode cX7_count 90 = .ok (.aload_n 0, 1) := by decide +kernel
theorem dX7_count_91 : decode cX7_count 91 = .ok (.invokevirtual 120, 3) := by decide +kernel
theorem dX7_count_94 : decode cX7_count 94 = .ok (.isub, 1) := by decide +kernel
theorem dX7_count_95 : decode cX7_count 95 = .ok (.ireturn, 1) := by decide +kernel
theorem dX7_count_96 : decode cX7_count 96 = .ok (.aload_n 0, 1) := by decide +kernel
theorem dX7_count_97 : decode cX7_count 97 = .ok (.invokevirtual 120, 3) := by decide +kernel
theorem dX7_count_100 : decode cX7_count 100 = .ok (.ireturn, 1) := by decide +kernel
theorem dX7_count_101 : decode cX7_count 101 = .ok (.aload_n 0, 1) := by decide +kernel
theorem dX7_count_102 : decode cX7_count 102 = .ok (.getfield 7, 3) := by decide +kernel
theorem dX7_count_105 : decode cX7_count 105 = .ok (.iconst 2, 1) := by decide +kernel
theorem dX7_count_106 : decode cX7_count 106 = .ok (.iload_n 1, 1) := by decide +kernel
theorem dX7_count_107 : decode cX7_count 107 = .ok (.iadd, 1) := by decide +kernel
theorem dX7_count_108 : decode cX7_count 108 = .ok (.iconst 5, 1) := by decide +kernel
theorem dX7_count_109 : decode cX7_count 109 = .ok (.isub, 1) := by decide +kernel
theorem dX7_count_110 : decode cX7_count 110 = .ok (.iaload, 1) := by decide +kernel
theorem dX7_count_111 : decode cX7_count 111 = .ok (.ireturn, 1) := by decide +kernel
theorem dX7_count_112 : decode cX7_count 112 = .ok (.aload_n 0, 1) := by decide +kernel
theorem dX7_count_113 : decode cX7_count 113 = .ok (.invokevirtual 78, 3) := by decide +kernel
theorem dX7_count_116 : decode cX7_count 116 = .ok (.ireturn, 1) := by decide +kernel
theorem dX7_count_117 : decode cX7_count 117 = .ok (.aload_n 0, 1) := by decide +kernel
theorem dX7_count_118 : decode cX7_count 118 = .ok (.getfield 7, 3) := by decide +kernel
theorem dX7_count_121 : decode cX7_count 121 = .ok (.iconst 1, 1) := by decide +kernel
theorem dX7_count_122 : decode cX7_count 122 = .ok (.iaload, 1) := by decide +kernel
theorem dX7_count_123 : decode cX7_count 123 = .ok (.ireturn, 1) := by decide +kernel
theorem dX7_count_124 : decode cX7_count 124 = .ok (.aload_n 0, 1) := by decide +kernel
theorem dX7_count_125 : decode cX7_count 125 = .ok (.getfield 123, 3) := by decide +kernel
theorem dX7_count_128 : decode cX7_count 128 = .ok (.ireturn, 1) := by decide +kernel
theorem dX7_count_129 : decode cX7_count 129 = .ok (.aload_n 0, 1) := by decide +kernel
theorem dX7_count_130 : decode cX7_count 130 = .ok (.getfield 40, 3) := by decide +kernel
theorem dX7_count_133 : decode cX7_count 133 = .ok (.ireturn, 1) := by decide +kernel
theorem dX7_count_134 : decode cX7_count 134 = .ok (.sipush (-1002), 3) := by decide +kernel
theorem dX7_count_137 : decode cX7_count 137 = .ok (.ireturn, 1) := by decide +kernel
set_option maxRecDepth 20000 in
theorem ggX7_opensIn_X7_isOpen : GoodIn wsX7_opensIn wsX7_isOpen := goodIn_r _ [6, 1, 7, 8, 5, 9, 10, 11, 12, 13, 14, 15, 16, 17, 18, 19, 20, 21, 22, 23, 24, 25, 26, 27, 28] (by decide +kernel) (by decide +kernel)
set_option maxRecDepth 20000 in
theorem gX7_opensIn_X7_isOpen : GoodIn wsX7_opensIn (wsV RX7 51 RX7 yX7_isOpen wsX7_isOpen) := goodIn_app (goodIn_of _ (by decide +kernel)) ggX7_opensIn_X7_isOpen
theorem dX7_opensIn_0 : decode cX7_opensIn 0 = .ok (.iconst 0, 1) := by decide +kernel
theorem dX7_opensIn_1 : decode cX7_opensIn 1 = .ok (.istore_n 2, 1) := by decide +kernel
theorem dX7_opensIn_2 : decode cX7_opensIn 2 = .ok (.iload_n 2, 1) := by decide +kernel
theorem dX7_opensIn_3 : decode cX7_opensIn 3 = .ok (.sipush 4000, 3) := by decide +kernel
theorem dX7_opensIn_6 : decode cX7_opensIn 6 = .ok (.if_icmp .ge 27, 3) := by decide +kernel
theorem dX7_opensIn_9 : decode cX7_opensIn 9 = .ok (.aload_n 0, 1) := by decide +kernel
theorem dX7_opensIn_10 : decode cX7_opensIn 10 = .ok (.iload_n 1, 1) := by decide +kernel
theorem dX7_opensIn_11 : decode cX7_opensIn 11 = .ok (.aload_n 0, 1) := by decide +kernel
theorem dX7_opensIn_12 : decode cX7_opensIn 12 = .ok (.getfield 7, 3) := by decide +kernel
theorem dX7_opensIn_15 : decode cX7_opensIn 15 = .ok (.iconst 0, 1) := by decide +kernel
theorem dX7_opensIn_16 : decode cX7_opensIn 16 = .ok (.iaload, 1) := by decide +kernel
theorem dX7_opensIn_17 : decode cX7_opensIn 17 = .ok (.iload_n 2, 1) := by decide +kernel
theorem dX7_opensIn_18 : decode cX7_opensIn 18 = .ok (.iadd, 1) := by decide +kernel
theorem dX7_opensIn_19 : decode cX7_opensIn 19 = .ok (.invokevirtual 51, 3) := by decide +kernel
theorem dX7_opensIn_22 : decode cX7_opensIn 22 = .ok (.ifCond .eq 5, 3) := by decide +kernel
theorem dX7_opensIn_25 : decode cX7_opensIn 25 = .ok (.iload_n 2, 1) := by decide +kernel
theorem dX7_opensIn_26 : decode cX7_opensIn 26 = .ok (.ireturn, 1) := by decide +kernel
theorem dX7_opensIn_27 : decode cX7_opensIn 27 = .ok (.iinc 2 1, 3) := by decide +kernel
theorem dX7_opensIn_30 : decode cX7_opensIn 30 = .ok (.goto (-28), 3) := by decide +kernel
theorem dX7_opensIn_33 : decode cX7_opensIn 33 = .ok (.sipush (-1006), 3) := by decide +kernel
theorem dX7_opensIn_36 : decode cX7_opensIn 36 = .ok (.ireturn, 1) := by decide +kernel
set_option maxRecDepth 20000 in
theorem ggX7_untilOpen_X7_isGate : GoodIn wsX7_untilOpen wsX7_isGate := goodIn_r _ [4, 5, 6, 3, 7] (by decide +kernel) (by decide +kernel)
set_option maxRecDepth 20000 in
theorem gX7_untilOpen_X7_isGate : GoodIn wsX7_untilOpen (va_wsS RX7 98 yX7_isGate wsX7_isGate) := goodIn_app (goodIn_of _ (by decide +kernel)) ggX7_untilOpen_X7_isGate
set_option maxRecDepth 20000 in
theorem ggX7_untilOpen_X7_opensIn : GoodIn wsX7_untilOpen wsX7_opensIn := goodIn_r _ [11, 12, 13, 14, 15, 3, 16, 17, 18, 19, 20, 21, 22, 23, 24, 25, 26, 27, 28, 29, 30, 31, 32, 33, 34, 35, 36, 37, 38] (by decide +kernel) (by decide +kernel)
set_option maxRecDepth 20000 in
theorem gX7_untilOpen_X7_opensIn : GoodIn wsX7_untilOpen (wsV RX7 126 RX7 yX7_opensIn wsX7_opensIn) := goodIn_app (goodIn_of _ (by decide +kernel)) ggX7_untilOpen_X7_opensIn
theorem dX7_untilOpen_0 : decode cX7_untilOpen 0 = .ok (.iload_n 1, 1) := by decide +kernel
theorem dX7_untilOpen_1 : decode cX7_untilOpen 1 = .ok (.invokestatic 98, 3) := by decide +kernel
theorem dX7_untilOpen_4 : decode cX7_untilOpen 4 = .ok (.ifCond .eq 11, 3) := by decide +kernel
theorem dX7_untilOpen_7 : decode cX7_untilOpen 7 = .ok (.aload_n 0, 1) := by decide +kernel
theorem dX7_untilOpen_8 : decode cX7_untilOpen 8 = .ok (.iload_n 1, 1) := by decide +kernel
theorem dX7_untilOpen_9 : decode cX7_untilOpen 9 = .ok (.invokevirtual 126, 3) := by decide +kernel
theorem dX7_untilOpen_12 : decode cX7_untilOpen 12 = .ok (.goto 6, 3) := by decide +kernel
theorem dX7_untilOpen_15 : decode cX7_untilOpen 15 = .ok (.sipush (-1001), 3) := by decide +kernel
theorem dX7_untilOpen_18 : decode cX7_untilOpen 18 = .ok (.ireturn, 1) := by decide +kernel
set_option maxRecDepth 20000 in
theorem ggX7_openFor_X7_isGate : GoodIn wsX7_openFor wsX7_isGate := goodIn_r _ [5, 6, 7, 4, 8] (by decide +kernel) (by decide +kernel)
set_option maxRecDepth 20000 in
theorem gX7_openFor_X7_isGate : GoodIn wsX7_openFor (va_wsS RX7 98 yX7_isGate wsX7_isGate) := goodIn_app (goodIn_of _ (by decide +kernel)) ggX7_openFor_X7_isGate
set_option maxRecDepth 20000 in
theorem ggX7_openFor_X7_opensIn : GoodIn wsX7_openFor wsX7_opensIn := goodIn_r _ [12, 1, 13, 14, 15, 4, 16, 17, 18, 19, 20, 21, 22, 23, 24, 25, 26, 27, 28, 29, 30, 31, 32, 33, 34, 35, 36, 37, 38] (by decide +kernel) (by decide +kernel)
set_option maxRecDepth 20000 in
theorem gX7_openFor_X7_opensIn : GoodIn wsX7_openFor (wsV RX7 126 RX7 yX7_opensIn wsX7_opensIn) := goodIn_app (goodIn_of _ (by decide +kernel)) ggX7_openFor_X7_opensIn
set_option maxRecDepth 20000 in
theorem ggX7_openFor_X7_isOpen : GoodIn wsX7_openFor wsX7_isOpen := goodIn_r _ [16, 1, 17, 18, 4, 19, 20, 21, 22, 23, 24, 25, 26, 27, 28, 29, 30, 31, 32, 33, 34, 35, 36, 37, 38] (by decide +kernel) (by decide +kernel)
set_option maxRecDepth 20000 in
theorem gX7_openFor_X7_isOpen : GoodIn wsX7_openFor (wsV RX7 51 RX7 yX7_isOpen wsX7_isOpen) := goodIn_app (goodIn_of _ (by decide +kernel)) ggX7_openFor_X7_isOpen
theorem dX7_openFor_0 : decode cX7_openFor 0 = .ok (.iload_n 1, 1) := by decide +kernel
theorem dX7_openFor_1 : decode cX7_openFor 1 = .ok (.invokestatic 98, 3) := by decide +kernel
theorem dX7_openFor_4 : decode cX7_openFor 4 = .ok (.ifCond .ne 7, 3) := by decide +kernel
theorem dX7_openFor_7 : decode cX7_openFor 7 = .ok (.sipush (-1001), 3) := by decide +kernel
theorem dX7_openFor_10 : decode cX7_openFor 10 = .ok (.ireturn, 1) := by decide +kernel
theorem dX7_openFor_11 : decode cX7_openFor 11 = .ok (.aload_n 0, 1) := by decide +kernel
theorem dX7_openFor_12 : decode cX7_openFor 12 = .ok (.iload_n 1, 1) := by decide +kernel
theorem dX7_openFor_13 : decode cX7_openFor 13 = .ok (.invokevirtual 126, 3) := by decide +kernel
theorem dX7_openFor_16 : decode cX7_openFor 16 = .ok (.istore_n 2, 1) := by decide +kernel
theorem dX7_openFor_17 : decode cX7_openFor 17 = .ok (.iconst 0, 1) := by decide +kernel
theorem dX7_openFor_18 : decode cX7_openFor 18 = .ok (.istore_n 3, 1) := by decide +kernel
theorem dX7_openFor_19 : decode cX7_openFor 19 = .ok (.iload_n 2, 1) := by decide +kernel
theorem dX7_openFor_20 : decode cX7_openFor 20 = .ok (.sipush (-1006), 3) := by decide +kernel
theorem dX7_openFor_23 : decode cX7_openFor 23 = .ok (.if_icmp .eq 34, 3) := by decide +kernel
theorem dX7_openFor_26 : decode cX7_openFor 26 = .ok (.iload_n 3, 1) := by decide +kernel
theorem dX7_openFor_27 : decode cX7_openFor 27 = .ok (.sipush 4000, 3) := by decide +kernel
theorem dX7_openFor_30 : decode cX7_openFor 30 = .ok (.if_icmp .ge 27, 3) := by decide +kernel
theorem dX7_openFor_33 : decode cX7_openFor 33 = .ok (.aload_n 0, 1) := by decide +kernel
theorem dX7_openFor_34 : decode cX7_openFor 34 = .ok (.iload_n 1, 1) := by decide +kernel
theorem dX7_openFor_35 : decode cX7_openFor 35 = .ok (.aload_n 0, 1) := by decide +kernel
theorem dX7_openFor_36 : decode cX7_openFor 36 = .ok (.getfield 7, 3) := by decide +kernel
theorem dX7_openFor_39 : decode cX7_openFor 39 = .ok (.iconst 0, 1) := by decide +kernel
theorem dX7_openFor_40 : decode cX7_openFor 40 = .ok (.iaload, 1) := by decide +kernel
theorem dX7_openFor_41 : decode cX7_openFor 41 = .ok (.iload_n 2, 1) := by decide +kernel
theorem dX7_openFor_42 : decode cX7_openFor 42 = .ok (.iadd, 1) := by decide +kernel
theorem dX7_openFor_43 : decode cX7_openFor 43 = .ok (.iload_n 3, 1) := by decide +kernel
theorem dX7_openFor_44 : decode cX7_openFor 44 = .ok (.iadd, 1) := by decide +kernel
theorem dX7_openFor_45 : decode cX7_openFor 45 = .ok (.invokevirtual 51, 3) := by decide +kernel
theorem dX7_openFor_48 : decode cX7_openFor 48 = .ok (.ifCond .eq 9, 3) := by decide +kernel
theorem dX7_openFor_51 : decode cX7_openFor 51 = .ok (.iinc 3 1, 3) := by decide +kernel
theorem dX7_openFor_54 : decode cX7_openFor 54 = .ok (.goto (-35), 3) := by decide +kernel
theorem dX7_openFor_57 : decode cX7_openFor 57 = .ok (.iload_n 2, 1) := by decide +kernel
theorem dX7_openFor_58 : decode cX7_openFor 58 = .ok (.sipush (-1006), 3) := by decide +kernel
theorem dX7_openFor_61 : decode cX7_openFor 61 = .ok (.if_icmp .ne 9, 3) := by decide +kernel
theorem dX7_openFor_64 : decode cX7_openFor 64 = .ok (.sipush (-1006), 3) := by decide +kernel
theorem dX7_openFor_67 : decode cX7_openFor 67 = .ok (.goto 4, 3) := by decide +kernel
theorem dX7_openFor_70 : decode cX7_openFor 70 = .ok (.iload_n 3, 1) := by decide +kernel
theorem dX7_openFor_71 : decode cX7_openFor 71 = .ok (.ireturn, 1) := by decide +kernel
set_option maxRecDepth 20000 in
theorem ggX7_untilPassed_X7_isWord : GoodIn wsX7_untilPassed wsX7_isWord := goodIn_r _ [5, 6, 7, 8, 4, 9, 75, 76, 77, 78, 79, 80, 81, 82] (by decide +kernel) (by decide +kernel)
set_option maxRecDepth 20000 in
theorem gX7_untilPassed_X7_isWord : GoodIn wsX7_untilPassed (wsV RX7 111 RX7 yX7_isWord wsX7_isWord) := goodIn_app (goodIn_of _ (by decide +kernel)) ggX7_untilPassed_X7_isWord
set_option maxRecDepth 20000 in
theorem ggX7_untilPassed_X7_putAside : GoodIn wsX7_untilPassed wsX7_putAside := goodIn_r _ [13, 14, 6, 75, 76, 77, 78, 79, 80, 81, 82] (by decide +kernel) (by decide +kernel)
set_option maxRecDepth 20000 in
theorem gX7_untilPassed_X7_putAside : GoodIn wsX7_untilPassed (wsV RX7 129 RX7 yX7_putAside wsX7_putAside) := goodIn_app (goodIn_of _ (by decide +kernel)) ggX7_untilPassed_X7_putAside
set_option maxRecDepth 20000 in
theorem ggX7_untilPassed_X7_hasPassed : GoodIn wsX7_untilPassed wsX7_hasPassed := goodIn_r _ [18, 6, 19, 20, 4, 21, 75, 76, 77, 78, 79, 80, 81, 82] (by decide +kernel) (by decide +kernel)
set_option maxRecDepth 20000 in
theorem gX7_untilPassed_X7_hasPassed : GoodIn wsX7_untilPassed (wsV RX7 64 RX7 yX7_hasPassed wsX7_hasPassed) := goodIn_app (goodIn_of _ (by decide +kernel)) ggX7_untilPassed_X7_hasPassed
set_option maxRecDepth 20000 in
theorem ggX7_untilPassed_X7_step : GoodIn wsX7_untilPassed wsX7_step := goodIn_r _ [25, 6, 26, 27, 28, 4, 29, 30, 31, 32, 33, 34, 35, 36, 37, 38, 39, 40, 41, 42, 43, 44, 45, 46, 47, 48, 49, 50, 51, 52, 53, 54, 55, 56, 57, 58, 15, 16, 17, 18, 19, 20, 21, 59, 60, 61, 62, 63, 64, 65, 66, 67, 68, 69, 70, 75, 76, 77, 78, 79, 80, 81, 82] (by decide +kernel) (by decide +kernel)
set_option maxRecDepth 20000 in
theorem gX7_untilPassed_X7_step : GoodIn wsX7_untilPassed (wsV RX7 86 RX7 yX7_step wsX7_step) := goodIn_app (goodIn_of _ (by decide +kernel)) ggX7_untilPassed_X7_step
set_option maxRecDepth 20000 in
theorem ggX7_untilPassed_X7_putBack : GoodIn wsX7_untilPassed wsX7_putBack := goodIn_r _ [74, 6, 14, 75, 76, 77, 78, 79, 80, 81, 82] (by decide +kernel) (by decide +kernel)
set_option maxRecDepth 20000 in
theorem gX7_untilPassed_X7_putBack : GoodIn wsX7_untilPassed (wsV RX7 132 RX7 yX7_putBack wsX7_putBack) := goodIn_app (goodIn_of _ (by decide +kernel)) ggX7_untilPassed_X7_putBack
theorem dX7_untilPassed_0 : decode cX7_untilPassed 0 = .ok (.aload_n 0, 1) := by decide +kernel
theorem dX7_untilPassed_1 : decode cX7_untilPassed 1 = .ok (.iload_n 1, 1) := by decide +kernel
theorem dX7_untilPassed_2 : decode cX7_untilPassed 2 = .ok (.invokevirtual 111, 3) := by decide +kernel
theorem dX7_untilPassed_5 : decode cX7_untilPassed 5 = .ok (.ifCond .ne 7, 3) := by decide +kernel
theorem dX7_untilPassed_8 : decode cX7_untilPassed 8 = .ok (.sipush (-1001), 3) := by decide +kernel
theorem dX7_untilPassed_11 : decode cX7_untilPassed 11 = .ok (.ireturn, 1) := by decide +kernel
theorem dX7_untilPassed_12 : decode cX7_untilPassed 12 = .ok (.aload_n 0, 1) := by decide +kernel
theorem dX7_untilPassed_13 : decode cX7_untilPassed 13 = .ok (.invokevirtual 129, 3) := by decide +kernel
theorem dX7_untilPassed_16 : decode cX7_untilPassed 16 = .ok (.iconst 0, 1) := by decide +kernel
theorem dX7_untilPassed_17 : decode cX7_untilPassed 17 = .ok (.istore_n 2, 1) := by decide +kernel
theorem dX7_untilPassed_18 : decode cX7_untilPassed 18 = .ok (.aload_n 0, 1) := by decide +kernel
theorem dX7_untilPassed_19 : decode cX7_untilPassed 19 = .ok (.iload_n 1, 1) := by decide +kernel
theorem dX7_untilPassed_20 : decode cX7_untilPassed 20 = .ok (.invokevirtual 64, 3) := by decide +kernel
theorem dX7_untilPassed_23 : decode cX7_untilPassed 23 = .ok (.ifCond .ne 20, 3) := by decide +kernel
theorem dX7_untilPassed_26 : decode cX7_untilPassed 26 = .ok (.iload_n 2, 1) := by decide +kernel
theorem dX7_untilPassed_27 : decode cX7_untilPassed 27 = .ok (.sipush 1000, 3) := by decide +kernel
theorem dX7_untilPassed_30 : decode cX7_untilPassed 30 = .ok (.if_icmp .ge 13, 3) := by decide +kernel
theorem dX7_untilPassed_33 : decode cX7_untilPassed 33 = .ok (.aload_n 0, 1) := by decide +kernel
theorem dX7_untilPassed_34 : decode cX7_untilPassed 34 = .ok (.invokevirtual 86, 3) := by decide +kernel
theorem dX7_untilPassed_37 : decode cX7_untilPassed 37 = .ok (.iinc 2 1, 3) := by decide +kernel
theorem dX7_untilPassed_40 : decode cX7_untilPassed 40 = .ok (.goto (-22), 3) := by decide +kernel
theorem dX7_untilPassed_43 : decode cX7_untilPassed 43 = .ok (.aload_n 0, 1) := by decide +kernel
theorem dX7_untilPassed_44 : decode cX7_untilPassed 44 = .ok (.iload_n 1, 1) := by decide +kernel
theorem dX7_untilPassed_45 : decode cX7_untilPassed 45 = .ok (.invokevirtual 64, 3) := by decide +kernel
theorem dX7_untilPassed_48 : decode cX7_untilPassed 48 = .ok (.istore_n 3, 1) := by decide +kernel
theorem dX7_untilPassed_49 : decode cX7_untilPassed 49 = .ok (.aload_n 0, 1) := by decide +kernel
theorem dX7_untilPassed_50 : decode cX7_untilPassed 50 = .ok (.invokevirtual 132, 3) := by decide +kernel
theorem dX7_untilPassed_53 : decode cX7_untilPassed 53 = .ok (.iload_n 3, 1) := by decide +kernel
theorem dX7_untilPassed_54 : decode cX7_untilPassed 54 = .ok (.ifCond .eq 7, 3) := by decide +kernel
theorem dX7_untilPassed_57 : decode cX7_untilPassed 57 = .ok (.iload_n 2, 1) := by decide +kernel
theorem dX7_untilPassed_58 : decode cX7_untilPassed 58 = .ok (.goto 6, 3) := by decide +kernel
theorem dX7_untilPassed_61 : decode cX7_untilPassed 61 = .ok (.sipush (-1006), 3) := by decide +kernel
theorem dX7_untilPassed_64 : decode cX7_untilPassed 64 = .ok (.ireturn, 1) := by decide +kernel
set_option maxRecDepth 20000 in
theorem ggX7_ifRun_X7_in : GoodIn wsX7_ifRun wsX7_in := goodIn_r _ [5] (by decide +kernel) (by decide +kernel)
set_option maxRecDepth 20000 in
theorem gX7_ifRun_X7_in : GoodIn wsX7_ifRun (va_wsS RX7 36 yX7_in wsX7_in) := goodIn_app (goodIn_of _ (by decide +kernel)) ggX7_ifRun_X7_in
set_option maxRecDepth 20000 in
theorem ggX7_ifRun_X7_putAside : GoodIn wsX7_ifRun wsX7_putAside := goodIn_r _ [9, 10, 1, 83, 84, 85, 86, 87, 88, 89, 90] (by decide +kernel) (by decide +kernel)
set_option maxRecDepth 20000 in
theorem gX7_ifRun_X7_putAside : GoodIn wsX7_ifRun (wsV RX7 129 RX7 yX7_putAside wsX7_putAside) := goodIn_app (goodIn_of _ (by decide +kernel)) ggX7_ifRun_X7_putAside
set_option maxRecDepth 20000 in
theorem ggX7_ifRun_X7_passedWords : GoodIn wsX7_ifRun wsX7_passedWords := goodIn_r _ [14, 1, 15, 16, 4, 17, 83, 84, 85, 86, 87, 88, 89, 90] (by decide +kernel) (by decide +kernel)
set_option maxRecDepth 20000 in
theorem gX7_ifRun_X7_passedWords : GoodIn wsX7_ifRun (wsV RX7 102 RX7 yX7_passedWords wsX7_passedWords) := goodIn_app (goodIn_of _ (by decide +kernel)) ggX7_ifRun_X7_passedWords
set_option maxRecDepth 20000 in
theorem ggX7_ifRun_X7_backs : GoodIn wsX7_ifRun wsX7_backs := goodIn_r _ [21, 1, 15, 16, 4, 17, 83, 84, 85, 86, 87, 88, 89, 90] (by decide +kernel) (by decide +kernel)
set_option maxRecDepth 20000 in
theorem gX7_ifRun_X7_backs : GoodIn wsX7_ifRun (wsV RX7 135 RX7 yX7_backs wsX7_backs) := goodIn_app (goodIn_of _ (by decide +kernel)) ggX7_ifRun_X7_backs
set_option maxRecDepth 20000 in
theorem ggX7_ifRun_X7_runs : GoodIn wsX7_ifRun wsX7_runs := goodIn_r _ [25, 26, 27, 28, 4, 29, 1, 30, 31, 32, 33, 34, 35, 36, 37, 38, 39, 40, 41, 42, 43, 44, 45, 46, 47, 48, 49, 50, 51, 52, 53, 54, 55, 56, 57, 58, 59, 60, 61, 62, 63, 64, 65, 66, 15, 16, 17, 67, 68, 69, 70, 71, 72, 73, 74, 75, 76, 77, 78, 83, 84, 85, 86, 87, 88, 89, 90] (by decide +kernel) (by decide +kernel)
set_option maxRecDepth 20000 in
theorem gX7_ifRun_X7_runs : GoodIn wsX7_ifRun (wsV RX7 105 RX7 yX7_runs wsX7_runs) := goodIn_app (goodIn_of _ (by decide +kernel)) ggX7_ifRun_X7_runs
set_option maxRecDepth 20000 in
theorem ggX7_ifRun_X7_putBack : GoodIn wsX7_ifRun wsX7_putBack := goodIn_r _ [82, 1, 10, 83, 84, 85, 86, 87, 88, 89, 90] (by decide +kernel) (by decide +kernel)
set_option maxRecDepth 20000 in
theorem gX7_ifRun_X7_putBack : GoodIn wsX7_ifRun (wsV RX7 132 RX7 yX7_putBack wsX7_putBack) := goodIn_app (goodIn_of _ (by decide +kernel)) ggX7_ifRun_X7_putBack
theorem dX7_ifRun_0 : decode cX7_ifRun 0 = .ok (.iload_n 1, 1) := by decide +kernel
theorem dX7_ifRun_1 : decode cX7_ifRun 1 = .ok (.iconst 1, 1) := by decide +kernel
theorem dX7_ifRun_2 : decode cX7_ifRun 2 = .ok (.sipush 1000, 3) := by decide +kernel
theorem dX7_ifRun_5 : decode cX7_ifRun 5 = .ok (.invokestatic 36, 3) := by decide +kernel
theorem dX7_ifRun_8 : decode cX7_ifRun 8 = .ok (.ifCond .eq 12, 3) := by decide +kernel
theorem dX7_ifRun_11 : decode cX7_ifRun 11 = .ok (.iload_n 2, 1) := by decide +kernel
theorem dX7_ifRun_12 : decode cX7_ifRun 12 = .ok (.iconst 0, 1) := by decide +kernel
theorem dX7_ifRun_13 : decode cX7_ifRun 13 = .ok (.iconst 3, 1) := by decide +kernel
theorem dX7_ifRun_14 : decode cX7_ifRun 14 = .ok (.invokestatic 36, 3) := by decide +kernel
theorem dX7_ifRun_17 : decode cX7_ifRun 17 = .ok (.ifCond .ne 7, 3) := by decide +kernel
theorem dX7_ifRun_20 : decode cX7_ifRun 20 = .ok (.sipush (-1002), 3) := by decide +kernel
theorem dX7_ifRun_23 : decode cX7_ifRun 23 = .ok (.ireturn, 1) := by decide +kernel
theorem dX7_ifRun_24 : decode cX7_ifRun 24 = .ok (.aload_n 0, 1) := by decide +kernel
theorem dX7_ifRun_25 : decode cX7_ifRun 25 = .ok (.invokevirtual 129, 3) := by decide +kernel
theorem dX7_ifRun_28 : decode cX7_ifRun 28 = .ok (.iload_n 2, 1) := by decide +kernel
theorem dX7_ifRun_29 : decode cX7_ifRun 29 = .ok (.ifCond .ne 10, 3) := by decide +kernel
theorem dX7_ifRun_32 : decode cX7_ifRun 32 = .ok (.aload_n 0, 1) := by decide +kernel
theorem dX7_ifRun_33 : decode cX7_ifRun 33 = .ok (.invokevirtual 102, 3) := by decide +kernel
theorem dX7_ifRun_36 : decode cX7_ifRun 36 = .ok (.goto 35, 3) := by decide +kernel
theorem dX7_ifRun_39 : decode cX7_ifRun 39 = .ok (.iload_n 2, 1) := by decide +kernel
theorem dX7_ifRun_40 : decode cX7_ifRun 40 = .ok (.iconst 1, 1) := by decide +kernel
theorem dX7_ifRun_41 : decode cX7_ifRun 41 = .ok (.if_icmp .ne 12, 3) := by decide +kernel
theorem dX7_ifRun_44 : decode cX7_ifRun 44 = .ok (.aload_n 0, 1) := by decide +kernel
theorem dX7_ifRun_45 : decode cX7_ifRun 45 = .ok (.getfield 7, 3) := by decide +kernel
theorem dX7_ifRun_48 : decode cX7_ifRun 48 = .ok (.iconst 3, 1) := by decide +kernel
theorem dX7_ifRun_49 : decode cX7_ifRun 49 = .ok (.iaload, 1) := by decide +kernel
theorem dX7_ifRun_50 : decode cX7_ifRun 50 = .ok (.goto 21, 3) := by decide +kernel
theorem dX7_ifRun_53 : decode cX7_ifRun 53 = .ok (.iload_n 2, 1) := by decide +kernel
theorem dX7_ifRun_54 : decode cX7_ifRun 54 = .ok (.iconst 2, 1) := by decide +kernel
theorem dX7_ifRun_55 : decode cX7_ifRun 55 = .ok (.if_icmp .ne 10, 3) := by decide +kernel
theorem dX7_ifRun_58 : decode cX7_ifRun 58 = .ok (.aload_n 0, 1) := by decide +kernel
theorem dX7_ifRun_59 : decode cX7_ifRun 59 = .ok (.invokevirtual 135, 3) := by decide +kernel
theorem dX7_ifRun_62 : decode cX7_ifRun 62 = .ok (.goto 9, 3) := by decide +kernel
theorem dX7_ifRun_65 : decode cX7_ifRun 65 = .ok (.aload_n 0, 1) := by decide +kernel
theorem dX7_ifRun_66 : decode cX7_ifRun 66 = .ok (.getfield 7, 3) := by decide +kernel
theorem dX7_ifRun_69 : decode cX7_ifRun 69 = .ok (.iconst 1, 1) := by decide +kernel
theorem dX7_ifRun_70 : decode cX7_ifRun 70 = .ok (.iaload, 1) := by decide +kernel
theorem dX7_ifRun_71 : decode cX7_ifRun 71 = .ok (.istore_n 3, 1) := by decide +kernel
theorem dX7_ifRun_72 : decode cX7_ifRun 72 = .ok (.aload_n 0, 1) := by decide +kernel
theorem dX7_ifRun_73 : decode cX7_ifRun 73 = .ok (.iload_n 1, 1) := by decide +kernel
theorem dX7_ifRun_74 : decode cX7_ifRun 74 = .ok (.invokevirtual 105, 3) := by decide +kernel
theorem dX7_ifRun_77 : decode cX7_ifRun 77 = .ok (.iload_n 2, 1) := by decide +kernel
theorem dX7_ifRun_78 : decode cX7_ifRun 78 = .ok (.ifCond .ne 10, 3) := by decide +kernel
theorem dX7_ifRun_81 : decode cX7_ifRun 81 = .ok (.aload_n 0, 1) := by decide +kernel
theorem dX7_ifRun_82 : decode cX7_ifRun 82 = .ok (.invokevirtual 102, 3) := by decide +kernel
theorem dX7_ifRun_85 : decode cX7_ifRun 85 = .ok (.goto 35, 3) := by decide +kernel
theorem dX7_ifRun_88 : decode cX7_ifRun 88 = .ok (.iload_n 2, 1) := by decide +kernel
theorem dX7_ifRun_89 : decode cX7_ifRun 89 = .ok (.iconst 1, 1) := by decide +kernel
theorem dX7_ifRun_90 : decode cX7_ifRun 90 = .ok (.if_icmp .ne 12, 3) := by decide +kernel
theorem dX7_ifRun_93 : decode cX7_ifRun 93 = .ok (.aload_n 0, 1) := by decide +kernel
theorem dX7_ifRun_94 : decode cX7_ifRun 94 = .ok (.getfield 7, 3) := by decide +kernel
theorem dX7_ifRun_97 : decode cX7_ifRun 97 = .ok (.iconst 3, 1) := by decide +kernel
theorem dX7_ifRun_98 : decode cX7_ifRun 98 = .ok (.iaload, 1) := by decide +kernel
theorem dX7_ifRun_99 : decode cX7_ifRun 99 = .ok (.goto 21, 3) := by decide +kernel
theorem dX7_ifRun_102 : decode cX7_ifRun 102 = .ok (.iload_n 2, 1) := by decide +kernel
theorem dX7_ifRun_103 : decode cX7_ifRun 103 = .ok (.iconst 2, 1) := by decide +kernel
theorem dX7_ifRun_104 : decode cX7_ifRun 104 = .ok (.if_icmp .ne 10, 3) := by decide +kernel
theorem dX7_ifRun_107 : decode cX7_ifRun 107 = .ok (.aload_n 0, 1) := by decide +kernel
theorem dX7_ifRun_108 : decode cX7_ifRun 108 = .ok (.invokevirtual 135, 3) := by decide +kernel
theorem dX7_ifRun_111 : decode cX7_ifRun 111 = .ok (.goto 9, 3) := by decide +kernel
theorem dX7_ifRun_114 : decode cX7_ifRun 114 = .ok (.aload_n 0, 1) := by decide +kernel
theorem dX7_ifRun_115 : decode cX7_ifRun 115 = .ok (.getfield 7, 3) := by decide +kernel
theorem dX7_ifRun_118 : decode cX7_ifRun 118 = .ok (.iconst 1, 1) := by decide +kernel
theorem dX7_ifRun_119 : decode cX7_ifRun 119 = .ok (.iaload, 1) := by decide +kernel
theorem dX7_ifRun_120 : decode cX7_ifRun 120 = .ok (.istore 4, 2) := by decide +kernel
theorem dX7_ifRun_122 : decode cX7_ifRun 122 = .ok (.aload_n 0, 1) := by decide +kernel
theorem dX7_ifRun_123 : decode cX7_ifRun 123 = .ok (.invokevirtual 132, 3) := by decide +kernel
theorem dX7_ifRun_126 : decode cX7_ifRun 126 = .ok (.iload 4, 2) := by decide +kernel
theorem dX7_ifRun_128 : decode cX7_ifRun 128 = .ok (.iload_n 3, 1) := by decide +kernel
theorem dX7_ifRun_129 : decode cX7_ifRun 129 = .ok (.isub, 1) := by decide +kernel
theorem dX7_ifRun_130 : decode cX7_ifRun 130 = .ok (.ireturn, 1) := by decide +kernel
set_option maxRecDepth 20000 in
theorem ggX7_leastSlack_X7_isGate : GoodIn wsX7_leastSlack wsX7_isGate := goodIn_r _ [5, 6, 7, 4, 8] (by decide +kernel) (by decide +kernel)
set_option maxRecDepth 20000 in
theorem gX7_leastSlack_X7_isGate : GoodIn wsX7_leastSlack (va_wsS RX7 98 yX7_isGate wsX7_isGate) := goodIn_app (goodIn_of _ (by decide +kernel)) ggX7_leastSlack_X7_isGate
set_option maxRecDepth 20000 in
theorem ggX7_leastSlack_X7_in : GoodIn wsX7_leastSlack wsX7_in := goodIn_r _ [8] (by decide +kernel) (by decide +kernel)
set_option maxRecDepth 20000 in
theorem gX7_leastSlack_X7_in : GoodIn wsX7_leastSlack (va_wsS RX7 36 yX7_in wsX7_in) := goodIn_app (goodIn_of _ (by decide +kernel)) ggX7_leastSlack_X7_in
set_option maxRecDepth 20000 in
theorem ggX7_leastSlack_X7_passedWords : GoodIn wsX7_leastSlack wsX7_passedWords := goodIn_r _ [12, 1, 13, 14, 4, 15, 82, 83, 84, 85, 86, 87, 88, 89] (by decide +kernel) (by decide +kernel)
set_option maxRecDepth 20000 in
theorem gX7_leastSlack_X7_passedWords : GoodIn wsX7_leastSlack (wsV RX7 102 RX7 yX7_passedWords wsX7_passedWords) := goodIn_app (goodIn_of _ (by decide +kernel)) ggX7_leastSlack_X7_passedWords
set_option maxRecDepth 20000 in
theorem ggX7_leastSlack_X7_putAside : GoodIn wsX7_leastSlack wsX7_putAside := goodIn_r _ [19, 20, 1, 82, 83, 84, 85, 86, 87, 88, 89] (by decide +kernel) (by decide +kernel)
set_option maxRecDepth 20000 in
theorem gX7_leastSlack_X7_putAside : GoodIn wsX7_leastSlack (wsV RX7 129 RX7 yX7_putAside wsX7_putAside) := goodIn_app (goodIn_of _ (by decide +kernel)) ggX7_leastSlack_X7_putAside
set_option maxRecDepth 20000 in
theorem ggX7_leastSlack_X7_ofGate : GoodIn wsX7_leastSlack wsX7_ofGate := goodIn_r _ [23] (by decide +kernel) (by decide +kernel)
set_option maxRecDepth 20000 in
theorem gX7_leastSlack_X7_ofGate : GoodIn wsX7_leastSlack (va_wsS RX7 33 yX7_ofGate wsX7_ofGate) := goodIn_app (goodIn_of _ (by decide +kernel)) ggX7_leastSlack_X7_ofGate
set_option maxRecDepth 20000 in
theorem ggX7_leastSlack_X7_runs : GoodIn wsX7_leastSlack wsX7_runs := goodIn_r _ [27, 28, 29, 30, 4, 31, 1, 32, 33, 34, 35, 36, 37, 38, 39, 21, 22, 23, 40, 41, 42, 43, 44, 45, 46, 47, 48, 49, 50, 51, 52, 53, 54, 55, 56, 57, 58, 59, 60, 61, 62, 63, 64, 65, 13, 14, 15, 66, 67, 68, 69, 70, 71, 72, 73, 74, 75, 76, 77, 82, 83, 84, 85, 86, 87, 88, 89] (by decide +kernel) (by decide +kernel)
set_option maxRecDepth 20000 in
theorem gX7_leastSlack_X7_runs : GoodIn wsX7_leastSlack (wsV RX7 105 RX7 yX7_runs wsX7_runs) := goodIn_app (goodIn_of _ (by decide +kernel)) ggX7_leastSlack_X7_runs
set_option maxRecDepth 20000 in
theorem ggX7_leastSlack_X7_putBack : GoodIn wsX7_leastSlack wsX7_putBack := goodIn_r _ [81, 1, 20, 82, 83, 84, 85, 86, 87, 88, 89] (by decide +kernel) (by decide +kernel)
set_option maxRecDepth 20000 in
theorem gX7_leastSlack_X7_putBack : GoodIn wsX7_leastSlack (wsV RX7 132 RX7 yX7_putBack wsX7_putBack) := goodIn_app (goodIn_of _ (by decide +kernel)) ggX7_leastSlack_X7_putBack
theorem dX7_leastSlack_0 : decode cX7_leastSlack 0 = .ok (.iload_n 1, 1) := by decide +kernel
theorem dX7_leastSlack_1 : decode cX7_leastSlack 1 = .ok (.invokestatic 98, 3) := by decide +kernel
theorem dX7_leastSlack_4 : decode cX7_leastSlack 4 = .ok (.ifCond .ne 7, 3) := by decide +kernel
theorem dX7_leastSlack_7 : decode cX7_leastSlack 7 = .ok (.sipush (-1001), 3) := by decide +kernel
theorem dX7_leastSlack_10 : decode cX7_leastSlack 10 = .ok (.ireturn, 1) := by decide +kernel
theorem dX7_leastSlack_11 : decode cX7_leastSlack 11 = .ok (.iload_n 2, 1) := by decide +kernel
theorem dX7_leastSlack_12 : decode cX7_leastSlack 12 = .ok (.iconst 0, 1) := by decide +kernel
theorem dX7_leastSlack_13 : decode cX7_leastSlack 13 = .ok (.iconst 1, 1) := by decide +kernel
theorem dX7_leastSlack_14 : decode cX7_leastSlack 14 = .ok (.invokestatic 36, 3) := by decide +kernel
theorem dX7_leastSlack_17 : decode cX7_leastSlack 17 = .ok (.ifCond .ne 7, 3) := by decide +kernel
theorem dX7_leastSlack_20 : decode cX7_leastSlack 20 = .ok (.sipush (-1002), 3) := by decide +kernel
theorem dX7_leastSlack_23 : decode cX7_leastSlack 23 = .ok (.ireturn, 1) := by decide +kernel
theorem dX7_leastSlack_24 : decode cX7_leastSlack 24 = .ok (.aload_n 0, 1) := by decide +kernel
theorem dX7_leastSlack_25 : decode cX7_leastSlack 25 = .ok (.invokevirtual 102, 3) := by decide +kernel
theorem dX7_leastSlack_28 : decode cX7_leastSlack 28 = .ok (.istore_n 3, 1) := by decide +kernel
theorem dX7_leastSlack_29 : decode cX7_leastSlack 29 = .ok (.iconst 0, 1) := by decide +kernel
theorem dX7_leastSlack_30 : decode cX7_leastSlack 30 = .ok (.istore 4, 2) := by decide +kernel
theorem dX7_leastSlack_32 : decode cX7_leastSlack 32 = .ok (.iconst (-1), 1) := by decide +kernel
theorem dX7_leastSlack_33 : decode cX7_leastSlack 33 = .ok (.istore 5, 2) := by decide +kernel
theorem dX7_leastSlack_35 : decode cX7_leastSlack 35 = .ok (.aload_n 0, 1) := by decide +kernel
theorem dX7_leastSlack_36 : decode cX7_leastSlack 36 = .ok (.invokevirtual 129, 3) := by decide +kernel
theorem dX7_leastSlack_39 : decode cX7_leastSlack 39 = .ok (.iconst 0, 1) := by decide +kernel
theorem dX7_leastSlack_40 : decode cX7_leastSlack 40 = .ok (.istore 6, 2) := by decide +kernel
theorem dX7_leastSlack_42 : decode cX7_leastSlack 42 = .ok (.iload 6, 2) := by decide +kernel
theorem dX7_leastSlack_44 : decode cX7_leastSlack 44 = .ok (.bipush 100, 2) := by decide +kernel
theorem dX7_leastSlack_46 : decode cX7_leastSlack 46 = .ok (.if_icmp .ge 72, 3) := by decide +kernel
theorem dX7_leastSlack_49 : decode cX7_leastSlack 49 = .ok (.aload_n 0, 1) := by decide +kernel
theorem dX7_leastSlack_50 : decode cX7_leastSlack 50 = .ok (.getfield 7, 3) := by decide +kernel
theorem dX7_leastSlack_53 : decode cX7_leastSlack 53 = .ok (.iload_n 1, 1) := by decide +kernel
theorem dX7_leastSlack_54 : decode cX7_leastSlack 54 = .ok (.iconst 1, 1) := by decide +kernel
theorem dX7_leastSlack_55 : decode cX7_leastSlack 55 = .ok (.invokestatic 33, 3) := by decide +kernel
theorem dX7_leastSlack_58 : decode cX7_leastSlack 58 = .ok (.iload 6, 2) := by decide +kernel
theorem dX7_leastSlack_60 : decode cX7_leastSlack 60 = .ok (.iastore, 1) := by decide +kernel
theorem dX7_leastSlack_61 : decode cX7_leastSlack 61 = .ok (.aload_n 0, 1) := by decide +kernel
theorem dX7_leastSlack_62 : decode cX7_leastSlack 62 = .ok (.sipush 200, 3) := by decide +kernel
theorem dX7_leastSlack_65 : decode cX7_leastSlack 65 = .ok (.invokevirtual 105, 3) := by decide +kernel
theorem dX7_leastSlack_68 : decode cX7_leastSlack 68 = .ok (.aload_n 0, 1) := by decide +kernel
theorem dX7_leastSlack_69 : decode cX7_leastSlack 69 = .ok (.invokevirtual 102, 3) := by decide +kernel
theorem dX7_leastSlack_72 : decode cX7_leastSlack 72 = .ok (.iload_n 3, 1) := by decide +kernel
theorem dX7_leastSlack_73 : decode cX7_leastSlack 73 = .ok (.isub, 1) := by decide +kernel
theorem dX7_leastSlack_74 : decode cX7_leastSlack 74 = .ok (.istore 7, 2) := by decide +kernel
theorem dX7_leastSlack_76 : decode cX7_leastSlack 76 = .ok (.iload 7, 2) := by decide +kernel
theorem dX7_leastSlack_78 : decode cX7_leastSlack 78 = .ok (.iload 5, 2) := by decide +kernel
theorem dX7_leastSlack_80 : decode cX7_leastSlack 80 = .ok (.if_icmp .le 8, 3) := by decide +kernel
theorem dX7_leastSlack_83 : decode cX7_leastSlack 83 = .ok (.iload 6, 2) := by decide +kernel
theorem dX7_leastSlack_85 : decode cX7_leastSlack 85 = .ok (.goto 5, 3) := by decide +kernel
theorem dX7_leastSlack_88 : decode cX7_leastSlack 88 = .ok (.iload 4, 2) := by decide +kernel
theorem dX7_leastSlack_90 : decode cX7_leastSlack 90 = .ok (.istore 4, 2) := by decide +kernel
theorem dX7_leastSlack_92 : decode cX7_leastSlack 92 = .ok (.iload 7, 2) := by decide +kernel
theorem dX7_leastSlack_94 : decode cX7_leastSlack 94 = .ok (.iload 5, 2) := by decide +kernel
theorem dX7_leastSlack_96 : decode cX7_leastSlack 96 = .ok (.if_icmp .le 8, 3) := by decide +kernel
theorem dX7_leastSlack_99 : decode cX7_leastSlack 99 = .ok (.iload 7, 2) := by decide +kernel
theorem dX7_leastSlack_101 : decode cX7_leastSlack 101 = .ok (.goto 5, 3) := by decide +kernel
theorem dX7_leastSlack_104 : decode cX7_leastSlack 104 = .ok (.iload 5, 2) := by decide +kernel
theorem dX7_leastSlack_106 : decode cX7_leastSlack 106 = .ok (.istore 5, 2) := by decide +kernel
theorem dX7_leastSlack_108 : decode cX7_leastSlack 108 = .ok (.aload_n 0, 1) := by decide +kernel
theorem dX7_leastSlack_109 : decode cX7_leastSlack 109 = .ok (.invokevirtual 132, 3) := by decide +kernel
theorem dX7_leastSlack_112 : decode cX7_leastSlack 112 = .ok (.iinc 6 1, 3) := by decide +kernel
theorem dX7_leastSlack_115 : decode cX7_leastSlack 115 = .ok (.goto (-73), 3) := by decide +kernel
theorem dX7_leastSlack_118 : decode cX7_leastSlack 118 = .ok (.iload_n 2, 1) := by decide +kernel
theorem dX7_leastSlack_119 : decode cX7_leastSlack 119 = .ok (.ifCond .ne 8, 3) := by decide +kernel
theorem dX7_leastSlack_122 : decode cX7_leastSlack 122 = .ok (.iload 4, 2) := by decide +kernel
theorem dX7_leastSlack_124 : decode cX7_leastSlack 124 = .ok (.goto 5, 3) := by decide +kernel
theorem dX7_leastSlack_127 : decode cX7_leastSlack 127 = .ok (.iload 5, 2) := by decide +kernel
theorem dX7_leastSlack_129 : decode cX7_leastSlack 129 = .ok (.ireturn, 1) := by decide +kernel
set_option maxRecDepth 20000 in
theorem ggX7_opensWith_X7_ofStore : GoodIn wsX7_opensWith wsX7_ofStore := goodIn_r _ [5] (by decide +kernel) (by decide +kernel)
set_option maxRecDepth 20000 in
theorem gX7_opensWith_X7_ofStore : GoodIn wsX7_opensWith (va_wsS RX7 29 yX7_ofStore wsX7_ofStore) := goodIn_app (goodIn_of _ (by decide +kernel)) ggX7_opensWith_X7_ofStore
set_option maxRecDepth 20000 in
theorem ggX7_opensWith_X7_off : GoodIn wsX7_opensWith wsX7_off := goodIn_r _ [9, 1, 10, 11, 12, 4, 13, 2, 3, 5, 17, 18, 19, 20, 21, 22, 23, 24] (by decide +kernel) (by decide +kernel)
set_option maxRecDepth 20000 in
theorem gX7_opensWith_X7_off : GoodIn wsX7_opensWith (wsV RX7 47 RX7 yX7_off wsX7_off) := goodIn_app (goodIn_of _ (by decide +kernel)) ggX7_opensWith_X7_off
set_option maxRecDepth 20000 in
theorem ggX7_opensWith_X7_ofGate : GoodIn wsX7_opensWith wsX7_ofGate := goodIn_r _ [16] (by decide +kernel) (by decide +kernel)
set_option maxRecDepth 20000 in
theorem gX7_opensWith_X7_ofGate : GoodIn wsX7_opensWith (va_wsS RX7 33 yX7_ofGate wsX7_ofGate) := goodIn_app (goodIn_of _ (by decide +kernel)) ggX7_opensWith_X7_ofGate
theorem dX7_opensWith_0 : decode cX7_opensWith 0 = .ok (.iconst 0, 1) := by decide +kernel
theorem dX7_opensWith_1 : decode cX7_opensWith 1 = .ok (.istore 4, 2) := by decide +kernel
theorem dX7_opensWith_3 : decode cX7_opensWith 3 = .ok (.aload_n 0, 1) := by decide +kernel
theorem dX7_opensWith_4 : decode cX7_opensWith 4 = .ok (.getfield 7, 3) := by decide +kernel
theorem dX7_opensWith_7 : decode cX7_opensWith 7 = .ok (.iload_n 1, 1) := by decide +kernel
theorem dX7_opensWith_8 : decode cX7_opensWith 8 = .ok (.iconst 3, 1) := by decide +kernel
theorem dX7_opensWith_9 : decode cX7_opensWith 9 = .ok (.invokestatic 29, 3) := by decide +kernel
theorem dX7_opensWith_12 : decode cX7_opensWith 12 = .ok (.iaload, 1) := by decide +kernel
theorem dX7_opensWith_13 : decode cX7_opensWith 13 = .ok (.istore 5, 2) := by decide +kernel
theorem dX7_opensWith_15 : decode cX7_opensWith 15 = .ok (.aload_n 0, 1) := by decide +kernel
theorem dX7_opensWith_16 : decode cX7_opensWith 16 = .ok (.getfield 7, 3) := by decide +kernel
theorem dX7_opensWith_19 : decode cX7_opensWith 19 = .ok (.iload_n 1, 1) := by decide +kernel
theorem dX7_opensWith_20 : decode cX7_opensWith 20 = .ok (.iconst 3, 1) := by decide +kernel
theorem dX7_opensWith_21 : decode cX7_opensWith 21 = .ok (.invokestatic 29, 3) := by decide +kernel
theorem dX7_opensWith_24 : decode cX7_opensWith 24 = .ok (.iload_n 3, 1) := by decide +kernel
theorem dX7_opensWith_25 : decode cX7_opensWith 25 = .ok (.iastore, 1) := by decide +kernel
theorem dX7_opensWith_26 : decode cX7_opensWith 26 = .ok (.iconst 0, 1) := by decide +kernel
theorem dX7_opensWith_27 : decode cX7_opensWith 27 = .ok (.istore 6, 2) := by decide +kernel
theorem dX7_opensWith_29 : decode cX7_opensWith 29 = .ok (.iload 6, 2) := by decide +kernel
theorem dX7_opensWith_31 : decode cX7_opensWith 31 = .ok (.sipush 200, 3) := by decide +kernel
theorem dX7_opensWith_34 : decode cX7_opensWith 34 = .ok (.if_icmp .ge 45, 3) := by decide +kernel
theorem dX7_opensWith_37 : decode cX7_opensWith 37 = .ok (.iload 4, 2) := by decide +kernel
theorem dX7_opensWith_39 : decode cX7_opensWith 39 = .ok (.aload_n 0, 1) := by decide +kernel
theorem dX7_opensWith_40 : decode cX7_opensWith 40 = .ok (.aload_n 0, 1) := by decide +kernel
theorem dX7_opensWith_41 : decode cX7_opensWith 41 = .ok (.getfield 7, 3) := by decide +kernel
theorem dX7_opensWith_44 : decode cX7_opensWith 44 = .ok (.iconst 0, 1) := by decide +kernel
theorem dX7_opensWith_45 : decode cX7_opensWith 45 = .ok (.iaload, 1) := by decide +kernel
theorem dX7_opensWith_46 : decode cX7_opensWith 46 = .ok (.iload 6, 2) := by decide +kernel
theorem dX7_opensWith_48 : decode cX7_opensWith 48 = .ok (.iadd, 1) := by decide +kernel
theorem dX7_opensWith_49 : decode cX7_opensWith 49 = .ok (.invokevirtual 47, 3) := by decide +kernel
theorem dX7_opensWith_52 : decode cX7_opensWith 52 = .ok (.aload_n 0, 1) := by decide +kernel
theorem dX7_opensWith_53 : decode cX7_opensWith 53 = .ok (.getfield 7, 3) := by decide +kernel
theorem dX7_opensWith_56 : decode cX7_opensWith 56 = .ok (.iload_n 2, 1) := by decide +kernel
theorem dX7_opensWith_57 : decode cX7_opensWith 57 = .ok (.iconst 1, 1) := by decide +kernel
theorem dX7_opensWith_58 : decode cX7_opensWith 58 = .ok (.invokestatic 33, 3) := by decide +kernel
theorem dX7_opensWith_61 : decode cX7_opensWith 61 = .ok (.iaload, 1) := by decide +kernel
theorem dX7_opensWith_62 : decode cX7_opensWith 62 = .ok (.if_icmp .gt 7, 3) := by decide +kernel
theorem dX7_opensWith_65 : decode cX7_opensWith 65 = .ok (.iconst 1, 1) := by decide +kernel
theorem dX7_opensWith_66 : decode cX7_opensWith 66 = .ok (.goto 4, 3) := by decide +kernel
theorem dX7_opensWith_69 : decode cX7_opensWith 69 = .ok (.iconst 0, 1) := by decide +kernel
theorem dX7_opensWith_70 : decode cX7_opensWith 70 = .ok (.iadd, 1) := by decide +kernel
theorem dX7_opensWith_71 : decode cX7_opensWith 71 = .ok (.istore 4, 2) := by decide +kernel
theorem dX7_opensWith_73 : decode cX7_opensWith 73 = .ok (.iinc 6 1, 3) := by decide +kernel
theorem dX7_opensWith_76 : decode cX7_opensWith 76 = .ok (.goto (-47), 3) := by decide +kernel
theorem dX7_opensWith_79 : decode cX7_opensWith 79 = .ok (.aload_n 0, 1) := by decide +kernel
theorem dX7_opensWith_80 : decode cX7_opensWith 80 = .ok (.getfield 7, 3) := by decide +kernel
theorem dX7_opensWith_83 : decode cX7_opensWith 83 = .ok (.iload_n 1, 1) := by decide +kernel
theorem dX7_opensWith_84 : decode cX7_opensWith 84 = .ok (.iconst 3, 1) := by decide +kernel
theorem dX7_opensWith_85 : decode cX7_opensWith 85 = .ok (.invokestatic 29, 3) := by decide +kernel
theorem dX7_opensWith_88 : decode cX7_opensWith 88 = .ok (.iload 5, 2) := by decide +kernel
theorem dX7_opensWith_90 : decode cX7_opensWith 90 = .ok (.iastore, 1) := by decide +kernel
theorem dX7_opensWith_91 : decode cX7_opensWith 91 = .ok (.iload 4, 2) := by decide +kernel
theorem dX7_opensWith_93 : decode cX7_opensWith 93 = .ok (.ireturn, 1) := by decide +kernel
set_option maxRecDepth 20000 in
theorem ggX7_bestLie_X7_isStore : GoodIn wsX7_bestLie wsX7_isStore := goodIn_r _ [4, 5, 6, 3, 7] (by decide +kernel) (by decide +kernel)
set_option maxRecDepth 20000 in
theorem gX7_bestLie_X7_isStore : GoodIn wsX7_bestLie (va_wsS RX7 89 yX7_isStore wsX7_isStore) := goodIn_app (goodIn_of _ (by decide +kernel)) ggX7_bestLie_X7_isStore
set_option maxRecDepth 20000 in
theorem ggX7_bestLie_X7_isGate : GoodIn wsX7_bestLie wsX7_isGate := goodIn_r _ [10, 5, 6, 3, 7] (by decide +kernel) (by decide +kernel)
set_option maxRecDepth 20000 in
theorem gX7_bestLie_X7_isGate : GoodIn wsX7_bestLie (va_wsS RX7 98 yX7_isGate wsX7_isGate) := goodIn_app (goodIn_of _ (by decide +kernel)) ggX7_bestLie_X7_isGate
set_option maxRecDepth 20000 in
theorem ggX7_bestLie_X7_opensWith : GoodIn wsX7_bestLie wsX7_opensWith := goodIn_r _ [14, 15, 16, 17, 3, 18, 19, 20, 21, 22, 23, 24, 25, 26, 27, 28, 29, 30, 31, 32, 33, 34, 35, 36, 37] (by decide +kernel) (by decide +kernel)
set_option maxRecDepth 20000 in
theorem gX7_bestLie_X7_opensWith : GoodIn wsX7_bestLie (wsV RX7 138 RX7 yX7_opensWith wsX7_opensWith) := goodIn_app (goodIn_of _ (by decide +kernel)) ggX7_bestLie_X7_opensWith
theorem dX7_bestLie_0 : decode cX7_bestLie 0 = .ok (.iload_n 1, 1) := by decide +kernel
theorem dX7_bestLie_1 : decode cX7_bestLie 1 = .ok (.invokestatic 89, 3) := by decide +kernel
theorem dX7_bestLie_4 : decode cX7_bestLie 4 = .ok (.ifCond .eq 10, 3) := by decide +kernel
theorem dX7_bestLie_7 : decode cX7_bestLie 7 = .ok (.iload_n 2, 1) := by decide +kernel
theorem dX7_bestLie_8 : decode cX7_bestLie 8 = .ok (.invokestatic 98, 3) := by decide +kernel
theorem dX7_bestLie_11 : decode cX7_bestLie 11 = .ok (.ifCond .ne 7, 3) := by decide +kernel
theorem dX7_bestLie_14 : decode cX7_bestLie 14 = .ok (.sipush (-1001), 3) := by decide +kernel
theorem dX7_bestLie_17 : decode cX7_bestLie 17 = .ok (.ireturn, 1) := by decide +kernel
theorem dX7_bestLie_18 : decode cX7_bestLie 18 = .ok (.iconst 0, 1) := by decide +kernel
theorem dX7_bestLie_19 : decode cX7_bestLie 19 = .ok (.istore_n 3, 1) := by decide +kernel
theorem dX7_bestLie_20 : decode cX7_bestLie 20 = .ok (.iconst (-1), 1) := by decide +kernel
theorem dX7_bestLie_21 : decode cX7_bestLie 21 = .ok (.istore 4, 2) := by decide +kernel
theorem dX7_bestLie_23 : decode cX7_bestLie 23 = .ok (.iconst 0, 1) := by decide +kernel
theorem dX7_bestLie_24 : decode cX7_bestLie 24 = .ok (.istore 5, 2) := by decide +kernel
theorem dX7_bestLie_26 : decode cX7_bestLie 26 = .ok (.iload 5, 2) := by decide +kernel
theorem dX7_bestLie_28 : decode cX7_bestLie 28 = .ok (.bipush 101, 2) := by decide +kernel
theorem dX7_bestLie_30 : decode cX7_bestLie 30 = .ok (.if_icmp .ge 73, 3) := by decide +kernel
theorem dX7_bestLie_33 : decode cX7_bestLie 33 = .ok (.iload 5, 2) := by decide +kernel
theorem dX7_bestLie_35 : decode cX7_bestLie 35 = .ok (.iconst 2, 1) := by decide +kernel
theorem dX7_bestLie_36 : decode cX7_bestLie 36 = .ok (.irem, 1) := by decide +kernel
theorem dX7_bestLie_37 : decode cX7_bestLie 37 = .ok (.iconst 1, 1) := by decide +kernel
theorem dX7_bestLie_38 : decode cX7_bestLie 38 = .ok (.if_icmp .ne 13, 3) := by decide +kernel
theorem dX7_bestLie_41 : decode cX7_bestLie 41 = .ok (.iload 5, 2) := by decide +kernel
theorem dX7_bestLie_43 : decode cX7_bestLie 43 = .ok (.iconst 2, 1) := by decide +kernel
theorem dX7_bestLie_44 : decode cX7_bestLie 44 = .ok (.idiv, 1) := by decide +kernel
theorem dX7_bestLie_45 : decode cX7_bestLie 45 = .ok (.ineg, 1) := by decide +kernel
theorem dX7_bestLie_46 : decode cX7_bestLie 46 = .ok (.iconst 1, 1) := by decide +kernel
theorem dX7_bestLie_47 : decode cX7_bestLie 47 = .ok (.isub, 1) := by decide +kernel
theorem dX7_bestLie_48 : decode cX7_bestLie 48 = .ok (.goto 7, 3) := by decide +kernel
theorem dX7_bestLie_51 : decode cX7_bestLie 51 = .ok (.iload 5, 2) := by decide +kernel
theorem dX7_bestLie_53 : decode cX7_bestLie 53 = .ok (.iconst 2, 1) := by decide +kernel
theorem dX7_bestLie_54 : decode cX7_bestLie 54 = .ok (.idiv, 1) := by decide +kernel
theorem dX7_bestLie_55 : decode cX7_bestLie 55 = .ok (.istore 6, 2) := by decide +kernel
theorem dX7_bestLie_57 : decode cX7_bestLie 57 = .ok (.aload_n 0, 1) := by decide +kernel
theorem dX7_bestLie_58 : decode cX7_bestLie 58 = .ok (.iload_n 1, 1) := by decide +kernel
theorem dX7_bestLie_59 : decode cX7_bestLie 59 = .ok (.iload_n 2, 1) := by decide +kernel
theorem dX7_bestLie_60 : decode cX7_bestLie 60 = .ok (.iload 6, 2) := by decide +kernel
theorem dX7_bestLie_62 : decode cX7_bestLie 62 = .ok (.invokevirtual 138, 3) := by decide +kernel
theorem dX7_bestLie_65 : decode cX7_bestLie 65 = .ok (.istore 7, 2) := by decide +kernel
theorem dX7_bestLie_67 : decode cX7_bestLie 67 = .ok (.iload 7, 2) := by decide +kernel
theorem dX7_bestLie_69 : decode cX7_bestLie 69 = .ok (.iload 4, 2) := by decide +kernel
theorem dX7_bestLie_71 : decode cX7_bestLie 71 = .ok (.if_icmp .le 8, 3) := by decide +kernel
theorem dX7_bestLie_74 : decode cX7_bestLie 74 = .ok (.iload 6, 2) := by decide +kernel
theorem dX7_bestLie_76 : decode cX7_bestLie 76 = .ok (.goto 4, 3) := by decide +kernel
theorem dX7_bestLie_79 : decode cX7_bestLie 79 = .ok (.iload_n 3, 1) := by decide +kernel
theorem dX7_bestLie_80 : decode cX7_bestLie 80 = .ok (.istore_n 3, 1) := by decide +kernel
theorem dX7_bestLie_81 : decode cX7_bestLie 81 = .ok (.iload 7, 2) := by decide +kernel
theorem dX7_bestLie_83 : decode cX7_bestLie 83 = .ok (.iload 4, 2) := by decide +kernel
theorem dX7_bestLie_85 : decode cX7_bestLie 85 = .ok (.if_icmp .le 8, 3) := by decide +kernel
theorem dX7_bestLie_88 : decode cX7_bestLie 88 = .ok (.iload 7, 2) := by decide +kernel
theorem dX7_bestLie_90 : decode cX7_bestLie 90 = .ok (.goto 5, 3) := by decide +kernel
theorem dX7_bestLie_93 : decode cX7_bestLie 93 = .ok (.iload 4, 2) := by decide +kernel
theorem dX7_bestLie_95 : decode cX7_bestLie 95 = .ok (.istore 4, 2) := by decide +kernel
theorem dX7_bestLie_97 : decode cX7_bestLie 97 = .ok (.iinc 5 1, 3) := by decide +kernel
theorem dX7_bestLie_100 : decode cX7_bestLie 100 = .ok (.goto (-74), 3) := by decide +kernel
theorem dX7_bestLie_103 : decode cX7_bestLie 103 = .ok (.iload_n 3, 1) := by decide +kernel
theorem dX7_bestLie_104 : decode cX7_bestLie 104 = .ok (.ireturn, 1) := by decide +kernel
set_option maxRecDepth 20000 in
theorem ggX7_write_X7_in : GoodIn wsX7_write wsX7_in := goodIn_r _ [7] (by decide +kernel) (by decide +kernel)
set_option maxRecDepth 20000 in
theorem gX7_write_X7_in : GoodIn wsX7_write (va_wsS RX7 36 yX7_in wsX7_in) := goodIn_app (goodIn_of _ (by decide +kernel)) ggX7_write_X7_in
theorem dX7_write_0 : decode cX7_write 0 = .ok (.iconst 0, 1) := by decide +kernel
theorem dX7_write_1 : decode cX7_write 1 = .ok (.istore_n 3, 1) := by decide +kernel
theorem dX7_write_2 : decode cX7_write 2 = .ok (.iconst 0, 1) := by decide +kernel
theorem dX7_write_3 : decode cX7_write 3 = .ok (.istore 4, 2) := by decide +kernel
theorem dX7_write_5 : decode cX7_write 5 = .ok (.iconst 0, 1) := by decide +kernel
theorem dX7_write_6 : decode cX7_write 6 = .ok (.istore 5, 2) := by decide +kernel
theorem dX7_write_8 : decode cX7_write 8 = .ok (.iload 5, 2) := by decide +kernel
theorem dX7_write_10 : decode cX7_write 10 = .ok (.bipush 8, 2) := by decide +kernel
theorem dX7_write_12 : decode cX7_write 12 = .ok (.if_icmp .ge 89, 3) := by decide +kernel
theorem dX7_write_15 : decode cX7_write 15 = .ok (.lload_n 1, 1) := by decide +kernel
theorem dX7_write_16 : decode cX7_write 16 = .ok (.bipush 8, 2) := by decide +kernel
theorem dX7_write_18 : decode cX7_write 18 = .ok (.iload 5, 2) := by decide +kernel
theorem dX7_write_20 : decode cX7_write 20 = .ok (.imul, 1) := by decide +kernel
theorem dX7_write_21 : decode cX7_write 21 = .ok (.lushr, 1) := by decide +kernel
theorem dX7_write_22 : decode cX7_write 22 = .ok (.ldc2_w 142, 3) := by decide +kernel
theorem dX7_write_25 : decode cX7_write 25 = .ok (.land, 1) := by decide +kernel
theorem dX7_write_26 : decode cX7_write 26 = .ok (.l2i, 1) := by decide +kernel
theorem dX7_write_27 : decode cX7_write 27 = .ok (.istore 6, 2) := by decide +kernel
theorem dX7_write_29 : decode cX7_write 29 = .ok (.iload 5, 2) := by decide +kernel
theorem dX7_write_31 : decode cX7_write 31 = .ok (.ifCond .le 19, 3) := by decide +kernel
theorem dX7_write_34 : decode cX7_write 34 = .ok (.lload_n 1, 1) := by decide +kernel
theorem dX7_write_35 : decode cX7_write 35 = .ok (.bipush 8, 2) := by decide +kernel
theorem dX7_write_37 : decode cX7_write 37 = .ok (.iload 5, 2) := by decide +kernel
theorem dX7_write_39 : decode cX7_write 39 = .ok (.imul, 1) := by decide +kernel
theorem dX7_write_40 : decode cX7_write 40 = .ok (.lushr, 1) := by decide +kernel
theorem dX7_write_41 : decode cX7_write 41 = .ok (.lconst 0, 1) := by decide +kernel
theorem dX7_write_42 : decode cX7_write 42 = .ok (.lcmp, 1) := by decide +kernel
theorem dX7_write_43 : decode cX7_write 43 = .ok (.ifCond .ne 7, 3) := by decide +kernel
theorem dX7_write_46 : decode cX7_write 46 = .ok (.iconst 1, 1) := by decide +kernel
theorem dX7_write_47 : decode cX7_write 47 = .ok (.goto 4, 3) := by decide +kernel
theorem dX7_write_50 : decode cX7_write 50 = .ok (.iconst 0, 1) := by decide +kernel
theorem dX7_write_51 : decode cX7_write 51 = .ok (.istore 7, 2) := by decide +kernel
theorem dX7_write_53 : decode cX7_write 53 = .ok (.iload 4, 2) := by decide +kernel
theorem dX7_write_55 : decode cX7_write 55 = .ok (.ifCond .ne 20, 3) := by decide +kernel
theorem dX7_write_58 : decode cX7_write 58 = .ok (.iload 7, 2) := by decide +kernel
theorem dX7_write_60 : decode cX7_write 60 = .ok (.ifCond .ne 19, 3) := by decide +kernel
theorem dX7_write_63 : decode cX7_write 63 = .ok (.iload 6, 2) := by decide +kernel
theorem dX7_write_65 : decode cX7_write 65 = .ok (.bipush 33, 2) := by decide +kernel
theorem dX7_write_67 : decode cX7_write 67 = .ok (.bipush 126, 2) := by decide +kernel
theorem dX7_write_69 : decode cX7_write 69 = .ok (.invokestatic 36, 3) := by decide +kernel
theorem dX7_write_72 : decode cX7_write 72 = .ok (.ifCond .ne 7, 3) := by decide +kernel
theorem dX7_write_75 : decode cX7_write 75 = .ok (.iconst 1, 1) := by decide +kernel
theorem dX7_write_76 : decode cX7_write 76 = .ok (.goto 4, 3) := by decide +kernel
theorem dX7_write_79 : decode cX7_write 79 = .ok (.iconst 0, 1) := by decide +kernel
theorem dX7_write_80 : decode cX7_write 80 = .ok (.istore 4, 2) := by decide +kernel
theorem dX7_write_82 : decode cX7_write 82 = .ok (.iload_n 3, 1) := by decide +kernel
theorem dX7_write_83 : decode cX7_write 83 = .ok (.iload 7, 2) := by decide +kernel
theorem dX7_write_85 : decode cX7_write 85 = .ok (.ifCond .eq 7, 3) := by decide +kernel
theorem dX7_write_88 : decode cX7_write 88 = .ok (.iconst 0, 1) := by decide +kernel
theorem dX7_write_89 : decode cX7_write 89 = .ok (.goto 4, 3) := by decide +kernel
theorem dX7_write_92 : decode cX7_write 92 = .ok (.iconst 1, 1) := by decide +kernel
theorem dX7_write_93 : decode cX7_write 93 = .ok (.iadd, 1) := by decide +kernel
theorem dX7_write_94 : decode cX7_write 94 = .ok (.istore_n 3, 1) := by decide +kernel
theorem dX7_write_95 : decode cX7_write 95 = .ok (.iinc 5 1, 3) := by decide +kernel
theorem dX7_write_98 : decode cX7_write 98 = .ok (.goto (-90), 3) := by decide +kernel
theorem dX7_write_101 : decode cX7_write 101 = .ok (.iload 4, 2) := by decide +kernel
theorem dX7_write_103 : decode cX7_write 103 = .ok (.ifCond .eq 7, 3) := by decide +kernel
theorem dX7_write_106 : decode cX7_write 106 = .ok (.sipush (-1002), 3) := by decide +kernel
theorem dX7_write_109 : decode cX7_write 109 = .ok (.ireturn, 1) := by decide +kernel
theorem dX7_write_110 : decode cX7_write 110 = .ok (.aload_n 0, 1) := by decide +kernel
theorem dX7_write_111 : decode cX7_write 111 = .ok (.getfield 123, 3) := by decide +kernel
theorem dX7_write_114 : decode cX7_write 114 = .ok (.iload_n 3, 1) := by decide +kernel
theorem dX7_write_115 : decode cX7_write 115 = .ok (.iadd, 1) := by decide +kernel
theorem dX7_write_116 : decode cX7_write 116 = .ok (.bipush 60, 2) := by decide +kernel
theorem dX7_write_118 : decode cX7_write 118 = .ok (.if_icmp .le 7, 3) := by decide +kernel
theorem dX7_write_121 : decode cX7_write 121 = .ok (.sipush (-1004), 3) := by decide +kernel
theorem dX7_write_124 : decode cX7_write 124 = .ok (.ireturn, 1) := by decide +kernel
theorem dX7_write_125 : decode cX7_write 125 = .ok (.iconst 0, 1) := by decide +kernel
theorem dX7_write_126 : decode cX7_write 126 = .ok (.istore 5, 2) := by decide +kernel
theorem dX7_write_128 : decode cX7_write 128 = .ok (.iload 5, 2) := by decide +kernel
theorem dX7_write_130 : decode cX7_write 130 = .ok (.iload_n 3, 1) := by decide +kernel
theorem dX7_write_131 : decode cX7_write 131 = .ok (.if_icmp .ge 37, 3) := by decide +kernel
theorem dX7_write_134 : decode cX7_write 134 = .ok (.aload_n 0, 1) := by decide +kernel
theorem dX7_write_135 : decode cX7_write 135 = .ok (.getfield 26, 3) := by decide +kernel
theorem dX7_write_138 : decode cX7_write 138 = .ok (.aload_n 0, 1) := by decide +kernel
theorem dX7_write_139 : decode cX7_write 139 = .ok (.getfield 123, 3) := by decide +kernel
theorem dX7_write_142 : decode cX7_write 142 = .ok (.iload_n 3, 1) := by decide +kernel
theorem dX7_write_143 : decode cX7_write 143 = .ok (.iadd, 1) := by decide +kernel
theorem dX7_write_144 : decode cX7_write 144 = .ok (.iconst 1, 1) := by decide +kernel
theorem dX7_write_145 : decode cX7_write 145 = .ok (.isub, 1) := by decide +kernel
theorem dX7_write_146 : decode cX7_write 146 = .ok (.iload 5, 2) := by decide +kernel
theorem dX7_write_148 : decode cX7_write 148 = .ok (.isub, 1) := by decide +kernel
theorem dX7_write_149 : decode cX7_write 149 = .ok (.lload_n 1, 1) := by decide +kernel
theorem dX7_write_150 : decode cX7_write 150 = .ok (.bipush 8, 2) := by decide +kernel
theorem dX7_write_152 : decode cX7_write 152 = .ok (.iload 5, 2) := by decide +kernel
theorem dX7_write_154 : decode cX7_write 154 = .ok (.imul, 1) := by decide +kernel
theorem dX7_write_155 : decode cX7_write 155 = .ok (.lushr, 1) := by decide +kernel
theorem dX7_write_156 : decode cX7_write 156 = .ok (.ldc2_w 142, 3) := by decide +kernel
theorem dX7_write_159 : decode cX7_write 159 = .ok (.land, 1) := by decide +kernel
theorem dX7_write_160 : decode cX7_write 160 = .ok (.l2i, 1) := by decide +kernel
theorem dX7_write_161 : decode cX7_write 161 = .ok (.iastore, 1) := by decide +kernel
theorem dX7_write_162 : decode cX7_write 162 = .ok (.iinc 5 1, 3) := by decide +kernel
theorem dX7_write_165 : decode cX7_write 165 = .ok (.goto (-37), 3) := by decide +kernel
theorem dX7_write_168 : decode cX7_write 168 = .ok (.aload_n 0, 1) := by decide +kernel
theorem dX7_write_169 : decode cX7_write 169 = .ok (.dup, 1) := by decide +kernel
theorem dX7_write_170 : decode cX7_write 170 = .ok (.getfield 123, 3) := by decide +kernel
theorem dX7_write_173 : decode cX7_write 173 = .ok (.iload_n 3, 1) := by decide +kernel
theorem dX7_write_174 : decode cX7_write 174 = .ok (.iadd, 1) := by decide +kernel
theorem dX7_write_175 : decode cX7_write 175 = .ok (.putfield 123, 3) := by decide +kernel
theorem dX7_write_178 : decode cX7_write 178 = .ok (.aload_n 0, 1) := by decide +kernel
theorem dX7_write_179 : decode cX7_write 179 = .ok (.getfield 123, 3) := by decide +kernel
theorem dX7_write_182 : decode cX7_write 182 = .ok (.ireturn, 1) := by decide +kernel
theorem dX7_wipe_0 : decode cX7_wipe 0 = .ok (.aload_n 0, 1) := by decide +kernel
theorem dX7_wipe_1 : decode cX7_wipe 1 = .ok (.getfield 123, 3) := by decide +kernel
theorem dX7_wipe_4 : decode cX7_wipe 4 = .ok (.istore_n 1, 1) := by decide +kernel
theorem dX7_wipe_5 : decode cX7_wipe 5 = .ok (.aload_n 0, 1) := by decide +kernel
theorem dX7_wipe_6 : decode cX7_wipe 6 = .ok (.iconst 0, 1) := by decide +kernel
theorem dX7_wipe_7 : decode cX7_wipe 7 = .ok (.putfield 123, 3) := by decide +kernel
theorem dX7_wipe_10 : decode cX7_wipe 10 = .ok (.iload_n 1, 1) := by decide +kernel
theorem dX7_wipe_11 : decode cX7_wipe 11 = .ok (.ireturn, 1) := by decide +kernel
set_option maxRecDepth 20000 in
theorem ggX7_behind_X7_in : GoodIn wsX7_behind wsX7_in := goodIn_r _ [6] (by decide +kernel) (by decide +kernel)
set_option maxRecDepth 20000 in
theorem gX7_behind_X7_in : GoodIn wsX7_behind (va_wsS RX7 36 yX7_in wsX7_in) := goodIn_app (goodIn_of _ (by decide +kernel)) ggX7_behind_X7_in
theorem dX7_behind_0 : decode cX7_behind 0 = .ok (.iload_n 1, 1) := by decide +kernel
theorem dX7_behind_1 : decode cX7_behind 1 = .ok (.istore_n 2, 1) := by decide +kernel
theorem dX7_behind_2 : decode cX7_behind 2 = .ok (.iload_n 2, 1) := by decide +kernel
theorem dX7_behind_3 : decode cX7_behind 3 = .ok (.aload_n 0, 1) := by decide +kernel
theorem dX7_behind_4 : decode cX7_behind 4 = .ok (.getfield 123, 3) := by decide +kernel
theorem dX7_behind_7 : decode cX7_behind 7 = .ok (.if_icmp .ge 33, 3) := by decide +kernel
theorem dX7_behind_10 : decode cX7_behind 10 = .ok (.iload_n 2, 1) := by decide +kernel
theorem dX7_behind_11 : decode cX7_behind 11 = .ok (.iload_n 1, 1) := by decide +kernel
theorem dX7_behind_12 : decode cX7_behind 12 = .ok (.bipush 6, 2) := by decide +kernel
theorem dX7_behind_14 : decode cX7_behind 14 = .ok (.iadd, 1) := by decide +kernel
theorem dX7_behind_15 : decode cX7_behind 15 = .ok (.if_icmp .ge 25, 3) := by decide +kernel
theorem dX7_behind_18 : decode cX7_behind 18 = .ok (.aload_n 0, 1) := by decide +kernel
theorem dX7_behind_19 : decode cX7_behind 19 = .ok (.getfield 26, 3) := by decide +kernel
theorem dX7_behind_22 : decode cX7_behind 22 = .ok (.iload_n 2, 1) := by decide +kernel
theorem dX7_behind_23 : decode cX7_behind 23 = .ok (.iaload, 1) := by decide +kernel
theorem dX7_behind_24 : decode cX7_behind 24 = .ok (.bipush 97, 2) := by decide +kernel
theorem dX7_behind_26 : decode cX7_behind 26 = .ok (.bipush 122, 2) := by decide +kernel
theorem dX7_behind_28 : decode cX7_behind 28 = .ok (.invokestatic 36, 3) := by decide +kernel
theorem dX7_behind_31 : decode cX7_behind 31 = .ok (.ifCond .eq 9, 3) := by decide +kernel
theorem dX7_behind_34 : decode cX7_behind 34 = .ok (.iinc 2 1, 3) := by decide +kernel
theorem dX7_behind_37 : decode cX7_behind 37 = .ok (.goto (-35), 3) := by decide +kernel
theorem dX7_behind_40 : decode cX7_behind 40 = .ok (.iload_n 2, 1) := by decide +kernel
theorem dX7_behind_41 : decode cX7_behind 41 = .ok (.ireturn, 1) := by decide +kernel
set_option maxRecDepth 20000 in
theorem ggX7_wrong_X7_behind : GoodIn wsX7_wrong wsX7_behind := goodIn_r _ [7, 1, 2, 8, 9, 6, 10, 11, 12, 13, 14, 15, 16, 17, 18] (by decide +kernel) (by decide +kernel)
set_option maxRecDepth 20000 in
theorem gX7_wrong_X7_behind : GoodIn wsX7_wrong (wsV RX7 144 RX7 yX7_behind wsX7_behind) := goodIn_app (goodIn_of _ (by decide +kernel)) ggX7_wrong_X7_behind
theorem dX7_wrong_0 : decode cX7_wrong 0 = .ok (.iconst 0, 1) := by decide +kernel
theorem dX7_wrong_1 : decode cX7_wrong 1 = .ok (.istore_n 1, 1) := by decide +kernel
theorem dX7_wrong_2 : decode cX7_wrong 2 = .ok (.aload_n 0, 1) := by decide +kernel
theorem dX7_wrong_3 : decode cX7_wrong 3 = .ok (.iload_n 1, 1) := by decide +kernel
theorem dX7_wrong_4 : decode cX7_wrong 4 = .ok (.invokevirtual 144, 3) := by decide +kernel
theorem dX7_wrong_7 : decode cX7_wrong 7 = .ok (.istore_n 2, 1) := by decide +kernel
theorem dX7_wrong_8 : decode cX7_wrong 8 = .ok (.iload_n 2, 1) := by decide +kernel
theorem dX7_wrong_9 : decode cX7_wrong 9 = .ok (.iload_n 1, 1) := by decide +kernel
theorem dX7_wrong_10 : decode cX7_wrong 10 = .ok (.if_icmp .eq 22, 3) := by decide +kernel
theorem dX7_wrong_13 : decode cX7_wrong 13 = .ok (.iload_n 2, 1) := by decide +kernel
theorem dX7_wrong_14 : decode cX7_wrong 14 = .ok (.aload_n 0, 1) := by decide +kernel
theorem dX7_wrong_15 : decode cX7_wrong 15 = .ok (.getfield 123, 3) := by decide +kernel
theorem dX7_wrong_18 : decode cX7_wrong 18 = .ok (.if_icmp .ge 16, 3) := by decide +kernel
theorem dX7_wrong_21 : decode cX7_wrong 21 = .ok (.aload_n 0, 1) := by decide +kernel
theorem dX7_wrong_22 : decode cX7_wrong 22 = .ok (.getfield 26, 3) := by decide +kernel
theorem dX7_wrong_25 : decode cX7_wrong 25 = .ok (.iload_n 2, 1) := by decide +kernel
theorem dX7_wrong_26 : decode cX7_wrong 26 = .ok (.iaload, 1) := by decide +kernel
theorem dX7_wrong_27 : decode cX7_wrong 27 = .ok (.bipush 44, 2) := by decide +kernel
theorem dX7_wrong_29 : decode cX7_wrong 29 = .ok (.if_icmp .eq 5, 3) := by decide +kernel
theorem dX7_wrong_32 : decode cX7_wrong 32 = .ok (.iload_n 2, 1) := by decide +kernel
theorem dX7_wrong_33 : decode cX7_wrong 33 = .ok (.ireturn, 1) := by decide +kernel
theorem dX7_wrong_34 : decode cX7_wrong 34 = .ok (.iload_n 2, 1) := by decide +kernel
theorem dX7_wrong_35 : decode cX7_wrong 35 = .ok (.aload_n 0, 1) := by decide +kernel
theorem dX7_wrong_36 : decode cX7_wrong 36 = .ok (.getfield 123, 3) := by decide +kernel
theorem dX7_wrong_39 : decode cX7_wrong 39 = .ok (.if_icmp .ne 7, 3) := by decide +kernel
theorem dX7_wrong_42 : decode cX7_wrong 42 = .ok (.sipush (-1006), 3) := by decide +kernel
theorem dX7_wrong_45 : decode cX7_wrong 45 = .ok (.ireturn, 1) := by decide +kernel
theorem dX7_wrong_46 : decode cX7_wrong 46 = .ok (.iload_n 2, 1) := by decide +kernel
theorem dX7_wrong_47 : decode cX7_wrong 47 = .ok (.iconst 1, 1) := by decide +kernel
theorem dX7_wrong_48 : decode cX7_wrong 48 = .ok (.iadd, 1) := by decide +kernel
theorem dX7_wrong_49 : decode cX7_wrong 49 = .ok (.istore_n 1, 1) := by decide +kernel
theorem dX7_wrong_50 : decode cX7_wrong 50 = .ok (.goto (-48), 3) := by decide +kernel
set_option maxRecDepth 20000 in
theorem ggX7_fault_X7_wrong : GoodIn wsX7_fault wsX7_wrong := goodIn_r _ [5, 6, 7, 8, 9, 10, 4, 11, 12, 13, 14, 15, 16, 17, 18, 19, 20, 21, 22] (by decide +kernel) (by decide +kernel)
set_option maxRecDepth 20000 in
theorem gX7_fault_X7_wrong : GoodIn wsX7_fault (wsV RX7 147 RX7 yX7_wrong wsX7_wrong) := goodIn_app (goodIn_of _ (by decide +kernel)) ggX7_fault_X7_wrong
theorem dX7_fault_0 : decode cX7_fault 0 = .ok (.aload_n 0, 1) := by decide +kernel
theorem dX7_fault_1 : decode cX7_fault 1 = .ok (.invokevirtual 147, 3) := by decide +kernel
theorem dX7_fault_4 : decode cX7_fault 4 = .ok (.ireturn, 1) := by decide +kernel
theorem dX7_told_0 : decode cX7_told 0 = .ok (.iconst 1, 1) := by decide +kernel
theorem dX7_told_1 : decode cX7_told 1 = .ok (.istore_n 1, 1) := by decide +kernel
theorem dX7_told_2 : decode cX7_told 2 = .ok (.iconst 0, 1) := by decide +kernel
theorem dX7_told_3 : decode cX7_told 3 = .ok (.istore_n 2, 1) := by decide +kernel
theorem dX7_told_4 : decode cX7_told 4 = .ok (.iload_n 2, 1) := by decide +kernel
theorem dX7_told_5 : decode cX7_told 5 = .ok (.aload_n 0, 1) := by decide +kernel
theorem dX7_told_6 : decode cX7_told 6 = .ok (.getfield 123, 3) := by decide +kernel
theorem dX7_told_9 : decode cX7_told 9 = .ok (.if_icmp .ge 28, 3) := by decide +kernel
theorem dX7_told_12 : decode cX7_told 12 = .ok (.iload_n 1, 1) := by decide +kernel
theorem dX7_told_13 : decode cX7_told 13 = .ok (.aload_n 0, 1) := by decide +kernel
theorem dX7_told_14 : decode cX7_told 14 = .ok (.getfield 26, 3) := by decide +kernel
theorem dX7_told_17 : decode cX7_told 17 = .ok (.iload_n 2, 1) := by decide +kernel
theorem dX7_told_18 : decode cX7_told 18 = .ok (.iaload, 1) := by decide +kernel
theorem dX7_told_19 : decode cX7_told 19 = .ok (.bipush 44, 2) := by decide +kernel
theorem dX7_told_21 : decode cX7_told 21 = .ok (.if_icmp .ne 7, 3) := by decide +kernel
theorem dX7_told_24 : decode cX7_told 24 = .ok (.iconst 1, 1) := by decide +kernel
theorem dX7_told_25 : decode cX7_told 25 = .ok (.goto 4, 3) := by decide +kernel
theorem dX7_told_28 : decode cX7_told 28 = .ok (.iconst 0, 1) := by decide +kernel
theorem dX7_told_29 : decode cX7_told 29 = .ok (.iadd, 1) := by decide +kernel
theorem dX7_told_30 : decode cX7_told 30 = .ok (.istore_n 1, 1) := by decide +kernel
theorem dX7_told_31 : decode cX7_told 31 = .ok (.iinc 2 1, 3) := by decide +kernel
theorem dX7_told_34 : decode cX7_told 34 = .ok (.goto (-30), 3) := by decide +kernel
theorem dX7_told_37 : decode cX7_told 37 = .ok (.iload_n 1, 1) := by decide +kernel
theorem dX7_told_38 : decode cX7_told 38 = .ok (.ireturn, 1) := by decide +kernel
set_option maxRecDepth 20000 in
theorem ggX7_put_X7_isStore : GoodIn wsX7_put wsX7_isStore := goodIn_r _ [7, 8, 9, 6, 10] (by decide +kernel) (by decide +kernel)
set_option maxRecDepth 20000 in
theorem gX7_put_X7_isStore : GoodIn wsX7_put (va_wsS RX7 89 yX7_isStore wsX7_isStore) := goodIn_app (goodIn_of _ (by decide +kernel)) ggX7_put_X7_isStore
set_option maxRecDepth 20000 in
theorem ggX7_put_X7_wrong : GoodIn wsX7_put wsX7_wrong := goodIn_r _ [14, 2, 3, 15, 16, 17, 6, 18, 8, 9, 10, 39, 40, 41, 42, 43, 44, 45, 46] (by decide +kernel) (by decide +kernel)
set_option maxRecDepth 20000 in
theorem gX7_put_X7_wrong : GoodIn wsX7_put (wsV RX7 147 RX7 yX7_wrong wsX7_wrong) := goodIn_app (goodIn_of _ (by decide +kernel)) ggX7_put_X7_wrong
set_option maxRecDepth 20000 in
theorem ggX7_put_X7_told : GoodIn wsX7_put wsX7_told := goodIn_r _ [22, 2, 3, 39, 40, 41, 42, 43, 44, 45, 46] (by decide +kernel) (by decide +kernel)
set_option maxRecDepth 20000 in
theorem gX7_put_X7_told : GoodIn wsX7_put (wsV RX7 150 RX7 yX7_told wsX7_told) := goodIn_app (goodIn_of _ (by decide +kernel)) ggX7_put_X7_told
set_option maxRecDepth 20000 in
theorem ggX7_put_X7_record : GoodIn wsX7_put wsX7_record := goodIn_r _ [26, 27, 28, 1, 39, 40, 41, 42, 43, 44, 45, 46] (by decide +kernel) (by decide +kernel)
set_option maxRecDepth 20000 in
theorem gX7_put_X7_record : GoodIn wsX7_put (wsV RX7 92 RX7 yX7_record wsX7_record) := goodIn_app (goodIn_of _ (by decide +kernel)) ggX7_put_X7_record
set_option maxRecDepth 20000 in
theorem ggX7_put_X7_ofWord : GoodIn wsX7_put wsX7_ofWord := goodIn_r _ [31] (by decide +kernel) (by decide +kernel)
set_option maxRecDepth 20000 in
theorem gX7_put_X7_ofWord : GoodIn wsX7_put (va_wsS RX7 55 yX7_ofWord wsX7_ofWord) := goodIn_app (goodIn_of _ (by decide +kernel)) ggX7_put_X7_ofWord
set_option maxRecDepth 20000 in
theorem ggX7_put_X7_comes : GoodIn wsX7_put wsX7_comes := goodIn_r _ [35, 1, 36, 37, 6, 38, 39, 40, 41, 42, 43, 44, 45, 46] (by decide +kernel) (by decide +kernel)
set_option maxRecDepth 20000 in
theorem gX7_put_X7_comes : GoodIn wsX7_put (wsV RX7 71 RX7 yX7_comes wsX7_comes) := goodIn_app (goodIn_of _ (by decide +kernel)) ggX7_put_X7_comes
theorem dX7_put_0 : decode cX7_put 0 = .ok (.iload_n 1, 1) := by decide +kernel
theorem dX7_put_1 : decode cX7_put 1 = .ok (.invokestatic 89, 3) := by decide +kernel
theorem dX7_put_4 : decode cX7_put 4 = .ok (.ifCond .ne 7, 3) := by decide +kernel
theorem dX7_put_7 : decode cX7_put 7 = .ok (.sipush (-1001), 3) := by decide +kernel
theorem dX7_put_10 : decode cX7_put 10 = .ok (.ireturn, 1) := by decide +kernel
theorem dX7_put_11 : decode cX7_put 11 = .ok (.aload_n 0, 1) := by decide +kernel
theorem dX7_put_12 : decode cX7_put 12 = .ok (.invokevirtual 147, 3) := by decide +kernel
theorem dX7_put_15 : decode cX7_put 15 = .ok (.sipush (-1006), 3) := by decide +kernel
theorem dX7_put_18 : decode cX7_put 18 = .ok (.if_icmp .eq 7, 3) := by decide +kernel
theorem dX7_put_21 : decode cX7_put 21 = .ok (.sipush (-1003), 3) := by decide +kernel
theorem dX7_put_24 : decode cX7_put 24 = .ok (.ireturn, 1) := by decide +kernel
theorem dX7_put_25 : decode cX7_put 25 = .ok (.aload_n 0, 1) := by decide +kernel
theorem dX7_put_26 : decode cX7_put 26 = .ok (.getfield 7, 3) := by decide +kernel
theorem dX7_put_29 : decode cX7_put 29 = .ok (.iconst 4, 1) := by decide +kernel
theorem dX7_put_30 : decode cX7_put 30 = .ok (.iaload, 1) := by decide +kernel
theorem dX7_put_31 : decode cX7_put 31 = .ok (.aload_n 0, 1) := by decide +kernel
theorem dX7_put_32 : decode cX7_put 32 = .ok (.invokevirtual 150, 3) := by decide +kernel
theorem dX7_put_35 : decode cX7_put 35 = .ok (.iadd, 1) := by decide +kernel
theorem dX7_put_36 : decode cX7_put 36 = .ok (.bipush 12, 2) := by decide +kernel
theorem dX7_put_38 : decode cX7_put 38 = .ok (.if_icmp .le 7, 3) := by decide +kernel
theorem dX7_put_41 : decode cX7_put 41 = .ok (.sipush (-1004), 3) := by decide +kernel
theorem dX7_put_44 : decode cX7_put 44 = .ok (.ireturn, 1) := by decide +kernel
theorem dX7_put_45 : decode cX7_put 45 = .ok (.aload_n 0, 1) := by decide +kernel
theorem dX7_put_46 : decode cX7_put 46 = .ok (.invokevirtual 92, 3) := by decide +kernel
theorem dX7_put_49 : decode cX7_put 49 = .ok (.iconst 0, 1) := by decide +kernel
theorem dX7_put_50 : decode cX7_put 50 = .ok (.istore_n 2, 1) := by decide +kernel
theorem dX7_put_51 : decode cX7_put 51 = .ok (.iconst 0, 1) := by decide +kernel
theorem dX7_put_52 : decode cX7_put 52 = .ok (.istore_n 3, 1) := by decide +kernel
theorem dX7_put_53 : decode cX7_put 53 = .ok (.iload_n 3, 1) := by decide +kernel
theorem dX7_put_54 : decode cX7_put 54 = .ok (.aload_n 0, 1) := by decide +kernel
theorem dX7_put_55 : decode cX7_put 55 = .ok (.getfield 123, 3) := by decide +kernel
theorem dX7_put_58 : decode cX7_put 58 = .ok (.if_icmp .gt 139, 3) := by decide +kernel
theorem dX7_put_61 : decode cX7_put 61 = .ok (.iload_n 3, 1) := by decide +kernel
theorem dX7_put_62 : decode cX7_put 62 = .ok (.aload_n 0, 1) := by decide +kernel
theorem dX7_put_63 : decode cX7_put 63 = .ok (.getfield 123, 3) := by decide +kernel
theorem dX7_put_66 : decode cX7_put 66 = .ok (.if_icmp .ge 34, 3) := by decide +kernel
theorem dX7_put_69 : decode cX7_put 69 = .ok (.aload_n 0, 1) := by decide +kernel
theorem dX7_put_70 : decode cX7_put 70 = .ok (.getfield 26, 3) := by decide +kernel
theorem dX7_put_73 : decode cX7_put 73 = .ok (.iload_n 3, 1) := by decide +kernel
theorem dX7_put_74 : decode cX7_put 74 = .ok (.iaload, 1) := by decide +kernel
theorem dX7_put_75 : decode cX7_put 75 = .ok (.bipush 44, 2) := by decide +kernel
theorem dX7_put_77 : decode cX7_put 77 = .ok (.if_icmp .eq 23, 3) := by decide +kernel
theorem dX7_put_80 : decode cX7_put 80 = .ok (.bipush 27, 2) := by decide +kernel
theorem dX7_put_82 : decode cX7_put 82 = .ok (.iload_n 2, 1) := by decide +kernel
theorem dX7_put_83 : decode cX7_put 83 = .ok (.imul, 1) := by decide +kernel
theorem dX7_put_84 : decode cX7_put 84 = .ok (.aload_n 0, 1) := by decide +kernel
theorem dX7_put_85 : decode cX7_put 85 = .ok (.getfield 26, 3) := by decide +kernel
theorem dX7_put_88 : decode cX7_put 88 = .ok (.iload_n 3, 1) := by decide +kernel
theorem dX7_put_89 : decode cX7_put 89 = .ok (.iaload, 1) := by decide +kernel
theorem dX7_put_90 : decode cX7_put 90 = .ok (.iadd, 1) := by decide +kernel
theorem dX7_put_91 : decode cX7_put 91 = .ok (.bipush 97, 2) := by decide +kernel
theorem dX7_put_93 : decode cX7_put 93 = .ok (.isub, 1) := by decide +kernel
theorem dX7_put_94 : decode cX7_put 94 = .ok (.iconst 1, 1) := by decide +kernel
theorem dX7_put_95 : decode cX7_put 95 = .ok (.iadd, 1) := by decide +kernel
theorem dX7_put_96 : decode cX7_put 96 = .ok (.istore_n 2, 1) := by decide +kernel
theorem dX7_put_97 : decode cX7_put 97 = .ok (.goto 94, 3) := by decide +kernel
theorem dX7_put_100 : decode cX7_put 100 = .ok (.aload_n 0, 1) := by decide +kernel
theorem dX7_put_101 : decode cX7_put 101 = .ok (.getfield 7, 3) := by decide +kernel
theorem dX7_put_104 : decode cX7_put 104 = .ok (.iconst 4, 1) := by decide +kernel
theorem dX7_put_105 : decode cX7_put 105 = .ok (.iaload, 1) := by decide +kernel
theorem dX7_put_106 : decode cX7_put 106 = .ok (.istore 4, 2) := by decide +kernel
theorem dX7_put_108 : decode cX7_put 108 = .ok (.aload_n 0, 1) := by decide +kernel
theorem dX7_put_109 : decode cX7_put 109 = .ok (.getfield 7, 3) := by decide +kernel
theorem dX7_put_112 : decode cX7_put 112 = .ok (.iconst 4, 1) := by decide +kernel
theorem dX7_put_113 : decode cX7_put 113 = .ok (.dup2, 1) := by decide +kernel
theorem dX7_put_114 : decode cX7_put 114 = .ok (.iaload, 1) := by decide +kernel
theorem dX7_put_115 : decode cX7_put 115 = .ok (.iconst 1, 1) := by decide +kernel
theorem dX7_put_116 : decode cX7_put 116 = .ok (.iadd, 1) := by decide +kernel
theorem dX7_put_117 : decode cX7_put 117 = .ok (.iastore, 1) := by decide +kernel
theorem dX7_put_118 : decode cX7_put 118 = .ok (.aload_n 0, 1) := by decide +kernel
theorem dX7_put_119 : decode cX7_put 119 = .ok (.getfield 7, 3) := by decide +kernel
theorem dX7_put_122 : decode cX7_put 122 = .ok (.iload 4, 2) := by decide +kernel
theorem dX7_put_124 : decode cX7_put 124 = .ok (.iconst 0, 1) := by decide +kernel
theorem dX7_put_125 : decode cX7_put 125 = .ok (.invokestatic 55, 3) := by decide +kernel
theorem dX7_put_128 : decode cX7_put 128 = .ok (.iload_n 2, 1) := by decide +kernel
theorem dX7_put_129 : decode cX7_put 129 = .ok (.iastore, 1) := by decide +kernel
theorem dX7_put_130 : decode cX7_put 130 = .ok (.aload_n 0, 1) := by decide +kernel
theorem dX7_put_131 : decode cX7_put 131 = .ok (.getfield 7, 3) := by decide +kernel
theorem dX7_put_134 : decode cX7_put 134 = .ok (.iload 4, 2) := by decide +kernel
theorem dX7_put_136 : decode cX7_put 136 = .ok (.iconst 1, 1) := by decide +kernel
theorem dX7_put_137 : decode cX7_put 137 = .ok (.invokestatic 55, 3) := by decide +kernel
theorem dX7_put_140 : decode cX7_put 140 = .ok (.iconst 0, 1) := by decide +kernel
theorem dX7_put_141 : decode cX7_put 141 = .ok (.iastore, 1) := by decide +kernel
theorem dX7_put_142 : decode cX7_put 142 = .ok (.aload_n 0, 1) := by decide +kernel
theorem dX7_put_143 : decode cX7_put 143 = .ok (.getfield 7, 3) := by decide +kernel
theorem dX7_put_146 : decode cX7_put 146 = .ok (.iload 4, 2) := by decide +kernel
theorem dX7_put_148 : decode cX7_put 148 = .ok (.iconst 2, 1) := by decide +kernel
theorem dX7_put_149 : decode cX7_put 149 = .ok (.invokestatic 55, 3) := by decide +kernel
theorem dX7_put_152 : decode cX7_put 152 = .ok (.sipush (-1006), 3) := by decide +kernel
theorem dX7_put_155 : decode cX7_put 155 = .ok (.iastore, 1) := by decide +kernel
theorem dX7_put_156 : decode cX7_put 156 = .ok (.aload_n 0, 1) := by decide +kernel
theorem dX7_put_157 : decode cX7_put 157 = .ok (.getfield 7, 3) := by decide +kernel
theorem dX7_put_160 : decode cX7_put 160 = .ok (.iload 4, 2) := by decide +kernel
theorem dX7_put_162 : decode cX7_put 162 = .ok (.iconst 3, 1) := by decide +kernel
theorem dX7_put_163 : decode cX7_put 163 = .ok (.invokestatic 55, 3) := by decide +kernel
theorem dX7_put_166 : decode cX7_put 166 = .ok (.sipush (-1006), 3) := by decide +kernel
theorem dX7_put_169 : decode cX7_put 169 = .ok (.iastore, 1) := by decide +kernel
theorem dX7_put_170 : decode cX7_put 170 = .ok (.aload_n 0, 1) := by decide +kernel
theorem dX7_put_171 : decode cX7_put 171 = .ok (.getfield 7, 3) := by decide +kernel
theorem dX7_put_174 : decode cX7_put 174 = .ok (.iload 4, 2) := by decide +kernel
theorem dX7_put_176 : decode cX7_put 176 = .ok (.iconst 4, 1) := by decide +kernel
theorem dX7_put_177 : decode cX7_put 177 = .ok (.invokestatic 55, 3) := by decide +kernel
theorem dX7_put_180 : decode cX7_put 180 = .ok (.iconst 0, 1) := by decide +kernel
theorem dX7_put_181 : decode cX7_put 181 = .ok (.iastore, 1) := by decide +kernel
theorem dX7_put_182 : decode cX7_put 182 = .ok (.aload_n 0, 1) := by decide +kernel
theorem dX7_put_183 : decode cX7_put 183 = .ok (.iload_n 1, 1) := by decide +kernel
theorem dX7_put_184 : decode cX7_put 184 = .ok (.iload 4, 2) := by decide +kernel
theorem dX7_put_186 : decode cX7_put 186 = .ok (.invokevirtual 71, 3) := by decide +kernel
theorem dX7_put_189 : decode cX7_put 189 = .ok (.iconst 0, 1) := by decide +kernel
theorem dX7_put_190 : decode cX7_put 190 = .ok (.istore_n 2, 1) := by decide +kernel
theorem dX7_put_191 : decode cX7_put 191 = .ok (.iinc 3 1, 3) := by decide +kernel
theorem dX7_put_194 : decode cX7_put 194 = .ok (.goto (-141), 3) := by decide +kernel
theorem dX7_put_197 : decode cX7_put 197 = .ok (.aload_n 0, 1) := by decide +kernel
theorem dX7_put_198 : decode cX7_put 198 = .ok (.iconst 0, 1) := by decide +kernel
theorem dX7_put_199 : decode cX7_put 199 = .ok (.putfield 123, 3) := by decide +kernel
theorem dX7_put_202 : decode cX7_put 202 = .ok (.aload_n 0, 1) := by decide +kernel
theorem dX7_put_203 : decode cX7_put 203 = .ok (.getfield 7, 3) := by decide +kernel
theorem dX7_put_206 : decode cX7_put 206 = .ok (.iconst 4, 1) := by decide +kernel
theorem dX7_put_207 : decode cX7_put 207 = .ok (.iaload, 1) := by decide +kernel
theorem dX7_put_208 : decode cX7_put 208 = .ok (.ireturn, 1) := by decide +kernel
theorem dX7_undo_0 : decode cX7_undo 0 = .ok (.aload_n 0, 1) := by decide +kernel
theorem dX7_undo_1 : decode cX7_undo 1 = .ok (.getfield 40, 3) := by decide +kernel
theorem dX7_undo_4 : decode cX7_undo 4 = .ok (.ifCond .ne 7, 3) := by decide +kernel
theorem dX7_undo_7 : decode cX7_undo 7 = .ok (.sipush (-1005), 3) := by decide +kernel
theorem dX7_undo_10 : decode cX7_undo 10 = .ok (.ireturn, 1) := by decide +kernel
theorem dX7_undo_11 : decode cX7_undo 11 = .ok (.aload_n 0, 1) := by decide +kernel
theorem dX7_undo_12 : decode cX7_undo 12 = .ok (.dup, 1) := by decide +kernel
theorem dX7_undo_13 : decode cX7_undo 13 = .ok (.getfield 40, 3) := by decide +kernel
theorem dX7_undo_16 : decode cX7_undo 16 = .ok (.iconst 1, 1) := by decide +kernel
theorem dX7_undo_17 : decode cX7_undo 17 = .ok (.isub, 1) := by decide +kernel
theorem dX7_undo_18 : decode cX7_undo 18 = .ok (.putfield 40, 3) := by decide +kernel
theorem dX7_undo_21 : decode cX7_undo 21 = .ok (.iconst 0, 1) := by decide +kernel
theorem dX7_undo_22 : decode cX7_undo 22 = .ok (.istore_n 1, 1) := by decide +kernel
theorem dX7_undo_23 : decode cX7_undo 23 = .ok (.iload_n 1, 1) := by decide +kernel
theorem dX7_undo_24 : decode cX7_undo 24 = .ok (.sipush 131, 3) := by decide +kernel
theorem dX7_undo_27 : decode cX7_undo 27 = .ok (.if_icmp .ge 30, 3) := by decide +kernel
theorem dX7_undo_30 : decode cX7_undo 30 = .ok (.aload_n 0, 1) := by decide +kernel
theorem dX7_undo_31 : decode cX7_undo 31 = .ok (.getfield 7, 3) := by decide +kernel
theorem dX7_undo_34 : decode cX7_undo 34 = .ok (.iload_n 1, 1) := by decide +kernel
theorem dX7_undo_35 : decode cX7_undo 35 = .ok (.aload_n 0, 1) := by decide +kernel
theorem dX7_undo_36 : decode cX7_undo 36 = .ok (.getfield 16, 3) := by decide +kernel
theorem dX7_undo_39 : decode cX7_undo 39 = .ok (.sipush 131, 3) := by decide +kernel
theorem dX7_undo_42 : decode cX7_undo 42 = .ok (.aload_n 0, 1) := by decide +kernel
theorem dX7_undo_43 : decode cX7_undo 43 = .ok (.getfield 40, 3) := by decide +kernel
theorem dX7_undo_46 : decode cX7_undo 46 = .ok (.imul, 1) := by decide +kernel
theorem dX7_undo_47 : decode cX7_undo 47 = .ok (.iload_n 1, 1) := by decide +kernel
theorem dX7_undo_48 : decode cX7_undo 48 = .ok (.iadd, 1) := by decide +kernel
theorem dX7_undo_49 : decode cX7_undo 49 = .ok (.iaload, 1) := by decide +kernel
theorem dX7_undo_50 : decode cX7_undo 50 = .ok (.iastore, 1) := by decide +kernel
theorem dX7_undo_51 : decode cX7_undo 51 = .ok (.iinc 1 1, 3) := by decide +kernel
theorem dX7_undo_54 : decode cX7_undo 54 = .ok (.goto (-31), 3) := by decide +kernel
theorem dX7_undo_57 : decode cX7_undo 57 = .ok (.aload_n 0, 1) := by decide +kernel
theorem dX7_undo_58 : decode cX7_undo 58 = .ok (.getfield 40, 3) := by decide +kernel
theorem dX7_undo_61 : decode cX7_undo 61 = .ok (.ireturn, 1) := by decide +kernel
set_option maxRecDepth 20000 in
theorem ggX7_save_X7_in : GoodIn wsX7_save wsX7_in := goodIn_r _ [7] (by decide +kernel) (by decide +kernel)
set_option maxRecDepth 20000 in
theorem gX7_save_X7_in : GoodIn wsX7_save (va_wsS RX7 36 yX7_in wsX7_in) := goodIn_app (goodIn_of _ (by decide +kernel)) ggX7_save_X7_in
theorem dX7_save_0 : decode cX7_save 0 = .ok (.iload_n 1, 1) := by decide +kernel
theorem dX7_save_1 : decode cX7_save 1 = .ok (.iconst 0, 1) := by decide +kernel
theorem dX7_save_2 : decode cX7_save 2 = .ok (.iconst 1, 1) := by decide +kernel
theorem dX7_save_3 : decode cX7_save 3 = .ok (.invokestatic 36, 3) := by decide +kernel
theorem dX7_save_6 : decode cX7_save 6 = .ok (.ifCond .ne 7, 3) := by decide +kernel
theorem dX7_save_9 : decode cX7_save 9 = .ok (.sipush (-1002), 3) := by decide +kernel
theorem dX7_save_12 : decode cX7_save 12 = .ok (.ireturn, 1) := by decide +kernel
theorem dX7_save_13 : decode cX7_save 13 = .ok (.iconst 0, 1) := by decide +kernel
theorem dX7_save_14 : decode cX7_save 14 = .ok (.istore_n 2, 1) := by decide +kernel
theorem dX7_save_15 : decode cX7_save 15 = .ok (.iload_n 2, 1) := by decide +kernel
theorem dX7_save_16 : decode cX7_save 16 = .ok (.sipush 131, 3) := by decide +kernel
theorem dX7_save_19 : decode cX7_save 19 = .ok (.if_icmp .ge 27, 3) := by decide +kernel
theorem dX7_save_22 : decode cX7_save 22 = .ok (.aload_n 0, 1) := by decide +kernel
theorem dX7_save_23 : decode cX7_save 23 = .ok (.getfield 19, 3) := by decide +kernel
theorem dX7_save_26 : decode cX7_save 26 = .ok (.sipush 131, 3) := by decide +kernel
theorem dX7_save_29 : decode cX7_save 29 = .ok (.iload_n 1, 1) := by decide +kernel
theorem dX7_save_30 : decode cX7_save 30 = .ok (.imul, 1) := by decide +kernel
theorem dX7_save_31 : decode cX7_save 31 = .ok (.iload_n 2, 1) := by decide +kernel
theorem dX7_save_32 : decode cX7_save 32 = .ok (.iadd, 1) := by decide +kernel
theorem dX7_save_33 : decode cX7_save 33 = .ok (.aload_n 0, 1) := by decide +kernel
theorem dX7_save_34 : decode cX7_save 34 = .ok (.getfield 7, 3) := by decide +kernel
theorem dX7_save_37 : decode cX7_save 37 = .ok (.iload_n 2, 1) := by decide +kernel
theorem dX7_save_38 : decode cX7_save 38 = .ok (.iaload, 1) := by decide +kernel
theorem dX7_save_39 : decode cX7_save 39 = .ok (.iastore, 1) := by decide +kernel
theorem dX7_save_40 : decode cX7_save 40 = .ok (.iinc 2 1, 3) := by decide +kernel
theorem dX7_save_43 : decode cX7_save 43 = .ok (.goto (-28), 3) := by decide +kernel
theorem dX7_save_46 : decode cX7_save 46 = .ok (.aload_n 0, 1) := by decide +kernel
theorem dX7_save_47 : decode cX7_save 47 = .ok (.getfield 22, 3) := by decide +kernel
theorem dX7_save_50 : decode cX7_save 50 = .ok (.iload_n 1, 1) := by decide +kernel
theorem dX7_save_51 : decode cX7_save 51 = .ok (.iconst 1, 1) := by decide +kernel
theorem dX7_save_52 : decode cX7_save 52 = .ok (.bastore, 1) := by decide +kernel
theorem dX7_save_53 : decode cX7_save 53 = .ok (.aload_n 0, 1) := by decide +kernel
theorem dX7_save_54 : decode cX7_save 54 = .ok (.getfield 7, 3) := by decide +kernel
theorem dX7_save_57 : decode cX7_save 57 = .ok (.iconst 0, 1) := by decide +kernel
theorem dX7_save_58 : decode cX7_save 58 = .ok (.iaload, 1) := by decide +kernel
theorem dX7_save_59 : decode cX7_save 59 = .ok (.ireturn, 1) := by decide +kernel
set_option maxRecDepth 20000 in
theorem ggX7_restore_X7_in : GoodIn wsX7_restore wsX7_in := goodIn_r _ [7] (by decide +kernel) (by decide +kernel)
set_option maxRecDepth 20000 in
theorem gX7_restore_X7_in : GoodIn wsX7_restore (va_wsS RX7 36 yX7_in wsX7_in) := goodIn_app (goodIn_of _ (by decide +kernel)) ggX7_restore_X7_in
set_option maxRecDepth 20000 in
theorem ggX7_restore_X7_record : GoodIn wsX7_restore wsX7_record := goodIn_r _ [11, 12, 13, 2, 14, 15, 16, 17, 18, 19, 20, 21] (by decide +kernel) (by decide +kernel)
set_option maxRecDepth 20000 in
theorem gX7_restore_X7_record : GoodIn wsX7_restore (wsV RX7 92 RX7 yX7_record wsX7_record) := goodIn_app (goodIn_of _ (by decide +kernel)) ggX7_restore_X7_record
theorem dX7_restore_0 : decode cX7_restore 0 = .ok (.iload_n 1, 1) := by decide +kernel
theorem dX7_restore_1 : decode cX7_restore 1 = .ok (.iconst 0, 1) := by decide +kernel
theorem dX7_restore_2 : decode cX7_restore 2 = .ok (.iconst 1, 1) := by decide +kernel
theorem dX7_restore_3 : decode cX7_restore 3 = .ok (.invokestatic 36, 3) := by decide +kernel
theorem dX7_restore_6 : decode cX7_restore 6 = .ok (.ifCond .ne 7, 3) := by decide +kernel
theorem dX7_restore_9 : decode cX7_restore 9 = .ok (.sipush (-1002), 3) := by decide +kernel
theorem dX7_restore_12 : decode cX7_restore 12 = .ok (.ireturn, 1) := by decide +kernel
theorem dX7_restore_13 : decode cX7_restore 13 = .ok (.aload_n 0, 1) := by decide +kernel
theorem dX7_restore_14 : decode cX7_restore 14 = .ok (.getfield 22, 3) := by decide +kernel
theorem dX7_restore_17 : decode cX7_restore 17 = .ok (.iload_n 1, 1) := by decide +kernel
theorem dX7_restore_18 : decode cX7_restore 18 = .ok (.baload, 1) := by decide +kernel
theorem dX7_restore_19 : decode cX7_restore 19 = .ok (.ifCond .ne 7, 3) := by decide +kernel
theorem dX7_restore_22 : decode cX7_restore 22 = .ok (.sipush (-1005), 3) := by decide +kernel
theorem dX7_restore_25 : decode cX7_restore 25 = .ok (.ireturn, 1) := by decide +kernel
theorem dX7_restore_26 : decode cX7_restore 26 = .ok (.aload_n 0, 1) := by decide +kernel
theorem dX7_restore_27 : decode cX7_restore 27 = .ok (.invokevirtual 92, 3) := by decide +kernel
theorem dX7_restore_30 : decode cX7_restore 30 = .ok (.iconst 0, 1) := by decide +kernel
theorem dX7_restore_31 : decode cX7_restore 31 = .ok (.istore_n 2, 1) := by decide +kernel
theorem dX7_restore_32 : decode cX7_restore 32 = .ok (.iload_n 2, 1) := by decide +kernel
theorem dX7_restore_33 : decode cX7_restore 33 = .ok (.sipush 131, 3) := by decide +kernel
theorem dX7_restore_36 : decode cX7_restore 36 = .ok (.if_icmp .ge 27, 3) := by decide +kernel
theorem dX7_restore_39 : decode cX7_restore 39 = .ok (.aload_n 0, 1) := by decide +kernel
theorem dX7_restore_40 : decode cX7_restore 40 = .ok (.getfield 7, 3) := by decide +kernel
theorem dX7_restore_43 : decode cX7_restore 43 = .ok (.iload_n 2, 1) := by decide +kernel
theorem dX7_restore_44 : decode cX7_restore 44 = .ok (.aload_n 0, 1) := by decide +kernel
theorem dX7_restore_45 : decode cX7_restore 45 = .ok (.getfield 19, 3) := by decide +kernel
theorem dX7_restore_48 : decode cX7_restore 48 = .ok (.sipush 131, 3) := by decide +kernel
theorem dX7_restore_51 : decode cX7_restore 51 = .ok (.iload_n 1, 1) := by decide +kernel
theorem dX7_restore_52 : decode cX7_restore 52 = .ok (.imul, 1) := by decide +kernel
theorem dX7_restore_53 : decode cX7_restore 53 = .ok (.iload_n 2, 1) := by decide +kernel
theorem dX7_restore_54 : decode cX7_restore 54 = .ok (.iadd, 1) := by decide +kernel
theorem dX7_restore_55 : decode cX7_restore 55 = .ok (.iaload, 1) := by decide +kernel
theorem dX7_restore_56 : decode cX7_restore 56 = .ok (.iastore, 1) := by decide +kernel
theorem dX7_restore_57 : decode cX7_restore 57 = .ok (.iinc 2 1, 3) := by decide +kernel
theorem dX7_restore_60 : decode cX7_restore 60 = .ok (.goto (-28), 3) := by decide +kernel
theorem dX7_restore_63 : decode cX7_restore 63 = .ok (.aload_n 0, 1) := by decide +kernel
theorem dX7_restore_64 : decode cX7_restore 64 = .ok (.getfield 7, 3) := by decide +kernel
theorem dX7_restore_67 : decode cX7_restore 67 = .ok (.iconst 0, 1) := by decide +kernel
theorem dX7_restore_68 : decode cX7_restore 68 = .ok (.iaload, 1) := by decide +kernel
theorem dX7_restore_69 : decode cX7_restore 69 = .ok (.ireturn, 1) := by decide +kernel
