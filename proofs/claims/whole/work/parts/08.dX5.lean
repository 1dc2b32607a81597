set_option maxRecDepth 20000 in
theorem ggX5_init_X4_init : GoodIn wsX5_init wsX4_init := goodIn_r _ [18, 19, 20, 2, 3, 4, 21, 22, 23, 24, 25, 26, 27, 28, 29, 30, 31, 32, 45, 46, 47, 48, 49, 50, 51, 52, 53, 54, 55, 56, 57, 58, 59, 60] (by decide +kernel) (by decide +kernel)
set_option maxRecDepth 20000 in
theorem gX5_init_X4_init_n33 : GoodIn wsX5_init (wsX4_init) := ggX5_init_X4_init
theorem dX5_init_0 : decode cX5_init 0 = .ok (.aload_n 0, 1) := by decide +kernel
theorem dX5_init_1 : decode cX5_init 1 = .ok (.invokespecial 1, 3) := by decide +kernel
theorem dX5_init_4 : decode cX5_init 4 = .ok (.aload_n 0, 1) := by decide +kernel
theorem dX5_init_5 : decode cX5_init 5 = .ok (.bipush 8, 2) := by decide +kernel
theorem dX5_init_7 : decode cX5_init 7 = .ok (.newarray .int, 2) := by decide +kernel
theorem dX5_init_9 : decode cX5_init 9 = .ok (.putfield 9, 3) := by decide +kernel
theorem dX5_init_12 : decode cX5_init 12 = .ok (.aload_n 0, 1) := by decide +kernel
theorem dX5_init_13 : decode cX5_init 13 = .ok (.bipush 8, 2) := by decide +kernel
theorem dX5_init_15 : decode cX5_init 15 = .ok (.newarray .int, 2) := by decide +kernel
theorem dX5_init_17 : decode cX5_init 17 = .ok (.putfield 13, 3) := by decide +kernel
theorem dX5_init_20 : decode cX5_init 20 = .ok (.aload_n 0, 1) := by decide +kernel
theorem dX5_init_21 : decode cX5_init 21 = .ok (.bipush 8, 2) := by decide +kernel
theorem dX5_init_23 : decode cX5_init 23 = .ok (.newarray .int, 2) := by decide +kernel
theorem dX5_init_25 : decode cX5_init 25 = .ok (.putfield 16, 3) := by decide +kernel
theorem dX5_init_28 : decode cX5_init 28 = .ok (.aload_n 0, 1) := by decide +kernel
theorem dX5_init_29 : decode cX5_init 29 = .ok (.bipush 8, 2) := by decide +kernel
theorem dX5_init_31 : decode cX5_init 31 = .ok (.newarray .int, 2) := by decide +kernel
theorem dX5_init_33 : decode cX5_init 33 = .ok (.putfield 19, 3) := by decide +kernel
theorem dX5_init_36 : decode cX5_init 36 = .ok (.aload_n 0, 1) := by decide +kernel
theorem dX5_init_37 : decode cX5_init 37 = .ok (.bipush 8, 2) := by decide +kernel
theorem dX5_init_39 : decode cX5_init 39 = .ok (.newarray .int, 2) := by decide +kernel
theorem dX5_init_41 : decode cX5_init 41 = .ok (.putfield 22, 3) := by decide +kernel
theorem dX5_init_44 : decode cX5_init 44 = .ok (.aload_n 0, 1) := by decide +kernel
theorem dX5_init_45 : decode cX5_init 45 = .ok (.bipush 12, 2) := by decide +kernel
theorem dX5_init_47 : decode cX5_init 47 = .ok (.newarray .int, 2) := by decide +kernel
theorem dX5_init_49 : decode cX5_init 49 = .ok (.putfield 25, 3) := by decide +kernel
theorem dX5_init_52 : decode cX5_init 52 = .ok (.aload_n 0, 1) := by decide +kernel
theorem dX5_init_53 : decode cX5_init 53 = .ok (.bipush 12, 2) := by decide +kernel
theorem dX5_init_55 : decode cX5_init 55 = .ok (.newarray .int, 2) := by decide +kernel
theorem dX5_init_57 : decode cX5_init 57 = .ok (.putfield 28, 3) := by decide +kernel
theorem dX5_init_60 : decode cX5_init 60 = .ok (.aload_n 0, 1) := by decide +kernel
theorem dX5_init_61 : decode cX5_init 61 = .ok (.new 31, 3) := by decide +kernel
theorem dX5_init_64 : decode cX5_init 64 = .ok (.dup, 1) := by decide +kernel
theorem dX5_init_65 : decode cX5_init 65 = .ok (.aload_n 0, 1) := by decide +kernel
theorem dX5_init_66 : decode cX5_init 66 = .ok (.invokespecial 33, 3) := by decide +kernel
theorem dX5_init_69 : decode cX5_init 69 = .ok (.putfield 36, 3) := by decide +kernel
theorem dX5_init_72 : decode cX5_init 72 = .ok (.aload_n 0, 1) := by decide +kernel
theorem dX5_init_73 : decode cX5_init 73 = .ok (.new 31, 3) := by decide +kernel
theorem dX5_init_76 : decode cX5_init 76 = .ok (.dup, 1) := by decide +kernel
theorem dX5_init_77 : decode cX5_init 77 = .ok (.aload_n 0, 1) := by decide +kernel
theorem dX5_init_78 : decode cX5_init 78 = .ok (.invokespecial 33, 3) := by decide +kernel
theorem dX5_init_81 : decode cX5_init 81 = .ok (.putfield 40, 3) := by decide +kernel
theorem dX5_init_84 : decode cX5_init 84 = .ok (.iconst 0, 1) := by decide +kernel
theorem dX5_init_85 : decode cX5_init 85 = .ok (.istore_n 1, 1) := by decide +kernel
theorem dX5_init_86 : decode cX5_init 86 = .ok (.iload_n 1, 1) := by decide +kernel
theorem dX5_init_87 : decode cX5_init 87 = .ok (.bipush 96, 2) := by decide +kernel
theorem dX5_init_89 : decode cX5_init 89 = .ok (.if_icmp .ge 19, 3) := by decide +kernel
theorem dX5_init_92 : decode cX5_init 92 = .ok (.aload_n 0, 1) := by decide +kernel
theorem dX5_init_93 : decode cX5_init 93 = .ok (.getfield 36, 3) := by decide +kernel
theorem dX5_init_96 : decode cX5_init 96 = .ok (.getfield 43, 3) := by decide +kernel
theorem dX5_init_99 : decode cX5_init 99 = .ok (.iload_n 1, 1) := by decide +kernel
theorem dX5_init_100 : decode cX5_init 100 = .ok (.iconst (-1), 1) := by decide +kernel
theorem dX5_init_101 : decode cX5_init 101 = .ok (.iastore, 1) := by decide +kernel
theorem dX5_init_102 : decode cX5_init 102 = .ok (.iinc 1 1, 3) := by decide +kernel
theorem dX5_init_105 : decode cX5_init 105 = .ok (.goto (-19), 3) := by decide +kernel
theorem dX5_init_108 : decode cX5_init 108 = .ok (.return_, 1) := by decide +kernel
theorem dX5_thrown_0 : decode cX5_thrown 0 = .ok (.aload_n 0, 1) := by decide +kernel
theorem dX5_thrown_1 : decode cX5_thrown 1 = .ok (.getfield 46, 3) := by decide +kernel
theorem dX5_thrown_4 : decode cX5_thrown 4 = .ok (.ireturn, 1) := by decide +kernel
theorem dX5_no_0 : decode cX5_no 0 = .ok (.aload_n 0, 1) := by decide +kernel
theorem dX5_no_1 : decode cX5_no 1 = .ok (.iload_n 1, 1) := by decide +kernel
theorem dX5_no_2 : decode cX5_no 2 = .ok (.putfield 46, 3) := by decide +kernel
theorem dX5_no_5 : decode cX5_no 5 = .ok (.iconst 0, 1) := by decide +kernel
theorem dX5_no_6 : decode cX5_no 6 = .ok (.ireturn, 1) := by decide +kernel
theorem dX5_isIn_0 : decode cX5_isIn 0 = .ok (.iload_n 0, 1) := by decide +kernel
theorem dX5_isIn_1 : decode cX5_isIn 1 = .ok (.iload_n 1, 1) := by decide +kernel
theorem dX5_isIn_2 : decode cX5_isIn 2 = .ok (.if_icmp .lt 12, 3) := by decide +kernel
theorem dX5_isIn_5 : decode cX5_isIn 5 = .ok (.iload_n 0, 1) := by decide +kernel
theorem dX5_isIn_6 : decode cX5_isIn 6 = .ok (.iload_n 2, 1) := by decide +kernel
theorem dX5_isIn_7 : decode cX5_isIn 7 = .ok (.if_icmp .gt 7, 3) := by decide +kernel
theorem dX5_isIn_10 : decode cX5_isIn 10 = .ok (.iconst 1, 1) := by decide +kernel
theorem dX5_isIn_11 : decode cX5_isIn 11 = .ok (.goto 4, 3) := by decide +kernel
theorem dX5_isIn_14 : decode cX5_isIn 14 = .ok (.iconst 0, 1) := by decide +kernel
theorem dX5_isIn_15 : decode cX5_isIn 15 = .ok (.ireturn, 1) := by decide +kernel
set_option maxRecDepth 20000 in
theorem ggX5_isVillage_X5_isIn : GoodIn wsX5_isVillage wsX5_isIn := goodIn_r _ [5] (by decide +kernel) (by decide +kernel)
set_option maxRecDepth 20000 in
theorem gX5_isVillage_X5_isIn : GoodIn wsX5_isVillage (va_wsS RX5 53 yX5_isIn wsX5_isIn) := goodIn_app (goodIn_of _ (by decide +kernel)) ggX5_isVillage_X5_isIn
theorem dX5_isVillage_0 : decode cX5_isVillage 0 = .ok (.iload_n 1, 1) := by decide +kernel
theorem dX5_isVillage_1 : decode cX5_isVillage 1 = .ok (.iconst 0, 1) := by decide +kernel
theorem dX5_isVillage_2 : decode cX5_isVillage 2 = .ok (.aload_n 0, 1) := by decide +kernel
theorem dX5_isVillage_3 : decode cX5_isVillage 3 = .ok (.getfield 50, 3) := by decide +kernel
theorem dX5_isVillage_6 : decode cX5_isVillage 6 = .ok (.iconst 1, 1) := by decide +kernel
theorem dX5_isVillage_7 : decode cX5_isVillage 7 = .ok (.isub, 1) := by decide +kernel
theorem dX5_isVillage_8 : decode cX5_isVillage 8 = .ok (.invokestatic 53, 3) := by decide +kernel
theorem dX5_isVillage_11 : decode cX5_isVillage 11 = .ok (.ireturn, 1) := by decide +kernel
set_option maxRecDepth 20000 in
theorem ggX5_isPhrase_X5_isIn : GoodIn wsX5_isPhrase wsX5_isIn := goodIn_r _ [5] (by decide +kernel) (by decide +kernel)
set_option maxRecDepth 20000 in
theorem gX5_isPhrase_X5_isIn : GoodIn wsX5_isPhrase (va_wsS RX5 53 yX5_isIn wsX5_isIn) := goodIn_app (goodIn_of _ (by decide +kernel)) ggX5_isPhrase_X5_isIn
theorem dX5_isPhrase_0 : decode cX5_isPhrase 0 = .ok (.iload_n 1, 1) := by decide +kernel
theorem dX5_isPhrase_1 : decode cX5_isPhrase 1 = .ok (.iconst 0, 1) := by decide +kernel
theorem dX5_isPhrase_2 : decode cX5_isPhrase 2 = .ok (.aload_n 0, 1) := by decide +kernel
theorem dX5_isPhrase_3 : decode cX5_isPhrase 3 = .ok (.getfield 57, 3) := by decide +kernel
theorem dX5_isPhrase_6 : decode cX5_isPhrase 6 = .ok (.iconst 1, 1) := by decide +kernel
theorem dX5_isPhrase_7 : decode cX5_isPhrase 7 = .ok (.isub, 1) := by decide +kernel
theorem dX5_isPhrase_8 : decode cX5_isPhrase 8 = .ok (.invokestatic 53, 3) := by decide +kernel
theorem dX5_isPhrase_11 : decode cX5_isPhrase 11 = .ok (.ireturn, 1) := by decide +kernel
theorem dX5_far_0 : decode cX5_far 0 = .ok (.aload_n 0, 1) := by decide +kernel
theorem dX5_far_1 : decode cX5_far 1 = .ok (.getfield 9, 3) := by decide +kernel
theorem dX5_far_4 : decode cX5_far 4 = .ok (.iload_n 1, 1) := by decide +kernel
theorem dX5_far_5 : decode cX5_far 5 = .ok (.iaload, 1) := by decide +kernel
theorem dX5_far_6 : decode cX5_far 6 = .ok (.aload_n 0, 1) := by decide +kernel
theorem dX5_far_7 : decode cX5_far 7 = .ok (.getfield 9, 3) := by decide +kernel
theorem dX5_far_10 : decode cX5_far 10 = .ok (.iload_n 2, 1) := by decide +kernel
theorem dX5_far_11 : decode cX5_far 11 = .ok (.iaload, 1) := by decide +kernel
theorem dX5_far_12 : decode cX5_far 12 = .ok (.isub, 1) := by decide +kernel
theorem dX5_far_13 : decode cX5_far 13 = .ok (.invokestatic 60, 3) := by decide +kernel
theorem dX5_far_16 : decode cX5_far 16 = .ok (.aload_n 0, 1) := by decide +kernel
theorem dX5_far_17 : decode cX5_far 17 = .ok (.getfield 13, 3) := by decide +kernel
theorem dX5_far_20 : decode cX5_far 20 = .ok (.iload_n 1, 1) := by decide +kernel
theorem dX5_far_21 : decode cX5_far 21 = .ok (.iaload, 1) := by decide +kernel
theorem dX5_far_22 : decode cX5_far 22 = .ok (.aload_n 0, 1) := by decide +kernel
theorem dX5_far_23 : decode cX5_far 23 = .ok (.getfield 13, 3) := by decide +kernel
theorem dX5_far_26 : decode cX5_far 26 = .ok (.iload_n 2, 1) := by decide +kernel
theorem dX5_far_27 : decode cX5_far 27 = .ok (.iaload, 1) := by decide +kernel
theorem dX5_far_28 : decode cX5_far 28 = .ok (.isub, 1) := by decide +kernel
theorem dX5_far_29 : decode cX5_far 29 = .ok (.invokestatic 60, 3) := by decide +kernel
theorem dX5_far_32 : decode cX5_far 32 = .ok (.iadd, 1) := by decide +kernel
theorem dX5_far_33 : decode cX5_far 33 = .ok (.ireturn, 1) := by decide +kernel
set_option maxRecDepth 20000 in
theorem ggX5_found_X5_isIn : GoodIn wsX5_found wsX5_isIn := goodIn_r _ [10] (by decide +kernel) (by decide +kernel)
set_option maxRecDepth 20000 in
theorem gX5_found_X5_isIn : GoodIn wsX5_found (va_wsS RX5 53 yX5_isIn wsX5_isIn) := goodIn_app (goodIn_of _ (by decide +kernel)) ggX5_found_X5_isIn
set_option maxRecDepth 20000 in
theorem ggX5_found_X5_no : GoodIn wsX5_found wsX5_no := goodIn_r _ [14, 1, 15, 16, 17, 18, 19, 20, 21, 22, 23, 24, 25, 26] (by decide +kernel) (by decide +kernel)
set_option maxRecDepth 20000 in
theorem gX5_found_X5_no : GoodIn wsX5_found (wsV RX5 66 RX5 yX5_no wsX5_no) := goodIn_app (goodIn_of _ (by decide +kernel)) ggX5_found_X5_no
theorem dX5_found_0 : decode cX5_found 0 = .ok (.aload_n 0, 1) := by decide +kernel
theorem dX5_found_1 : decode cX5_found 1 = .ok (.iconst 0, 1) := by decide +kernel
theorem dX5_found_2 : decode cX5_found 2 = .ok (.putfield 46, 3) := by decide +kernel
theorem dX5_found_5 : decode cX5_found 5 = .ok (.iload_n 1, 1) := by decide +kernel
theorem dX5_found_6 : decode cX5_found 6 = .ok (.iconst 0, 1) := by decide +kernel
theorem dX5_found_7 : decode cX5_found 7 = .ok (.bipush 30, 2) := by decide +kernel
theorem dX5_found_9 : decode cX5_found 9 = .ok (.invokestatic 53, 3) := by decide +kernel
theorem dX5_found_12 : decode cX5_found 12 = .ok (.ifCond .eq 23, 3) := by decide +kernel
theorem dX5_found_15 : decode cX5_found 15 = .ok (.iload_n 2, 1) := by decide +kernel
theorem dX5_found_16 : decode cX5_found 16 = .ok (.iconst 0, 1) := by decide +kernel
theorem dX5_found_17 : decode cX5_found 17 = .ok (.bipush 30, 2) := by decide +kernel
theorem dX5_found_19 : decode cX5_found 19 = .ok (.invokestatic 53, 3) := by decide +kernel
theorem dX5_found_22 : decode cX5_found 22 = .ok (.ifCond .eq 13, 3) := by decide +kernel
theorem dX5_found_25 : decode cX5_found 25 = .ok (.iload_n 3, 1) := by decide +kernel
theorem dX5_found_26 : decode cX5_found 26 = .ok (.iconst 1, 1) := by decide +kernel
theorem dX5_found_27 : decode cX5_found 27 = .ok (.bipush 9, 2) := by decide +kernel
theorem dX5_found_29 : decode cX5_found 29 = .ok (.invokestatic 53, 3) := by decide +kernel
theorem dX5_found_32 : decode cX5_found 32 = .ok (.ifCond .ne 9, 3) := by decide +kernel
theorem dX5_found_35 : decode cX5_found 35 = .ok (.aload_n 0, 1) := by decide +kernel
theorem dX5_found_36 : decode cX5_found 36 = .ok (.iconst 1, 1) := by decide +kernel
theorem dX5_found_37 : decode cX5_found 37 = .ok (.invokevirtual 66, 3) := by decide +kernel
theorem dX5_found_40 : decode cX5_found 40 = .ok (.ireturn, 1) := by decide +kernel
theorem dX5_found_41 : decode cX5_found 41 = .ok (.aload_n 0, 1) := by decide +kernel
theorem dX5_found_42 : decode cX5_found 42 = .ok (.getfield 50, 3) := by decide +kernel
theorem dX5_found_45 : decode cX5_found 45 = .ok (.bipush 8, 2) := by decide +kernel
theorem dX5_found_47 : decode cX5_found 47 = .ok (.if_icmp .ne 7, 3) := by decide +kernel
theorem dX5_found_50 : decode cX5_found 50 = .ok (.iconst 1, 1) := by decide +kernel
theorem dX5_found_51 : decode cX5_found 51 = .ok (.goto 4, 3) := by decide +kernel
theorem dX5_found_54 : decode cX5_found 54 = .ok (.iconst 0, 1) := by decide +kernel
theorem dX5_found_55 : decode cX5_found 55 = .ok (.istore 4, 2) := by decide +kernel
theorem dX5_found_57 : decode cX5_found 57 = .ok (.iconst 0, 1) := by decide +kernel
theorem dX5_found_58 : decode cX5_found 58 = .ok (.istore 5, 2) := by decide +kernel
theorem dX5_found_60 : decode cX5_found 60 = .ok (.iload 5, 2) := by decide +kernel
theorem dX5_found_62 : decode cX5_found 62 = .ok (.aload_n 0, 1) := by decide +kernel
theorem dX5_found_63 : decode cX5_found 63 = .ok (.getfield 50, 3) := by decide +kernel
theorem dX5_found_66 : decode cX5_found 66 = .ok (.if_icmp .ge 41, 3) := by decide +kernel
theorem dX5_found_69 : decode cX5_found 69 = .ok (.iload 4, 2) := by decide +kernel
theorem dX5_found_71 : decode cX5_found 71 = .ok (.aload_n 0, 1) := by decide +kernel
theorem dX5_found_72 : decode cX5_found 72 = .ok (.getfield 9, 3) := by decide +kernel
theorem dX5_found_75 : decode cX5_found 75 = .ok (.iload 5, 2) := by decide +kernel
theorem dX5_found_77 : decode cX5_found 77 = .ok (.iaload, 1) := by decide +kernel
theorem dX5_found_78 : decode cX5_found 78 = .ok (.iload_n 1, 1) := by decide +kernel
theorem dX5_found_79 : decode cX5_found 79 = .ok (.if_icmp .ne 18, 3) := by decide +kernel
theorem dX5_found_82 : decode cX5_found 82 = .ok (.aload_n 0, 1) := by decide +kernel
theorem dX5_found_83 : decode cX5_found 83 = .ok (.getfield 13, 3) := by decide +kernel
theorem dX5_found_86 : decode cX5_found 86 = .ok (.iload 5, 2) := by decide +kernel
theorem dX5_found_88 : decode cX5_found 88 = .ok (.iaload, 1) := by decide +kernel
theorem dX5_found_89 : decode cX5_found 89 = .ok (.iload_n 2, 1) := by decide +kernel
theorem dX5_found_90 : decode cX5_found 90 = .ok (.if_icmp .ne 7, 3) := by decide +kernel
theorem dX5_found_93 : decode cX5_found 93 = .ok (.iconst 1, 1) := by decide +kernel
theorem dX5_found_94 : decode cX5_found 94 = .ok (.goto 4, 3) := by decide +kernel
theorem dX5_found_97 : decode cX5_found 97 = .ok (.iconst 0, 1) := by decide +kernel
theorem dX5_found_98 : decode cX5_found 98 = .ok (.ior, 1) := by decide +kernel
theorem dX5_found_99 : decode cX5_found 99 = .ok (.istore 4, 2) := by decide +kernel
theorem dX5_found_101 : decode cX5_found 101 = .ok (.iinc 5 1, 3) := by decide +kernel
theorem dX5_found_104 : decode cX5_found 104 = .ok (.goto (-44), 3) := by decide +kernel
theorem dX5_found_107 : decode cX5_found 107 = .ok (.iload 4, 2) := by decide +kernel
theorem dX5_found_109 : decode cX5_found 109 = .ok (.ifCond .eq 9, 3) := by decide +kernel
theorem dX5_found_112 : decode cX5_found 112 = .ok (.aload_n 0, 1) := by decide +kernel
theorem dX5_found_113 : decode cX5_found 113 = .ok (.iconst 2, 1) := by decide +kernel
theorem dX5_found_114 : decode cX5_found 114 = .ok (.invokevirtual 66, 3) := by decide +kernel
theorem dX5_found_117 : decode cX5_found 117 = .ok (.ireturn, 1) := by decide +kernel
theorem dX5_found_118 : decode cX5_found 118 = .ok (.aload_n 0, 1) := by decide +kernel
theorem dX5_found_119 : decode cX5_found 119 = .ok (.getfield 9, 3) := by decide +kernel
theorem dX5_found_122 : decode cX5_found 122 = .ok (.aload_n 0, 1) := by decide +kernel
theorem dX5_found_123 : decode cX5_found 123 = .ok (.getfield 50, 3) := by decide +kernel
theorem dX5_found_126 : decode cX5_found 126 = .ok (.iload_n 1, 1) := by decide +kernel
theorem dX5_found_127 : decode cX5_found 127 = .ok (.iastore, 1) := by decide +kernel
theorem dX5_found_128 : decode cX5_found 128 = .ok (.aload_n 0, 1) := by decide +kernel
theorem dX5_found_129 : decode cX5_found 129 = .ok (.getfield 13, 3) := by decide +kernel
theorem dX5_found_132 : decode cX5_found 132 = .ok (.aload_n 0, 1) := by decide +kernel
theorem dX5_found_133 : decode cX5_found 133 = .ok (.getfield 50, 3) := by decide +kernel
theorem dX5_found_136 : decode cX5_found 136 = .ok (.iload_n 2, 1) := by decide +kernel
theorem dX5_found_137 : decode cX5_found 137 = .ok (.iastore, 1) := by decide +kernel
theorem dX5_found_138 : decode cX5_found 138 = .ok (.aload_n 0, 1) := by decide +kernel
theorem dX5_found_139 : decode cX5_found 139 = .ok (.getfield 22, 3) := by decide +kernel
theorem dX5_found_142 : decode cX5_found 142 = .ok (.aload_n 0, 1) := by decide +kernel
theorem dX5_found_143 : decode cX5_found 143 = .ok (.getfield 50, 3) := by decide +kernel
theorem dX5_found_146 : decode cX5_found 146 = .ok (.bipush 24, 2) := by decide +kernel
theorem dX5_found_148 : decode cX5_found 148 = .ok (.iastore, 1) := by decide +kernel
theorem dX5_found_149 : decode cX5_found 149 = .ok (.aload_n 0, 1) := by decide +kernel
theorem dX5_found_150 : decode cX5_found 150 = .ok (.getfield 36, 3) := by decide +kernel
theorem dX5_found_153 : decode cX5_found 153 = .ok (.getfield 69, 3) := by decide +kernel
theorem dX5_found_156 : decode cX5_found 156 = .ok (.aload_n 0, 1) := by decide +kernel
theorem dX5_found_157 : decode cX5_found 157 = .ok (.getfield 50, 3) := by decide +kernel
theorem dX5_found_160 : decode cX5_found 160 = .ok (.iload_n 3, 1) := by decide +kernel
theorem dX5_found_161 : decode cX5_found 161 = .ok (.iastore, 1) := by decide +kernel
theorem dX5_found_162 : decode cX5_found 162 = .ok (.aload_n 0, 1) := by decide +kernel
theorem dX5_found_163 : decode cX5_found 163 = .ok (.getfield 36, 3) := by decide +kernel
theorem dX5_found_166 : decode cX5_found 166 = .ok (.getfield 72, 3) := by decide +kernel
theorem dX5_found_169 : decode cX5_found 169 = .ok (.aload_n 0, 1) := by decide +kernel
theorem dX5_found_170 : decode cX5_found 170 = .ok (.getfield 50, 3) := by decide +kernel
theorem dX5_found_173 : decode cX5_found 173 = .ok (.iconst (-1), 1) := by decide +kernel
theorem dX5_found_174 : decode cX5_found 174 = .ok (.iastore, 1) := by decide +kernel
theorem dX5_found_175 : decode cX5_found 175 = .ok (.aload_n 0, 1) := by decide +kernel
theorem dX5_found_176 : decode cX5_found 176 = .ok (.dup, 1) := by decide +kernel
theorem dX5_found_177 : decode cX5_found 177 = .ok (.getfield 50, 3) := by decide +kernel
theorem dX5_found_180 : decode cX5_found 180 = .ok (.iconst 1, 1) := by decide +kernel
theorem dX5_found_181 : decode cX5_found 181 = .ok (.iadd, 1) := by decide +kernel
theorem dX5_found_182 : decode cX5_found 182 = .ok (.putfield 50, 3) := by decide +kernel
theorem dX5_found_185 : decode cX5_found 185 = .ok (.aload_n 0, 1) := by decide +kernel
theorem dX5_found_186 : decode cX5_found 186 = .ok (.getfield 50, 3) := by decide +kernel
theorem dX5_found_189 : decode cX5_found 189 = .ok (.iconst 1, 1) := by decide +kernel
theorem dX5_found_190 : decode cX5_found 190 = .ok (.isub, 1) := by decide +kernel
theorem dX5_found_191 : decode cX5_found 191 = .ok (.ireturn, 1) := by decide +kernel
set_option maxRecDepth 20000 in
theorem ggX5_setDrum_X5_isVillage : GoodIn wsX5_setDrum wsX5_isVillage := goodIn_r _ [7, 8, 9, 10, 6, 11, 16, 17, 18, 19, 20, 21, 22, 23, 24, 25, 26, 27] (by decide +kernel) (by decide +kernel)
set_option maxRecDepth 20000 in
theorem gX5_setDrum_X5_isVillage : GoodIn wsX5_setDrum (wsV RX5 75 RX5 yX5_isVillage wsX5_isVillage) := goodIn_app (goodIn_of _ (by decide +kernel)) ggX5_setDrum_X5_isVillage
set_option maxRecDepth 20000 in
theorem ggX5_setDrum_X5_no : GoodIn wsX5_setDrum wsX5_no := goodIn_r _ [15, 1, 16, 17, 18, 19, 20, 21, 22, 23, 24, 25, 26, 27] (by decide +kernel) (by decide +kernel)
set_option maxRecDepth 20000 in
theorem gX5_setDrum_X5_no : GoodIn wsX5_setDrum (wsV RX5 66 RX5 yX5_no wsX5_no) := goodIn_app (goodIn_of _ (by decide +kernel)) ggX5_setDrum_X5_no
set_option maxRecDepth 20000 in
theorem ggX5_setDrum_X5_isIn : GoodIn wsX5_setDrum wsX5_isIn := goodIn_r _ [11] (by decide +kernel) (by decide +kernel)
set_option maxRecDepth 20000 in
theorem gX5_setDrum_X5_isIn : GoodIn wsX5_setDrum (va_wsS RX5 53 yX5_isIn wsX5_isIn) := goodIn_app (goodIn_of _ (by decide +kernel)) ggX5_setDrum_X5_isIn
theorem dX5_setDrum_0 : decode cX5_setDrum 0 = .ok (.aload_n 0, 1) := by decide +kernel
theorem dX5_setDrum_1 : decode cX5_setDrum 1 = .ok (.iconst 0, 1) := by decide +kernel
theorem dX5_setDrum_2 : decode cX5_setDrum 2 = .ok (.putfield 46, 3) := by decide +kernel
theorem dX5_setDrum_5 : decode cX5_setDrum 5 = .ok (.aload_n 0, 1) := by decide +kernel
theorem dX5_setDrum_6 : decode cX5_setDrum 6 = .ok (.iload_n 1, 1) := by decide +kernel
theorem dX5_setDrum_7 : decode cX5_setDrum 7 = .ok (.invokevirtual 75, 3) := by decide +kernel
theorem dX5_setDrum_10 : decode cX5_setDrum 10 = .ok (.ifCond .ne 9, 3) := by decide +kernel
theorem dX5_setDrum_13 : decode cX5_setDrum 13 = .ok (.aload_n 0, 1) := by decide +kernel
theorem dX5_setDrum_14 : decode cX5_setDrum 14 = .ok (.iconst 1, 1) := by decide +kernel
theorem dX5_setDrum_15 : decode cX5_setDrum 15 = .ok (.invokevirtual 66, 3) := by decide +kernel
theorem dX5_setDrum_18 : decode cX5_setDrum 18 = .ok (.ireturn, 1) := by decide +kernel
theorem dX5_setDrum_19 : decode cX5_setDrum 19 = .ok (.iload_n 2, 1) := by decide +kernel
theorem dX5_setDrum_20 : decode cX5_setDrum 20 = .ok (.iconst 1, 1) := by decide +kernel
theorem dX5_setDrum_21 : decode cX5_setDrum 21 = .ok (.bipush 9, 2) := by decide +kernel
theorem dX5_setDrum_23 : decode cX5_setDrum 23 = .ok (.invokestatic 53, 3) := by decide +kernel
theorem dX5_setDrum_26 : decode cX5_setDrum 26 = .ok (.ifCond .ne 9, 3) := by decide +kernel
theorem dX5_setDrum_29 : decode cX5_setDrum 29 = .ok (.aload_n 0, 1) := by decide +kernel
theorem dX5_setDrum_30 : decode cX5_setDrum 30 = .ok (.iconst 2, 1) := by decide +kernel
theorem dX5_setDrum_31 : decode cX5_setDrum 31 = .ok (.invokevirtual 66, 3) := by decide +kernel
theorem dX5_setDrum_34 : decode cX5_setDrum 34 = .ok (.ireturn, 1) := by decide +kernel
theorem dX5_setDrum_35 : decode cX5_setDrum 35 = .ok (.aload_n 0, 1) := by decide +kernel
theorem dX5_setDrum_36 : decode cX5_setDrum 36 = .ok (.getfield 36, 3) := by decide +kernel
theorem dX5_setDrum_39 : decode cX5_setDrum 39 = .ok (.getfield 69, 3) := by decide +kernel
theorem dX5_setDrum_42 : decode cX5_setDrum 42 = .ok (.iload_n 1, 1) := by decide +kernel
theorem dX5_setDrum_43 : decode cX5_setDrum 43 = .ok (.iaload, 1) := by decide +kernel
theorem dX5_setDrum_44 : decode cX5_setDrum 44 = .ok (.istore_n 3, 1) := by decide +kernel
theorem dX5_setDrum_45 : decode cX5_setDrum 45 = .ok (.aload_n 0, 1) := by decide +kernel
theorem dX5_setDrum_46 : decode cX5_setDrum 46 = .ok (.getfield 36, 3) := by decide +kernel
theorem dX5_setDrum_49 : decode cX5_setDrum 49 = .ok (.getfield 69, 3) := by decide +kernel
theorem dX5_setDrum_52 : decode cX5_setDrum 52 = .ok (.iload_n 1, 1) := by decide +kernel
theorem dX5_setDrum_53 : decode cX5_setDrum 53 = .ok (.iload_n 2, 1) := by decide +kernel
theorem dX5_setDrum_54 : decode cX5_setDrum 54 = .ok (.iastore, 1) := by decide +kernel
theorem dX5_setDrum_55 : decode cX5_setDrum 55 = .ok (.iload_n 3, 1) := by decide +kernel
theorem dX5_setDrum_56 : decode cX5_setDrum 56 = .ok (.ireturn, 1) := by decide +kernel
set_option maxRecDepth 20000 in
theorem ggX5_setCliff_X5_isVillage : GoodIn wsX5_setCliff wsX5_isVillage := goodIn_r _ [7, 8, 9, 10, 6, 11, 16, 17, 18, 19, 20, 21, 22, 23, 24, 25, 26, 27] (by decide +kernel) (by decide +kernel)
set_option maxRecDepth 20000 in
theorem gX5_setCliff_X5_isVillage : GoodIn wsX5_setCliff (wsV RX5 75 RX5 yX5_isVillage wsX5_isVillage) := goodIn_app (goodIn_of _ (by decide +kernel)) ggX5_setCliff_X5_isVillage
set_option maxRecDepth 20000 in
theorem ggX5_setCliff_X5_no : GoodIn wsX5_setCliff wsX5_no := goodIn_r _ [15, 1, 16, 17, 18, 19, 20, 21, 22, 23, 24, 25, 26, 27] (by decide +kernel) (by decide +kernel)
set_option maxRecDepth 20000 in
theorem gX5_setCliff_X5_no : GoodIn wsX5_setCliff (wsV RX5 66 RX5 yX5_no wsX5_no) := goodIn_app (goodIn_of _ (by decide +kernel)) ggX5_setCliff_X5_no
theorem dX5_setCliff_0 : decode cX5_setCliff 0 = .ok (.aload_n 0, 1) := by decide +kernel
theorem dX5_setCliff_1 : decode cX5_setCliff 1 = .ok (.iconst 0, 1) := by decide +kernel
theorem dX5_setCliff_2 : decode cX5_setCliff 2 = .ok (.putfield 46, 3) := by decide +kernel
theorem dX5_setCliff_5 : decode cX5_setCliff 5 = .ok (.aload_n 0, 1) := by decide +kernel
theorem dX5_setCliff_6 : decode cX5_setCliff 6 = .ok (.iload_n 1, 1) := by decide +kernel
theorem dX5_setCliff_7 : decode cX5_setCliff 7 = .ok (.invokevirtual 75, 3) := by decide +kernel
theorem dX5_setCliff_10 : decode cX5_setCliff 10 = .ok (.ifCond .ne 17, 3) := by decide +kernel
theorem dX5_setCliff_13 : decode cX5_setCliff 13 = .ok (.aload_n 0, 1) := by decide +kernel
theorem dX5_setCliff_14 : decode cX5_setCliff 14 = .ok (.iconst 1, 1) := by decide +kernel
theorem dX5_setCliff_15 : decode cX5_setCliff 15 = .ok (.invokevirtual 66, 3) := by decide +kernel
theorem dX5_setCliff_18 : decode cX5_setCliff 18 = .ok (.ifCond .eq 7, 3) := by decide +kernel
theorem dX5_setCliff_21 : decode cX5_setCliff 21 = .ok (.iconst 1, 1) := by decide +kernel
theorem dX5_setCliff_22 : decode cX5_setCliff 22 = .ok (.goto 4, 3) := by decide +kernel
theorem dX5_setCliff_25 : decode cX5_setCliff 25 = .ok (.iconst 0, 1) := by decide +kernel
theorem dX5_setCliff_26 : decode cX5_setCliff 26 = .ok (.ireturn, 1) := by decide +kernel
theorem dX5_setCliff_27 : decode cX5_setCliff 27 = .ok (.aload_n 0, 1) := by decide +kernel
theorem dX5_setCliff_28 : decode cX5_setCliff 28 = .ok (.getfield 16, 3) := by decide +kernel
theorem dX5_setCliff_31 : decode cX5_setCliff 31 = .ok (.iload_n 1, 1) := by decide +kernel
theorem dX5_setCliff_32 : decode cX5_setCliff 32 = .ok (.iaload, 1) := by decide +kernel
theorem dX5_setCliff_33 : decode cX5_setCliff 33 = .ok (.iconst 1, 1) := by decide +kernel
theorem dX5_setCliff_34 : decode cX5_setCliff 34 = .ok (.if_icmp .ne 7, 3) := by decide +kernel
theorem dX5_setCliff_37 : decode cX5_setCliff 37 = .ok (.iconst 1, 1) := by decide +kernel
theorem dX5_setCliff_38 : decode cX5_setCliff 38 = .ok (.goto 4, 3) := by decide +kernel
theorem dX5_setCliff_41 : decode cX5_setCliff 41 = .ok (.iconst 0, 1) := by decide +kernel
theorem dX5_setCliff_42 : decode cX5_setCliff 42 = .ok (.istore_n 3, 1) := by decide +kernel
theorem dX5_setCliff_43 : decode cX5_setCliff 43 = .ok (.aload_n 0, 1) := by decide +kernel
theorem dX5_setCliff_44 : decode cX5_setCliff 44 = .ok (.getfield 16, 3) := by decide +kernel
theorem dX5_setCliff_47 : decode cX5_setCliff 47 = .ok (.iload_n 1, 1) := by decide +kernel
theorem dX5_setCliff_48 : decode cX5_setCliff 48 = .ok (.iload_n 2, 1) := by decide +kernel
theorem dX5_setCliff_49 : decode cX5_setCliff 49 = .ok (.ifCond .eq 7, 3) := by decide +kernel
theorem dX5_setCliff_52 : decode cX5_setCliff 52 = .ok (.iconst 1, 1) := by decide +kernel
theorem dX5_setCliff_53 : decode cX5_setCliff 53 = .ok (.goto 4, 3) := by decide +kernel
theorem dX5_setCliff_56 : decode cX5_setCliff 56 = .ok (.iconst 0, 1) := by decide +kernel
theorem dX5_setCliff_57 : decode cX5_setCliff 57 = .ok (.iastore, 1) := by decide +kernel
theorem dX5_setCliff_58 : decode cX5_setCliff 58 = .ok (.iload_n 3, 1) := by decide +kernel
theorem dX5_setCliff_59 : decode cX5_setCliff 59 = .ok (.ireturn, 1) := by decide +kernel
set_option maxRecDepth 20000 in
theorem ggX5_setAwake_X5_isVillage : GoodIn wsX5_setAwake wsX5_isVillage := goodIn_r _ [8, 9, 10, 11, 7, 12, 17, 18, 19, 20, 21, 22, 23, 24, 25, 26, 27, 28] (by decide +kernel) (by decide +kernel)
set_option maxRecDepth 20000 in
theorem gX5_setAwake_X5_isVillage : GoodIn wsX5_setAwake (wsV RX5 75 RX5 yX5_isVillage wsX5_isVillage) := goodIn_app (goodIn_of _ (by decide +kernel)) ggX5_setAwake_X5_isVillage
set_option maxRecDepth 20000 in
theorem ggX5_setAwake_X5_no : GoodIn wsX5_setAwake wsX5_no := goodIn_r _ [16, 1, 17, 18, 19, 20, 21, 22, 23, 24, 25, 26, 27, 28] (by decide +kernel) (by decide +kernel)
set_option maxRecDepth 20000 in
theorem gX5_setAwake_X5_no : GoodIn wsX5_setAwake (wsV RX5 66 RX5 yX5_no wsX5_no) := goodIn_app (goodIn_of _ (by decide +kernel)) ggX5_setAwake_X5_no
set_option maxRecDepth 20000 in
theorem ggX5_setAwake_X5_isIn : GoodIn wsX5_setAwake wsX5_isIn := goodIn_r _ [12] (by decide +kernel) (by decide +kernel)
set_option maxRecDepth 20000 in
theorem gX5_setAwake_X5_isIn : GoodIn wsX5_setAwake (va_wsS RX5 53 yX5_isIn wsX5_isIn) := goodIn_app (goodIn_of _ (by decide +kernel)) ggX5_setAwake_X5_isIn
theorem dX5_setAwake_0 : decode cX5_setAwake 0 = .ok (.aload_n 0, 1) := by decide +kernel
theorem dX5_setAwake_1 : decode cX5_setAwake 1 = .ok (.iconst 0, 1) := by decide +kernel
theorem dX5_setAwake_2 : decode cX5_setAwake 2 = .ok (.putfield 46, 3) := by decide +kernel
theorem dX5_setAwake_5 : decode cX5_setAwake 5 = .ok (.aload_n 0, 1) := by decide +kernel
theorem dX5_setAwake_6 : decode cX5_setAwake 6 = .ok (.iload_n 1, 1) := by decide +kernel
theorem dX5_setAwake_7 : decode cX5_setAwake 7 = .ok (.invokevirtual 75, 3) := by decide +kernel
theorem dX5_setAwake_10 : decode cX5_setAwake 10 = .ok (.ifCond .ne 9, 3) := by decide +kernel
theorem dX5_setAwake_13 : decode cX5_setAwake 13 = .ok (.aload_n 0, 1) := by decide +kernel
theorem dX5_setAwake_14 : decode cX5_setAwake 14 = .ok (.iconst 1, 1) := by decide +kernel
theorem dX5_setAwake_15 : decode cX5_setAwake 15 = .ok (.invokevirtual 66, 3) := by decide +kernel
theorem dX5_setAwake_18 : decode cX5_setAwake 18 = .ok (.ireturn, 1) := by decide +kernel
theorem dX5_setAwake_19 : decode cX5_setAwake 19 = .ok (.iload_n 2, 1) := by decide +kernel
theorem dX5_setAwake_20 : decode cX5_setAwake 20 = .ok (.iconst 0, 1) := by decide +kernel
theorem dX5_setAwake_21 : decode cX5_setAwake 21 = .ok (.bipush 23, 2) := by decide +kernel
theorem dX5_setAwake_23 : decode cX5_setAwake 23 = .ok (.invokestatic 53, 3) := by decide +kernel
theorem dX5_setAwake_26 : decode cX5_setAwake 26 = .ok (.ifCond .eq 13, 3) := by decide +kernel
theorem dX5_setAwake_29 : decode cX5_setAwake 29 = .ok (.iload_n 3, 1) := by decide +kernel
theorem dX5_setAwake_30 : decode cX5_setAwake 30 = .ok (.iconst 1, 1) := by decide +kernel
theorem dX5_setAwake_31 : decode cX5_setAwake 31 = .ok (.bipush 24, 2) := by decide +kernel
theorem dX5_setAwake_33 : decode cX5_setAwake 33 = .ok (.invokestatic 53, 3) := by decide +kernel
theorem dX5_setAwake_36 : decode cX5_setAwake 36 = .ok (.ifCond .ne 9, 3) := by decide +kernel
theorem dX5_setAwake_39 : decode cX5_setAwake 39 = .ok (.aload_n 0, 1) := by decide +kernel
theorem dX5_setAwake_40 : decode cX5_setAwake 40 = .ok (.iconst 2, 1) := by decide +kernel
theorem dX5_setAwake_41 : decode cX5_setAwake 41 = .ok (.invokevirtual 66, 3) := by decide +kernel
theorem dX5_setAwake_44 : decode cX5_setAwake 44 = .ok (.ireturn, 1) := by decide +kernel
theorem dX5_setAwake_45 : decode cX5_setAwake 45 = .ok (.aload_n 0, 1) := by decide +kernel
theorem dX5_setAwake_46 : decode cX5_setAwake 46 = .ok (.getfield 22, 3) := by decide +kernel
theorem dX5_setAwake_49 : decode cX5_setAwake 49 = .ok (.iload_n 1, 1) := by decide +kernel
theorem dX5_setAwake_50 : decode cX5_setAwake 50 = .ok (.iaload, 1) := by decide +kernel
theorem dX5_setAwake_51 : decode cX5_setAwake 51 = .ok (.istore 4, 2) := by decide +kernel
theorem dX5_setAwake_53 : decode cX5_setAwake 53 = .ok (.aload_n 0, 1) := by decide +kernel
theorem dX5_setAwake_54 : decode cX5_setAwake 54 = .ok (.getfield 19, 3) := by decide +kernel
theorem dX5_setAwake_57 : decode cX5_setAwake 57 = .ok (.iload_n 1, 1) := by decide +kernel
theorem dX5_setAwake_58 : decode cX5_setAwake 58 = .ok (.iload_n 2, 1) := by decide +kernel
theorem dX5_setAwake_59 : decode cX5_setAwake 59 = .ok (.iastore, 1) := by decide +kernel
theorem dX5_setAwake_60 : decode cX5_setAwake 60 = .ok (.aload_n 0, 1) := by decide +kernel
theorem dX5_setAwake_61 : decode cX5_setAwake 61 = .ok (.getfield 22, 3) := by decide +kernel
theorem dX5_setAwake_64 : decode cX5_setAwake 64 = .ok (.iload_n 1, 1) := by decide +kernel
theorem dX5_setAwake_65 : decode cX5_setAwake 65 = .ok (.iload_n 3, 1) := by decide +kernel
theorem dX5_setAwake_66 : decode cX5_setAwake 66 = .ok (.iastore, 1) := by decide +kernel
theorem dX5_setAwake_67 : decode cX5_setAwake 67 = .ok (.iload 4, 2) := by decide +kernel
theorem dX5_setAwake_69 : decode cX5_setAwake 69 = .ok (.ireturn, 1) := by decide +kernel
set_option maxRecDepth 20000 in
theorem ggX5_phrase_X5_isIn : GoodIn wsX5_phrase wsX5_isIn := goodIn_r _ [8] (by decide +kernel) (by decide +kernel)
set_option maxRecDepth 20000 in
theorem gX5_phrase_X5_isIn : GoodIn wsX5_phrase (va_wsS RX5 53 yX5_isIn wsX5_isIn) := goodIn_app (goodIn_of _ (by decide +kernel)) ggX5_phrase_X5_isIn
set_option maxRecDepth 20000 in
theorem ggX5_phrase_X5_no : GoodIn wsX5_phrase wsX5_no := goodIn_r _ [12, 1, 13, 14, 15, 16, 17, 18, 19, 20, 21, 22, 23, 24] (by decide +kernel) (by decide +kernel)
set_option maxRecDepth 20000 in
theorem gX5_phrase_X5_no : GoodIn wsX5_phrase (wsV RX5 66 RX5 yX5_no wsX5_no) := goodIn_app (goodIn_of _ (by decide +kernel)) ggX5_phrase_X5_no
theorem dX5_phrase_0 : decode cX5_phrase 0 = .ok (.aload_n 0, 1) := by decide +kernel
theorem dX5_phrase_1 : decode cX5_phrase 1 = .ok (.iconst 0, 1) := by decide +kernel
theorem dX5_phrase_2 : decode cX5_phrase 2 = .ok (.putfield 46, 3) := by decide +kernel
theorem dX5_phrase_5 : decode cX5_phrase 5 = .ok (.iconst 0, 1) := by decide +kernel
theorem dX5_phrase_6 : decode cX5_phrase 6 = .ok (.istore_n 2, 1) := by decide +kernel
theorem dX5_phrase_7 : decode cX5_phrase 7 = .ok (.iload_n 1, 1) := by decide +kernel
theorem dX5_phrase_8 : decode cX5_phrase 8 = .ok (.ifCond .le 7, 3) := by decide +kernel
theorem dX5_phrase_11 : decode cX5_phrase 11 = .ok (.iconst 1, 1) := by decide +kernel
theorem dX5_phrase_12 : decode cX5_phrase 12 = .ok (.goto 4, 3) := by decide +kernel
theorem dX5_phrase_15 : decode cX5_phrase 15 = .ok (.iconst 0, 1) := by decide +kernel
theorem dX5_phrase_16 : decode cX5_phrase 16 = .ok (.istore_n 3, 1) := by decide +kernel
theorem dX5_phrase_17 : decode cX5_phrase 17 = .ok (.iload_n 1, 1) := by decide +kernel
theorem dX5_phrase_18 : decode cX5_phrase 18 = .ok (.istore 4, 2) := by decide +kernel
theorem dX5_phrase_20 : decode cX5_phrase 20 = .ok (.iload 4, 2) := by decide +kernel
theorem dX5_phrase_22 : decode cX5_phrase 22 = .ok (.ifCond .le 29, 3) := by decide +kernel
theorem dX5_phrase_25 : decode cX5_phrase 25 = .ok (.iinc 2 1, 3) := by decide +kernel
theorem dX5_phrase_28 : decode cX5_phrase 28 = .ok (.iload_n 3, 1) := by decide +kernel
theorem dX5_phrase_29 : decode cX5_phrase 29 = .ok (.iload 4, 2) := by decide +kernel
theorem dX5_phrase_31 : decode cX5_phrase 31 = .ok (.bipush 10, 2) := by decide +kernel
theorem dX5_phrase_33 : decode cX5_phrase 33 = .ok (.irem, 1) := by decide +kernel
theorem dX5_phrase_34 : decode cX5_phrase 34 = .ok (.iconst 1, 1) := by decide +kernel
theorem dX5_phrase_35 : decode cX5_phrase 35 = .ok (.iconst 2, 1) := by decide +kernel
theorem dX5_phrase_36 : decode cX5_phrase 36 = .ok (.invokestatic 53, 3) := by decide +kernel
theorem dX5_phrase_39 : decode cX5_phrase 39 = .ok (.iand, 1) := by decide +kernel
theorem dX5_phrase_40 : decode cX5_phrase 40 = .ok (.istore_n 3, 1) := by decide +kernel
theorem dX5_phrase_41 : decode cX5_phrase 41 = .ok (.iload 4, 2) := by decide +kernel
theorem dX5_phrase_43 : decode cX5_phrase 43 = .ok (.bipush 10, 2) := by decide +kernel
theorem dX5_phrase_45 : decode cX5_phrase 45 = .ok (.idiv, 1) := by decide +kernel
theorem dX5_phrase_46 : decode cX5_phrase 46 = .ok (.istore 4, 2) := by decide +kernel
theorem dX5_phrase_48 : decode cX5_phrase 48 = .ok (.goto (-28), 3) := by decide +kernel
theorem dX5_phrase_51 : decode cX5_phrase 51 = .ok (.iload_n 3, 1) := by decide +kernel
theorem dX5_phrase_52 : decode cX5_phrase 52 = .ok (.ifCond .eq 13, 3) := by decide +kernel
theorem dX5_phrase_55 : decode cX5_phrase 55 = .ok (.iload_n 2, 1) := by decide +kernel
theorem dX5_phrase_56 : decode cX5_phrase 56 = .ok (.iconst 2, 1) := by decide +kernel
theorem dX5_phrase_57 : decode cX5_phrase 57 = .ok (.bipush 8, 2) := by decide +kernel
theorem dX5_phrase_59 : decode cX5_phrase 59 = .ok (.invokestatic 53, 3) := by decide +kernel
theorem dX5_phrase_62 : decode cX5_phrase 62 = .ok (.ifCond .ne 9, 3) := by decide +kernel
theorem dX5_phrase_65 : decode cX5_phrase 65 = .ok (.aload_n 0, 1) := by decide +kernel
theorem dX5_phrase_66 : decode cX5_phrase 66 = .ok (.iconst 1, 1) := by decide +kernel
theorem dX5_phrase_67 : decode cX5_phrase 67 = .ok (.invokevirtual 66, 3) := by decide +kernel
theorem dX5_phrase_70 : decode cX5_phrase 70 = .ok (.ireturn, 1) := by decide +kernel
theorem dX5_phrase_71 : decode cX5_phrase 71 = .ok (.aload_n 0, 1) := by decide +kernel
theorem dX5_phrase_72 : decode cX5_phrase 72 = .ok (.getfield 57, 3) := by decide +kernel
theorem dX5_phrase_75 : decode cX5_phrase 75 = .ok (.bipush 12, 2) := by decide +kernel
theorem dX5_phrase_77 : decode cX5_phrase 77 = .ok (.if_icmp .ne 7, 3) := by decide +kernel
theorem dX5_phrase_80 : decode cX5_phrase 80 = .ok (.iconst 1, 1) := by decide +kernel
theorem dX5_phrase_81 : decode cX5_phrase 81 = .ok (.goto 4, 3) := by decide +kernel
theorem dX5_phrase_84 : decode cX5_phrase 84 = .ok (.iconst 0, 1) := by decide +kernel
theorem dX5_phrase_85 : decode cX5_phrase 85 = .ok (.istore 4, 2) := by decide +kernel
theorem dX5_phrase_87 : decode cX5_phrase 87 = .ok (.iconst 0, 1) := by decide +kernel
theorem dX5_phrase_88 : decode cX5_phrase 88 = .ok (.istore 5, 2) := by decide +kernel
theorem dX5_phrase_90 : decode cX5_phrase 90 = .ok (.iload 5, 2) := by decide +kernel
theorem dX5_phrase_92 : decode cX5_phrase 92 = .ok (.aload_n 0, 1) := by decide +kernel
theorem dX5_phrase_93 : decode cX5_phrase 93 = .ok (.getfield 57, 3) := by decide +kernel
theorem dX5_phrase_96 : decode cX5_phrase 96 = .ok (.if_icmp .ge 30, 3) := by decide +kernel
theorem dX5_phrase_99 : decode cX5_phrase 99 = .ok (.iload 4, 2) := by decide +kernel
theorem dX5_phrase_101 : decode cX5_phrase 101 = .ok (.aload_n 0, 1) := by decide +kernel
theorem dX5_phrase_102 : decode cX5_phrase 102 = .ok (.getfield 25, 3) := by decide +kernel
theorem dX5_phrase_105 : decode cX5_phrase 105 = .ok (.iload 5, 2) := by decide +kernel
theorem dX5_phrase_107 : decode cX5_phrase 107 = .ok (.iaload, 1) := by decide +kernel
theorem dX5_phrase_108 : decode cX5_phrase 108 = .ok (.iload_n 1, 1) := by decide +kernel
theorem dX5_phrase_109 : decode cX5_phrase 109 = .ok (.if_icmp .ne 7, 3) := by decide +kernel
theorem dX5_phrase_112 : decode cX5_phrase 112 = .ok (.iconst 1, 1) := by decide +kernel
theorem dX5_phrase_113 : decode cX5_phrase 113 = .ok (.goto 4, 3) := by decide +kernel
theorem dX5_phrase_116 : decode cX5_phrase 116 = .ok (.iconst 0, 1) := by decide +kernel
theorem dX5_phrase_117 : decode cX5_phrase 117 = .ok (.ior, 1) := by decide +kernel
theorem dX5_phrase_118 : decode cX5_phrase 118 = .ok (.istore 4, 2) := by decide +kernel
theorem dX5_phrase_120 : decode cX5_phrase 120 = .ok (.iinc 5 1, 3) := by decide +kernel
theorem dX5_phrase_123 : decode cX5_phrase 123 = .ok (.goto (-33), 3) := by decide +kernel
theorem dX5_phrase_126 : decode cX5_phrase 126 = .ok (.iload 4, 2) := by decide +kernel
theorem dX5_phrase_128 : decode cX5_phrase 128 = .ok (.ifCond .eq 9, 3) := by decide +kernel
theorem dX5_phrase_131 : decode cX5_phrase 131 = .ok (.aload_n 0, 1) := by decide +kernel
theorem dX5_phrase_132 : decode cX5_phrase 132 = .ok (.iconst 2, 1) := by decide +kernel
theorem dX5_phrase_133 : decode cX5_phrase 133 = .ok (.invokevirtual 66, 3) := by decide +kernel
theorem dX5_phrase_136 : decode cX5_phrase 136 = .ok (.ireturn, 1) := by decide +kernel
theorem dX5_phrase_137 : decode cX5_phrase 137 = .ok (.aload_n 0, 1) := by decide +kernel
theorem dX5_phrase_138 : decode cX5_phrase 138 = .ok (.getfield 25, 3) := by decide +kernel
theorem dX5_phrase_141 : decode cX5_phrase 141 = .ok (.aload_n 0, 1) := by decide +kernel
theorem dX5_phrase_142 : decode cX5_phrase 142 = .ok (.getfield 57, 3) := by decide +kernel
theorem dX5_phrase_145 : decode cX5_phrase 145 = .ok (.iload_n 1, 1) := by decide +kernel
theorem dX5_phrase_146 : decode cX5_phrase 146 = .ok (.iastore, 1) := by decide +kernel
theorem dX5_phrase_147 : decode cX5_phrase 147 = .ok (.aload_n 0, 1) := by decide +kernel
theorem dX5_phrase_148 : decode cX5_phrase 148 = .ok (.getfield 28, 3) := by decide +kernel
theorem dX5_phrase_151 : decode cX5_phrase 151 = .ok (.aload_n 0, 1) := by decide +kernel
theorem dX5_phrase_152 : decode cX5_phrase 152 = .ok (.getfield 57, 3) := by decide +kernel
theorem dX5_phrase_155 : decode cX5_phrase 155 = .ok (.iload_n 2, 1) := by decide +kernel
theorem dX5_phrase_156 : decode cX5_phrase 156 = .ok (.iastore, 1) := by decide +kernel
theorem dX5_phrase_157 : decode cX5_phrase 157 = .ok (.aload_n 0, 1) := by decide +kernel
theorem dX5_phrase_158 : decode cX5_phrase 158 = .ok (.dup, 1) := by decide +kernel
theorem dX5_phrase_159 : decode cX5_phrase 159 = .ok (.getfield 57, 3) := by decide +kernel
theorem dX5_phrase_162 : decode cX5_phrase 162 = .ok (.iconst 1, 1) := by decide +kernel
theorem dX5_phrase_163 : decode cX5_phrase 163 = .ok (.iadd, 1) := by decide +kernel
theorem dX5_phrase_164 : decode cX5_phrase 164 = .ok (.putfield 57, 3) := by decide +kernel
theorem dX5_phrase_167 : decode cX5_phrase 167 = .ok (.aload_n 0, 1) := by decide +kernel
theorem dX5_phrase_168 : decode cX5_phrase 168 = .ok (.getfield 57, 3) := by decide +kernel
theorem dX5_phrase_171 : decode cX5_phrase 171 = .ok (.iconst 1, 1) := by decide +kernel
theorem dX5_phrase_172 : decode cX5_phrase 172 = .ok (.isub, 1) := by decide +kernel
theorem dX5_phrase_173 : decode cX5_phrase 173 = .ok (.ireturn, 1) := by decide +kernel
set_option maxRecDepth 20000 in
theorem ggX5_tell_X5_isVillage : GoodIn wsX5_tell wsX5_isVillage := goodIn_r _ [7, 8, 9, 10, 6, 11, 34, 35, 36, 37, 38, 39, 40, 41, 42, 43, 44, 45] (by decide +kernel) (by decide +kernel)
set_option maxRecDepth 20000 in
theorem gX5_tell_X5_isVillage : GoodIn wsX5_tell (wsV RX5 75 RX5 yX5_isVillage wsX5_isVillage) := goodIn_app (goodIn_of _ (by decide +kernel)) ggX5_tell_X5_isVillage
set_option maxRecDepth 20000 in
theorem ggX5_tell_X5_isPhrase : GoodIn wsX5_tell wsX5_isPhrase := goodIn_r _ [15, 16, 9, 10, 6, 11, 34, 35, 36, 37, 38, 39, 40, 41, 42, 43, 44, 45] (by decide +kernel) (by decide +kernel)
set_option maxRecDepth 20000 in
theorem gX5_tell_X5_isPhrase : GoodIn wsX5_tell (wsV RX5 79 RX5 yX5_isPhrase wsX5_isPhrase) := goodIn_app (goodIn_of _ (by decide +kernel)) ggX5_tell_X5_isPhrase
set_option maxRecDepth 20000 in
theorem ggX5_tell_X5_no : GoodIn wsX5_tell wsX5_no := goodIn_r _ [20, 1, 34, 35, 36, 37, 38, 39, 40, 41, 42, 43, 44, 45] (by decide +kernel) (by decide +kernel)
set_option maxRecDepth 20000 in
theorem gX5_tell_X5_no : GoodIn wsX5_tell (wsV RX5 66 RX5 yX5_no wsX5_no) := goodIn_app (goodIn_of _ (by decide +kernel)) ggX5_tell_X5_no
set_option maxRecDepth 20000 in
theorem ggX5_tell_X4_learns : GoodIn wsX5_tell wsX4_learns := goodIn_r _ [25, 26, 27, 46, 47, 48, 49, 50, 51, 52, 53, 54, 55, 56, 57, 58, 59, 60, 61] (by decide +kernel) (by decide +kernel)
set_option maxRecDepth 20000 in
theorem gX5_tell_X4_learns : GoodIn wsX5_tell (wsV RX5 85 RX4 yX4_learns wsX4_learns) := goodIn_app (goodIn_of _ (by decide +kernel)) ggX5_tell_X4_learns
set_option maxRecDepth 20000 in
theorem ggX5_tell_X4_put : GoodIn wsX5_tell wsX4_put := goodIn_r _ [31, 32, 33, 46, 47, 48, 49, 50, 51, 52, 53, 54, 55, 56, 57, 58, 59, 60, 61] (by decide +kernel) (by decide +kernel)
set_option maxRecDepth 20000 in
theorem gX5_tell_X4_put : GoodIn wsX5_tell (wsV RX5 89 RX4 yX4_put wsX4_put) := goodIn_app (goodIn_of _ (by decide +kernel)) ggX5_tell_X4_put
theorem dX5_tell_0 : decode cX5_tell 0 = .ok (.aload_n 0, 1) := by decide +kernel
theorem dX5_tell_1 : decode cX5_tell 1 = .ok (.iconst 0, 1) := by decide +kernel
theorem dX5_tell_2 : decode cX5_tell 2 = .ok (.putfield 46, 3) := by decide +kernel
theorem dX5_tell_5 : decode cX5_tell 5 = .ok (.aload_n 0, 1) := by decide +kernel
theorem dX5_tell_6 : decode cX5_tell 6 = .ok (.iload_n 1, 1) := by decide +kernel
theorem dX5_tell_7 : decode cX5_tell 7 = .ok (.invokevirtual 75, 3) := by decide +kernel
theorem dX5_tell_10 : decode cX5_tell 10 = .ok (.ifCond .eq 11, 3) := by decide +kernel
theorem dX5_tell_13 : decode cX5_tell 13 = .ok (.aload_n 0, 1) := by decide +kernel
theorem dX5_tell_14 : decode cX5_tell 14 = .ok (.iload_n 2, 1) := by decide +kernel
theorem dX5_tell_15 : decode cX5_tell 15 = .ok (.invokevirtual 79, 3) := by decide +kernel
theorem dX5_tell_18 : decode cX5_tell 18 = .ok (.ifCond .ne 9, 3) := by decide +kernel
theorem dX5_tell_21 : decode cX5_tell 21 = .ok (.aload_n 0, 1) := by decide +kernel
theorem dX5_tell_22 : decode cX5_tell 22 = .ok (.iconst 1, 1) := by decide +kernel
theorem dX5_tell_23 : decode cX5_tell 23 = .ok (.invokevirtual 66, 3) := by decide +kernel
theorem dX5_tell_26 : decode cX5_tell 26 = .ok (.ireturn, 1) := by decide +kernel
theorem dX5_tell_27 : decode cX5_tell 27 = .ok (.aload_n 0, 1) := by decide +kernel
theorem dX5_tell_28 : decode cX5_tell 28 = .ok (.getfield 36, 3) := by decide +kernel
theorem dX5_tell_31 : decode cX5_tell 31 = .ok (.getfield 82, 3) := by decide +kernel
theorem dX5_tell_34 : decode cX5_tell 34 = .ok (.iload_n 1, 1) := by decide +kernel
theorem dX5_tell_35 : decode cX5_tell 35 = .ok (.iaload, 1) := by decide +kernel
theorem dX5_tell_36 : decode cX5_tell 36 = .ok (.iconst 5, 1) := by decide +kernel
theorem dX5_tell_37 : decode cX5_tell 37 = .ok (.if_icmp .ne 9, 3) := by decide +kernel
theorem dX5_tell_40 : decode cX5_tell 40 = .ok (.aload_n 0, 1) := by decide +kernel
theorem dX5_tell_41 : decode cX5_tell 41 = .ok (.iconst 2, 1) := by decide +kernel
theorem dX5_tell_42 : decode cX5_tell 42 = .ok (.invokevirtual 66, 3) := by decide +kernel
theorem dX5_tell_45 : decode cX5_tell 45 = .ok (.ireturn, 1) := by decide +kernel
theorem dX5_tell_46 : decode cX5_tell 46 = .ok (.aload_n 0, 1) := by decide +kernel
theorem dX5_tell_47 : decode cX5_tell 47 = .ok (.getfield 36, 3) := by decide +kernel
theorem dX5_tell_50 : decode cX5_tell 50 = .ok (.iload_n 1, 1) := by decide +kernel
theorem dX5_tell_51 : decode cX5_tell 51 = .ok (.iload_n 2, 1) := by decide +kernel
theorem dX5_tell_52 : decode cX5_tell 52 = .ok (.invokevirtual 85, 3) := by decide +kernel
theorem dX5_tell_55 : decode cX5_tell 55 = .ok (.pop, 1) := by decide +kernel
theorem dX5_tell_56 : decode cX5_tell 56 = .ok (.aload_n 0, 1) := by decide +kernel
theorem dX5_tell_57 : decode cX5_tell 57 = .ok (.getfield 36, 3) := by decide +kernel
theorem dX5_tell_60 : decode cX5_tell 60 = .ok (.iload_n 1, 1) := by decide +kernel
theorem dX5_tell_61 : decode cX5_tell 61 = .ok (.iload_n 2, 1) := by decide +kernel
theorem dX5_tell_62 : decode cX5_tell 62 = .ok (.invokevirtual 89, 3) := by decide +kernel
theorem dX5_tell_65 : decode cX5_tell 65 = .ok (.aload_n 0, 1) := by decide +kernel
theorem dX5_tell_66 : decode cX5_tell 66 = .ok (.getfield 36, 3) := by decide +kernel
theorem dX5_tell_69 : decode cX5_tell 69 = .ok (.getfield 82, 3) := by decide +kernel
theorem dX5_tell_72 : decode cX5_tell 72 = .ok (.iload_n 1, 1) := by decide +kernel
theorem dX5_tell_73 : decode cX5_tell 73 = .ok (.iaload, 1) := by decide +kernel
theorem dX5_tell_74 : decode cX5_tell 74 = .ok (.ireturn, 1) := by decide +kernel
set_option maxRecDepth 20000 in
theorem ggX5_villageTold_X4_isAwake : GoodIn wsX5_villageTold wsX4_isAwake := goodIn_r _ [11, 12, 13, 26, 27, 28, 29, 30, 31, 32, 33, 34, 35, 36, 37, 38, 39, 40, 41, 14, 15, 16, 17, 18, 19, 20, 21, 22, 23, 24, 25] (by decide +kernel) (by decide +kernel)
set_option maxRecDepth 20000 in
theorem gX5_villageTold_X4_isAwake : GoodIn wsX5_villageTold (wsV RX5 93 RX4 yX4_isAwake wsX4_isAwake) := goodIn_app (goodIn_of _ (by decide +kernel)) ggX5_villageTold_X4_isAwake
theorem dX5_villageTold_0 : decode cX5_villageTold 0 = .ok (.iconst 0, 1) := by decide +kernel
theorem dX5_villageTold_1 : decode cX5_villageTold 1 = .ok (.istore_n 3, 1) := by decide +kernel
theorem dX5_villageTold_2 : decode cX5_villageTold 2 = .ok (.iconst 0, 1) := by decide +kernel
theorem dX5_villageTold_3 : decode cX5_villageTold 3 = .ok (.istore 4, 2) := by decide +kernel
theorem dX5_villageTold_5 : decode cX5_villageTold 5 = .ok (.iload 4, 2) := by decide +kernel
theorem dX5_villageTold_7 : decode cX5_villageTold 7 = .ok (.aload_n 0, 1) := by decide +kernel
theorem dX5_villageTold_8 : decode cX5_villageTold 8 = .ok (.getfield 57, 3) := by decide +kernel
theorem dX5_villageTold_11 : decode cX5_villageTold 11 = .ok (.if_icmp .ge 36, 3) := by decide +kernel
theorem dX5_villageTold_14 : decode cX5_villageTold 14 = .ok (.iload_n 3, 1) := by decide +kernel
theorem dX5_villageTold_15 : decode cX5_villageTold 15 = .ok (.aload_n 0, 1) := by decide +kernel
theorem dX5_villageTold_16 : decode cX5_villageTold 16 = .ok (.getfield 36, 3) := by decide +kernel
theorem dX5_villageTold_19 : decode cX5_villageTold 19 = .ok (.getfield 43, 3) := by decide +kernel
theorem dX5_villageTold_22 : decode cX5_villageTold 22 = .ok (.bipush 12, 2) := by decide +kernel
theorem dX5_villageTold_24 : decode cX5_villageTold 24 = .ok (.iload_n 1, 1) := by decide +kernel
theorem dX5_villageTold_25 : decode cX5_villageTold 25 = .ok (.imul, 1) := by decide +kernel
theorem dX5_villageTold_26 : decode cX5_villageTold 26 = .ok (.iload 4, 2) := by decide +kernel
theorem dX5_villageTold_28 : decode cX5_villageTold 28 = .ok (.iadd, 1) := by decide +kernel
theorem dX5_villageTold_29 : decode cX5_villageTold 29 = .ok (.iaload, 1) := by decide +kernel
theorem dX5_villageTold_30 : decode cX5_villageTold 30 = .ok (.iconst (-1), 1) := by decide +kernel
theorem dX5_villageTold_31 : decode cX5_villageTold 31 = .ok (.if_icmp .ne 7, 3) := by decide +kernel
theorem dX5_villageTold_34 : decode cX5_villageTold 34 = .ok (.iconst 0, 1) := by decide +kernel
theorem dX5_villageTold_35 : decode cX5_villageTold 35 = .ok (.goto 4, 3) := by decide +kernel
theorem dX5_villageTold_38 : decode cX5_villageTold 38 = .ok (.iconst 1, 1) := by decide +kernel
theorem dX5_villageTold_39 : decode cX5_villageTold 39 = .ok (.iadd, 1) := by decide +kernel
theorem dX5_villageTold_40 : decode cX5_villageTold 40 = .ok (.istore_n 3, 1) := by decide +kernel
theorem dX5_villageTold_41 : decode cX5_villageTold 41 = .ok (.iinc 4 1, 3) := by decide +kernel
theorem dX5_villageTold_44 : decode cX5_villageTold 44 = .ok (.goto (-39), 3) := by decide +kernel
theorem dX5_villageTold_47 : decode cX5_villageTold 47 = .ok (.bipush 10, 2) := by decide +kernel
theorem dX5_villageTold_49 : decode cX5_villageTold 49 = .ok (.newarray .int, 2) := by decide +kernel
theorem dX5_villageTold_51 : decode cX5_villageTold 51 = .ok (.dup, 1) := by decide +kernel
theorem dX5_villageTold_52 : decode cX5_villageTold 52 = .ok (.iconst 0, 1) := by decide +kernel
theorem dX5_villageTold_53 : decode cX5_villageTold 53 = .ok (.aload_n 0, 1) := by decide +kernel
theorem dX5_villageTold_54 : decode cX5_villageTold 54 = .ok (.getfield 9, 3) := by decide +kernel
theorem dX5_villageTold_57 : decode cX5_villageTold 57 = .ok (.iload_n 1, 1) := by decide +kernel
theorem dX5_villageTold_58 : decode cX5_villageTold 58 = .ok (.iaload, 1) := by decide +kernel
theorem dX5_villageTold_59 : decode cX5_villageTold 59 = .ok (.iastore, 1) := by decide +kernel
theorem dX5_villageTold_60 : decode cX5_villageTold 60 = .ok (.dup, 1) := by decide +kernel
theorem dX5_villageTold_61 : decode cX5_villageTold 61 = .ok (.iconst 1, 1) := by decide +kernel
theorem dX5_villageTold_62 : decode cX5_villageTold 62 = .ok (.aload_n 0, 1) := by decide +kernel
theorem dX5_villageTold_63 : decode cX5_villageTold 63 = .ok (.getfield 13, 3) := by decide +kernel
theorem dX5_villageTold_66 : decode cX5_villageTold 66 = .ok (.iload_n 1, 1) := by decide +kernel
theorem dX5_villageTold_67 : decode cX5_villageTold 67 = .ok (.iaload, 1) := by decide +kernel
theorem dX5_villageTold_68 : decode cX5_villageTold 68 = .ok (.iastore, 1) := by decide +kernel
theorem dX5_villageTold_69 : decode cX5_villageTold 69 = .ok (.dup, 1) := by decide +kernel
theorem dX5_villageTold_70 : decode cX5_villageTold 70 = .ok (.iconst 2, 1) := by decide +kernel
theorem dX5_villageTold_71 : decode cX5_villageTold 71 = .ok (.aload_n 0, 1) := by decide +kernel
theorem dX5_villageTold_72 : decode cX5_villageTold 72 = .ok (.getfield 36, 3) := by decide +kernel
theorem dX5_villageTold_75 : decode cX5_villageTold 75 = .ok (.getfield 69, 3) := by decide +kernel
theorem dX5_villageTold_78 : decode cX5_villageTold 78 = .ok (.iload_n 1, 1) := by decide +kernel
theorem dX5_villageTold_79 : decode cX5_villageTold 79 = .ok (.iaload, 1) := by decide +kernel
theorem dX5_villageTold_80 : decode cX5_villageTold 80 = .ok (.iastore, 1) := by decide +kernel
theorem dX5_villageTold_81 : decode cX5_villageTold 81 = .ok (.dup, 1) := by decide +kernel
theorem dX5_villageTold_82 : decode cX5_villageTold 82 = .ok (.iconst 3, 1) := by decide +kernel
theorem dX5_villageTold_83 : decode cX5_villageTold 83 = .ok (.aload_n 0, 1) := by decide +kernel
theorem dX5_villageTold_84 : decode cX5_villageTold 84 = .ok (.getfield 16, 3) := by decide +kernel
theorem dX5_villageTold_87 : decode cX5_villageTold 87 = .ok (.iload_n 1, 1) := by decide +kernel
theorem dX5_villageTold_88 : decode cX5_villageTold 88 = .ok (.iaload, 1) := by decide +kernel
theorem dX5_villageTold_89 : decode cX5_villageTold 89 = .ok (.iastore, 1) := by decide +kernel
theorem dX5_villageTold_90 : decode cX5_villageTold 90 = .ok (.dup, 1) := by decide +kernel
theorem dX5_villageTold_91 : decode cX5_villageTold 91 = .ok (.iconst 4, 1) := by decide +kernel
theorem dX5_villageTold_92 : decode cX5_villageTold 92 = .ok (.aload_n 0, 1) := by decide +kernel
theorem dX5_villageTold_93 : decode cX5_villageTold 93 = .ok (.getfield 36, 3) := by decide +kernel
theorem dX5_villageTold_96 : decode cX5_villageTold 96 = .ok (.iload_n 1, 1) := by decide +kernel
theorem dX5_villageTold_97 : decode cX5_villageTold 97 = .ok (.invokevirtual 93, 3) := by decide +kernel
theorem dX5_villageTold_100 : decode cX5_villageTold 100 = .ok (.ifCond .eq 7, 3) := by decide +kernel
theorem dX5_villageTold_103 : decode cX5_villageTold 103 = .ok (.iconst 1, 1) := by decide +kernel
theorem dX5_villageTold_104 : decode cX5_villageTold 104 = .ok (.goto 4, 3) := by decide +kernel
theorem dX5_villageTold_107 : decode cX5_villageTold 107 = .ok (.iconst 0, 1) := by decide +kernel
theorem dX5_villageTold_108 : decode cX5_villageTold 108 = .ok (.iastore, 1) := by decide +kernel
theorem dX5_villageTold_109 : decode cX5_villageTold 109 = .ok (.dup, 1) := by decide +kernel
theorem dX5_villageTold_110 : decode cX5_villageTold 110 = .ok (.iconst 5, 1) := by decide +kernel
theorem dX5_villageTold_111 : decode cX5_villageTold 111 = .ok (.aload_n 0, 1) := by decide +kernel
theorem dX5_villageTold_112 : decode cX5_villageTold 112 = .ok (.getfield 36, 3) := by decide +kernel
theorem dX5_villageTold_115 : decode cX5_villageTold 115 = .ok (.getfield 72, 3) := by decide +kernel
theorem dX5_villageTold_118 : decode cX5_villageTold 118 = .ok (.iload_n 1, 1) := by decide +kernel
theorem dX5_villageTold_119 : decode cX5_villageTold 119 = .ok (.iaload, 1) := by decide +kernel
theorem dX5_villageTold_120 : decode cX5_villageTold 120 = .ok (.iastore, 1) := by decide +kernel
theorem dX5_villageTold_121 : decode cX5_villageTold 121 = .ok (.dup, 1) := by decide +kernel
theorem dX5_villageTold_122 : decode cX5_villageTold 122 = .ok (.bipush 6, 2) := by decide +kernel
theorem dX5_villageTold_124 : decode cX5_villageTold 124 = .ok (.aload_n 0, 1) := by decide +kernel
theorem dX5_villageTold_125 : decode cX5_villageTold 125 = .ok (.getfield 36, 3) := by decide +kernel
theorem dX5_villageTold_128 : decode cX5_villageTold 128 = .ok (.getfield 96, 3) := by decide +kernel
theorem dX5_villageTold_131 : decode cX5_villageTold 131 = .ok (.iload_n 1, 1) := by decide +kernel
theorem dX5_villageTold_132 : decode cX5_villageTold 132 = .ok (.iaload, 1) := by decide +kernel
theorem dX5_villageTold_133 : decode cX5_villageTold 133 = .ok (.iastore, 1) := by decide +kernel
theorem dX5_villageTold_134 : decode cX5_villageTold 134 = .ok (.dup, 1) := by decide +kernel
theorem dX5_villageTold_135 : decode cX5_villageTold 135 = .ok (.bipush 7, 2) := by decide +kernel
theorem dX5_villageTold_137 : decode cX5_villageTold 137 = .ok (.aload_n 0, 1) := by decide +kernel
theorem dX5_villageTold_138 : decode cX5_villageTold 138 = .ok (.getfield 36, 3) := by decide +kernel
theorem dX5_villageTold_141 : decode cX5_villageTold 141 = .ok (.getfield 82, 3) := by decide +kernel
theorem dX5_villageTold_144 : decode cX5_villageTold 144 = .ok (.iload_n 1, 1) := by decide +kernel
theorem dX5_villageTold_145 : decode cX5_villageTold 145 = .ok (.iaload, 1) := by decide +kernel
theorem dX5_villageTold_146 : decode cX5_villageTold 146 = .ok (.iastore, 1) := by decide +kernel
theorem dX5_villageTold_147 : decode cX5_villageTold 147 = .ok (.dup, 1) := by decide +kernel
theorem dX5_villageTold_148 : decode cX5_villageTold 148 = .ok (.bipush 8, 2) := by decide +kernel
theorem dX5_villageTold_150 : decode cX5_villageTold 150 = .ok (.iload_n 3, 1) := by decide +kernel
theorem dX5_villageTold_151 : decode cX5_villageTold 151 = .ok (.iastore, 1) := by decide +kernel
theorem dX5_villageTold_152 : decode cX5_villageTold 152 = .ok (.dup, 1) := by decide +kernel
theorem dX5_villageTold_153 : decode cX5_villageTold 153 = .ok (.bipush 9, 2) := by decide +kernel
theorem dX5_villageTold_155 : decode cX5_villageTold 155 = .ok (.aload_n 0, 1) := by decide +kernel
theorem dX5_villageTold_156 : decode cX5_villageTold 156 = .ok (.getfield 36, 3) := by decide +kernel
theorem dX5_villageTold_159 : decode cX5_villageTold 159 = .ok (.getfield 99, 3) := by decide +kernel
theorem dX5_villageTold_162 : decode cX5_villageTold 162 = .ok (.iload_n 1, 1) := by decide +kernel
theorem dX5_villageTold_163 : decode cX5_villageTold 163 = .ok (.iaload, 1) := by decide +kernel
theorem dX5_villageTold_164 : decode cX5_villageTold 164 = .ok (.iastore, 1) := by decide +kernel
theorem dX5_villageTold_165 : decode cX5_villageTold 165 = .ok (.astore 4, 2) := by decide +kernel
theorem dX5_villageTold_167 : decode cX5_villageTold 167 = .ok (.aload 4, 2) := by decide +kernel
theorem dX5_villageTold_169 : decode cX5_villageTold 169 = .ok (.iload_n 2, 1) := by decide +kernel
theorem dX5_villageTold_170 : decode cX5_villageTold 170 = .ok (.iaload, 1) := by decide +kernel
theorem dX5_villageTold_171 : decode cX5_villageTold 171 = .ok (.ireturn, 1) := by decide +kernel
set_option maxRecDepth 20000 in
theorem ggX5_village_X5_isVillage : GoodIn wsX5_village wsX5_isVillage := goodIn_r _ [6, 7, 8, 9, 5, 10, 32, 33, 34, 35, 36, 37, 38, 39, 40, 41, 42, 43] (by decide +kernel) (by decide +kernel)
set_option maxRecDepth 20000 in
theorem gX5_village_X5_isVillage : GoodIn wsX5_village (wsV RX5 75 RX5 yX5_isVillage wsX5_isVillage) := goodIn_app (goodIn_of _ (by decide +kernel)) ggX5_village_X5_isVillage
set_option maxRecDepth 20000 in
theorem ggX5_village_X5_isIn : GoodIn wsX5_village wsX5_isIn := goodIn_r _ [10] (by decide +kernel) (by decide +kernel)
set_option maxRecDepth 20000 in
theorem gX5_village_X5_isIn : GoodIn wsX5_village (va_wsS RX5 53 yX5_isIn wsX5_isIn) := goodIn_app (goodIn_of _ (by decide +kernel)) ggX5_village_X5_isIn
set_option maxRecDepth 20000 in
theorem ggX5_village_X5_villageTold : GoodIn wsX5_village wsX5_villageTold := goodIn_r _ [14, 15, 16, 17, 18, 19, 20, 21, 22, 23, 24, 25, 26, 27, 32, 33, 34, 35, 36, 37, 38, 39, 40, 41, 42, 43, 44, 45, 46, 47, 48, 49, 50, 51, 52, 53, 54, 55, 56, 57, 58, 59] (by decide +kernel) (by decide +kernel)
set_option maxRecDepth 20000 in
theorem gX5_village_X5_villageTold : GoodIn wsX5_village (wsV RX5 102 RX5 yX5_villageTold wsX5_villageTold) := goodIn_app (goodIn_of _ (by decide +kernel)) ggX5_village_X5_villageTold
set_option maxRecDepth 20000 in
theorem ggX5_village_X5_no : GoodIn wsX5_village wsX5_no := goodIn_r _ [31, 1, 32, 33, 34, 35, 36, 37, 38, 39, 40, 41, 42, 43] (by decide +kernel) (by decide +kernel)
set_option maxRecDepth 20000 in
theorem gX5_village_X5_no : GoodIn wsX5_village (wsV RX5 66 RX5 yX5_no wsX5_no) := goodIn_app (goodIn_of _ (by decide +kernel)) ggX5_village_X5_no
theorem dX5_village_0 : decode cX5_village 0 = .ok (.aload_n 0, 1) := by decide +kernel
theorem dX5_village_1 : decode cX5_village 1 = .ok (.iconst 0, 1) := by decide +kernel
theorem dX5_village_2 : decode cX5_village 2 = .ok (.putfield 46, 3) := by decide +kernel
theorem dX5_village_5 : decode cX5_village 5 = .ok (.aload_n 0, 1) := by decide +kernel
theorem dX5_village_6 : decode cX5_village 6 = .ok (.iload_n 1, 1) := by decide +kernel
theorem dX5_village_7 : decode cX5_village 7 = .ok (.invokevirtual 75, 3) := by decide +kernel
theorem dX5_village_10 : decode cX5_village 10 = .ok (.ifCond .eq 22, 3) := by decide +kernel
theorem dX5_village_13 : decode cX5_village 13 = .ok (.iload_n 2, 1) := by decide +kernel
theorem dX5_village_14 : decode cX5_village 14 = .ok (.iconst 0, 1) := by decide +kernel
theorem dX5_village_15 : decode cX5_village 15 = .ok (.bipush 9, 2) := by decide +kernel
theorem dX5_village_17 : decode cX5_village 17 = .ok (.invokestatic 53, 3) := by decide +kernel
theorem dX5_village_20 : decode cX5_village 20 = .ok (.ifCond .eq 12, 3) := by decide +kernel
theorem dX5_village_23 : decode cX5_village 23 = .ok (.aload_n 0, 1) := by decide +kernel
theorem dX5_village_24 : decode cX5_village 24 = .ok (.iload_n 1, 1) := by decide +kernel
theorem dX5_village_25 : decode cX5_village 25 = .ok (.iload_n 2, 1) := by decide +kernel
theorem dX5_village_26 : decode cX5_village 26 = .ok (.invokevirtual 102, 3) := by decide +kernel
theorem dX5_village_29 : decode cX5_village 29 = .ok (.goto 8, 3) := by decide +kernel
theorem dX5_village_32 : decode cX5_village 32 = .ok (.aload_n 0, 1) := by decide +kernel
theorem dX5_village_33 : decode cX5_village 33 = .ok (.iconst 1, 1) := by decide +kernel
theorem dX5_village_34 : decode cX5_village 34 = .ok (.invokevirtual 66, 3) := by decide +kernel
theorem dX5_village_37 : decode cX5_village 37 = .ok (.ireturn, 1) := by decide +kernel
set_option maxRecDepth 20000 in
theorem ggX5_queue_X5_isVillage : GoodIn wsX5_queue wsX5_isVillage := goodIn_r _ [7, 8, 9, 10, 6, 11, 16, 17, 18, 19, 20, 21, 22, 23, 24, 25, 26, 27] (by decide +kernel) (by decide +kernel)
set_option maxRecDepth 20000 in
theorem gX5_queue_X5_isVillage : GoodIn wsX5_queue (wsV RX5 75 RX5 yX5_isVillage wsX5_isVillage) := goodIn_app (goodIn_of _ (by decide +kernel)) ggX5_queue_X5_isVillage
set_option maxRecDepth 20000 in
theorem ggX5_queue_X5_isIn : GoodIn wsX5_queue wsX5_isIn := goodIn_r _ [11] (by decide +kernel) (by decide +kernel)
set_option maxRecDepth 20000 in
theorem gX5_queue_X5_isIn : GoodIn wsX5_queue (va_wsS RX5 53 yX5_isIn wsX5_isIn) := goodIn_app (goodIn_of _ (by decide +kernel)) ggX5_queue_X5_isIn
set_option maxRecDepth 20000 in
theorem ggX5_queue_X5_no : GoodIn wsX5_queue wsX5_no := goodIn_r _ [15, 1, 16, 17, 18, 19, 20, 21, 22, 23, 24, 25, 26, 27] (by decide +kernel) (by decide +kernel)
set_option maxRecDepth 20000 in
theorem gX5_queue_X5_no : GoodIn wsX5_queue (wsV RX5 66 RX5 yX5_no wsX5_no) := goodIn_app (goodIn_of _ (by decide +kernel)) ggX5_queue_X5_no
theorem dX5_queue_0 : decode cX5_queue 0 = .ok (.aload_n 0, 1) := by decide +kernel
theorem dX5_queue_1 : decode cX5_queue 1 = .ok (.iconst 0, 1) := by decide +kernel
theorem dX5_queue_2 : decode cX5_queue 2 = .ok (.putfield 46, 3) := by decide +kernel
theorem dX5_queue_5 : decode cX5_queue 5 = .ok (.aload_n 0, 1) := by decide +kernel
theorem dX5_queue_6 : decode cX5_queue 6 = .ok (.iload_n 1, 1) := by decide +kernel
theorem dX5_queue_7 : decode cX5_queue 7 = .ok (.invokevirtual 75, 3) := by decide +kernel
theorem dX5_queue_10 : decode cX5_queue 10 = .ok (.ifCond .eq 38, 3) := by decide +kernel
theorem dX5_queue_13 : decode cX5_queue 13 = .ok (.iload_n 2, 1) := by decide +kernel
theorem dX5_queue_14 : decode cX5_queue 14 = .ok (.iconst 0, 1) := by decide +kernel
theorem dX5_queue_15 : decode cX5_queue 15 = .ok (.aload_n 0, 1) := by decide +kernel
theorem dX5_queue_16 : decode cX5_queue 16 = .ok (.getfield 36, 3) := by decide +kernel
theorem dX5_queue_19 : decode cX5_queue 19 = .ok (.getfield 82, 3) := by decide +kernel
theorem dX5_queue_22 : decode cX5_queue 22 = .ok (.iload_n 1, 1) := by decide +kernel
theorem dX5_queue_23 : decode cX5_queue 23 = .ok (.iaload, 1) := by decide +kernel
theorem dX5_queue_24 : decode cX5_queue 24 = .ok (.iconst 1, 1) := by decide +kernel
theorem dX5_queue_25 : decode cX5_queue 25 = .ok (.isub, 1) := by decide +kernel
theorem dX5_queue_26 : decode cX5_queue 26 = .ok (.invokestatic 53, 3) := by decide +kernel
theorem dX5_queue_29 : decode cX5_queue 29 = .ok (.ifCond .eq 19, 3) := by decide +kernel
theorem dX5_queue_32 : decode cX5_queue 32 = .ok (.aload_n 0, 1) := by decide +kernel
theorem dX5_queue_33 : decode cX5_queue 33 = .ok (.getfield 36, 3) := by decide +kernel
theorem dX5_queue_36 : decode cX5_queue 36 = .ok (.getfield 106, 3) := by decide +kernel
theorem dX5_queue_39 : decode cX5_queue 39 = .ok (.iconst 5, 1) := by decide +kernel
theorem dX5_queue_40 : decode cX5_queue 40 = .ok (.iload_n 1, 1) := by decide +kernel
theorem dX5_queue_41 : decode cX5_queue 41 = .ok (.imul, 1) := by decide +kernel
theorem dX5_queue_42 : decode cX5_queue 42 = .ok (.iload_n 2, 1) := by decide +kernel
theorem dX5_queue_43 : decode cX5_queue 43 = .ok (.iadd, 1) := by decide +kernel
theorem dX5_queue_44 : decode cX5_queue 44 = .ok (.iaload, 1) := by decide +kernel
theorem dX5_queue_45 : decode cX5_queue 45 = .ok (.goto 8, 3) := by decide +kernel
theorem dX5_queue_48 : decode cX5_queue 48 = .ok (.aload_n 0, 1) := by decide +kernel
theorem dX5_queue_49 : decode cX5_queue 49 = .ok (.iconst 1, 1) := by decide +kernel
theorem dX5_queue_50 : decode cX5_queue 50 = .ok (.invokevirtual 66, 3) := by decide +kernel
theorem dX5_queue_53 : decode cX5_queue 53 = .ok (.ireturn, 1) := by decide +kernel
set_option maxRecDepth 20000 in
theorem ggX5_knows_X5_isVillage : GoodIn wsX5_knows wsX5_isVillage := goodIn_r _ [7, 8, 9, 10, 6, 11, 21, 22, 23, 24, 25, 26, 27, 28, 29, 30, 31, 32] (by decide +kernel) (by decide +kernel)
set_option maxRecDepth 20000 in
theorem gX5_knows_X5_isVillage : GoodIn wsX5_knows (wsV RX5 75 RX5 yX5_isVillage wsX5_isVillage) := goodIn_app (goodIn_of _ (by decide +kernel)) ggX5_knows_X5_isVillage
set_option maxRecDepth 20000 in
theorem ggX5_knows_X5_isPhrase : GoodIn wsX5_knows wsX5_isPhrase := goodIn_r _ [15, 16, 9, 10, 6, 11, 21, 22, 23, 24, 25, 26, 27, 28, 29, 30, 31, 32] (by decide +kernel) (by decide +kernel)
set_option maxRecDepth 20000 in
theorem gX5_knows_X5_isPhrase : GoodIn wsX5_knows (wsV RX5 79 RX5 yX5_isPhrase wsX5_isPhrase) := goodIn_app (goodIn_of _ (by decide +kernel)) ggX5_knows_X5_isPhrase
set_option maxRecDepth 20000 in
theorem ggX5_knows_X5_no : GoodIn wsX5_knows wsX5_no := goodIn_r _ [20, 1, 21, 22, 23, 24, 25, 26, 27, 28, 29, 30, 31, 32] (by decide +kernel) (by decide +kernel)
set_option maxRecDepth 20000 in
theorem gX5_knows_X5_no : GoodIn wsX5_knows (wsV RX5 66 RX5 yX5_no wsX5_no) := goodIn_app (goodIn_of _ (by decide +kernel)) ggX5_knows_X5_no
theorem dX5_knows_0 : decode cX5_knows 0 = .ok (.aload_n 0, 1) := by decide +kernel
theorem dX5_knows_1 : decode cX5_knows 1 = .ok (.iconst 0, 1) := by decide +kernel
theorem dX5_knows_2 : decode cX5_knows 2 = .ok (.putfield 46, 3) := by decide +kernel
theorem dX5_knows_5 : decode cX5_knows 5 = .ok (.aload_n 0, 1) := by decide +kernel
theorem dX5_knows_6 : decode cX5_knows 6 = .ok (.iload_n 1, 1) := by decide +kernel
theorem dX5_knows_7 : decode cX5_knows 7 = .ok (.invokevirtual 75, 3) := by decide +kernel
theorem dX5_knows_10 : decode cX5_knows 10 = .ok (.ifCond .eq 28, 3) := by decide +kernel
theorem dX5_knows_13 : decode cX5_knows 13 = .ok (.aload_n 0, 1) := by decide +kernel
theorem dX5_knows_14 : decode cX5_knows 14 = .ok (.iload_n 2, 1) := by decide +kernel
theorem dX5_knows_15 : decode cX5_knows 15 = .ok (.invokevirtual 79, 3) := by decide +kernel
theorem dX5_knows_18 : decode cX5_knows 18 = .ok (.ifCond .eq 20, 3) := by decide +kernel
theorem dX5_knows_21 : decode cX5_knows 21 = .ok (.aload_n 0, 1) := by decide +kernel
theorem dX5_knows_22 : decode cX5_knows 22 = .ok (.getfield 36, 3) := by decide +kernel
theorem dX5_knows_25 : decode cX5_knows 25 = .ok (.getfield 43, 3) := by decide +kernel
theorem dX5_knows_28 : decode cX5_knows 28 = .ok (.bipush 12, 2) := by decide +kernel
theorem dX5_knows_30 : decode cX5_knows 30 = .ok (.iload_n 1, 1) := by decide +kernel
theorem dX5_knows_31 : decode cX5_knows 31 = .ok (.imul, 1) := by decide +kernel
theorem dX5_knows_32 : decode cX5_knows 32 = .ok (.iload_n 2, 1) := by decide +kernel
theorem dX5_knows_33 : decode cX5_knows 33 = .ok (.iadd, 1) := by decide +kernel
theorem dX5_knows_34 : decode cX5_knows 34 = .ok (.iaload, 1) := by decide +kernel
theorem dX5_knows_35 : decode cX5_knows 35 = .ok (.goto 8, 3) := by decide +kernel
theorem dX5_knows_38 : decode cX5_knows 38 = .ok (.aload_n 0, 1) := by decide +kernel
theorem dX5_knows_39 : decode cX5_knows 39 = .ok (.iconst 1, 1) := by decide +kernel
theorem dX5_knows_40 : decode cX5_knows 40 = .ok (.invokevirtual 66, 3) := by decide +kernel
theorem dX5_knows_43 : decode cX5_knows 43 = .ok (.ireturn, 1) := by decide +kernel
set_option maxRecDepth 20000 in
theorem ggX5_sounds_X5_isVillage : GoodIn wsX5_sounds wsX5_isVillage := goodIn_r _ [7, 8, 9, 10, 6, 11, 26, 27, 28, 29, 30, 31, 32, 33, 34, 35, 36, 37] (by decide +kernel) (by decide +kernel)
set_option maxRecDepth 20000 in
theorem gX5_sounds_X5_isVillage : GoodIn wsX5_sounds (wsV RX5 75 RX5 yX5_isVillage wsX5_isVillage) := goodIn_app (goodIn_of _ (by decide +kernel)) ggX5_sounds_X5_isVillage
set_option maxRecDepth 20000 in
theorem ggX5_sounds_X4_lasting : GoodIn wsX5_sounds wsX4_lasting := goodIn_r _ [16, 17, 18, 19, 20, 21, 38, 39, 40, 41, 42, 43, 44, 45, 46, 47, 48, 49, 50, 51, 52, 53] (by decide +kernel) (by decide +kernel)
set_option maxRecDepth 20000 in
theorem gX5_sounds_X4_lasting : GoodIn wsX5_sounds (wsV RX5 109 RX4 yX4_lasting wsX4_lasting) := goodIn_app (goodIn_of _ (by decide +kernel)) ggX5_sounds_X4_lasting
set_option maxRecDepth 20000 in
theorem ggX5_sounds_X5_no : GoodIn wsX5_sounds wsX5_no := goodIn_r _ [25, 1, 26, 27, 28, 29, 30, 31, 32, 33, 34, 35, 36, 37] (by decide +kernel) (by decide +kernel)
set_option maxRecDepth 20000 in
theorem gX5_sounds_X5_no : GoodIn wsX5_sounds (wsV RX5 66 RX5 yX5_no wsX5_no) := goodIn_app (goodIn_of _ (by decide +kernel)) ggX5_sounds_X5_no
theorem dX5_sounds_0 : decode cX5_sounds 0 = .ok (.aload_n 0, 1) := by decide +kernel
theorem dX5_sounds_1 : decode cX5_sounds 1 = .ok (.iconst 0, 1) := by decide +kernel
theorem dX5_sounds_2 : decode cX5_sounds 2 = .ok (.putfield 46, 3) := by decide +kernel
theorem dX5_sounds_5 : decode cX5_sounds 5 = .ok (.aload_n 0, 1) := by decide +kernel
theorem dX5_sounds_6 : decode cX5_sounds 6 = .ok (.iload_n 1, 1) := by decide +kernel
theorem dX5_sounds_7 : decode cX5_sounds 7 = .ok (.invokevirtual 75, 3) := by decide +kernel
theorem dX5_sounds_10 : decode cX5_sounds 10 = .ok (.ifCond .eq 14, 3) := by decide +kernel
theorem dX5_sounds_13 : decode cX5_sounds 13 = .ok (.aload_n 0, 1) := by decide +kernel
theorem dX5_sounds_14 : decode cX5_sounds 14 = .ok (.getfield 36, 3) := by decide +kernel
theorem dX5_sounds_17 : decode cX5_sounds 17 = .ok (.iload_n 1, 1) := by decide +kernel
theorem dX5_sounds_18 : decode cX5_sounds 18 = .ok (.invokevirtual 109, 3) := by decide +kernel
theorem dX5_sounds_21 : decode cX5_sounds 21 = .ok (.goto 8, 3) := by decide +kernel
theorem dX5_sounds_24 : decode cX5_sounds 24 = .ok (.aload_n 0, 1) := by decide +kernel
theorem dX5_sounds_25 : decode cX5_sounds 25 = .ok (.iconst 1, 1) := by decide +kernel
theorem dX5_sounds_26 : decode cX5_sounds 26 = .ok (.invokevirtual 66, 3) := by decide +kernel
theorem dX5_sounds_29 : decode cX5_sounds 29 = .ok (.ireturn, 1) := by decide +kernel
set_option maxRecDepth 20000 in
theorem ggX5_counted_X4_pairs : GoodIn wsX5_counted wsX4_pairs := goodIn_r _ [9, 10, 11, 12, 13, 8, 14, 15, 28, 29, 30, 31, 32, 33, 34, 35, 36, 37, 38, 39, 40, 41, 42, 43, 16, 17, 18, 19, 20, 21, 22, 23, 24, 25, 26, 27] (by decide +kernel) (by decide +kernel)
set_option maxRecDepth 20000 in
theorem gX5_counted_X4_pairs : GoodIn wsX5_counted (wsV RX5 121 RX4 yX4_pairs wsX4_pairs) := goodIn_app (goodIn_of _ (by decide +kernel)) ggX5_counted_X4_pairs
theorem dX5_counted_0 : decode cX5_counted 0 = .ok (.iconst 0, 1) := by decide +kernel
theorem dX5_counted_1 : decode cX5_counted 1 = .ok (.istore_n 2, 1) := by decide +kernel
theorem dX5_counted_2 : decode cX5_counted 2 = .ok (.iconst 0, 1) := by decide +kernel
theorem dX5_counted_3 : decode cX5_counted 3 = .ok (.istore_n 3, 1) := by decide +kernel
theorem dX5_counted_4 : decode cX5_counted 4 = .ok (.iconst 0, 1) := by decide +kernel
theorem dX5_counted_5 : decode cX5_counted 5 = .ok (.istore 4, 2) := by decide +kernel
theorem dX5_counted_7 : decode cX5_counted 7 = .ok (.iload 4, 2) := by decide +kernel
theorem dX5_counted_9 : decode cX5_counted 9 = .ok (.aload_n 0, 1) := by decide +kernel
theorem dX5_counted_10 : decode cX5_counted 10 = .ok (.getfield 50, 3) := by decide +kernel
theorem dX5_counted_13 : decode cX5_counted 13 = .ok (.if_icmp .ge 44, 3) := by decide +kernel
theorem dX5_counted_16 : decode cX5_counted 16 = .ok (.iload_n 2, 1) := by decide +kernel
theorem dX5_counted_17 : decode cX5_counted 17 = .ok (.aload_n 0, 1) := by decide +kernel
theorem dX5_counted_18 : decode cX5_counted 18 = .ok (.getfield 36, 3) := by decide +kernel
theorem dX5_counted_21 : decode cX5_counted 21 = .ok (.getfield 72, 3) := by decide +kernel
theorem dX5_counted_24 : decode cX5_counted 24 = .ok (.iload 4, 2) := by decide +kernel
theorem dX5_counted_26 : decode cX5_counted 26 = .ok (.iaload, 1) := by decide +kernel
theorem dX5_counted_27 : decode cX5_counted 27 = .ok (.iconst (-1), 1) := by decide +kernel
theorem dX5_counted_28 : decode cX5_counted 28 = .ok (.if_icmp .ne 7, 3) := by decide +kernel
theorem dX5_counted_31 : decode cX5_counted 31 = .ok (.iconst 0, 1) := by decide +kernel
theorem dX5_counted_32 : decode cX5_counted 32 = .ok (.goto 4, 3) := by decide +kernel
theorem dX5_counted_35 : decode cX5_counted 35 = .ok (.iconst 1, 1) := by decide +kernel
theorem dX5_counted_36 : decode cX5_counted 36 = .ok (.iadd, 1) := by decide +kernel
theorem dX5_counted_37 : decode cX5_counted 37 = .ok (.istore_n 2, 1) := by decide +kernel
theorem dX5_counted_38 : decode cX5_counted 38 = .ok (.iload_n 3, 1) := by decide +kernel
theorem dX5_counted_39 : decode cX5_counted 39 = .ok (.aload_n 0, 1) := by decide +kernel
theorem dX5_counted_40 : decode cX5_counted 40 = .ok (.getfield 36, 3) := by decide +kernel
theorem dX5_counted_43 : decode cX5_counted 43 = .ok (.getfield 99, 3) := by decide +kernel
theorem dX5_counted_46 : decode cX5_counted 46 = .ok (.iload 4, 2) := by decide +kernel
theorem dX5_counted_48 : decode cX5_counted 48 = .ok (.iaload, 1) := by decide +kernel
theorem dX5_counted_49 : decode cX5_counted 49 = .ok (.iadd, 1) := by decide +kernel
theorem dX5_counted_50 : decode cX5_counted 50 = .ok (.istore_n 3, 1) := by decide +kernel
theorem dX5_counted_51 : decode cX5_counted 51 = .ok (.iinc 4 1, 3) := by decide +kernel
theorem dX5_counted_54 : decode cX5_counted 54 = .ok (.goto (-47), 3) := by decide +kernel
theorem dX5_counted_57 : decode cX5_counted 57 = .ok (.bipush 8, 2) := by decide +kernel
theorem dX5_counted_59 : decode cX5_counted 59 = .ok (.newarray .int, 2) := by decide +kernel
theorem dX5_counted_61 : decode cX5_counted 61 = .ok (.dup, 1) := by decide +kernel
theorem dX5_counted_62 : decode cX5_counted 62 = .ok (.iconst 0, 1) := by decide +kernel
theorem dX5_counted_63 : decode cX5_counted 63 = .ok (.aload_n 0, 1) := by decide +kernel
theorem dX5_counted_64 : decode cX5_counted 64 = .ok (.getfield 36, 3) := by decide +kernel
theorem dX5_counted_67 : decode cX5_counted 67 = .ok (.getfield 112, 3) := by decide +kernel
theorem dX5_counted_70 : decode cX5_counted 70 = .ok (.iastore, 1) := by decide +kernel
theorem dX5_counted_71 : decode cX5_counted 71 = .ok (.dup, 1) := by decide +kernel
theorem dX5_counted_72 : decode cX5_counted 72 = .ok (.iconst 1, 1) := by decide +kernel
theorem dX5_counted_73 : decode cX5_counted 73 = .ok (.aload_n 0, 1) := by decide +kernel
theorem dX5_counted_74 : decode cX5_counted 74 = .ok (.getfield 50, 3) := by decide +kernel
theorem dX5_counted_77 : decode cX5_counted 77 = .ok (.iastore, 1) := by decide +kernel
theorem dX5_counted_78 : decode cX5_counted 78 = .ok (.dup, 1) := by decide +kernel
theorem dX5_counted_79 : decode cX5_counted 79 = .ok (.iconst 2, 1) := by decide +kernel
theorem dX5_counted_80 : decode cX5_counted 80 = .ok (.aload_n 0, 1) := by decide +kernel
theorem dX5_counted_81 : decode cX5_counted 81 = .ok (.getfield 57, 3) := by decide +kernel
theorem dX5_counted_84 : decode cX5_counted 84 = .ok (.iastore, 1) := by decide +kernel
theorem dX5_counted_85 : decode cX5_counted 85 = .ok (.dup, 1) := by decide +kernel
theorem dX5_counted_86 : decode cX5_counted 86 = .ok (.iconst 3, 1) := by decide +kernel
theorem dX5_counted_87 : decode cX5_counted 87 = .ok (.iload_n 2, 1) := by decide +kernel
theorem dX5_counted_88 : decode cX5_counted 88 = .ok (.iastore, 1) := by decide +kernel
theorem dX5_counted_89 : decode cX5_counted 89 = .ok (.dup, 1) := by decide +kernel
theorem dX5_counted_90 : decode cX5_counted 90 = .ok (.iconst 4, 1) := by decide +kernel
theorem dX5_counted_91 : decode cX5_counted 91 = .ok (.aload_n 0, 1) := by decide +kernel
theorem dX5_counted_92 : decode cX5_counted 92 = .ok (.getfield 36, 3) := by decide +kernel
theorem dX5_counted_95 : decode cX5_counted 95 = .ok (.getfield 115, 3) := by decide +kernel
theorem dX5_counted_98 : decode cX5_counted 98 = .ok (.iastore, 1) := by decide +kernel
theorem dX5_counted_99 : decode cX5_counted 99 = .ok (.dup, 1) := by decide +kernel
theorem dX5_counted_100 : decode cX5_counted 100 = .ok (.iconst 5, 1) := by decide +kernel
theorem dX5_counted_101 : decode cX5_counted 101 = .ok (.aload_n 0, 1) := by decide +kernel
theorem dX5_counted_102 : decode cX5_counted 102 = .ok (.getfield 36, 3) := by decide +kernel
theorem dX5_counted_105 : decode cX5_counted 105 = .ok (.getfield 118, 3) := by decide +kernel
theorem dX5_counted_108 : decode cX5_counted 108 = .ok (.iastore, 1) := by decide +kernel
theorem dX5_counted_109 : decode cX5_counted 109 = .ok (.dup, 1) := by decide +kernel
theorem dX5_counted_110 : decode cX5_counted 110 = .ok (.bipush 6, 2) := by decide +kernel
theorem dX5_counted_112 : decode cX5_counted 112 = .ok (.iload_n 3, 1) := by decide +kernel
theorem dX5_counted_113 : decode cX5_counted 113 = .ok (.iastore, 1) := by decide +kernel
theorem dX5_counted_114 : decode cX5_counted 114 = .ok (.dup, 1) := by decide +kernel
theorem dX5_counted_115 : decode cX5_counted 115 = .ok (.bipush 7, 2) := by decide +kernel
theorem dX5_counted_117 : decode cX5_counted 117 = .ok (.aload_n 0, 1) := by decide +kernel
theorem dX5_counted_118 : decode cX5_counted 118 = .ok (.getfield 36, 3) := by decide +kernel
theorem dX5_counted_121 : decode cX5_counted 121 = .ok (.invokevirtual 121, 3) := by decide +kernel
theorem dX5_counted_124 : decode cX5_counted 124 = .ok (.iastore, 1) := by decide +kernel
theorem dX5_counted_125 : decode cX5_counted 125 = .ok (.astore 4, 2) := by decide +kernel
theorem dX5_counted_127 : decode cX5_counted 127 = .ok (.aload 4, 2) := by decide +kernel
theorem dX5_counted_129 : decode cX5_counted 129 = .ok (.iload_n 1, 1) := by decide +kernel
theorem dX5_counted_130 : decode cX5_counted 130 = .ok (.iaload, 1) := by decide +kernel
theorem dX5_counted_131 : decode cX5_counted 131 = .ok (.ireturn, 1) := by decide +kernel
set_option maxRecDepth 20000 in
theorem ggX5_count_X5_isIn : GoodIn wsX5_count wsX5_isIn := goodIn_r _ [5] (by decide +kernel) (by decide +kernel)
set_option maxRecDepth 20000 in
theorem gX5_count_X5_isIn : GoodIn wsX5_count (va_wsS RX5 53 yX5_isIn wsX5_isIn) := goodIn_app (goodIn_of _ (by decide +kernel)) ggX5_count_X5_isIn
set_option maxRecDepth 20000 in
theorem ggX5_count_X5_counted : GoodIn wsX5_count wsX5_counted := goodIn_r _ [9, 10, 11, 12, 13, 14, 15, 16, 17, 18, 19, 20, 21, 22, 23, 24, 29, 30, 31, 32, 33, 34, 35, 36, 37, 38, 39, 40, 41, 42, 43, 44, 45, 46, 47, 48, 49, 50, 51, 52, 53, 54, 55, 56] (by decide +kernel) (by decide +kernel)
set_option maxRecDepth 20000 in
theorem gX5_count_X5_counted : GoodIn wsX5_count (wsV RX5 125 RX5 yX5_counted wsX5_counted) := goodIn_app (goodIn_of _ (by decide +kernel)) ggX5_count_X5_counted
set_option maxRecDepth 20000 in
theorem ggX5_count_X5_no : GoodIn wsX5_count wsX5_no := goodIn_r _ [28, 1, 29, 30, 31, 32, 33, 34, 35, 36, 37, 38, 39, 40] (by decide +kernel) (by decide +kernel)
set_option maxRecDepth 20000 in
theorem gX5_count_X5_no : GoodIn wsX5_count (wsV RX5 66 RX5 yX5_no wsX5_no) := goodIn_app (goodIn_of _ (by decide +kernel)) ggX5_count_X5_no
theorem dX5_count_0 : decode cX5_count 0 = .ok (.aload_n 0, 1) := by decide +kernel
theorem dX5_count_1 : decode cX5_count 1 = .ok (.iconst 0, 1) := by decide +kernel
theorem dX5_count_2 : decode cX5_count 2 = .ok (.putfield 46, 3) := by decide +kernel
theorem dX5_count_5 : decode cX5_count 5 = .ok (.iload_n 1, 1) := by decide +kernel
theorem dX5_count_6 : decode cX5_count 6 = .ok (.iconst 0, 1) := by decide +kernel
theorem dX5_count_7 : decode cX5_count 7 = .ok (.bipush 7, 2) := by decide +kernel
theorem dX5_count_9 : decode cX5_count 9 = .ok (.invokestatic 53, 3) := by decide +kernel
theorem dX5_count_12 : decode cX5_count 12 = .ok (.ifCond .eq 11, 3) := by decide +kernel
theorem dX5_count_15 : decode cX5_count 15 = .ok (.aload_n 0, 1) := by decide +kernel
theorem dX5_count_16 : decode cX5_count 16 = .ok (.iload_n 1, 1) := by decide +kernel
theorem dX5_count_17 : decode cX5_count 17 = .ok (.invokevirtual 125, 3) := by decide +kernel
theorem dX5_count_20 : decode cX5_count 20 = .ok (.goto 8, 3) := by decide +kernel
theorem dX5_count_23 : decode cX5_count 23 = .ok (.aload_n 0, 1) := by decide +kernel
theorem dX5_count_24 : decode cX5_count 24 = .ok (.iconst 1, 1) := by decide +kernel
theorem dX5_count_25 : decode cX5_count 25 = .ok (.invokevirtual 66, 3) := by decide +kernel
theorem dX5_count_28 : decode cX5_count 28 = .ok (.ireturn, 1) := by decide +kernel
set_option maxRecDepth 20000 in
theorem ggX5_way_X5_isVillage : GoodIn wsX5_way wsX5_isVillage := goodIn_r _ [8, 2, 9, 10, 7, 11, 32, 33, 34, 35, 36, 37, 38, 39, 40, 41, 42, 43] (by decide +kernel) (by decide +kernel)
set_option maxRecDepth 20000 in
theorem gX5_way_X5_isVillage : GoodIn wsX5_way (wsV RX5 75 RX5 yX5_isVillage wsX5_isVillage) := goodIn_app (goodIn_of _ (by decide +kernel)) ggX5_way_X5_isVillage
set_option maxRecDepth 20000 in
theorem ggX5_way_X5_no : GoodIn wsX5_way wsX5_no := goodIn_r _ [15, 1, 32, 33, 34, 35, 36, 37, 38, 39, 40, 41, 42, 43] (by decide +kernel) (by decide +kernel)
set_option maxRecDepth 20000 in
theorem gX5_way_X5_no : GoodIn wsX5_way (wsV RX5 66 RX5 yX5_no wsX5_no) := goodIn_app (goodIn_of _ (by decide +kernel)) ggX5_way_X5_no
set_option maxRecDepth 20000 in
theorem ggX5_way_X4_hears : GoodIn wsX5_way wsX4_hears := goodIn_r _ [20, 21, 22, 23, 7, 24, 25, 26, 27, 28, 29, 30, 31, 44, 45, 46, 47, 48, 49, 50, 51, 52, 53, 54, 55, 56, 57, 58, 59, 32, 33, 34, 35, 36, 37, 38, 39, 40, 41, 42, 43] (by decide +kernel) (by decide +kernel)
set_option maxRecDepth 20000 in
theorem gX5_way_X4_hears : GoodIn wsX5_way (wsV RX5 128 RX4 yX4_hears wsX4_hears) := goodIn_app (goodIn_of _ (by decide +kernel)) ggX5_way_X4_hears
theorem dX5_way_0 : decode cX5_way 0 = .ok (.aload_n 0, 1) := by decide +kernel
theorem dX5_way_1 : decode cX5_way 1 = .ok (.iconst 0, 1) := by decide +kernel
theorem dX5_way_2 : decode cX5_way 2 = .ok (.putfield 46, 3) := by decide +kernel
theorem dX5_way_5 : decode cX5_way 5 = .ok (.aload_n 0, 1) := by decide +kernel
theorem dX5_way_6 : decode cX5_way 6 = .ok (.iload_n 1, 1) := by decide +kernel
theorem dX5_way_7 : decode cX5_way 7 = .ok (.invokevirtual 75, 3) := by decide +kernel
theorem dX5_way_10 : decode cX5_way 10 = .ok (.ifCond .eq 11, 3) := by decide +kernel
theorem dX5_way_13 : decode cX5_way 13 = .ok (.aload_n 0, 1) := by decide +kernel
theorem dX5_way_14 : decode cX5_way 14 = .ok (.iload_n 2, 1) := by decide +kernel
theorem dX5_way_15 : decode cX5_way 15 = .ok (.invokevirtual 75, 3) := by decide +kernel
theorem dX5_way_18 : decode cX5_way 18 = .ok (.ifCond .ne 9, 3) := by decide +kernel
theorem dX5_way_21 : decode cX5_way 21 = .ok (.aload_n 0, 1) := by decide +kernel
theorem dX5_way_22 : decode cX5_way 22 = .ok (.iconst 1, 1) := by decide +kernel
theorem dX5_way_23 : decode cX5_way 23 = .ok (.invokevirtual 66, 3) := by decide +kernel
theorem dX5_way_26 : decode cX5_way 26 = .ok (.ireturn, 1) := by decide +kernel
theorem dX5_way_27 : decode cX5_way 27 = .ok (.iconst 1, 1) := by decide +kernel
theorem dX5_way_28 : decode cX5_way 28 = .ok (.iload_n 1, 1) := by decide +kernel
theorem dX5_way_29 : decode cX5_way 29 = .ok (.ishl, 1) := by decide +kernel
theorem dX5_way_30 : decode cX5_way 30 = .ok (.istore_n 3, 1) := by decide +kernel
theorem dX5_way_31 : decode cX5_way 31 = .ok (.iconst 0, 1) := by decide +kernel
theorem dX5_way_32 : decode cX5_way 32 = .ok (.istore 4, 2) := by decide +kernel
theorem dX5_way_34 : decode cX5_way 34 = .ok (.iload 4, 2) := by decide +kernel
theorem dX5_way_36 : decode cX5_way 36 = .ok (.aload_n 0, 1) := by decide +kernel
theorem dX5_way_37 : decode cX5_way 37 = .ok (.getfield 50, 3) := by decide +kernel
theorem dX5_way_40 : decode cX5_way 40 = .ok (.if_icmp .ge 96, 3) := by decide +kernel
theorem dX5_way_43 : decode cX5_way 43 = .ok (.iload_n 3, 1) := by decide +kernel
theorem dX5_way_44 : decode cX5_way 44 = .ok (.iload_n 2, 1) := by decide +kernel
theorem dX5_way_45 : decode cX5_way 45 = .ok (.ishr, 1) := by decide +kernel
theorem dX5_way_46 : decode cX5_way 46 = .ok (.iconst 1, 1) := by decide +kernel
theorem dX5_way_47 : decode cX5_way 47 = .ok (.iand, 1) := by decide +kernel
theorem dX5_way_48 : decode cX5_way 48 = .ok (.iconst 1, 1) := by decide +kernel
theorem dX5_way_49 : decode cX5_way 49 = .ok (.if_icmp .ne 6, 3) := by decide +kernel
theorem dX5_way_52 : decode cX5_way 52 = .ok (.iload 4, 2) := by decide +kernel
theorem dX5_way_54 : decode cX5_way 54 = .ok (.ireturn, 1) := by decide +kernel
theorem dX5_way_55 : decode cX5_way 55 = .ok (.iload_n 3, 1) := by decide +kernel
theorem dX5_way_56 : decode cX5_way 56 = .ok (.istore 5, 2) := by decide +kernel
theorem dX5_way_58 : decode cX5_way 58 = .ok (.iconst 0, 1) := by decide +kernel
theorem dX5_way_59 : decode cX5_way 59 = .ok (.istore 6, 2) := by decide +kernel
theorem dX5_way_61 : decode cX5_way 61 = .ok (.iload 6, 2) := by decide +kernel
theorem dX5_way_63 : decode cX5_way 63 = .ok (.aload_n 0, 1) := by decide +kernel
theorem dX5_way_64 : decode cX5_way 64 = .ok (.getfield 50, 3) := by decide +kernel
theorem dX5_way_67 : decode cX5_way 67 = .ok (.if_icmp .ge 60, 3) := by decide +kernel
theorem dX5_way_70 : decode cX5_way 70 = .ok (.iconst 0, 1) := by decide +kernel
theorem dX5_way_71 : decode cX5_way 71 = .ok (.istore 7, 2) := by decide +kernel
theorem dX5_way_73 : decode cX5_way 73 = .ok (.iload 7, 2) := by decide +kernel
theorem dX5_way_75 : decode cX5_way 75 = .ok (.aload_n 0, 1) := by decide +kernel
theorem dX5_way_76 : decode cX5_way 76 = .ok (.getfield 50, 3) := by decide +kernel
theorem dX5_way_79 : decode cX5_way 79 = .ok (.if_icmp .ge 42, 3) := by decide +kernel
theorem dX5_way_82 : decode cX5_way 82 = .ok (.iload_n 3, 1) := by decide +kernel
theorem dX5_way_83 : decode cX5_way 83 = .ok (.iload 6, 2) := by decide +kernel
theorem dX5_way_85 : decode cX5_way 85 = .ok (.ishr, 1) := by decide +kernel
theorem dX5_way_86 : decode cX5_way 86 = .ok (.iconst 1, 1) := by decide +kernel
theorem dX5_way_87 : decode cX5_way 87 = .ok (.iand, 1) := by decide +kernel
theorem dX5_way_88 : decode cX5_way 88 = .ok (.iconst 1, 1) := by decide +kernel
theorem dX5_way_89 : decode cX5_way 89 = .ok (.if_icmp .ne 26, 3) := by decide +kernel
theorem dX5_way_92 : decode cX5_way 92 = .ok (.aload_n 0, 1) := by decide +kernel
theorem dX5_way_93 : decode cX5_way 93 = .ok (.getfield 36, 3) := by decide +kernel
theorem dX5_way_96 : decode cX5_way 96 = .ok (.iload 6, 2) := by decide +kernel
theorem dX5_way_98 : decode cX5_way 98 = .ok (.iload 7, 2) := by decide +kernel
theorem dX5_way_100 : decode cX5_way 100 = .ok (.invokevirtual 128, 3) := by decide +kernel
theorem dX5_way_103 : decode cX5_way 103 = .ok (.ifCond .eq 12, 3) := by decide +kernel
theorem dX5_way_106 : decode cX5_way 106 = .ok (.iload 5, 2) := by decide +kernel
theorem dX5_way_108 : decode cX5_way 108 = .ok (.iconst 1, 1) := by decide +kernel
theorem dX5_way_109 : decode cX5_way 109 = .ok (.iload 7, 2) := by decide +kernel
theorem dX5_way_111 : decode cX5_way 111 = .ok (.ishl, 1) := by decide +kernel
theorem dX5_way_112 : decode cX5_way 112 = .ok (.ior, 1) := by decide +kernel
theorem dX5_way_113 : decode cX5_way 113 = .ok (.istore 5, 2) := by decide +kernel
theorem dX5_way_115 : decode cX5_way 115 = .ok (.iinc 7 1, 3) := by decide +kernel
theorem dX5_way_118 : decode cX5_way 118 = .ok (.goto (-45), 3) := by decide +kernel
theorem dX5_way_121 : decode cX5_way 121 = .ok (.iinc 6 1, 3) := by decide +kernel
theorem dX5_way_124 : decode cX5_way 124 = .ok (.goto (-63), 3) := by decide +kernel
theorem dX5_way_127 : decode cX5_way 127 = .ok (.iload 5, 2) := by decide +kernel
theorem dX5_way_129 : decode cX5_way 129 = .ok (.istore_n 3, 1) := by decide +kernel
theorem dX5_way_130 : decode cX5_way 130 = .ok (.iinc 4 1, 3) := by decide +kernel
theorem dX5_way_133 : decode cX5_way 133 = .ok (.goto (-99), 3) := by decide +kernel
theorem dX5_way_136 : decode cX5_way 136 = .ok (.iconst (-1), 1) := by decide +kernel
theorem dX5_way_137 : decode cX5_way 137 = .ok (.ireturn, 1) := by decide +kernel
set_option maxRecDepth 20000 in
theorem ggX5_pass_X5_isIn : GoodIn wsX5_pass wsX5_isIn := goodIn_r _ [6] (by decide +kernel) (by decide +kernel)
set_option maxRecDepth 20000 in
theorem gX5_pass_X5_isIn : GoodIn wsX5_pass (va_wsS RX5 53 yX5_isIn wsX5_isIn) := goodIn_app (goodIn_of _ (by decide +kernel)) ggX5_pass_X5_isIn
set_option maxRecDepth 20000 in
theorem ggX5_pass_X5_no : GoodIn wsX5_pass wsX5_no := goodIn_r _ [10, 1, 76, 77, 78, 79, 80, 81, 82, 83, 84, 85, 86, 87] (by decide +kernel) (by decide +kernel)
set_option maxRecDepth 20000 in
theorem gX5_pass_X5_no : GoodIn wsX5_pass (wsV RX5 66 RX5 yX5_no wsX5_no) := goodIn_app (goodIn_of _ (by decide +kernel)) ggX5_pass_X5_no
set_option maxRecDepth 20000 in
theorem ggX5_pass_X4_pass : GoodIn wsX5_pass wsX4_pass := goodIn_r _ [15, 16, 17, 18, 19, 20, 21, 22, 23, 24, 25, 26, 27, 28, 29, 30, 31, 32, 33, 34, 14, 35, 36, 37, 38, 39, 40, 41, 42, 43, 44, 45, 46, 47, 48, 49, 50, 51, 5, 52, 53, 54, 55, 56, 57, 58, 59, 60, 61, 62, 63, 64, 65, 66, 67, 68, 69, 70, 71, 72, 73, 74, 75, 88, 89, 90, 91, 92, 93, 94, 95, 96, 97, 98, 99, 100, 101, 102, 103, 76, 77, 78, 79, 80, 81, 82, 83, 84, 85, 86, 87] (by decide +kernel) (by decide +kernel)
set_option maxRecDepth 20000 in
theorem gX5_pass_X4_pass : GoodIn wsX5_pass (wsV RX5 131 RX4 yX4_pass wsX4_pass) := goodIn_app (goodIn_of _ (by decide +kernel)) ggX5_pass_X4_pass
theorem dX5_pass_0 : decode cX5_pass 0 = .ok (.aload_n 0, 1) := by decide +kernel
theorem dX5_pass_1 : decode cX5_pass 1 = .ok (.iconst 0, 1) := by decide +kernel
theorem dX5_pass_2 : decode cX5_pass 2 = .ok (.putfield 46, 3) := by decide +kernel
theorem dX5_pass_5 : decode cX5_pass 5 = .ok (.iload_n 1, 1) := by decide +kernel
theorem dX5_pass_6 : decode cX5_pass 6 = .ok (.iconst 1, 1) := by decide +kernel
theorem dX5_pass_7 : decode cX5_pass 7 = .ok (.sipush 200, 3) := by decide +kernel
theorem dX5_pass_10 : decode cX5_pass 10 = .ok (.invokestatic 53, 3) := by decide +kernel
theorem dX5_pass_13 : decode cX5_pass 13 = .ok (.ifCond .ne 9, 3) := by decide +kernel
theorem dX5_pass_16 : decode cX5_pass 16 = .ok (.aload_n 0, 1) := by decide +kernel
theorem dX5_pass_17 : decode cX5_pass 17 = .ok (.iconst 1, 1) := by decide +kernel
theorem dX5_pass_18 : decode cX5_pass 18 = .ok (.invokevirtual 66, 3) := by decide +kernel
theorem dX5_pass_21 : decode cX5_pass 21 = .ok (.ireturn, 1) := by decide +kernel
theorem dX5_pass_22 : decode cX5_pass 22 = .ok (.iconst 0, 1) := by decide +kernel
theorem dX5_pass_23 : decode cX5_pass 23 = .ok (.istore_n 2, 1) := by decide +kernel
theorem dX5_pass_24 : decode cX5_pass 24 = .ok (.iconst 0, 1) := by decide +kernel
theorem dX5_pass_25 : decode cX5_pass 25 = .ok (.istore_n 3, 1) := by decide +kernel
theorem dX5_pass_26 : decode cX5_pass 26 = .ok (.iload_n 3, 1) := by decide +kernel
theorem dX5_pass_27 : decode cX5_pass 27 = .ok (.iload_n 1, 1) := by decide +kernel
theorem dX5_pass_28 : decode cX5_pass 28 = .ok (.if_icmp .ge 19, 3) := by decide +kernel
theorem dX5_pass_31 : decode cX5_pass 31 = .ok (.iload_n 2, 1) := by decide +kernel
theorem dX5_pass_32 : decode cX5_pass 32 = .ok (.aload_n 0, 1) := by decide +kernel
theorem dX5_pass_33 : decode cX5_pass 33 = .ok (.getfield 36, 3) := by decide +kernel
theorem dX5_pass_36 : decode cX5_pass 36 = .ok (.invokevirtual 131, 3) := by decide +kernel
theorem dX5_pass_39 : decode cX5_pass 39 = .ok (.iadd, 1) := by decide +kernel
theorem dX5_pass_40 : decode cX5_pass 40 = .ok (.istore_n 2, 1) := by decide +kernel
theorem dX5_pass_41 : decode cX5_pass 41 = .ok (.iinc 3 1, 3) := by decide +kernel
theorem dX5_pass_44 : decode cX5_pass 44 = .ok (.goto (-18), 3) := by decide +kernel
theorem dX5_pass_47 : decode cX5_pass 47 = .ok (.iload_n 2, 1) := by decide +kernel
theorem dX5_pass_48 : decode cX5_pass 48 = .ok (.ireturn, 1) := by decide +kernel
set_option maxRecDepth 20000 in
theorem ggX5_reaches_X5_isVillage : GoodIn wsX5_reaches wsX5_isVillage := goodIn_r _ [8, 9, 10, 11, 7, 12, 95, 96, 97, 98, 99, 100, 101, 102, 103, 104, 105, 106] (by decide +kernel) (by decide +kernel)
set_option maxRecDepth 20000 in
theorem gX5_reaches_X5_isVillage : GoodIn wsX5_reaches (wsV RX5 75 RX5 yX5_isVillage wsX5_isVillage) := goodIn_app (goodIn_of _ (by decide +kernel)) ggX5_reaches_X5_isVillage
set_option maxRecDepth 20000 in
theorem ggX5_reaches_X5_isPhrase : GoodIn wsX5_reaches wsX5_isPhrase := goodIn_r _ [16, 17, 10, 11, 7, 12, 95, 96, 97, 98, 99, 100, 101, 102, 103, 104, 105, 106] (by decide +kernel) (by decide +kernel)
set_option maxRecDepth 20000 in
theorem gX5_reaches_X5_isPhrase : GoodIn wsX5_reaches (wsV RX5 79 RX5 yX5_isPhrase wsX5_isPhrase) := goodIn_app (goodIn_of _ (by decide +kernel)) ggX5_reaches_X5_isPhrase
set_option maxRecDepth 20000 in
theorem ggX5_reaches_X5_no : GoodIn wsX5_reaches wsX5_no := goodIn_r _ [21, 1, 95, 96, 97, 98, 99, 100, 101, 102, 103, 104, 105, 106] (by decide +kernel) (by decide +kernel)
set_option maxRecDepth 20000 in
theorem gX5_reaches_X5_no : GoodIn wsX5_reaches (wsV RX5 66 RX5 yX5_no wsX5_no) := goodIn_app (goodIn_of _ (by decide +kernel)) ggX5_reaches_X5_no
set_option maxRecDepth 20000 in
theorem ggX5_reaches_X4_become : GoodIn wsX5_reaches wsX4_become := goodIn_r _ [26, 27, 28, 29, 30, 31, 32, 33, 34, 35, 36, 37, 38, 39, 40, 41, 42, 43, 44, 25, 45, 46, 47, 48, 49, 107, 108, 109, 110, 111, 112, 113, 114, 115, 116, 117, 118, 119, 120, 121, 122] (by decide +kernel) (by decide +kernel)
set_option maxRecDepth 20000 in
theorem gX5_reaches_X4_become : GoodIn wsX5_reaches (wsV RX5 134 RX4 yX4_become wsX4_become) := goodIn_app (goodIn_of _ (by decide +kernel)) ggX5_reaches_X4_become
set_option maxRecDepth 20000 in
theorem ggX5_reaches_X4_pass : GoodIn wsX5_reaches wsX4_pass := goodIn_r _ [53, 54, 31, 29, 37, 39, 27, 41, 40, 38, 36, 33, 32, 55, 56, 57, 58, 59, 60, 61, 25, 62, 34, 46, 47, 48, 49, 28, 63, 64, 65, 66, 67, 68, 69, 70, 30, 71, 7, 72, 73, 74, 75, 76, 77, 78, 79, 80, 81, 82, 83, 84, 85, 86, 87, 88, 89, 90, 35, 91, 92, 93, 94, 107, 108, 109, 110, 111, 112, 113, 114, 115, 116, 117, 118, 119, 120, 121, 122, 95, 96, 97, 98, 99, 100, 101, 102, 103, 104, 105, 106] (by decide +kernel) (by decide +kernel)
set_option maxRecDepth 20000 in
theorem gX5_reaches_X4_pass : GoodIn wsX5_reaches (wsV RX5 131 RX4 yX4_pass wsX4_pass) := goodIn_app (goodIn_of _ (by decide +kernel)) ggX5_reaches_X4_pass
theorem dX5_reaches_0 : decode cX5_reaches 0 = .ok (.aload_n 0, 1) := by decide +kernel
theorem dX5_reaches_1 : decode cX5_reaches 1 = .ok (.iconst 0, 1) := by decide +kernel
theorem dX5_reaches_2 : decode cX5_reaches 2 = .ok (.putfield 46, 3) := by decide +kernel
theorem dX5_reaches_5 : decode cX5_reaches 5 = .ok (.aload_n 0, 1) := by decide +kernel
theorem dX5_reaches_6 : decode cX5_reaches 6 = .ok (.iload_n 1, 1) := by decide +kernel
theorem dX5_reaches_7 : decode cX5_reaches 7 = .ok (.invokevirtual 75, 3) := by decide +kernel
theorem dX5_reaches_10 : decode cX5_reaches 10 = .ok (.ifCond .eq 11, 3) := by decide +kernel
theorem dX5_reaches_13 : decode cX5_reaches 13 = .ok (.aload_n 0, 1) := by decide +kernel
theorem dX5_reaches_14 : decode cX5_reaches 14 = .ok (.iload_n 2, 1) := by decide +kernel
theorem dX5_reaches_15 : decode cX5_reaches 15 = .ok (.invokevirtual 79, 3) := by decide +kernel
theorem dX5_reaches_18 : decode cX5_reaches 18 = .ok (.ifCond .ne 9, 3) := by decide +kernel
theorem dX5_reaches_21 : decode cX5_reaches 21 = .ok (.aload_n 0, 1) := by decide +kernel
theorem dX5_reaches_22 : decode cX5_reaches 22 = .ok (.iconst 1, 1) := by decide +kernel
theorem dX5_reaches_23 : decode cX5_reaches 23 = .ok (.invokevirtual 66, 3) := by decide +kernel
theorem dX5_reaches_26 : decode cX5_reaches 26 = .ok (.ireturn, 1) := by decide +kernel
theorem dX5_reaches_27 : decode cX5_reaches 27 = .ok (.aload_n 0, 1) := by decide +kernel
theorem dX5_reaches_28 : decode cX5_reaches 28 = .ok (.getfield 40, 3) := by decide +kernel
theorem dX5_reaches_31 : decode cX5_reaches 31 = .ok (.aload_n 0, 1) := by decide +kernel
theorem dX5_reaches_32 : decode cX5_reaches 32 = .ok (.getfield 36, 3) := by decide +kernel
theorem dX5_reaches_35 : decode cX5_reaches 35 = .ok (.invokevirtual 134, 3) := by decide +kernel
theorem dX5_reaches_38 : decode cX5_reaches 38 = .ok (.iconst 0, 1) := by decide +kernel
theorem dX5_reaches_39 : decode cX5_reaches 39 = .ok (.istore_n 3, 1) := by decide +kernel
theorem dX5_reaches_40 : decode cX5_reaches 40 = .ok (.iload_n 3, 1) := by decide +kernel
theorem dX5_reaches_41 : decode cX5_reaches 41 = .ok (.sipush 200, 3) := by decide +kernel
theorem dX5_reaches_44 : decode cX5_reaches 44 = .ok (.if_icmp .gt 37, 3) := by decide +kernel
theorem dX5_reaches_47 : decode cX5_reaches 47 = .ok (.aload_n 0, 1) := by decide +kernel
theorem dX5_reaches_48 : decode cX5_reaches 48 = .ok (.getfield 40, 3) := by decide +kernel
theorem dX5_reaches_51 : decode cX5_reaches 51 = .ok (.getfield 43, 3) := by decide +kernel
theorem dX5_reaches_54 : decode cX5_reaches 54 = .ok (.bipush 12, 2) := by decide +kernel
theorem dX5_reaches_56 : decode cX5_reaches 56 = .ok (.iload_n 1, 1) := by decide +kernel
theorem dX5_reaches_57 : decode cX5_reaches 57 = .ok (.imul, 1) := by decide +kernel
theorem dX5_reaches_58 : decode cX5_reaches 58 = .ok (.iload_n 2, 1) := by decide +kernel
theorem dX5_reaches_59 : decode cX5_reaches 59 = .ok (.iadd, 1) := by decide +kernel
theorem dX5_reaches_60 : decode cX5_reaches 60 = .ok (.iaload, 1) := by decide +kernel
theorem dX5_reaches_61 : decode cX5_reaches 61 = .ok (.iconst (-1), 1) := by decide +kernel
theorem dX5_reaches_62 : decode cX5_reaches 62 = .ok (.if_icmp .eq 5, 3) := by decide +kernel
theorem dX5_reaches_65 : decode cX5_reaches 65 = .ok (.iload_n 3, 1) := by decide +kernel
theorem dX5_reaches_66 : decode cX5_reaches 66 = .ok (.ireturn, 1) := by decide +kernel
theorem dX5_reaches_67 : decode cX5_reaches 67 = .ok (.aload_n 0, 1) := by decide +kernel
theorem dX5_reaches_68 : decode cX5_reaches 68 = .ok (.getfield 40, 3) := by decide +kernel
theorem dX5_reaches_71 : decode cX5_reaches 71 = .ok (.invokevirtual 131, 3) := by decide +kernel
theorem dX5_reaches_74 : decode cX5_reaches 74 = .ok (.pop, 1) := by decide +kernel
theorem dX5_reaches_75 : decode cX5_reaches 75 = .ok (.iinc 3 1, 3) := by decide +kernel
theorem dX5_reaches_78 : decode cX5_reaches 78 = .ok (.goto (-38), 3) := by decide +kernel
theorem dX5_reaches_81 : decode cX5_reaches 81 = .ok (.iconst (-1), 1) := by decide +kernel
theorem dX5_reaches_82 : decode cX5_reaches 82 = .ok (.ireturn, 1) := by decide +kernel
set_option maxRecDepth 20000 in
theorem ggX5_best_X5_isVillage : GoodIn wsX5_best wsX5_isVillage := goodIn_r _ [12, 13, 14, 15, 11, 16, 102, 103, 104, 105, 106, 107, 108, 109, 110, 111, 112, 113] (by decide +kernel) (by decide +kernel)
set_option maxRecDepth 20000 in
theorem gX5_best_X5_isVillage : GoodIn wsX5_best (wsV RX5 75 RX5 yX5_isVillage wsX5_isVillage) := goodIn_app (goodIn_of _ (by decide +kernel)) ggX5_best_X5_isVillage
set_option maxRecDepth 20000 in
theorem ggX5_best_X5_isPhrase : GoodIn wsX5_best wsX5_isPhrase := goodIn_r _ [20, 21, 14, 15, 11, 16, 102, 103, 104, 105, 106, 107, 108, 109, 110, 111, 112, 113] (by decide +kernel) (by decide +kernel)
set_option maxRecDepth 20000 in
theorem gX5_best_X5_isPhrase : GoodIn wsX5_best (wsV RX5 79 RX5 yX5_isPhrase wsX5_isPhrase) := goodIn_app (goodIn_of _ (by decide +kernel)) ggX5_best_X5_isPhrase
set_option maxRecDepth 20000 in
theorem ggX5_best_X5_no : GoodIn wsX5_best wsX5_no := goodIn_r _ [25, 1, 102, 103, 104, 105, 106, 107, 108, 109, 110, 111, 112, 113] (by decide +kernel) (by decide +kernel)
set_option maxRecDepth 20000 in
theorem gX5_best_X5_no : GoodIn wsX5_best (wsV RX5 66 RX5 yX5_no wsX5_no) := goodIn_app (goodIn_of _ (by decide +kernel)) ggX5_best_X5_no
set_option maxRecDepth 20000 in
theorem ggX5_best_X4_become : GoodIn wsX5_best wsX4_become := goodIn_r _ [30, 31, 32, 33, 34, 35, 36, 37, 38, 39, 40, 41, 42, 43, 44, 45, 46, 47, 48, 29, 49, 50, 51, 52, 53, 114, 115, 116, 117, 118, 119, 120, 121, 122, 123, 124, 125, 126, 127, 128, 129] (by decide +kernel) (by decide +kernel)
set_option maxRecDepth 20000 in
theorem gX5_best_X4_become : GoodIn wsX5_best (wsV RX5 134 RX4 yX4_become wsX4_become) := goodIn_app (goodIn_of _ (by decide +kernel)) ggX5_best_X4_become
set_option maxRecDepth 20000 in
theorem ggX5_best_X4_learns : GoodIn wsX5_best wsX4_learns := goodIn_r _ [57, 39, 31, 114, 115, 116, 117, 118, 119, 120, 121, 122, 123, 124, 125, 126, 127, 128, 129] (by decide +kernel) (by decide +kernel)
set_option maxRecDepth 20000 in
theorem gX5_best_X4_learns : GoodIn wsX5_best (wsV RX5 85 RX4 yX4_learns wsX4_learns) := goodIn_app (goodIn_of _ (by decide +kernel)) ggX5_best_X4_learns
set_option maxRecDepth 20000 in
theorem ggX5_best_X4_put : GoodIn wsX5_best wsX4_put := goodIn_r _ [61, 38, 37, 114, 115, 116, 117, 118, 119, 120, 121, 122, 123, 124, 125, 126, 127, 128, 129] (by decide +kernel) (by decide +kernel)
set_option maxRecDepth 20000 in
theorem gX5_best_X4_put : GoodIn wsX5_best (wsV RX5 89 RX4 yX4_put wsX4_put) := goodIn_app (goodIn_of _ (by decide +kernel)) ggX5_best_X4_put
set_option maxRecDepth 20000 in
theorem ggX5_best_X4_pass : GoodIn wsX5_best wsX4_pass := goodIn_r _ [65, 66, 35, 33, 41, 43, 31, 45, 44, 42, 40, 37, 36, 67, 5, 6, 7, 68, 69, 70, 29, 71, 38, 50, 51, 52, 53, 32, 72, 73, 74, 75, 76, 77, 78, 79, 34, 80, 11, 81, 82, 83, 84, 85, 86, 87, 88, 89, 90, 91, 92, 93, 94, 95, 96, 55, 56, 57, 39, 97, 59, 60, 61, 114, 115, 116, 117, 118, 119, 120, 121, 122, 123, 124, 125, 126, 127, 128, 129, 102, 103, 104, 105, 106, 107, 108, 109, 110, 111, 112, 113] (by decide +kernel) (by decide +kernel)
set_option maxRecDepth 20000 in
theorem gX5_best_X4_pass : GoodIn wsX5_best (wsV RX5 131 RX4 yX4_pass wsX4_pass) := goodIn_app (goodIn_of _ (by decide +kernel)) ggX5_best_X4_pass
set_option maxRecDepth 20000 in
theorem ggX5_best_X4_knowing : GoodIn wsX5_best wsX4_knowing := goodIn_r _ [101, 66, 39, 114, 115, 116, 117, 118, 119, 120, 121, 122, 123, 124, 125, 126, 127, 128, 129, 102, 103, 104, 105, 106, 107, 108, 109, 110, 111, 112, 113] (by decide +kernel) (by decide +kernel)
set_option maxRecDepth 20000 in
theorem gX5_best_X4_knowing : GoodIn wsX5_best (wsV RX5 138 RX4 yX4_knowing wsX4_knowing) := goodIn_app (goodIn_of _ (by decide +kernel)) ggX5_best_X4_knowing
theorem dX5_best_0 : decode cX5_best 0 = .ok (.aload_n 0, 1) := by decide +kernel
theorem dX5_best_1 : decode cX5_best 1 = .ok (.iconst 0, 1) := by decide +kernel
theorem dX5_best_2 : decode cX5_best 2 = .ok (.putfield 46, 3) := by decide +kernel
theorem dX5_best_5 : decode cX5_best 5 = .ok (.aload_n 0, 1) := by decide +kernel
theorem dX5_best_6 : decode cX5_best 6 = .ok (.iload_n 1, 1) := by decide +kernel
theorem dX5_best_7 : decode cX5_best 7 = .ok (.invokevirtual 75, 3) := by decide +kernel
theorem dX5_best_10 : decode cX5_best 10 = .ok (.ifCond .eq 11, 3) := by decide +kernel
theorem dX5_best_13 : decode cX5_best 13 = .ok (.aload_n 0, 1) := by decide +kernel
theorem dX5_best_14 : decode cX5_best 14 = .ok (.iload_n 2, 1) := by decide +kernel
theorem dX5_best_15 : decode cX5_best 15 = .ok (.invokevirtual 79, 3) := by decide +kernel
theorem dX5_best_18 : decode cX5_best 18 = .ok (.ifCond .ne 9, 3) := by decide +kernel
theorem dX5_best_21 : decode cX5_best 21 = .ok (.aload_n 0, 1) := by decide +kernel
theorem dX5_best_22 : decode cX5_best 22 = .ok (.iconst 1, 1) := by decide +kernel
theorem dX5_best_23 : decode cX5_best 23 = .ok (.invokevirtual 66, 3) := by decide +kernel
theorem dX5_best_26 : decode cX5_best 26 = .ok (.ireturn, 1) := by decide +kernel
theorem dX5_best_27 : decode cX5_best 27 = .ok (.iconst (-1), 1) := by decide +kernel
theorem dX5_best_28 : decode cX5_best 28 = .ok (.istore_n 3, 1) := by decide +kernel
theorem dX5_best_29 : decode cX5_best 29 = .ok (.iconst 0, 1) := by decide +kernel
theorem dX5_best_30 : decode cX5_best 30 = .ok (.istore 4, 2) := by decide +kernel
theorem dX5_best_32 : decode cX5_best 32 = .ok (.iconst (-1), 1) := by decide +kernel
theorem dX5_best_33 : decode cX5_best 33 = .ok (.istore 5, 2) := by decide +kernel
theorem dX5_best_35 : decode cX5_best 35 = .ok (.iload 5, 2) := by decide +kernel
theorem dX5_best_37 : decode cX5_best 37 = .ok (.bipush 24, 2) := by decide +kernel
theorem dX5_best_39 : decode cX5_best 39 = .ok (.if_icmp .ge 118, 3) := by decide +kernel
theorem dX5_best_42 : decode cX5_best 42 = .ok (.aload_n 0, 1) := by decide +kernel
theorem dX5_best_43 : decode cX5_best 43 = .ok (.getfield 40, 3) := by decide +kernel
theorem dX5_best_46 : decode cX5_best 46 = .ok (.aload_n 0, 1) := by decide +kernel
theorem dX5_best_47 : decode cX5_best 47 = .ok (.getfield 36, 3) := by decide +kernel
theorem dX5_best_50 : decode cX5_best 50 = .ok (.invokevirtual 134, 3) := by decide +kernel
theorem dX5_best_53 : decode cX5_best 53 = .ok (.iconst 0, 1) := by decide +kernel
theorem dX5_best_54 : decode cX5_best 54 = .ok (.istore 6, 2) := by decide +kernel
theorem dX5_best_56 : decode cX5_best 56 = .ok (.iload 6, 2) := by decide +kernel
theorem dX5_best_58 : decode cX5_best 58 = .ok (.bipush 80, 2) := by decide +kernel
theorem dX5_best_60 : decode cX5_best 60 = .ok (.if_icmp .ge 56, 3) := by decide +kernel
theorem dX5_best_63 : decode cX5_best 63 = .ok (.iload 6, 2) := by decide +kernel
theorem dX5_best_65 : decode cX5_best 65 = .ok (.iload 5, 2) := by decide +kernel
theorem dX5_best_67 : decode cX5_best 67 = .ok (.if_icmp .ne 35, 3) := by decide +kernel
theorem dX5_best_70 : decode cX5_best 70 = .ok (.aload_n 0, 1) := by decide +kernel
theorem dX5_best_71 : decode cX5_best 71 = .ok (.getfield 40, 3) := by decide +kernel
theorem dX5_best_74 : decode cX5_best 74 = .ok (.getfield 82, 3) := by decide +kernel
theorem dX5_best_77 : decode cX5_best 77 = .ok (.iload_n 1, 1) := by decide +kernel
theorem dX5_best_78 : decode cX5_best 78 = .ok (.iaload, 1) := by decide +kernel
theorem dX5_best_79 : decode cX5_best 79 = .ok (.iconst 5, 1) := by decide +kernel
theorem dX5_best_80 : decode cX5_best 80 = .ok (.if_icmp .ge 22, 3) := by decide +kernel
theorem dX5_best_83 : decode cX5_best 83 = .ok (.aload_n 0, 1) := by decide +kernel
theorem dX5_best_84 : decode cX5_best 84 = .ok (.getfield 40, 3) := by decide +kernel
theorem dX5_best_87 : decode cX5_best 87 = .ok (.iload_n 1, 1) := by decide +kernel
theorem dX5_best_88 : decode cX5_best 88 = .ok (.iload_n 2, 1) := by decide +kernel
theorem dX5_best_89 : decode cX5_best 89 = .ok (.invokevirtual 85, 3) := by decide +kernel
theorem dX5_best_92 : decode cX5_best 92 = .ok (.pop, 1) := by decide +kernel
theorem dX5_best_93 : decode cX5_best 93 = .ok (.aload_n 0, 1) := by decide +kernel
theorem dX5_best_94 : decode cX5_best 94 = .ok (.getfield 40, 3) := by decide +kernel
theorem dX5_best_97 : decode cX5_best 97 = .ok (.iload_n 1, 1) := by decide +kernel
theorem dX5_best_98 : decode cX5_best 98 = .ok (.iload_n 2, 1) := by decide +kernel
theorem dX5_best_99 : decode cX5_best 99 = .ok (.invokevirtual 89, 3) := by decide +kernel
theorem dX5_best_102 : decode cX5_best 102 = .ok (.aload_n 0, 1) := by decide +kernel
theorem dX5_best_103 : decode cX5_best 103 = .ok (.getfield 40, 3) := by decide +kernel
theorem dX5_best_106 : decode cX5_best 106 = .ok (.invokevirtual 131, 3) := by decide +kernel
theorem dX5_best_109 : decode cX5_best 109 = .ok (.pop, 1) := by decide +kernel
theorem dX5_best_110 : decode cX5_best 110 = .ok (.iinc 6 1, 3) := by decide +kernel
theorem dX5_best_113 : decode cX5_best 113 = .ok (.goto (-57), 3) := by decide +kernel
theorem dX5_best_116 : decode cX5_best 116 = .ok (.aload_n 0, 1) := by decide +kernel
theorem dX5_best_117 : decode cX5_best 117 = .ok (.getfield 40, 3) := by decide +kernel
theorem dX5_best_120 : decode cX5_best 120 = .ok (.iload_n 2, 1) := by decide +kernel
theorem dX5_best_121 : decode cX5_best 121 = .ok (.invokevirtual 138, 3) := by decide +kernel
theorem dX5_best_124 : decode cX5_best 124 = .ok (.istore 6, 2) := by decide +kernel
theorem dX5_best_126 : decode cX5_best 126 = .ok (.iload 5, 2) := by decide +kernel
theorem dX5_best_128 : decode cX5_best 128 = .ok (.iconst (-1), 1) := by decide +kernel
theorem dX5_best_129 : decode cX5_best 129 = .ok (.if_icmp .eq 13, 3) := by decide +kernel
theorem dX5_best_132 : decode cX5_best 132 = .ok (.iload 6, 2) := by decide +kernel
theorem dX5_best_134 : decode cX5_best 134 = .ok (.iload 4, 2) := by decide +kernel
theorem dX5_best_136 : decode cX5_best 136 = .ok (.if_icmp .le 6, 3) := by decide +kernel
theorem dX5_best_139 : decode cX5_best 139 = .ok (.iload 5, 2) := by decide +kernel
theorem dX5_best_141 : decode cX5_best 141 = .ok (.istore_n 3, 1) := by decide +kernel
theorem dX5_best_142 : decode cX5_best 142 = .ok (.iload 4, 2) := by decide +kernel
theorem dX5_best_144 : decode cX5_best 144 = .ok (.iload 6, 2) := by decide +kernel
theorem dX5_best_146 : decode cX5_best 146 = .ok (.invokestatic 141, 3) := by decide +kernel
theorem dX5_best_149 : decode cX5_best 149 = .ok (.istore 4, 2) := by decide +kernel
theorem dX5_best_151 : decode cX5_best 151 = .ok (.iinc 5 1, 3) := by decide +kernel
theorem dX5_best_154 : decode cX5_best 154 = .ok (.goto (-119), 3) := by decide +kernel
theorem dX5_best_157 : decode cX5_best 157 = .ok (.iload_n 3, 1) := by decide +kernel
theorem dX5_best_158 : decode cX5_best 158 = .ok (.ireturn, 1) := by decide +kernel
set_option maxRecDepth 20000 in
theorem ggX5_larger_X5_isIn : GoodIn wsX5_larger wsX5_isIn := goodIn_r _ [12] (by decide +kernel) (by decide +kernel)
set_option maxRecDepth 20000 in
theorem gX5_larger_X5_isIn : GoodIn wsX5_larger (va_wsS RX5 53 yX5_isIn wsX5_isIn) := goodIn_app (goodIn_of _ (by decide +kernel)) ggX5_larger_X5_isIn
set_option maxRecDepth 20000 in
theorem ggX5_larger_X5_no : GoodIn wsX5_larger wsX5_no := goodIn_r _ [16, 1, 95, 96, 97, 98, 99, 100, 101, 102, 103, 104, 105, 106] (by decide +kernel) (by decide +kernel)
set_option maxRecDepth 20000 in
theorem gX5_larger_X5_no : GoodIn wsX5_larger (wsV RX5 66 RX5 yX5_no wsX5_no) := goodIn_app (goodIn_of _ (by decide +kernel)) ggX5_larger_X5_no
set_option maxRecDepth 20000 in
theorem ggX5_larger_X4_become : GoodIn wsX5_larger wsX4_become := goodIn_r _ [21, 22, 23, 24, 25, 26, 27, 28, 29, 30, 31, 32, 33, 34, 35, 36, 37, 38, 39, 20, 40, 41, 42, 43, 44, 107, 108, 109, 110, 111, 112, 113, 114, 115, 116, 117, 118, 119, 120, 121, 122] (by decide +kernel) (by decide +kernel)
set_option maxRecDepth 20000 in
theorem gX5_larger_X4_become : GoodIn wsX5_larger (wsV RX5 134 RX4 yX4_become wsX4_become) := goodIn_app (goodIn_of _ (by decide +kernel)) ggX5_larger_X4_become
set_option maxRecDepth 20000 in
theorem ggX5_larger_X4_pass : GoodIn wsX5_larger wsX4_pass := goodIn_r _ [48, 49, 26, 24, 32, 34, 22, 36, 35, 33, 31, 28, 27, 50, 6, 7, 8, 51, 52, 53, 20, 54, 29, 41, 42, 43, 44, 23, 55, 56, 57, 58, 59, 60, 61, 62, 25, 63, 11, 64, 65, 66, 67, 68, 69, 70, 71, 72, 73, 74, 75, 76, 77, 78, 79, 80, 81, 82, 30, 83, 84, 85, 86, 107, 108, 109, 110, 111, 112, 113, 114, 115, 116, 117, 118, 119, 120, 121, 122, 95, 96, 97, 98, 99, 100, 101, 102, 103, 104, 105, 106] (by decide +kernel) (by decide +kernel)
set_option maxRecDepth 20000 in
theorem gX5_larger_X4_pass : GoodIn wsX5_larger (wsV RX5 131 RX4 yX4_pass wsX4_pass) := goodIn_app (goodIn_of _ (by decide +kernel)) ggX5_larger_X4_pass
set_option maxRecDepth 20000 in
theorem ggX5_larger_X4_pairs : GoodIn wsX5_larger wsX4_pairs := goodIn_r _ [90, 49, 91, 92, 93, 20, 94, 30, 107, 108, 109, 110, 111, 112, 113, 114, 115, 116, 117, 118, 119, 120, 121, 122, 95, 96, 97, 98, 99, 100, 101, 102, 103, 104, 105, 106] (by decide +kernel) (by decide +kernel)
set_option maxRecDepth 20000 in
theorem gX5_larger_X4_pairs : GoodIn wsX5_larger (wsV RX5 121 RX4 yX4_pairs wsX4_pairs) := goodIn_app (goodIn_of _ (by decide +kernel)) ggX5_larger_X4_pairs
theorem dX5_larger_0 : decode cX5_larger 0 = .ok (.aload_n 0, 1) := by decide +kernel
theorem dX5_larger_1 : decode cX5_larger 1 = .ok (.iconst 0, 1) := by decide +kernel
theorem dX5_larger_2 : decode cX5_larger 2 = .ok (.putfield 46, 3) := by decide +kernel
theorem dX5_larger_5 : decode cX5_larger 5 = .ok (.iload_n 1, 1) := by decide +kernel
theorem dX5_larger_6 : decode cX5_larger 6 = .ok (.iconst 1, 1) := by decide +kernel
theorem dX5_larger_7 : decode cX5_larger 7 = .ok (.bipush 100, 2) := by decide +kernel
theorem dX5_larger_9 : decode cX5_larger 9 = .ok (.invokestatic 53, 3) := by decide +kernel
theorem dX5_larger_12 : decode cX5_larger 12 = .ok (.ifCond .ne 9, 3) := by decide +kernel
theorem dX5_larger_15 : decode cX5_larger 15 = .ok (.aload_n 0, 1) := by decide +kernel
theorem dX5_larger_16 : decode cX5_larger 16 = .ok (.iconst 1, 1) := by decide +kernel
theorem dX5_larger_17 : decode cX5_larger 17 = .ok (.invokevirtual 66, 3) := by decide +kernel
theorem dX5_larger_20 : decode cX5_larger 20 = .ok (.ireturn, 1) := by decide +kernel
theorem dX5_larger_21 : decode cX5_larger 21 = .ok (.iconst (-1), 1) := by decide +kernel
theorem dX5_larger_22 : decode cX5_larger 22 = .ok (.istore_n 2, 1) := by decide +kernel
theorem dX5_larger_23 : decode cX5_larger 23 = .ok (.iconst 0, 1) := by decide +kernel
theorem dX5_larger_24 : decode cX5_larger 24 = .ok (.istore_n 3, 1) := by decide +kernel
theorem dX5_larger_25 : decode cX5_larger 25 = .ok (.iconst (-1), 1) := by decide +kernel
theorem dX5_larger_26 : decode cX5_larger 26 = .ok (.istore 4, 2) := by decide +kernel
theorem dX5_larger_28 : decode cX5_larger 28 = .ok (.iload 4, 2) := by decide +kernel
theorem dX5_larger_30 : decode cX5_larger 30 = .ok (.aload_n 0, 1) := by decide +kernel
theorem dX5_larger_31 : decode cX5_larger 31 = .ok (.getfield 50, 3) := by decide +kernel
theorem dX5_larger_34 : decode cX5_larger 34 = .ok (.if_icmp .ge 118, 3) := by decide +kernel
theorem dX5_larger_37 : decode cX5_larger 37 = .ok (.iload 4, 2) := by decide +kernel
theorem dX5_larger_39 : decode cX5_larger 39 = .ok (.iconst (-1), 1) := by decide +kernel
theorem dX5_larger_40 : decode cX5_larger 40 = .ok (.if_icmp .eq 21, 3) := by decide +kernel
theorem dX5_larger_43 : decode cX5_larger 43 = .ok (.aload_n 0, 1) := by decide +kernel
theorem dX5_larger_44 : decode cX5_larger 44 = .ok (.getfield 36, 3) := by decide +kernel
theorem dX5_larger_47 : decode cX5_larger 47 = .ok (.getfield 69, 3) := by decide +kernel
theorem dX5_larger_50 : decode cX5_larger 50 = .ok (.iload 4, 2) := by decide +kernel
theorem dX5_larger_52 : decode cX5_larger 52 = .ok (.iaload, 1) := by decide +kernel
theorem dX5_larger_53 : decode cX5_larger 53 = .ok (.bipush 9, 2) := by decide +kernel
theorem dX5_larger_55 : decode cX5_larger 55 = .ok (.if_icmp .ne 6, 3) := by decide +kernel
theorem dX5_larger_58 : decode cX5_larger 58 = .ok (.goto 88, 3) := by decide +kernel
theorem dX5_larger_61 : decode cX5_larger 61 = .ok (.aload_n 0, 1) := by decide +kernel
theorem dX5_larger_62 : decode cX5_larger 62 = .ok (.getfield 40, 3) := by decide +kernel
theorem dX5_larger_65 : decode cX5_larger 65 = .ok (.aload_n 0, 1) := by decide +kernel
theorem dX5_larger_66 : decode cX5_larger 66 = .ok (.getfield 36, 3) := by decide +kernel
theorem dX5_larger_69 : decode cX5_larger 69 = .ok (.invokevirtual 134, 3) := by decide +kernel
theorem dX5_larger_72 : decode cX5_larger 72 = .ok (.iload 4, 2) := by decide +kernel
theorem dX5_larger_74 : decode cX5_larger 74 = .ok (.iconst (-1), 1) := by decide +kernel
theorem dX5_larger_75 : decode cX5_larger 75 = .ok (.if_icmp .eq 17, 3) := by decide +kernel
theorem dX5_larger_78 : decode cX5_larger 78 = .ok (.aload_n 0, 1) := by decide +kernel
theorem dX5_larger_79 : decode cX5_larger 79 = .ok (.getfield 40, 3) := by decide +kernel
theorem dX5_larger_82 : decode cX5_larger 82 = .ok (.getfield 69, 3) := by decide +kernel
theorem dX5_larger_85 : decode cX5_larger 85 = .ok (.iload 4, 2) := by decide +kernel
theorem dX5_larger_87 : decode cX5_larger 87 = .ok (.dup2, 1) := by decide +kernel
theorem dX5_larger_88 : decode cX5_larger 88 = .ok (.iaload, 1) := by decide +kernel
theorem dX5_larger_89 : decode cX5_larger 89 = .ok (.iconst 1, 1) := by decide +kernel
theorem dX5_larger_90 : decode cX5_larger 90 = .ok (.iadd, 1) := by decide +kernel
theorem dX5_larger_91 : decode cX5_larger 91 = .ok (.iastore, 1) := by decide +kernel
theorem dX5_larger_92 : decode cX5_larger 92 = .ok (.iconst 0, 1) := by decide +kernel
theorem dX5_larger_93 : decode cX5_larger 93 = .ok (.istore 5, 2) := by decide +kernel
theorem dX5_larger_95 : decode cX5_larger 95 = .ok (.iload 5, 2) := by decide +kernel
theorem dX5_larger_97 : decode cX5_larger 97 = .ok (.iload_n 1, 1) := by decide +kernel
theorem dX5_larger_98 : decode cX5_larger 98 = .ok (.if_icmp .ge 17, 3) := by decide +kernel
theorem dX5_larger_101 : decode cX5_larger 101 = .ok (.aload_n 0, 1) := by decide +kernel
theorem dX5_larger_102 : decode cX5_larger 102 = .ok (.getfield 40, 3) := by decide +kernel
theorem dX5_larger_105 : decode cX5_larger 105 = .ok (.invokevirtual 131, 3) := by decide +kernel
theorem dX5_larger_108 : decode cX5_larger 108 = .ok (.pop, 1) := by decide +kernel
theorem dX5_larger_109 : decode cX5_larger 109 = .ok (.iinc 5 1, 3) := by decide +kernel
theorem dX5_larger_112 : decode cX5_larger 112 = .ok (.goto (-17), 3) := by decide +kernel
theorem dX5_larger_115 : decode cX5_larger 115 = .ok (.aload_n 0, 1) := by decide +kernel
theorem dX5_larger_116 : decode cX5_larger 116 = .ok (.getfield 40, 3) := by decide +kernel
theorem dX5_larger_119 : decode cX5_larger 119 = .ok (.invokevirtual 121, 3) := by decide +kernel
theorem dX5_larger_122 : decode cX5_larger 122 = .ok (.istore 5, 2) := by decide +kernel
theorem dX5_larger_124 : decode cX5_larger 124 = .ok (.iload 4, 2) := by decide +kernel
theorem dX5_larger_126 : decode cX5_larger 126 = .ok (.iconst (-1), 1) := by decide +kernel
theorem dX5_larger_127 : decode cX5_larger 127 = .ok (.if_icmp .eq 12, 3) := by decide +kernel
theorem dX5_larger_130 : decode cX5_larger 130 = .ok (.iload 5, 2) := by decide +kernel
theorem dX5_larger_132 : decode cX5_larger 132 = .ok (.iload_n 3, 1) := by decide +kernel
theorem dX5_larger_133 : decode cX5_larger 133 = .ok (.if_icmp .le 6, 3) := by decide +kernel
theorem dX5_larger_136 : decode cX5_larger 136 = .ok (.iload 4, 2) := by decide +kernel
theorem dX5_larger_138 : decode cX5_larger 138 = .ok (.istore_n 2, 1) := by decide +kernel
theorem dX5_larger_139 : decode cX5_larger 139 = .ok (.iload_n 3, 1) := by decide +kernel
theorem dX5_larger_140 : decode cX5_larger 140 = .ok (.iload 5, 2) := by decide +kernel
theorem dX5_larger_142 : decode cX5_larger 142 = .ok (.invokestatic 141, 3) := by decide +kernel
theorem dX5_larger_145 : decode cX5_larger 145 = .ok (.istore_n 3, 1) := by decide +kernel
theorem dX5_larger_146 : decode cX5_larger 146 = .ok (.iinc 4 1, 3) := by decide +kernel
theorem dX5_larger_149 : decode cX5_larger 149 = .ok (.goto (-121), 3) := by decide +kernel
theorem dX5_larger_152 : decode cX5_larger 152 = .ok (.iload_n 2, 1) := by decide +kernel
theorem dX5_larger_153 : decode cX5_larger 153 = .ok (.ireturn, 1) := by decide +kernel
set_option maxRecDepth 20000 in
theorem ggX5_known_X4_pairs : GoodIn wsX5_known wsX4_pairs := goodIn_r _ [9, 10, 11, 12, 13, 8, 14, 15, 28, 29, 30, 31, 32, 33, 34, 35, 36, 37, 38, 39, 40, 41, 42, 43, 16, 17, 18, 19, 20, 21, 22, 23, 24, 25, 26, 27] (by decide +kernel) (by decide +kernel)
set_option maxRecDepth 20000 in
theorem gX5_known_X4_pairs : GoodIn wsX5_known (wsV RX5 121 RX4 yX4_pairs wsX4_pairs) := goodIn_app (goodIn_of _ (by decide +kernel)) ggX5_known_X4_pairs
theorem dX5_known_0 : decode cX5_known 0 = .ok (.aload_n 0, 1) := by decide +kernel
theorem dX5_known_1 : decode cX5_known 1 = .ok (.iconst 0, 1) := by decide +kernel
theorem dX5_known_2 : decode cX5_known 2 = .ok (.putfield 46, 3) := by decide +kernel
theorem dX5_known_5 : decode cX5_known 5 = .ok (.aload_n 0, 1) := by decide +kernel
theorem dX5_known_6 : decode cX5_known 6 = .ok (.getfield 50, 3) := by decide +kernel
theorem dX5_known_9 : decode cX5_known 9 = .ok (.aload_n 0, 1) := by decide +kernel
theorem dX5_known_10 : decode cX5_known 10 = .ok (.getfield 57, 3) := by decide +kernel
theorem dX5_known_13 : decode cX5_known 13 = .ok (.imul, 1) := by decide +kernel
theorem dX5_known_14 : decode cX5_known 14 = .ok (.ifCond .ne 7, 3) := by decide +kernel
theorem dX5_known_17 : decode cX5_known 17 = .ok (.dconst 0, 1) := by decide +kernel
theorem dX5_known_18 : decode cX5_known 18 = .ok (.goto 22, 3) := by decide +kernel
theorem dX5_known_21 : decode cX5_known 21 = .ok (.aload_n 0, 1) := by decide +kernel
theorem dX5_known_22 : decode cX5_known 22 = .ok (.getfield 36, 3) := by decide +kernel
theorem dX5_known_25 : decode cX5_known 25 = .ok (.invokevirtual 121, 3) := by decide +kernel
theorem dX5_known_28 : decode cX5_known 28 = .ok (.i2d, 1) := by decide +kernel
theorem dX5_known_29 : decode cX5_known 29 = .ok (.aload_n 0, 1) := by decide +kernel
theorem dX5_known_30 : decode cX5_known 30 = .ok (.getfield 50, 3) := by decide +kernel
theorem dX5_known_33 : decode cX5_known 33 = .ok (.aload_n 0, 1) := by decide +kernel
theorem dX5_known_34 : decode cX5_known 34 = .ok (.getfield 57, 3) := by decide +kernel
theorem dX5_known_37 : decode cX5_known 37 = .ok (.imul, 1) := by decide +kernel
theorem dX5_known_38 : decode cX5_known 38 = .ok (.i2d, 1) := by decide +kernel
theorem dX5_known_39 : decode cX5_known 39 = .ok (.ddiv, 1) := by decide +kernel
theorem dX5_known_40 : decode cX5_known 40 = .ok (.dreturn, 1) := by decide +kernel
set_option maxRecDepth 20000 in
theorem ggX5_digest_X5_counted : GoodIn wsX5_digest wsX5_counted := goodIn_r _ [12, 6, 7, 13, 4, 14, 15, 16, 17, 18, 19, 20, 21, 22, 23, 24, 45, 46, 47, 48, 49, 50, 51, 52, 53, 54, 55, 56, 57, 58, 59, 60, 61, 62, 63, 64, 65, 66, 67, 68, 69, 70, 71, 72] (by decide +kernel) (by decide +kernel)
set_option maxRecDepth 20000 in
theorem gX5_digest_X5_counted : GoodIn wsX5_digest (wsV RX5 125 RX5 yX5_counted wsX5_counted) := goodIn_app (goodIn_of _ (by decide +kernel)) ggX5_digest_X5_counted
set_option maxRecDepth 20000 in
theorem ggX5_digest_X5_villageTold : GoodIn wsX5_digest wsX5_villageTold := goodIn_r _ [28, 4, 7, 13, 29, 30, 31, 32, 33, 34, 17, 35, 36, 19, 45, 46, 47, 48, 49, 50, 51, 52, 53, 54, 55, 56, 57, 58, 59, 60, 61, 62, 63, 64, 65, 66, 67, 68, 69, 70, 71, 72] (by decide +kernel) (by decide +kernel)
set_option maxRecDepth 20000 in
theorem gX5_digest_X5_villageTold : GoodIn wsX5_digest (wsV RX5 102 RX5 yX5_villageTold wsX5_villageTold) := goodIn_app (goodIn_of _ (by decide +kernel)) ggX5_digest_X5_villageTold
set_option maxRecDepth 20000 in
theorem ggX5_digest_X4_lasting : GoodIn wsX5_digest wsX4_lasting := goodIn_r _ [40, 41, 42, 43, 36, 44, 57, 58, 59, 60, 61, 62, 63, 64, 65, 66, 67, 68, 69, 70, 71, 72] (by decide +kernel) (by decide +kernel)
set_option maxRecDepth 20000 in
theorem gX5_digest_X4_lasting : GoodIn wsX5_digest (wsV RX5 109 RX4 yX4_lasting wsX4_lasting) := goodIn_app (goodIn_of _ (by decide +kernel)) ggX5_digest_X4_lasting
theorem dX5_digest_0 : decode cX5_digest 0 = .ok (.aload_n 0, 1) := by decide +kernel
theorem dX5_digest_1 : decode cX5_digest 1 = .ok (.iconst 0, 1) := by decide +kernel
theorem dX5_digest_2 : decode cX5_digest 2 = .ok (.putfield 46, 3) := by decide +kernel
theorem dX5_digest_5 : decode cX5_digest 5 = .ok (.ldc2_w 144, 3) := by decide +kernel
theorem dX5_digest_8 : decode cX5_digest 8 = .ok (.lstore_n 1, 1) := by decide +kernel
theorem dX5_digest_9 : decode cX5_digest 9 = .ok (.iconst 0, 1) := by decide +kernel
theorem dX5_digest_10 : decode cX5_digest 10 = .ok (.istore_n 3, 1) := by decide +kernel
theorem dX5_digest_11 : decode cX5_digest 11 = .ok (.iload_n 3, 1) := by decide +kernel
theorem dX5_digest_12 : decode cX5_digest 12 = .ok (.bipush 8, 2) := by decide +kernel
theorem dX5_digest_14 : decode cX5_digest 14 = .ok (.if_icmp .ge 22, 3) := by decide +kernel
theorem dX5_digest_17 : decode cX5_digest 17 = .ok (.lload_n 1, 1) := by decide +kernel
theorem dX5_digest_18 : decode cX5_digest 18 = .ok (.ldc2_w 146, 3) := by decide +kernel
theorem dX5_digest_21 : decode cX5_digest 21 = .ok (.lmul, 1) := by decide +kernel
theorem dX5_digest_22 : decode cX5_digest 22 = .ok (.aload_n 0, 1) := by decide +kernel
theorem dX5_digest_23 : decode cX5_digest 23 = .ok (.iload_n 3, 1) := by decide +kernel
theorem dX5_digest_24 : decode cX5_digest 24 = .ok (.invokevirtual 125, 3) := by decide +kernel
theorem dX5_digest_27 : decode cX5_digest 27 = .ok (.i2l, 1) := by decide +kernel
theorem dX5_digest_28 : decode cX5_digest 28 = .ok (.ladd, 1) := by decide +kernel
theorem dX5_digest_29 : decode cX5_digest 29 = .ok (.lstore_n 1, 1) := by decide +kernel
theorem dX5_digest_30 : decode cX5_digest 30 = .ok (.iinc 3 1, 3) := by decide +kernel
theorem dX5_digest_33 : decode cX5_digest 33 = .ok (.goto (-22), 3) := by decide +kernel
theorem dX5_digest_36 : decode cX5_digest 36 = .ok (.iconst 0, 1) := by decide +kernel
theorem dX5_digest_37 : decode cX5_digest 37 = .ok (.istore_n 3, 1) := by decide +kernel
theorem dX5_digest_38 : decode cX5_digest 38 = .ok (.iload_n 3, 1) := by decide +kernel
theorem dX5_digest_39 : decode cX5_digest 39 = .ok (.aload_n 0, 1) := by decide +kernel
theorem dX5_digest_40 : decode cX5_digest 40 = .ok (.getfield 57, 3) := by decide +kernel
theorem dX5_digest_43 : decode cX5_digest 43 = .ok (.if_icmp .ge 23, 3) := by decide +kernel
theorem dX5_digest_46 : decode cX5_digest 46 = .ok (.lload_n 1, 1) := by decide +kernel
theorem dX5_digest_47 : decode cX5_digest 47 = .ok (.ldc2_w 146, 3) := by decide +kernel
theorem dX5_digest_50 : decode cX5_digest 50 = .ok (.lmul, 1) := by decide +kernel
theorem dX5_digest_51 : decode cX5_digest 51 = .ok (.aload_n 0, 1) := by decide +kernel
theorem dX5_digest_52 : decode cX5_digest 52 = .ok (.getfield 25, 3) := by decide +kernel
theorem dX5_digest_55 : decode cX5_digest 55 = .ok (.iload_n 3, 1) := by decide +kernel
theorem dX5_digest_56 : decode cX5_digest 56 = .ok (.iaload, 1) := by decide +kernel
theorem dX5_digest_57 : decode cX5_digest 57 = .ok (.i2l, 1) := by decide +kernel
theorem dX5_digest_58 : decode cX5_digest 58 = .ok (.ladd, 1) := by decide +kernel
theorem dX5_digest_59 : decode cX5_digest 59 = .ok (.lstore_n 1, 1) := by decide +kernel
theorem dX5_digest_60 : decode cX5_digest 60 = .ok (.iinc 3 1, 3) := by decide +kernel
theorem dX5_digest_63 : decode cX5_digest 63 = .ok (.goto (-25), 3) := by decide +kernel
theorem dX5_digest_66 : decode cX5_digest 66 = .ok (.iconst 0, 1) := by decide +kernel
theorem dX5_digest_67 : decode cX5_digest 67 = .ok (.istore_n 3, 1) := by decide +kernel
theorem dX5_digest_68 : decode cX5_digest 68 = .ok (.iload_n 3, 1) := by decide +kernel
theorem dX5_digest_69 : decode cX5_digest 69 = .ok (.aload_n 0, 1) := by decide +kernel
theorem dX5_digest_70 : decode cX5_digest 70 = .ok (.getfield 50, 3) := by decide +kernel
theorem dX5_digest_73 : decode cX5_digest 73 = .ok (.if_icmp .ge 142, 3) := by decide +kernel
theorem dX5_digest_76 : decode cX5_digest 76 = .ok (.iconst 0, 1) := by decide +kernel
theorem dX5_digest_77 : decode cX5_digest 77 = .ok (.istore 4, 2) := by decide +kernel
theorem dX5_digest_79 : decode cX5_digest 79 = .ok (.iload 4, 2) := by decide +kernel
theorem dX5_digest_81 : decode cX5_digest 81 = .ok (.bipush 10, 2) := by decide +kernel
theorem dX5_digest_83 : decode cX5_digest 83 = .ok (.if_icmp .ge 24, 3) := by decide +kernel
theorem dX5_digest_86 : decode cX5_digest 86 = .ok (.lload_n 1, 1) := by decide +kernel
theorem dX5_digest_87 : decode cX5_digest 87 = .ok (.ldc2_w 146, 3) := by decide +kernel
theorem dX5_digest_90 : decode cX5_digest 90 = .ok (.lmul, 1) := by decide +kernel
theorem dX5_digest_91 : decode cX5_digest 91 = .ok (.aload_n 0, 1) := by decide +kernel
theorem dX5_digest_92 : decode cX5_digest 92 = .ok (.iload_n 3, 1) := by decide +kernel
theorem dX5_digest_93 : decode cX5_digest 93 = .ok (.iload 4, 2) := by decide +kernel
theorem dX5_digest_95 : decode cX5_digest 95 = .ok (.invokevirtual 102, 3) := by decide +kernel
theorem dX5_digest_98 : decode cX5_digest 98 = .ok (.i2l, 1) := by decide +kernel
theorem dX5_digest_99 : decode cX5_digest 99 = .ok (.ladd, 1) := by decide +kernel
theorem dX5_digest_100 : decode cX5_digest 100 = .ok (.lstore_n 1, 1) := by decide +kernel
theorem dX5_digest_101 : decode cX5_digest 101 = .ok (.iinc 4 1, 3) := by decide +kernel
theorem dX5_digest_104 : decode cX5_digest 104 = .ok (.goto (-25), 3) := by decide +kernel
theorem dX5_digest_107 : decode cX5_digest 107 = .ok (.lload_n 1, 1) := by decide +kernel
theorem dX5_digest_108 : decode cX5_digest 108 = .ok (.ldc2_w 146, 3) := by decide +kernel
theorem dX5_digest_111 : decode cX5_digest 111 = .ok (.lmul, 1) := by decide +kernel
theorem dX5_digest_112 : decode cX5_digest 112 = .ok (.aload_n 0, 1) := by decide +kernel
theorem dX5_digest_113 : decode cX5_digest 113 = .ok (.getfield 36, 3) := by decide +kernel
theorem dX5_digest_116 : decode cX5_digest 116 = .ok (.iload_n 3, 1) := by decide +kernel
theorem dX5_digest_117 : decode cX5_digest 117 = .ok (.invokevirtual 109, 3) := by decide +kernel
theorem dX5_digest_120 : decode cX5_digest 120 = .ok (.i2l, 1) := by decide +kernel
theorem dX5_digest_121 : decode cX5_digest 121 = .ok (.ladd, 1) := by decide +kernel
theorem dX5_digest_122 : decode cX5_digest 122 = .ok (.lstore_n 1, 1) := by decide +kernel
theorem dX5_digest_123 : decode cX5_digest 123 = .ok (.iconst 0, 1) := by decide +kernel
theorem dX5_digest_124 : decode cX5_digest 124 = .ok (.istore 4, 2) := by decide +kernel
theorem dX5_digest_126 : decode cX5_digest 126 = .ok (.iload 4, 2) := by decide +kernel
theorem dX5_digest_128 : decode cX5_digest 128 = .ok (.aload_n 0, 1) := by decide +kernel
theorem dX5_digest_129 : decode cX5_digest 129 = .ok (.getfield 36, 3) := by decide +kernel
theorem dX5_digest_132 : decode cX5_digest 132 = .ok (.getfield 82, 3) := by decide +kernel
theorem dX5_digest_135 : decode cX5_digest 135 = .ok (.iload_n 3, 1) := by decide +kernel
theorem dX5_digest_136 : decode cX5_digest 136 = .ok (.iaload, 1) := by decide +kernel
theorem dX5_digest_137 : decode cX5_digest 137 = .ok (.if_icmp .ge 31, 3) := by decide +kernel
theorem dX5_digest_140 : decode cX5_digest 140 = .ok (.lload_n 1, 1) := by decide +kernel
theorem dX5_digest_141 : decode cX5_digest 141 = .ok (.ldc2_w 146, 3) := by decide +kernel
theorem dX5_digest_144 : decode cX5_digest 144 = .ok (.lmul, 1) := by decide +kernel
theorem dX5_digest_145 : decode cX5_digest 145 = .ok (.aload_n 0, 1) := by decide +kernel
theorem dX5_digest_146 : decode cX5_digest 146 = .ok (.getfield 36, 3) := by decide +kernel
theorem dX5_digest_149 : decode cX5_digest 149 = .ok (.getfield 106, 3) := by decide +kernel
theorem dX5_digest_152 : decode cX5_digest 152 = .ok (.iconst 5, 1) := by decide +kernel
theorem dX5_digest_153 : decode cX5_digest 153 = .ok (.iload_n 3, 1) := by decide +kernel
theorem dX5_digest_154 : decode cX5_digest 154 = .ok (.imul, 1) := by decide +kernel
theorem dX5_digest_155 : decode cX5_digest 155 = .ok (.iload 4, 2) := by decide +kernel
theorem dX5_digest_157 : decode cX5_digest 157 = .ok (.iadd, 1) := by decide +kernel
theorem dX5_digest_158 : decode cX5_digest 158 = .ok (.iaload, 1) := by decide +kernel
theorem dX5_digest_159 : decode cX5_digest 159 = .ok (.i2l, 1) := by decide +kernel
theorem dX5_digest_160 : decode cX5_digest 160 = .ok (.ladd, 1) := by decide +kernel
theorem dX5_digest_161 : decode cX5_digest 161 = .ok (.lstore_n 1, 1) := by decide +kernel
theorem dX5_digest_162 : decode cX5_digest 162 = .ok (.iinc 4 1, 3) := by decide +kernel
theorem dX5_digest_165 : decode cX5_digest 165 = .ok (.goto (-39), 3) := by decide +kernel
theorem dX5_digest_168 : decode cX5_digest 168 = .ok (.iconst 0, 1) := by decide +kernel
theorem dX5_digest_169 : decode cX5_digest 169 = .ok (.istore 4, 2) := by decide +kernel
theorem dX5_digest_171 : decode cX5_digest 171 = .ok (.iload 4, 2) := by decide +kernel
theorem dX5_digest_173 : decode cX5_digest 173 = .ok (.aload_n 0, 1) := by decide +kernel
theorem dX5_digest_174 : decode cX5_digest 174 = .ok (.getfield 57, 3) := by decide +kernel
theorem dX5_digest_177 : decode cX5_digest 177 = .ok (.if_icmp .ge 32, 3) := by decide +kernel
theorem dX5_digest_180 : decode cX5_digest 180 = .ok (.lload_n 1, 1) := by decide +kernel
theorem dX5_digest_181 : decode cX5_digest 181 = .ok (.ldc2_w 146, 3) := by decide +kernel
theorem dX5_digest_184 : decode cX5_digest 184 = .ok (.lmul, 1) := by decide +kernel
theorem dX5_digest_185 : decode cX5_digest 185 = .ok (.aload_n 0, 1) := by decide +kernel
theorem dX5_digest_186 : decode cX5_digest 186 = .ok (.getfield 36, 3) := by decide +kernel
theorem dX5_digest_189 : decode cX5_digest 189 = .ok (.getfield 43, 3) := by decide +kernel
theorem dX5_digest_192 : decode cX5_digest 192 = .ok (.bipush 12, 2) := by decide +kernel
theorem dX5_digest_194 : decode cX5_digest 194 = .ok (.iload_n 3, 1) := by decide +kernel
theorem dX5_digest_195 : decode cX5_digest 195 = .ok (.imul, 1) := by decide +kernel
theorem dX5_digest_196 : decode cX5_digest 196 = .ok (.iload 4, 2) := by decide +kernel
theorem dX5_digest_198 : decode cX5_digest 198 = .ok (.iadd, 1) := by decide +kernel
theorem dX5_digest_199 : decode cX5_digest 199 = .ok (.iaload, 1) := by decide +kernel
theorem dX5_digest_200 : decode cX5_digest 200 = .ok (.i2l, 1) := by decide +kernel
theorem dX5_digest_201 : decode cX5_digest 201 = .ok (.ladd, 1) := by decide +kernel
theorem dX5_digest_202 : decode cX5_digest 202 = .ok (.lstore_n 1, 1) := by decide +kernel
theorem dX5_digest_203 : decode cX5_digest 203 = .ok (.iinc 4 1, 3) := by decide +kernel
theorem dX5_digest_206 : decode cX5_digest 206 = .ok (.goto (-35), 3) := by decide +kernel
theorem dX5_digest_209 : decode cX5_digest 209 = .ok (.iinc 3 1, 3) := by decide +kernel
theorem dX5_digest_212 : decode cX5_digest 212 = .ok (.goto (-144), 3) := by decide +kernel
theorem dX5_digest_215 : decode cX5_digest 215 = .ok (.lload_n 1, 1) := by decide +kernel
theorem dX5_digest_216 : decode cX5_digest 216 = .ok (.lreturn, 1) := by decide +kernel
