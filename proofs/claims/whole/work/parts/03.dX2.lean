set_option maxRecDepth 20000 in
theorem ggX2_init_X1_init : GoodIn wsX2_init wsX1_init := goodIn_r _ [15, 16, 2, 3, 7, 17, 18, 19, 20, 38, 39, 40, 41, 42] (by decide +kernel) (by decide +kernel)
set_option maxRecDepth 20000 in
theorem gX2_init_X1_init_n30 : GoodIn wsX2_init (wsX1_init) := ggX2_init_X1_init
set_option maxRecDepth 20000 in
theorem ggX2_init_J7_fill_53178 : GoodIn wsX2_init wsJ7_fill_53178 := goodIn_r _ [24] (by decide +kernel) (by decide +kernel)
set_option maxRecDepth 20000 in
theorem gX2_init_J7_fill_53178 : GoodIn wsX2_init (va_wsS RX2 35 yJ7_fill_53178 wsJ7_fill_53178) := goodIn_app (goodIn_of _ (by decide +kernel)) ggX2_init_J7_fill_53178
theorem dX2_init_0 : decode cX2_init 0 = .ok (.aload_n 0, 1) := by decide +kernel
theorem dX2_init_1 : decode cX2_init 1 = .ok (.invokespecial 3, 3) := by decide +kernel
theorem dX2_init_4 : decode cX2_init 4 = .ok (.aload_n 0, 1) := by decide +kernel
theorem dX2_init_5 : decode cX2_init 5 = .ok (.iconst 1, 1) := by decide +kernel
theorem dX2_init_6 : decode cX2_init 6 = .ok (.putfield 9, 3) := by decide +kernel
theorem dX2_init_9 : decode cX2_init 9 = .ok (.aload_n 0, 1) := by decide +kernel
theorem dX2_init_10 : decode cX2_init 10 = .ok (.bipush 24, 2) := by decide +kernel
theorem dX2_init_12 : decode cX2_init 12 = .ok (.putfield 15, 3) := by decide +kernel
theorem dX2_init_15 : decode cX2_init 15 = .ok (.aload_n 0, 1) := by decide +kernel
theorem dX2_init_16 : decode cX2_init 16 = .ok (.iconst (-1), 1) := by decide +kernel
theorem dX2_init_17 : decode cX2_init 17 = .ok (.putfield 18, 3) := by decide +kernel
theorem dX2_init_20 : decode cX2_init 20 = .ok (.aload_n 0, 1) := by decide +kernel
theorem dX2_init_21 : decode cX2_init 21 = .ok (.iconst 5, 1) := by decide +kernel
theorem dX2_init_22 : decode cX2_init 22 = .ok (.newarray .int, 2) := by decide +kernel
theorem dX2_init_24 : decode cX2_init 24 = .ok (.putfield 21, 3) := by decide +kernel
theorem dX2_init_27 : decode cX2_init 27 = .ok (.aload_n 0, 1) := by decide +kernel
theorem dX2_init_28 : decode cX2_init 28 = .ok (.bipush 12, 2) := by decide +kernel
theorem dX2_init_30 : decode cX2_init 30 = .ok (.newarray .int, 2) := by decide +kernel
theorem dX2_init_32 : decode cX2_init 32 = .ok (.putfield 25, 3) := by decide +kernel
theorem dX2_init_35 : decode cX2_init 35 = .ok (.aload_n 0, 1) := by decide +kernel
theorem dX2_init_36 : decode cX2_init 36 = .ok (.new 28, 3) := by decide +kernel
theorem dX2_init_39 : decode cX2_init 39 = .ok (.dup, 1) := by decide +kernel
theorem dX2_init_40 : decode cX2_init 40 = .ok (.invokespecial 30, 3) := by decide +kernel
theorem dX2_init_43 : decode cX2_init 43 = .ok (.putfield 31, 3) := by decide +kernel
theorem dX2_init_46 : decode cX2_init 46 = .ok (.aload_n 0, 1) := by decide +kernel
theorem dX2_init_47 : decode cX2_init 47 = .ok (.getfield 25, 3) := by decide +kernel
theorem dX2_init_50 : decode cX2_init 50 = .ok (.iconst (-1), 1) := by decide +kernel
theorem dX2_init_51 : decode cX2_init 51 = .ok (.invokestatic 35, 3) := by decide +kernel
theorem dX2_init_54 : decode cX2_init 54 = .ok (.return_, 1) := by decide +kernel
set_option maxRecDepth 20000 in
theorem ggX2_copy_X1_copy : GoodIn wsX2_copy wsX1_copy := goodIn_r _ [22, 23, 24, 25, 11, 12, 13, 26, 27, 28, 42, 43, 44, 45, 46] (by decide +kernel) (by decide +kernel)
set_option maxRecDepth 20000 in
theorem gX2_copy_X1_copy : GoodIn wsX2_copy (wsV RX2 66 RX1 yX1_copy wsX1_copy) := goodIn_app (goodIn_of _ (by decide +kernel)) ggX2_copy_X1_copy
theorem dX2_copy_0 : decode cX2_copy 0 = .ok (.aload_n 0, 1) := by decide +kernel
theorem dX2_copy_1 : decode cX2_copy 1 = .ok (.aload_n 1, 1) := by decide +kernel
theorem dX2_copy_2 : decode cX2_copy 2 = .ok (.getfield 41, 3) := by decide +kernel
theorem dX2_copy_5 : decode cX2_copy 5 = .ok (.putfield 41, 3) := by decide +kernel
theorem dX2_copy_8 : decode cX2_copy 8 = .ok (.aload_n 0, 1) := by decide +kernel
theorem dX2_copy_9 : decode cX2_copy 9 = .ok (.aload_n 1, 1) := by decide +kernel
theorem dX2_copy_10 : decode cX2_copy 10 = .ok (.getfield 44, 3) := by decide +kernel
theorem dX2_copy_13 : decode cX2_copy 13 = .ok (.putfield 44, 3) := by decide +kernel
theorem dX2_copy_16 : decode cX2_copy 16 = .ok (.aload_n 0, 1) := by decide +kernel
theorem dX2_copy_17 : decode cX2_copy 17 = .ok (.aload_n 1, 1) := by decide +kernel
theorem dX2_copy_18 : decode cX2_copy 18 = .ok (.getfield 9, 3) := by decide +kernel
theorem dX2_copy_21 : decode cX2_copy 21 = .ok (.putfield 9, 3) := by decide +kernel
theorem dX2_copy_24 : decode cX2_copy 24 = .ok (.aload_n 0, 1) := by decide +kernel
theorem dX2_copy_25 : decode cX2_copy 25 = .ok (.aload_n 1, 1) := by decide +kernel
theorem dX2_copy_26 : decode cX2_copy 26 = .ok (.getfield 47, 3) := by decide +kernel
theorem dX2_copy_29 : decode cX2_copy 29 = .ok (.putfield 47, 3) := by decide +kernel
theorem dX2_copy_32 : decode cX2_copy 32 = .ok (.aload_n 0, 1) := by decide +kernel
theorem dX2_copy_33 : decode cX2_copy 33 = .ok (.aload_n 1, 1) := by decide +kernel
theorem dX2_copy_34 : decode cX2_copy 34 = .ok (.getfield 51, 3) := by decide +kernel
theorem dX2_copy_37 : decode cX2_copy 37 = .ok (.putfield 51, 3) := by decide +kernel
theorem dX2_copy_40 : decode cX2_copy 40 = .ok (.aload_n 0, 1) := by decide +kernel
theorem dX2_copy_41 : decode cX2_copy 41 = .ok (.aload_n 1, 1) := by decide +kernel
theorem dX2_copy_42 : decode cX2_copy 42 = .ok (.getfield 15, 3) := by decide +kernel
theorem dX2_copy_45 : decode cX2_copy 45 = .ok (.putfield 15, 3) := by decide +kernel
theorem dX2_copy_48 : decode cX2_copy 48 = .ok (.aload_n 0, 1) := by decide +kernel
theorem dX2_copy_49 : decode cX2_copy 49 = .ok (.aload_n 1, 1) := by decide +kernel
theorem dX2_copy_50 : decode cX2_copy 50 = .ok (.getfield 18, 3) := by decide +kernel
theorem dX2_copy_53 : decode cX2_copy 53 = .ok (.putfield 18, 3) := by decide +kernel
theorem dX2_copy_56 : decode cX2_copy 56 = .ok (.aload_n 0, 1) := by decide +kernel
theorem dX2_copy_57 : decode cX2_copy 57 = .ok (.aload_n 1, 1) := by decide +kernel
theorem dX2_copy_58 : decode cX2_copy 58 = .ok (.getfield 54, 3) := by decide +kernel
theorem dX2_copy_61 : decode cX2_copy 61 = .ok (.putfield 54, 3) := by decide +kernel
theorem dX2_copy_64 : decode cX2_copy 64 = .ok (.aload_n 1, 1) := by decide +kernel
theorem dX2_copy_65 : decode cX2_copy 65 = .ok (.getfield 21, 3) := by decide +kernel
theorem dX2_copy_68 : decode cX2_copy 68 = .ok (.iconst 0, 1) := by decide +kernel
theorem dX2_copy_69 : decode cX2_copy 69 = .ok (.aload_n 0, 1) := by decide +kernel
theorem dX2_copy_70 : decode cX2_copy 70 = .ok (.getfield 21, 3) := by decide +kernel
theorem dX2_copy_73 : decode cX2_copy 73 = .ok (.iconst 0, 1) := by decide +kernel
theorem dX2_copy_74 : decode cX2_copy 74 = .ok (.iconst 5, 1) := by decide +kernel
theorem dX2_copy_75 : decode cX2_copy 75 = .ok (.invokestatic 57, 3) := by decide +kernel
theorem dX2_copy_78 : decode cX2_copy 78 = .ok (.aload_n 0, 1) := by decide +kernel
theorem dX2_copy_79 : decode cX2_copy 79 = .ok (.aload_n 1, 1) := by decide +kernel
theorem dX2_copy_80 : decode cX2_copy 80 = .ok (.getfield 63, 3) := by decide +kernel
theorem dX2_copy_83 : decode cX2_copy 83 = .ok (.putfield 63, 3) := by decide +kernel
theorem dX2_copy_86 : decode cX2_copy 86 = .ok (.aload_n 1, 1) := by decide +kernel
theorem dX2_copy_87 : decode cX2_copy 87 = .ok (.getfield 25, 3) := by decide +kernel
theorem dX2_copy_90 : decode cX2_copy 90 = .ok (.iconst 0, 1) := by decide +kernel
theorem dX2_copy_91 : decode cX2_copy 91 = .ok (.aload_n 0, 1) := by decide +kernel
theorem dX2_copy_92 : decode cX2_copy 92 = .ok (.getfield 25, 3) := by decide +kernel
theorem dX2_copy_95 : decode cX2_copy 95 = .ok (.iconst 0, 1) := by decide +kernel
theorem dX2_copy_96 : decode cX2_copy 96 = .ok (.bipush 12, 2) := by decide +kernel
theorem dX2_copy_98 : decode cX2_copy 98 = .ok (.invokestatic 57, 3) := by decide +kernel
theorem dX2_copy_101 : decode cX2_copy 101 = .ok (.aload_n 0, 1) := by decide +kernel
theorem dX2_copy_102 : decode cX2_copy 102 = .ok (.getfield 31, 3) := by decide +kernel
theorem dX2_copy_105 : decode cX2_copy 105 = .ok (.aload_n 1, 1) := by decide +kernel
theorem dX2_copy_106 : decode cX2_copy 106 = .ok (.getfield 31, 3) := by decide +kernel
theorem dX2_copy_109 : decode cX2_copy 109 = .ok (.invokevirtual 66, 3) := by decide +kernel
theorem dX2_copy_112 : decode cX2_copy 112 = .ok (.aload_n 0, 1) := by decide +kernel
theorem dX2_copy_113 : decode cX2_copy 113 = .ok (.aload_n 1, 1) := by decide +kernel
theorem dX2_copy_114 : decode cX2_copy 114 = .ok (.getfield 70, 3) := by decide +kernel
theorem dX2_copy_117 : decode cX2_copy 117 = .ok (.putfield 70, 3) := by decide +kernel
theorem dX2_copy_120 : decode cX2_copy 120 = .ok (.return_, 1) := by decide +kernel
set_option maxRecDepth 20000 in
theorem ggX2_figure_X2_isAwake : GoodIn wsX2_figure wsX2_isAwake := goodIn_r _ [13, 14, 15, 16, 17, 18, 19, 29, 30, 31, 32, 33, 34, 35, 36, 37, 38, 39, 40, 41] (by decide +kernel) (by decide +kernel)
set_option maxRecDepth 20000 in
theorem gX2_figure_X2_isAwake : GoodIn wsX2_figure (wsV RX2 73 RX2 yX2_isAwake wsX2_isAwake) := goodIn_app (goodIn_of _ (by decide +kernel)) ggX2_figure_X2_isAwake
set_option maxRecDepth 20000 in
theorem ggX2_figure_X2_phrasesKnown : GoodIn wsX2_figure wsX2_phrasesKnown := goodIn_r _ [23, 24, 25, 26, 12, 27, 28, 29, 30, 31, 32, 33, 34, 35, 36, 37, 38, 39, 40, 41] (by decide +kernel) (by decide +kernel)
set_option maxRecDepth 20000 in
theorem gX2_figure_X2_phrasesKnown : GoodIn wsX2_figure (wsV RX2 77 RX2 yX2_phrasesKnown wsX2_phrasesKnown) := goodIn_app (goodIn_of _ (by decide +kernel)) ggX2_figure_X2_phrasesKnown
theorem dX2_figure_0 : decode cX2_figure 0 = .ok (.iload_n 1, 1) := by decide +kernel
theorem dX2_figure_1 : decode cX2_figure 1 = .ok (.tableswitch 113 0 8 #[51, 56, 61, 66, 79, 93, 98, 103, 108], 51) := by decide +kernel
theorem dX2_figure_52 : decode cX2_figure 52 = .ok (.aload_n 0, 1) := by decide +kernel
theorem dX2_figure_53 : decode cX2_figure 53 = .ok (.getfield 41, 3) := by decide +kernel
theorem dX2_figure_56 : decode cX2_figure 56 = .ok (.ireturn, 1) := by decide +kernel
theorem dX2_figure_57 : decode cX2_figure 57 = .ok (.aload_n 0, 1) := by decide +kernel
theorem dX2_figure_58 : decode cX2_figure 58 = .ok (.getfield 44, 3) := by decide +kernel
theorem dX2_figure_61 : decode cX2_figure 61 = .ok (.ireturn, 1) := by decide +kernel
theorem dX2_figure_62 : decode cX2_figure 62 = .ok (.aload_n 0, 1) := by decide +kernel
theorem dX2_figure_63 : decode cX2_figure 63 = .ok (.getfield 9, 3) := by decide +kernel
theorem dX2_figure_66 : decode cX2_figure 66 = .ok (.ireturn, 1) := by decide +kernel
theorem dX2_figure_67 : decode cX2_figure 67 = .ok (.aload_n 0, 1) := by decide +kernel
theorem dX2_figure_68 : decode cX2_figure 68 = .ok (.getfield 47, 3) := by decide +kernel
theorem dX2_figure_71 : decode cX2_figure 71 = .ok (.ifCond .eq 7, 3) := by decide +kernel
theorem dX2_figure_74 : decode cX2_figure 74 = .ok (.iconst 1, 1) := by decide +kernel
theorem dX2_figure_75 : decode cX2_figure 75 = .ok (.goto 4, 3) := by decide +kernel
theorem dX2_figure_78 : decode cX2_figure 78 = .ok (.iconst 0, 1) := by decide +kernel
theorem dX2_figure_79 : decode cX2_figure 79 = .ok (.ireturn, 1) := by decide +kernel
theorem dX2_figure_80 : decode cX2_figure 80 = .ok (.aload_n 0, 1) := by decide +kernel
theorem dX2_figure_81 : decode cX2_figure 81 = .ok (.iload_n 2, 1) := by decide +kernel
theorem dX2_figure_82 : decode cX2_figure 82 = .ok (.invokevirtual 73, 3) := by decide +kernel
theorem dX2_figure_85 : decode cX2_figure 85 = .ok (.ifCond .eq 7, 3) := by decide +kernel
theorem dX2_figure_88 : decode cX2_figure 88 = .ok (.iconst 1, 1) := by decide +kernel
theorem dX2_figure_89 : decode cX2_figure 89 = .ok (.goto 4, 3) := by decide +kernel
theorem dX2_figure_92 : decode cX2_figure 92 = .ok (.iconst 0, 1) := by decide +kernel
theorem dX2_figure_93 : decode cX2_figure 93 = .ok (.ireturn, 1) := by decide +kernel
theorem dX2_figure_94 : decode cX2_figure 94 = .ok (.aload_n 0, 1) := by decide +kernel
theorem dX2_figure_95 : decode cX2_figure 95 = .ok (.getfield 18, 3) := by decide +kernel
theorem dX2_figure_98 : decode cX2_figure 98 = .ok (.ireturn, 1) := by decide +kernel
theorem dX2_figure_99 : decode cX2_figure 99 = .ok (.aload_n 0, 1) := by decide +kernel
theorem dX2_figure_100 : decode cX2_figure 100 = .ok (.getfield 54, 3) := by decide +kernel
theorem dX2_figure_103 : decode cX2_figure 103 = .ok (.ireturn, 1) := by decide +kernel
theorem dX2_figure_104 : decode cX2_figure 104 = .ok (.aload_n 0, 1) := by decide +kernel
theorem dX2_figure_105 : decode cX2_figure 105 = .ok (.getfield 63, 3) := by decide +kernel
theorem dX2_figure_108 : decode cX2_figure 108 = .ok (.ireturn, 1) := by decide +kernel
theorem dX2_figure_109 : decode cX2_figure 109 = .ok (.aload_n 0, 1) := by decide +kernel
theorem dX2_figure_110 : decode cX2_figure 110 = .ok (.invokevirtual 77, 3) := by decide +kernel
theorem dX2_figure_113 : decode cX2_figure 113 = .ok (.ireturn, 1) := by decide +kernel
theorem dX2_figure_114 : decode cX2_figure 114 = .ok (.aload_n 0, 1) := by decide +kernel
theorem dX2_figure_115 : decode cX2_figure 115 = .ok (.getfield 70, 3) := by decide +kernel
theorem dX2_figure_118 : decode cX2_figure 118 = .ok (.ireturn, 1) := by decide +kernel
set_option maxRecDepth 20000 in
theorem ggX2_isAwake_J9_floorMod_7cf53 : GoodIn wsX2_isAwake wsJ9_floorMod_7cf53 := goodIn_r _ [6] (by decide +kernel) (by decide +kernel)
set_option maxRecDepth 20000 in
theorem gX2_isAwake_J9_floorMod_7cf53 : GoodIn wsX2_isAwake (va_wsS RX2 81 yJ9_floorMod_7cf53 wsJ9_floorMod_7cf53) := goodIn_app (goodIn_of _ (by decide +kernel)) ggX2_isAwake_J9_floorMod_7cf53
theorem dX2_isAwake_0 : decode cX2_isAwake 0 = .ok (.iload_n 1, 1) := by decide +kernel
theorem dX2_isAwake_1 : decode cX2_isAwake 1 = .ok (.aload_n 0, 1) := by decide +kernel
theorem dX2_isAwake_2 : decode cX2_isAwake 2 = .ok (.getfield 51, 3) := by decide +kernel
theorem dX2_isAwake_5 : decode cX2_isAwake 5 = .ok (.isub, 1) := by decide +kernel
theorem dX2_isAwake_6 : decode cX2_isAwake 6 = .ok (.bipush 24, 2) := by decide +kernel
theorem dX2_isAwake_8 : decode cX2_isAwake 8 = .ok (.invokestatic 81, 3) := by decide +kernel
theorem dX2_isAwake_11 : decode cX2_isAwake 11 = .ok (.aload_n 0, 1) := by decide +kernel
theorem dX2_isAwake_12 : decode cX2_isAwake 12 = .ok (.getfield 15, 3) := by decide +kernel
theorem dX2_isAwake_15 : decode cX2_isAwake 15 = .ok (.if_icmp .ge 7, 3) := by decide +kernel
theorem dX2_isAwake_18 : decode cX2_isAwake 18 = .ok (.iconst 1, 1) := by decide +kernel
theorem dX2_isAwake_19 : decode cX2_isAwake 19 = .ok (.goto 4, 3) := by decide +kernel
theorem dX2_isAwake_22 : decode cX2_isAwake 22 = .ok (.iconst 0, 1) := by decide +kernel
theorem dX2_isAwake_23 : decode cX2_isAwake 23 = .ok (.ireturn, 1) := by decide +kernel
theorem dX2_isDrumming_0 : decode cX2_isDrumming 0 = .ok (.aload_n 0, 1) := by decide +kernel
theorem dX2_isDrumming_1 : decode cX2_isDrumming 1 = .ok (.getfield 18, 3) := by decide +kernel
theorem dX2_isDrumming_4 : decode cX2_isDrumming 4 = .ok (.iconst (-1), 1) := by decide +kernel
theorem dX2_isDrumming_5 : decode cX2_isDrumming 5 = .ok (.if_icmp .eq 7, 3) := by decide +kernel
theorem dX2_isDrumming_8 : decode cX2_isDrumming 8 = .ok (.iconst 1, 1) := by decide +kernel
theorem dX2_isDrumming_9 : decode cX2_isDrumming 9 = .ok (.goto 4, 3) := by decide +kernel
theorem dX2_isDrumming_12 : decode cX2_isDrumming 12 = .ok (.iconst 0, 1) := by decide +kernel
theorem dX2_isDrumming_13 : decode cX2_isDrumming 13 = .ok (.ireturn, 1) := by decide +kernel
set_option maxRecDepth 20000 in
theorem ggX2_isReady_X2_isDrumming : GoodIn wsX2_isReady wsX2_isDrumming := goodIn_r _ [6, 7, 18, 19, 20, 21, 22, 23, 24, 25, 26, 27, 28, 29, 30] (by decide +kernel) (by decide +kernel)
set_option maxRecDepth 20000 in
theorem gX2_isReady_X2_isDrumming : GoodIn wsX2_isReady (wsV RX2 87 RX2 yX2_isDrumming wsX2_isDrumming) := goodIn_app (goodIn_of _ (by decide +kernel)) ggX2_isReady_X2_isDrumming
set_option maxRecDepth 20000 in
theorem ggX2_isReady_X2_isAwake : GoodIn wsX2_isReady wsX2_isAwake := goodIn_r _ [11, 12, 13, 14, 15, 16, 17, 18, 19, 20, 21, 22, 23, 24, 25, 26, 27, 28, 29, 30] (by decide +kernel) (by decide +kernel)
set_option maxRecDepth 20000 in
theorem gX2_isReady_X2_isAwake : GoodIn wsX2_isReady (wsV RX2 73 RX2 yX2_isAwake wsX2_isAwake) := goodIn_app (goodIn_of _ (by decide +kernel)) ggX2_isReady_X2_isAwake
theorem dX2_isReady_0 : decode cX2_isReady 0 = .ok (.aload_n 0, 1) := by decide +kernel
theorem dX2_isReady_1 : decode cX2_isReady 1 = .ok (.invokevirtual 87, 3) := by decide +kernel
theorem dX2_isReady_4 : decode cX2_isReady 4 = .ok (.ifCond .ne 22, 3) := by decide +kernel
theorem dX2_isReady_7 : decode cX2_isReady 7 = .ok (.aload_n 0, 1) := by decide +kernel
theorem dX2_isReady_8 : decode cX2_isReady 8 = .ok (.getfield 63, 3) := by decide +kernel
theorem dX2_isReady_11 : decode cX2_isReady 11 = .ok (.ifCond .le 15, 3) := by decide +kernel
theorem dX2_isReady_14 : decode cX2_isReady 14 = .ok (.aload_n 0, 1) := by decide +kernel
theorem dX2_isReady_15 : decode cX2_isReady 15 = .ok (.iload_n 1, 1) := by decide +kernel
theorem dX2_isReady_16 : decode cX2_isReady 16 = .ok (.invokevirtual 73, 3) := by decide +kernel
theorem dX2_isReady_19 : decode cX2_isReady 19 = .ok (.ifCond .eq 7, 3) := by decide +kernel
theorem dX2_isReady_22 : decode cX2_isReady 22 = .ok (.iconst 1, 1) := by decide +kernel
theorem dX2_isReady_23 : decode cX2_isReady 23 = .ok (.goto 4, 3) := by decide +kernel
theorem dX2_isReady_26 : decode cX2_isReady 26 = .ok (.iconst 0, 1) := by decide +kernel
theorem dX2_isReady_27 : decode cX2_isReady 27 = .ok (.ireturn, 1) := by decide +kernel
theorem dX2_distanceTo_0 : decode cX2_distanceTo 0 = .ok (.aload_n 0, 1) := by decide +kernel
theorem dX2_distanceTo_1 : decode cX2_distanceTo 1 = .ok (.getfield 41, 3) := by decide +kernel
theorem dX2_distanceTo_4 : decode cX2_distanceTo 4 = .ok (.aload_n 1, 1) := by decide +kernel
theorem dX2_distanceTo_5 : decode cX2_distanceTo 5 = .ok (.getfield 41, 3) := by decide +kernel
theorem dX2_distanceTo_8 : decode cX2_distanceTo 8 = .ok (.isub, 1) := by decide +kernel
theorem dX2_distanceTo_9 : decode cX2_distanceTo 9 = .ok (.invokestatic 91, 3) := by decide +kernel
theorem dX2_distanceTo_12 : decode cX2_distanceTo 12 = .ok (.aload_n 0, 1) := by decide +kernel
theorem dX2_distanceTo_13 : decode cX2_distanceTo 13 = .ok (.getfield 44, 3) := by decide +kernel
theorem dX2_distanceTo_16 : decode cX2_distanceTo 16 = .ok (.aload_n 1, 1) := by decide +kernel
theorem dX2_distanceTo_17 : decode cX2_distanceTo 17 = .ok (.getfield 44, 3) := by decide +kernel
theorem dX2_distanceTo_20 : decode cX2_distanceTo 20 = .ok (.isub, 1) := by decide +kernel
theorem dX2_distanceTo_21 : decode cX2_distanceTo 21 = .ok (.invokestatic 91, 3) := by decide +kernel
theorem dX2_distanceTo_24 : decode cX2_distanceTo 24 = .ok (.iadd, 1) := by decide +kernel
theorem dX2_distanceTo_25 : decode cX2_distanceTo 25 = .ok (.ireturn, 1) := by decide +kernel
theorem dX2_isHeardAt_0 : decode cX2_isHeardAt 0 = .ok (.iload_n 1, 1) := by decide +kernel
theorem dX2_isHeardAt_1 : decode cX2_isHeardAt 1 = .ok (.iconst 3, 1) := by decide +kernel
theorem dX2_isHeardAt_2 : decode cX2_isHeardAt 2 = .ok (.aload_n 0, 1) := by decide +kernel
theorem dX2_isHeardAt_3 : decode cX2_isHeardAt 3 = .ok (.getfield 9, 3) := by decide +kernel
theorem dX2_isHeardAt_6 : decode cX2_isHeardAt 6 = .ok (.imul, 1) := by decide +kernel
theorem dX2_isHeardAt_7 : decode cX2_isHeardAt 7 = .ok (.if_icmp .gt 7, 3) := by decide +kernel
theorem dX2_isHeardAt_10 : decode cX2_isHeardAt 10 = .ok (.iconst 1, 1) := by decide +kernel
theorem dX2_isHeardAt_11 : decode cX2_isHeardAt 11 = .ok (.goto 4, 3) := by decide +kernel
theorem dX2_isHeardAt_14 : decode cX2_isHeardAt 14 = .ok (.iconst 0, 1) := by decide +kernel
theorem dX2_isHeardAt_15 : decode cX2_isHeardAt 15 = .ok (.ireturn, 1) := by decide +kernel
theorem dX2_isKnown_0 : decode cX2_isKnown 0 = .ok (.iload_n 1, 1) := by decide +kernel
theorem dX2_isKnown_1 : decode cX2_isKnown 1 = .ok (.ifCond .lt 23, 3) := by decide +kernel
theorem dX2_isKnown_4 : decode cX2_isKnown 4 = .ok (.iload_n 1, 1) := by decide +kernel
theorem dX2_isKnown_5 : decode cX2_isKnown 5 = .ok (.bipush 12, 2) := by decide +kernel
theorem dX2_isKnown_7 : decode cX2_isKnown 7 = .ok (.if_icmp .ge 17, 3) := by decide +kernel
theorem dX2_isKnown_10 : decode cX2_isKnown 10 = .ok (.aload_n 0, 1) := by decide +kernel
theorem dX2_isKnown_11 : decode cX2_isKnown 11 = .ok (.getfield 25, 3) := by decide +kernel
theorem dX2_isKnown_14 : decode cX2_isKnown 14 = .ok (.iload_n 1, 1) := by decide +kernel
theorem dX2_isKnown_15 : decode cX2_isKnown 15 = .ok (.iaload, 1) := by decide +kernel
theorem dX2_isKnown_16 : decode cX2_isKnown 16 = .ok (.iconst (-1), 1) := by decide +kernel
theorem dX2_isKnown_17 : decode cX2_isKnown 17 = .ok (.if_icmp .eq 7, 3) := by decide +kernel
theorem dX2_isKnown_20 : decode cX2_isKnown 20 = .ok (.iconst 1, 1) := by decide +kernel
theorem dX2_isKnown_21 : decode cX2_isKnown 21 = .ok (.goto 4, 3) := by decide +kernel
theorem dX2_isKnown_24 : decode cX2_isKnown 24 = .ok (.iconst 0, 1) := by decide +kernel
theorem dX2_isKnown_25 : decode cX2_isKnown 25 = .ok (.ireturn, 1) := by decide +kernel
set_option maxRecDepth 20000 in
theorem ggX2_phrasesKnown_X2_isKnown : GoodIn wsX2_phrasesKnown wsX2_isKnown := goodIn_r _ [5, 6, 7, 8, 9, 10, 11, 12, 13, 14, 15, 16, 17, 18, 19] (by decide +kernel) (by decide +kernel)
set_option maxRecDepth 20000 in
theorem gX2_phrasesKnown_X2_isKnown : GoodIn wsX2_phrasesKnown (wsV RX2 95 RX2 yX2_isKnown wsX2_isKnown) := goodIn_app (goodIn_of _ (by decide +kernel)) ggX2_phrasesKnown_X2_isKnown
theorem dX2_phrasesKnown_0 : decode cX2_phrasesKnown 0 = .ok (.iconst 0, 1) := by decide +kernel
theorem dX2_phrasesKnown_1 : decode cX2_phrasesKnown 1 = .ok (.istore_n 1, 1) := by decide +kernel
theorem dX2_phrasesKnown_2 : decode cX2_phrasesKnown 2 = .ok (.iconst 0, 1) := by decide +kernel
theorem dX2_phrasesKnown_3 : decode cX2_phrasesKnown 3 = .ok (.istore_n 2, 1) := by decide +kernel
theorem dX2_phrasesKnown_4 : decode cX2_phrasesKnown 4 = .ok (.iload_n 2, 1) := by decide +kernel
theorem dX2_phrasesKnown_5 : decode cX2_phrasesKnown 5 = .ok (.bipush 12, 2) := by decide +kernel
theorem dX2_phrasesKnown_7 : decode cX2_phrasesKnown 7 = .ok (.if_icmp .ge 20, 3) := by decide +kernel
theorem dX2_phrasesKnown_10 : decode cX2_phrasesKnown 10 = .ok (.aload_n 0, 1) := by decide +kernel
theorem dX2_phrasesKnown_11 : decode cX2_phrasesKnown 11 = .ok (.iload_n 2, 1) := by decide +kernel
theorem dX2_phrasesKnown_12 : decode cX2_phrasesKnown 12 = .ok (.invokevirtual 95, 3) := by decide +kernel
theorem dX2_phrasesKnown_15 : decode cX2_phrasesKnown 15 = .ok (.ifCond .eq 6, 3) := by decide +kernel
theorem dX2_phrasesKnown_18 : decode cX2_phrasesKnown 18 = .ok (.iinc 1 1, 3) := by decide +kernel
theorem dX2_phrasesKnown_21 : decode cX2_phrasesKnown 21 = .ok (.iinc 2 1, 3) := by decide +kernel
theorem dX2_phrasesKnown_24 : decode cX2_phrasesKnown 24 = .ok (.goto (-20), 3) := by decide +kernel
theorem dX2_phrasesKnown_27 : decode cX2_phrasesKnown 27 = .ok (.iload_n 1, 1) := by decide +kernel
theorem dX2_phrasesKnown_28 : decode cX2_phrasesKnown 28 = .ok (.ireturn, 1) := by decide +kernel
theorem dX2_takeIn_0 : decode cX2_takeIn 0 = .ok (.iload_n 1, 1) := by decide +kernel
theorem dX2_takeIn_1 : decode cX2_takeIn 1 = .ok (.ifCond .lt 9, 3) := by decide +kernel
theorem dX2_takeIn_4 : decode cX2_takeIn 4 = .ok (.iload_n 1, 1) := by decide +kernel
theorem dX2_takeIn_5 : decode cX2_takeIn 5 = .ok (.bipush 12, 2) := by decide +kernel
theorem dX2_takeIn_7 : decode cX2_takeIn 7 = .ok (.if_icmp .lt 4, 3) := by decide +kernel
theorem dX2_takeIn_10 : decode cX2_takeIn 10 = .ok (.return_, 1) := by decide +kernel
theorem dX2_takeIn_11 : decode cX2_takeIn 11 = .ok (.aload_n 0, 1) := by decide +kernel
theorem dX2_takeIn_12 : decode cX2_takeIn 12 = .ok (.getfield 25, 3) := by decide +kernel
theorem dX2_takeIn_15 : decode cX2_takeIn 15 = .ok (.iload_n 1, 1) := by decide +kernel
theorem dX2_takeIn_16 : decode cX2_takeIn 16 = .ok (.iaload, 1) := by decide +kernel
theorem dX2_takeIn_17 : decode cX2_takeIn 17 = .ok (.iconst (-1), 1) := by decide +kernel
theorem dX2_takeIn_18 : decode cX2_takeIn 18 = .ok (.if_icmp .ne 10, 3) := by decide +kernel
theorem dX2_takeIn_21 : decode cX2_takeIn 21 = .ok (.aload_n 0, 1) := by decide +kernel
theorem dX2_takeIn_22 : decode cX2_takeIn 22 = .ok (.getfield 25, 3) := by decide +kernel
theorem dX2_takeIn_25 : decode cX2_takeIn 25 = .ok (.iload_n 1, 1) := by decide +kernel
theorem dX2_takeIn_26 : decode cX2_takeIn 26 = .ok (.iload_n 2, 1) := by decide +kernel
theorem dX2_takeIn_27 : decode cX2_takeIn 27 = .ok (.iastore, 1) := by decide +kernel
theorem dX2_takeIn_28 : decode cX2_takeIn 28 = .ok (.aload_n 0, 1) := by decide +kernel
theorem dX2_takeIn_29 : decode cX2_takeIn 29 = .ok (.getfield 63, 3) := by decide +kernel
theorem dX2_takeIn_32 : decode cX2_takeIn 32 = .ok (.iconst 5, 1) := by decide +kernel
theorem dX2_takeIn_33 : decode cX2_takeIn 33 = .ok (.if_icmp .ge 23, 3) := by decide +kernel
theorem dX2_takeIn_36 : decode cX2_takeIn 36 = .ok (.aload_n 0, 1) := by decide +kernel
theorem dX2_takeIn_37 : decode cX2_takeIn 37 = .ok (.getfield 21, 3) := by decide +kernel
theorem dX2_takeIn_40 : decode cX2_takeIn 40 = .ok (.aload_n 0, 1) := by decide +kernel
theorem dX2_takeIn_41 : decode cX2_takeIn 41 = .ok (.getfield 63, 3) := by decide +kernel
theorem dX2_takeIn_44 : decode cX2_takeIn 44 = .ok (.iload_n 1, 1) := by decide +kernel
theorem dX2_takeIn_45 : decode cX2_takeIn 45 = .ok (.iastore, 1) := by decide +kernel
theorem dX2_takeIn_46 : decode cX2_takeIn 46 = .ok (.aload_n 0, 1) := by decide +kernel
theorem dX2_takeIn_47 : decode cX2_takeIn 47 = .ok (.dup, 1) := by decide +kernel
theorem dX2_takeIn_48 : decode cX2_takeIn 48 = .ok (.getfield 63, 3) := by decide +kernel
theorem dX2_takeIn_51 : decode cX2_takeIn 51 = .ok (.iconst 1, 1) := by decide +kernel
theorem dX2_takeIn_52 : decode cX2_takeIn 52 = .ok (.iadd, 1) := by decide +kernel
theorem dX2_takeIn_53 : decode cX2_takeIn 53 = .ok (.putfield 63, 3) := by decide +kernel
theorem dX2_takeIn_56 : decode cX2_takeIn 56 = .ok (.return_, 1) := by decide +kernel
theorem dX2_takeFromQueue_0 : decode cX2_takeFromQueue 0 = .ok (.aload_n 0, 1) := by decide +kernel
theorem dX2_takeFromQueue_1 : decode cX2_takeFromQueue 1 = .ok (.getfield 63, 3) := by decide +kernel
theorem dX2_takeFromQueue_4 : decode cX2_takeFromQueue 4 = .ok (.ifCond .ne 5, 3) := by decide +kernel
theorem dX2_takeFromQueue_7 : decode cX2_takeFromQueue 7 = .ok (.iconst (-1), 1) := by decide +kernel
theorem dX2_takeFromQueue_8 : decode cX2_takeFromQueue 8 = .ok (.ireturn, 1) := by decide +kernel
theorem dX2_takeFromQueue_9 : decode cX2_takeFromQueue 9 = .ok (.aload_n 0, 1) := by decide +kernel
theorem dX2_takeFromQueue_10 : decode cX2_takeFromQueue 10 = .ok (.getfield 21, 3) := by decide +kernel
theorem dX2_takeFromQueue_13 : decode cX2_takeFromQueue 13 = .ok (.iconst 0, 1) := by decide +kernel
theorem dX2_takeFromQueue_14 : decode cX2_takeFromQueue 14 = .ok (.iaload, 1) := by decide +kernel
theorem dX2_takeFromQueue_15 : decode cX2_takeFromQueue 15 = .ok (.istore_n 1, 1) := by decide +kernel
theorem dX2_takeFromQueue_16 : decode cX2_takeFromQueue 16 = .ok (.aload_n 0, 1) := by decide +kernel
theorem dX2_takeFromQueue_17 : decode cX2_takeFromQueue 17 = .ok (.dup, 1) := by decide +kernel
theorem dX2_takeFromQueue_18 : decode cX2_takeFromQueue 18 = .ok (.getfield 63, 3) := by decide +kernel
theorem dX2_takeFromQueue_21 : decode cX2_takeFromQueue 21 = .ok (.iconst 1, 1) := by decide +kernel
theorem dX2_takeFromQueue_22 : decode cX2_takeFromQueue 22 = .ok (.isub, 1) := by decide +kernel
theorem dX2_takeFromQueue_23 : decode cX2_takeFromQueue 23 = .ok (.putfield 63, 3) := by decide +kernel
theorem dX2_takeFromQueue_26 : decode cX2_takeFromQueue 26 = .ok (.aload_n 0, 1) := by decide +kernel
theorem dX2_takeFromQueue_27 : decode cX2_takeFromQueue 27 = .ok (.getfield 21, 3) := by decide +kernel
theorem dX2_takeFromQueue_30 : decode cX2_takeFromQueue 30 = .ok (.iconst 1, 1) := by decide +kernel
theorem dX2_takeFromQueue_31 : decode cX2_takeFromQueue 31 = .ok (.aload_n 0, 1) := by decide +kernel
theorem dX2_takeFromQueue_32 : decode cX2_takeFromQueue 32 = .ok (.getfield 21, 3) := by decide +kernel
theorem dX2_takeFromQueue_35 : decode cX2_takeFromQueue 35 = .ok (.iconst 0, 1) := by decide +kernel
theorem dX2_takeFromQueue_36 : decode cX2_takeFromQueue 36 = .ok (.aload_n 0, 1) := by decide +kernel
theorem dX2_takeFromQueue_37 : decode cX2_takeFromQueue 37 = .ok (.getfield 63, 3) := by decide +kernel
theorem dX2_takeFromQueue_40 : decode cX2_takeFromQueue 40 = .ok (.invokestatic 57, 3) := by decide +kernel
theorem dX2_takeFromQueue_43 : decode cX2_takeFromQueue 43 = .ok (.iload_n 1, 1) := by decide +kernel
theorem dX2_takeFromQueue_44 : decode cX2_takeFromQueue 44 = .ok (.ireturn, 1) := by decide +kernel
set_option maxRecDepth 20000 in
theorem ggX2_drownIfDisturbed_X2_isAwake : GoodIn wsX2_drownIfDisturbed wsX2_isAwake := goodIn_r _ [6, 7, 8, 9, 10, 11, 12, 30, 31, 32, 33, 34, 35, 36, 37, 38, 39, 40, 41, 42] (by decide +kernel) (by decide +kernel)
set_option maxRecDepth 20000 in
theorem gX2_drownIfDisturbed_X2_isAwake : GoodIn wsX2_drownIfDisturbed (wsV RX2 73 RX2 yX2_isAwake wsX2_isAwake) := goodIn_app (goodIn_of _ (by decide +kernel)) ggX2_drownIfDisturbed_X2_isAwake
set_option maxRecDepth 20000 in
theorem ggX2_drownIfDisturbed_X2_isDrumming : GoodIn wsX2_drownIfDisturbed wsX2_isDrumming := goodIn_r _ [16, 17, 30, 31, 32, 33, 34, 35, 36, 37, 38, 39, 40, 41, 42] (by decide +kernel) (by decide +kernel)
set_option maxRecDepth 20000 in
theorem gX2_drownIfDisturbed_X2_isDrumming : GoodIn wsX2_drownIfDisturbed (wsV RX2 87 RX2 yX2_isDrumming wsX2_isDrumming) := goodIn_app (goodIn_of _ (by decide +kernel)) ggX2_drownIfDisturbed_X2_isDrumming
set_option maxRecDepth 20000 in
theorem ggX2_drownIfDisturbed_X1_lasting : GoodIn wsX2_drownIfDisturbed wsX1_lasting := goodIn_r _ [22, 23, 24, 43, 44, 45, 46, 47] (by decide +kernel) (by decide +kernel)
set_option maxRecDepth 20000 in
theorem gX2_drownIfDisturbed_X1_lasting : GoodIn wsX2_drownIfDisturbed (wsV RX2 98 RX1 yX1_lasting wsX1_lasting) := goodIn_app (goodIn_of _ (by decide +kernel)) ggX2_drownIfDisturbed_X1_lasting
set_option maxRecDepth 20000 in
theorem ggX2_drownIfDisturbed_X1_drown : GoodIn wsX2_drownIfDisturbed wsX1_drown := goodIn_r _ [28, 23, 24, 29, 43, 44, 45, 46, 47] (by decide +kernel) (by decide +kernel)
set_option maxRecDepth 20000 in
theorem gX2_drownIfDisturbed_X1_drown : GoodIn wsX2_drownIfDisturbed (wsV RX2 101 RX1 yX1_drown wsX1_drown) := goodIn_app (goodIn_of _ (by decide +kernel)) ggX2_drownIfDisturbed_X1_drown
theorem dX2_drownIfDisturbed_0 : decode cX2_drownIfDisturbed 0 = .ok (.aload_n 0, 1) := by decide +kernel
theorem dX2_drownIfDisturbed_1 : decode cX2_drownIfDisturbed 1 = .ok (.iload_n 1, 1) := by decide +kernel
theorem dX2_drownIfDisturbed_2 : decode cX2_drownIfDisturbed 2 = .ok (.invokevirtual 73, 3) := by decide +kernel
theorem dX2_drownIfDisturbed_5 : decode cX2_drownIfDisturbed 5 = .ok (.ifCond .eq 22, 3) := by decide +kernel
theorem dX2_drownIfDisturbed_8 : decode cX2_drownIfDisturbed 8 = .ok (.aload_n 0, 1) := by decide +kernel
theorem dX2_drownIfDisturbed_9 : decode cX2_drownIfDisturbed 9 = .ok (.invokevirtual 87, 3) := by decide +kernel
theorem dX2_drownIfDisturbed_12 : decode cX2_drownIfDisturbed 12 = .ok (.ifCond .ne 15, 3) := by decide +kernel
theorem dX2_drownIfDisturbed_15 : decode cX2_drownIfDisturbed 15 = .ok (.aload_n 0, 1) := by decide +kernel
theorem dX2_drownIfDisturbed_16 : decode cX2_drownIfDisturbed 16 = .ok (.getfield 31, 3) := by decide +kernel
theorem dX2_drownIfDisturbed_19 : decode cX2_drownIfDisturbed 19 = .ok (.iload_n 1, 1) := by decide +kernel
theorem dX2_drownIfDisturbed_20 : decode cX2_drownIfDisturbed 20 = .ok (.invokevirtual 98, 3) := by decide +kernel
theorem dX2_drownIfDisturbed_23 : decode cX2_drownIfDisturbed 23 = .ok (.iconst 2, 1) := by decide +kernel
theorem dX2_drownIfDisturbed_24 : decode cX2_drownIfDisturbed 24 = .ok (.if_icmp .lt 11, 3) := by decide +kernel
theorem dX2_drownIfDisturbed_27 : decode cX2_drownIfDisturbed 27 = .ok (.aload_n 0, 1) := by decide +kernel
theorem dX2_drownIfDisturbed_28 : decode cX2_drownIfDisturbed 28 = .ok (.getfield 31, 3) := by decide +kernel
theorem dX2_drownIfDisturbed_31 : decode cX2_drownIfDisturbed 31 = .ok (.iload_n 1, 1) := by decide +kernel
theorem dX2_drownIfDisturbed_32 : decode cX2_drownIfDisturbed 32 = .ok (.invokevirtual 101, 3) := by decide +kernel
theorem dX2_drownIfDisturbed_35 : decode cX2_drownIfDisturbed 35 = .ok (.return_, 1) := by decide +kernel
set_option maxRecDepth 20000 in
theorem ggX2_endSounds_X1_move : GoodIn wsX2_endSounds wsX1_move := goodIn_r _ [11, 12, 13, 14, 15, 16, 42, 43, 44, 45, 46] (by decide +kernel) (by decide +kernel)
set_option maxRecDepth 20000 in
theorem gX2_endSounds_X1_move : GoodIn wsX2_endSounds (wsV RX2 111 RX1 yX1_move wsX1_move) := goodIn_app (goodIn_of _ (by decide +kernel)) ggX2_endSounds_X1_move
set_option maxRecDepth 20000 in
theorem ggX2_endSounds_X2_isKnown : GoodIn wsX2_endSounds wsX2_isKnown := goodIn_r _ [21, 22, 29, 30, 31, 32, 33, 34, 35, 36, 37, 38, 39, 40, 41] (by decide +kernel) (by decide +kernel)
set_option maxRecDepth 20000 in
theorem gX2_endSounds_X2_isKnown : GoodIn wsX2_endSounds (wsV RX2 95 RX2 yX2_isKnown wsX2_isKnown) := goodIn_app (goodIn_of _ (by decide +kernel)) ggX2_endSounds_X2_isKnown
set_option maxRecDepth 20000 in
theorem ggX2_endSounds_X2_takeIn : GoodIn wsX2_endSounds wsX2_takeIn := goodIn_r _ [26, 22, 27, 28, 29, 30, 31, 32, 33, 34, 35, 36, 37, 38, 39, 40, 41] (by decide +kernel) (by decide +kernel)
set_option maxRecDepth 20000 in
theorem gX2_endSounds_X2_takeIn : GoodIn wsX2_endSounds (wsV RX2 120 RX2 yX2_takeIn wsX2_takeIn) := goodIn_app (goodIn_of _ (by decide +kernel)) ggX2_endSounds_X2_takeIn
theorem dX2_endSounds_0 : decode cX2_endSounds 0 = .ok (.iconst 0, 1) := by decide +kernel
theorem dX2_endSounds_1 : decode cX2_endSounds 1 = .ok (.istore_n 2, 1) := by decide +kernel
theorem dX2_endSounds_2 : decode cX2_endSounds 2 = .ok (.iconst 0, 1) := by decide +kernel
theorem dX2_endSounds_3 : decode cX2_endSounds 3 = .ok (.istore_n 3, 1) := by decide +kernel
theorem dX2_endSounds_4 : decode cX2_endSounds 4 = .ok (.iconst 0, 1) := by decide +kernel
theorem dX2_endSounds_5 : decode cX2_endSounds 5 = .ok (.istore 4, 2) := by decide +kernel
theorem dX2_endSounds_7 : decode cX2_endSounds 7 = .ok (.iload 4, 2) := by decide +kernel
theorem dX2_endSounds_9 : decode cX2_endSounds 9 = .ok (.aload_n 0, 1) := by decide +kernel
theorem dX2_endSounds_10 : decode cX2_endSounds 10 = .ok (.getfield 31, 3) := by decide +kernel
theorem dX2_endSounds_13 : decode cX2_endSounds 13 = .ok (.getfield 105, 3) := by decide +kernel
theorem dX2_endSounds_16 : decode cX2_endSounds 16 = .ok (.if_icmp .ge 100, 3) := by decide +kernel
theorem dX2_endSounds_19 : decode cX2_endSounds 19 = .ok (.aload_n 0, 1) := by decide +kernel
theorem dX2_endSounds_20 : decode cX2_endSounds 20 = .ok (.getfield 31, 3) := by decide +kernel
theorem dX2_endSounds_23 : decode cX2_endSounds 23 = .ok (.getfield 108, 3) := by decide +kernel
theorem dX2_endSounds_26 : decode cX2_endSounds 26 = .ok (.iload 4, 2) := by decide +kernel
theorem dX2_endSounds_28 : decode cX2_endSounds 28 = .ok (.iaload, 1) := by decide +kernel
theorem dX2_endSounds_29 : decode cX2_endSounds 29 = .ok (.iload_n 1, 1) := by decide +kernel
theorem dX2_endSounds_30 : decode cX2_endSounds 30 = .ok (.if_icmp .eq 19, 3) := by decide +kernel
theorem dX2_endSounds_33 : decode cX2_endSounds 33 = .ok (.aload_n 0, 1) := by decide +kernel
theorem dX2_endSounds_34 : decode cX2_endSounds 34 = .ok (.getfield 31, 3) := by decide +kernel
theorem dX2_endSounds_37 : decode cX2_endSounds 37 = .ok (.iload 4, 2) := by decide +kernel
theorem dX2_endSounds_39 : decode cX2_endSounds 39 = .ok (.iload_n 3, 1) := by decide +kernel
theorem dX2_endSounds_40 : decode cX2_endSounds 40 = .ok (.invokevirtual 111, 3) := by decide +kernel
theorem dX2_endSounds_43 : decode cX2_endSounds 43 = .ok (.iinc 3 1, 3) := by decide +kernel
theorem dX2_endSounds_46 : decode cX2_endSounds 46 = .ok (.goto 64, 3) := by decide +kernel
theorem dX2_endSounds_49 : decode cX2_endSounds 49 = .ok (.aload_n 0, 1) := by decide +kernel
theorem dX2_endSounds_50 : decode cX2_endSounds 50 = .ok (.getfield 31, 3) := by decide +kernel
theorem dX2_endSounds_53 : decode cX2_endSounds 53 = .ok (.getfield 115, 3) := by decide +kernel
theorem dX2_endSounds_56 : decode cX2_endSounds 56 = .ok (.iload 4, 2) := by decide +kernel
theorem dX2_endSounds_58 : decode cX2_endSounds 58 = .ok (.iaload, 1) := by decide +kernel
theorem dX2_endSounds_59 : decode cX2_endSounds 59 = .ok (.ifCond .eq 16, 3) := by decide +kernel
theorem dX2_endSounds_62 : decode cX2_endSounds 62 = .ok (.aload_n 0, 1) := by decide +kernel
theorem dX2_endSounds_63 : decode cX2_endSounds 63 = .ok (.dup, 1) := by decide +kernel
theorem dX2_endSounds_64 : decode cX2_endSounds 64 = .ok (.getfield 70, 3) := by decide +kernel
theorem dX2_endSounds_67 : decode cX2_endSounds 67 = .ok (.iconst 1, 1) := by decide +kernel
theorem dX2_endSounds_68 : decode cX2_endSounds 68 = .ok (.iadd, 1) := by decide +kernel
theorem dX2_endSounds_69 : decode cX2_endSounds 69 = .ok (.putfield 70, 3) := by decide +kernel
theorem dX2_endSounds_72 : decode cX2_endSounds 72 = .ok (.goto 38, 3) := by decide +kernel
theorem dX2_endSounds_75 : decode cX2_endSounds 75 = .ok (.aload_n 0, 1) := by decide +kernel
theorem dX2_endSounds_76 : decode cX2_endSounds 76 = .ok (.aload_n 0, 1) := by decide +kernel
theorem dX2_endSounds_77 : decode cX2_endSounds 77 = .ok (.getfield 31, 3) := by decide +kernel
theorem dX2_endSounds_80 : decode cX2_endSounds 80 = .ok (.getfield 117, 3) := by decide +kernel
theorem dX2_endSounds_83 : decode cX2_endSounds 83 = .ok (.iload 4, 2) := by decide +kernel
theorem dX2_endSounds_85 : decode cX2_endSounds 85 = .ok (.iaload, 1) := by decide +kernel
theorem dX2_endSounds_86 : decode cX2_endSounds 86 = .ok (.invokevirtual 95, 3) := by decide +kernel
theorem dX2_endSounds_89 : decode cX2_endSounds 89 = .ok (.ifCond .ne 21, 3) := by decide +kernel
theorem dX2_endSounds_92 : decode cX2_endSounds 92 = .ok (.aload_n 0, 1) := by decide +kernel
theorem dX2_endSounds_93 : decode cX2_endSounds 93 = .ok (.aload_n 0, 1) := by decide +kernel
theorem dX2_endSounds_94 : decode cX2_endSounds 94 = .ok (.getfield 31, 3) := by decide +kernel
theorem dX2_endSounds_97 : decode cX2_endSounds 97 = .ok (.getfield 117, 3) := by decide +kernel
theorem dX2_endSounds_100 : decode cX2_endSounds 100 = .ok (.iload 4, 2) := by decide +kernel
theorem dX2_endSounds_102 : decode cX2_endSounds 102 = .ok (.iaload, 1) := by decide +kernel
theorem dX2_endSounds_103 : decode cX2_endSounds 103 = .ok (.iload_n 1, 1) := by decide +kernel
theorem dX2_endSounds_104 : decode cX2_endSounds 104 = .ok (.invokevirtual 120, 3) := by decide +kernel
theorem dX2_endSounds_107 : decode cX2_endSounds 107 = .ok (.iinc 2 1, 3) := by decide +kernel
theorem dX2_endSounds_110 : decode cX2_endSounds 110 = .ok (.iinc 4 1, 3) := by decide +kernel
theorem dX2_endSounds_113 : decode cX2_endSounds 113 = .ok (.goto (-106), 3) := by decide +kernel
theorem dX2_endSounds_116 : decode cX2_endSounds 116 = .ok (.aload_n 0, 1) := by decide +kernel
theorem dX2_endSounds_117 : decode cX2_endSounds 117 = .ok (.getfield 31, 3) := by decide +kernel
theorem dX2_endSounds_120 : decode cX2_endSounds 120 = .ok (.iload_n 3, 1) := by decide +kernel
theorem dX2_endSounds_121 : decode cX2_endSounds 121 = .ok (.putfield 105, 3) := by decide +kernel
theorem dX2_endSounds_124 : decode cX2_endSounds 124 = .ok (.iload_n 2, 1) := by decide +kernel
theorem dX2_endSounds_125 : decode cX2_endSounds 125 = .ok (.ireturn, 1) := by decide +kernel
set_option maxRecDepth 20000 in
theorem ggX2_endDrumBeat_X2_isDrumming : GoodIn wsX2_endDrumBeat wsX2_isDrumming := goodIn_r _ [7, 2, 8, 9, 10, 11, 12, 13, 14, 15, 16, 17, 18, 19, 20] (by decide +kernel) (by decide +kernel)
set_option maxRecDepth 20000 in
theorem gX2_endDrumBeat_X2_isDrumming : GoodIn wsX2_endDrumBeat (wsV RX2 87 RX2 yX2_isDrumming wsX2_isDrumming) := goodIn_app (goodIn_of _ (by decide +kernel)) ggX2_endDrumBeat_X2_isDrumming
theorem dX2_endDrumBeat_0 : decode cX2_endDrumBeat 0 = .ok (.aload_n 0, 1) := by decide +kernel
theorem dX2_endDrumBeat_1 : decode cX2_endDrumBeat 1 = .ok (.invokevirtual 87, 3) := by decide +kernel
theorem dX2_endDrumBeat_4 : decode cX2_endDrumBeat 4 = .ok (.ifCond .ne 4, 3) := by decide +kernel
theorem dX2_endDrumBeat_7 : decode cX2_endDrumBeat 7 = .ok (.return_, 1) := by decide +kernel
theorem dX2_endDrumBeat_8 : decode cX2_endDrumBeat 8 = .ok (.aload_n 0, 1) := by decide +kernel
theorem dX2_endDrumBeat_9 : decode cX2_endDrumBeat 9 = .ok (.dup, 1) := by decide +kernel
theorem dX2_endDrumBeat_10 : decode cX2_endDrumBeat 10 = .ok (.getfield 54, 3) := by decide +kernel
theorem dX2_endDrumBeat_13 : decode cX2_endDrumBeat 13 = .ok (.iconst 1, 1) := by decide +kernel
theorem dX2_endDrumBeat_14 : decode cX2_endDrumBeat 14 = .ok (.isub, 1) := by decide +kernel
theorem dX2_endDrumBeat_15 : decode cX2_endDrumBeat 15 = .ok (.putfield 54, 3) := by decide +kernel
theorem dX2_endDrumBeat_18 : decode cX2_endDrumBeat 18 = .ok (.aload_n 0, 1) := by decide +kernel
theorem dX2_endDrumBeat_19 : decode cX2_endDrumBeat 19 = .ok (.getfield 54, 3) := by decide +kernel
theorem dX2_endDrumBeat_22 : decode cX2_endDrumBeat 22 = .ok (.ifCond .ne 8, 3) := by decide +kernel
theorem dX2_endDrumBeat_25 : decode cX2_endDrumBeat 25 = .ok (.aload_n 0, 1) := by decide +kernel
theorem dX2_endDrumBeat_26 : decode cX2_endDrumBeat 26 = .ok (.iconst (-1), 1) := by decide +kernel
theorem dX2_endDrumBeat_27 : decode cX2_endDrumBeat 27 = .ok (.putfield 18, 3) := by decide +kernel
theorem dX2_endDrumBeat_30 : decode cX2_endDrumBeat 30 = .ok (.return_, 1) := by decide +kernel
