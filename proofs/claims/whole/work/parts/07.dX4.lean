theorem dX4_init_0 : decode cX4_init 0 = .ok (.aload_n 0, 1) := by decide +kernel
theorem dX4_init_1 : decode cX4_init 1 = .ok (.aload_n 1, 1) := by decide +kernel
theorem dX4_init_2 : decode cX4_init 2 = .ok (.putfield 3, 3) := by decide +kernel
theorem dX4_init_5 : decode cX4_init 5 = .ok (.aload_n 0, 1) := by decide +kernel
theorem dX4_init_6 : decode cX4_init 6 = .ok (.invokespecial 9, 3) := by decide +kernel
theorem dX4_init_9 : decode cX4_init 9 = .ok (.aload_n 0, 1) := by decide +kernel
theorem dX4_init_10 : decode cX4_init 10 = .ok (.bipush 8, 2) := by decide +kernel
theorem dX4_init_12 : decode cX4_init 12 = .ok (.newarray .int, 2) := by decide +kernel
theorem dX4_init_14 : decode cX4_init 14 = .ok (.putfield 15, 3) := by decide +kernel
theorem dX4_init_17 : decode cX4_init 17 = .ok (.aload_n 0, 1) := by decide +kernel
theorem dX4_init_18 : decode cX4_init 18 = .ok (.bipush 8, 2) := by decide +kernel
theorem dX4_init_20 : decode cX4_init 20 = .ok (.newarray .int, 2) := by decide +kernel
theorem dX4_init_22 : decode cX4_init 22 = .ok (.putfield 19, 3) := by decide +kernel
theorem dX4_init_25 : decode cX4_init 25 = .ok (.aload_n 0, 1) := by decide +kernel
theorem dX4_init_26 : decode cX4_init 26 = .ok (.bipush 8, 2) := by decide +kernel
theorem dX4_init_28 : decode cX4_init 28 = .ok (.newarray .int, 2) := by decide +kernel
theorem dX4_init_30 : decode cX4_init 30 = .ok (.putfield 22, 3) := by decide +kernel
theorem dX4_init_33 : decode cX4_init 33 = .ok (.aload_n 0, 1) := by decide +kernel
theorem dX4_init_34 : decode cX4_init 34 = .ok (.bipush 8, 2) := by decide +kernel
theorem dX4_init_36 : decode cX4_init 36 = .ok (.newarray .int, 2) := by decide +kernel
theorem dX4_init_38 : decode cX4_init 38 = .ok (.putfield 25, 3) := by decide +kernel
theorem dX4_init_41 : decode cX4_init 41 = .ok (.aload_n 0, 1) := by decide +kernel
theorem dX4_init_42 : decode cX4_init 42 = .ok (.bipush 40, 2) := by decide +kernel
theorem dX4_init_44 : decode cX4_init 44 = .ok (.newarray .int, 2) := by decide +kernel
theorem dX4_init_46 : decode cX4_init 46 = .ok (.putfield 28, 3) := by decide +kernel
theorem dX4_init_49 : decode cX4_init 49 = .ok (.aload_n 0, 1) := by decide +kernel
theorem dX4_init_50 : decode cX4_init 50 = .ok (.bipush 96, 2) := by decide +kernel
theorem dX4_init_52 : decode cX4_init 52 = .ok (.newarray .int, 2) := by decide +kernel
theorem dX4_init_54 : decode cX4_init 54 = .ok (.putfield 31, 3) := by decide +kernel
theorem dX4_init_57 : decode cX4_init 57 = .ok (.aload_n 0, 1) := by decide +kernel
theorem dX4_init_58 : decode cX4_init 58 = .ok (.bipush 8, 2) := by decide +kernel
theorem dX4_init_60 : decode cX4_init 60 = .ok (.newarray .int, 2) := by decide +kernel
theorem dX4_init_62 : decode cX4_init 62 = .ok (.putfield 34, 3) := by decide +kernel
theorem dX4_init_65 : decode cX4_init 65 = .ok (.aload_n 0, 1) := by decide +kernel
theorem dX4_init_66 : decode cX4_init 66 = .ok (.sipush 1024, 3) := by decide +kernel
theorem dX4_init_69 : decode cX4_init 69 = .ok (.newarray .int, 2) := by decide +kernel
theorem dX4_init_71 : decode cX4_init 71 = .ok (.putfield 37, 3) := by decide +kernel
theorem dX4_init_74 : decode cX4_init 74 = .ok (.aload_n 0, 1) := by decide +kernel
theorem dX4_init_75 : decode cX4_init 75 = .ok (.sipush 1024, 3) := by decide +kernel
theorem dX4_init_78 : decode cX4_init 78 = .ok (.newarray .int, 2) := by decide +kernel
theorem dX4_init_80 : decode cX4_init 80 = .ok (.putfield 40, 3) := by decide +kernel
theorem dX4_init_83 : decode cX4_init 83 = .ok (.aload_n 0, 1) := by decide +kernel
theorem dX4_init_84 : decode cX4_init 84 = .ok (.sipush 1024, 3) := by decide +kernel
theorem dX4_init_87 : decode cX4_init 87 = .ok (.newarray .int, 2) := by decide +kernel
theorem dX4_init_89 : decode cX4_init 89 = .ok (.putfield 43, 3) := by decide +kernel
theorem dX4_init_92 : decode cX4_init 92 = .ok (.aload_n 0, 1) := by decide +kernel
theorem dX4_init_93 : decode cX4_init 93 = .ok (.sipush 1024, 3) := by decide +kernel
theorem dX4_init_96 : decode cX4_init 96 = .ok (.newarray .int, 2) := by decide +kernel
theorem dX4_init_98 : decode cX4_init 98 = .ok (.putfield 46, 3) := by decide +kernel
theorem dX4_init_101 : decode cX4_init 101 = .ok (.aload_n 0, 1) := by decide +kernel
theorem dX4_init_102 : decode cX4_init 102 = .ok (.sipush 1024, 3) := by decide +kernel
theorem dX4_init_105 : decode cX4_init 105 = .ok (.newarray .int, 2) := by decide +kernel
theorem dX4_init_107 : decode cX4_init 107 = .ok (.putfield 49, 3) := by decide +kernel
theorem dX4_init_110 : decode cX4_init 110 = .ok (.return_, 1) := by decide +kernel
theorem dX4_copy_0 : decode cX4_copy 0 = .ok (.aload_n 1, 1) := by decide +kernel
theorem dX4_copy_1 : decode cX4_copy 1 = .ok (.iconst 0, 1) := by decide +kernel
theorem dX4_copy_2 : decode cX4_copy 2 = .ok (.aload_n 2, 1) := by decide +kernel
theorem dX4_copy_3 : decode cX4_copy 3 = .ok (.iconst 0, 1) := by decide +kernel
theorem dX4_copy_4 : decode cX4_copy 4 = .ok (.iload_n 3, 1) := by decide +kernel
theorem dX4_copy_5 : decode cX4_copy 5 = .ok (.invokestatic 52, 3) := by decide +kernel
theorem dX4_copy_8 : decode cX4_copy 8 = .ok (.return_, 1) := by decide +kernel
set_option maxRecDepth 20000 in
theorem ggX4_become_X4_copy : GoodIn wsX4_become wsX4_copy := goodIn_r _ [20, 21, 22, 23, 24] (by decide +kernel) (by decide +kernel)
set_option maxRecDepth 20000 in
theorem gX4_become_X4_copy : GoodIn wsX4_become (wsV RX4 68 RX4 yX4_copy wsX4_copy) := goodIn_app (goodIn_of _ (by decide +kernel)) ggX4_become_X4_copy
theorem dX4_become_0 : decode cX4_become 0 = .ok (.aload_n 0, 1) := by decide +kernel
theorem dX4_become_1 : decode cX4_become 1 = .ok (.aload_n 1, 1) := by decide +kernel
theorem dX4_become_2 : decode cX4_become 2 = .ok (.getfield 58, 3) := by decide +kernel
theorem dX4_become_5 : decode cX4_become 5 = .ok (.putfield 58, 3) := by decide +kernel
theorem dX4_become_8 : decode cX4_become 8 = .ok (.aload_n 0, 1) := by decide +kernel
theorem dX4_become_9 : decode cX4_become 9 = .ok (.aload_n 1, 1) := by decide +kernel
theorem dX4_become_10 : decode cX4_become 10 = .ok (.getfield 62, 3) := by decide +kernel
theorem dX4_become_13 : decode cX4_become 13 = .ok (.putfield 62, 3) := by decide +kernel
theorem dX4_become_16 : decode cX4_become 16 = .ok (.aload_n 0, 1) := by decide +kernel
theorem dX4_become_17 : decode cX4_become 17 = .ok (.aload_n 1, 1) := by decide +kernel
theorem dX4_become_18 : decode cX4_become 18 = .ok (.getfield 65, 3) := by decide +kernel
theorem dX4_become_21 : decode cX4_become 21 = .ok (.putfield 65, 3) := by decide +kernel
theorem dX4_become_24 : decode cX4_become 24 = .ok (.aload_n 0, 1) := by decide +kernel
theorem dX4_become_25 : decode cX4_become 25 = .ok (.aload_n 1, 1) := by decide +kernel
theorem dX4_become_26 : decode cX4_become 26 = .ok (.getfield 15, 3) := by decide +kernel
theorem dX4_become_29 : decode cX4_become 29 = .ok (.aload_n 0, 1) := by decide +kernel
theorem dX4_become_30 : decode cX4_become 30 = .ok (.getfield 15, 3) := by decide +kernel
theorem dX4_become_33 : decode cX4_become 33 = .ok (.bipush 8, 2) := by decide +kernel
theorem dX4_become_35 : decode cX4_become 35 = .ok (.invokevirtual 68, 3) := by decide +kernel
theorem dX4_become_38 : decode cX4_become 38 = .ok (.aload_n 0, 1) := by decide +kernel
theorem dX4_become_39 : decode cX4_become 39 = .ok (.aload_n 1, 1) := by decide +kernel
theorem dX4_become_40 : decode cX4_become 40 = .ok (.getfield 19, 3) := by decide +kernel
theorem dX4_become_43 : decode cX4_become 43 = .ok (.aload_n 0, 1) := by decide +kernel
theorem dX4_become_44 : decode cX4_become 44 = .ok (.getfield 19, 3) := by decide +kernel
theorem dX4_become_47 : decode cX4_become 47 = .ok (.bipush 8, 2) := by decide +kernel
theorem dX4_become_49 : decode cX4_become 49 = .ok (.invokevirtual 68, 3) := by decide +kernel
theorem dX4_become_52 : decode cX4_become 52 = .ok (.aload_n 0, 1) := by decide +kernel
theorem dX4_become_53 : decode cX4_become 53 = .ok (.aload_n 1, 1) := by decide +kernel
theorem dX4_become_54 : decode cX4_become 54 = .ok (.getfield 22, 3) := by decide +kernel
theorem dX4_become_57 : decode cX4_become 57 = .ok (.aload_n 0, 1) := by decide +kernel
theorem dX4_become_58 : decode cX4_become 58 = .ok (.getfield 22, 3) := by decide +kernel
theorem dX4_become_61 : decode cX4_become 61 = .ok (.bipush 8, 2) := by decide +kernel
theorem dX4_become_63 : decode cX4_become 63 = .ok (.invokevirtual 68, 3) := by decide +kernel
theorem dX4_become_66 : decode cX4_become 66 = .ok (.aload_n 0, 1) := by decide +kernel
theorem dX4_become_67 : decode cX4_become 67 = .ok (.aload_n 1, 1) := by decide +kernel
theorem dX4_become_68 : decode cX4_become 68 = .ok (.getfield 25, 3) := by decide +kernel
theorem dX4_become_71 : decode cX4_become 71 = .ok (.aload_n 0, 1) := by decide +kernel
theorem dX4_become_72 : decode cX4_become 72 = .ok (.getfield 25, 3) := by decide +kernel
theorem dX4_become_75 : decode cX4_become 75 = .ok (.bipush 8, 2) := by decide +kernel
theorem dX4_become_77 : decode cX4_become 77 = .ok (.invokevirtual 68, 3) := by decide +kernel
theorem dX4_become_80 : decode cX4_become 80 = .ok (.aload_n 0, 1) := by decide +kernel
theorem dX4_become_81 : decode cX4_become 81 = .ok (.aload_n 1, 1) := by decide +kernel
theorem dX4_become_82 : decode cX4_become 82 = .ok (.getfield 28, 3) := by decide +kernel
theorem dX4_become_85 : decode cX4_become 85 = .ok (.aload_n 0, 1) := by decide +kernel
theorem dX4_become_86 : decode cX4_become 86 = .ok (.getfield 28, 3) := by decide +kernel
theorem dX4_become_89 : decode cX4_become 89 = .ok (.bipush 40, 2) := by decide +kernel
theorem dX4_become_91 : decode cX4_become 91 = .ok (.invokevirtual 68, 3) := by decide +kernel
theorem dX4_become_94 : decode cX4_become 94 = .ok (.aload_n 0, 1) := by decide +kernel
theorem dX4_become_95 : decode cX4_become 95 = .ok (.aload_n 1, 1) := by decide +kernel
theorem dX4_become_96 : decode cX4_become 96 = .ok (.getfield 31, 3) := by decide +kernel
theorem dX4_become_99 : decode cX4_become 99 = .ok (.aload_n 0, 1) := by decide +kernel
theorem dX4_become_100 : decode cX4_become 100 = .ok (.getfield 31, 3) := by decide +kernel
theorem dX4_become_103 : decode cX4_become 103 = .ok (.bipush 96, 2) := by decide +kernel
theorem dX4_become_105 : decode cX4_become 105 = .ok (.invokevirtual 68, 3) := by decide +kernel
theorem dX4_become_108 : decode cX4_become 108 = .ok (.aload_n 0, 1) := by decide +kernel
theorem dX4_become_109 : decode cX4_become 109 = .ok (.aload_n 1, 1) := by decide +kernel
theorem dX4_become_110 : decode cX4_become 110 = .ok (.getfield 34, 3) := by decide +kernel
theorem dX4_become_113 : decode cX4_become 113 = .ok (.aload_n 0, 1) := by decide +kernel
theorem dX4_become_114 : decode cX4_become 114 = .ok (.getfield 34, 3) := by decide +kernel
theorem dX4_become_117 : decode cX4_become 117 = .ok (.bipush 8, 2) := by decide +kernel
theorem dX4_become_119 : decode cX4_become 119 = .ok (.invokevirtual 68, 3) := by decide +kernel
theorem dX4_become_122 : decode cX4_become 122 = .ok (.aload_n 0, 1) := by decide +kernel
theorem dX4_become_123 : decode cX4_become 123 = .ok (.aload_n 1, 1) := by decide +kernel
theorem dX4_become_124 : decode cX4_become 124 = .ok (.getfield 37, 3) := by decide +kernel
theorem dX4_become_127 : decode cX4_become 127 = .ok (.aload_n 0, 1) := by decide +kernel
theorem dX4_become_128 : decode cX4_become 128 = .ok (.getfield 37, 3) := by decide +kernel
theorem dX4_become_131 : decode cX4_become 131 = .ok (.aload_n 0, 1) := by decide +kernel
theorem dX4_become_132 : decode cX4_become 132 = .ok (.getfield 65, 3) := by decide +kernel
theorem dX4_become_135 : decode cX4_become 135 = .ok (.invokevirtual 68, 3) := by decide +kernel
theorem dX4_become_138 : decode cX4_become 138 = .ok (.aload_n 0, 1) := by decide +kernel
theorem dX4_become_139 : decode cX4_become 139 = .ok (.aload_n 1, 1) := by decide +kernel
theorem dX4_become_140 : decode cX4_become 140 = .ok (.getfield 40, 3) := by decide +kernel
theorem dX4_become_143 : decode cX4_become 143 = .ok (.aload_n 0, 1) := by decide +kernel
theorem dX4_become_144 : decode cX4_become 144 = .ok (.getfield 40, 3) := by decide +kernel
theorem dX4_become_147 : decode cX4_become 147 = .ok (.aload_n 0, 1) := by decide +kernel
theorem dX4_become_148 : decode cX4_become 148 = .ok (.getfield 65, 3) := by decide +kernel
theorem dX4_become_151 : decode cX4_become 151 = .ok (.invokevirtual 68, 3) := by decide +kernel
theorem dX4_become_154 : decode cX4_become 154 = .ok (.aload_n 0, 1) := by decide +kernel
theorem dX4_become_155 : decode cX4_become 155 = .ok (.aload_n 1, 1) := by decide +kernel
theorem dX4_become_156 : decode cX4_become 156 = .ok (.getfield 43, 3) := by decide +kernel
theorem dX4_become_159 : decode cX4_become 159 = .ok (.aload_n 0, 1) := by decide +kernel
theorem dX4_become_160 : decode cX4_become 160 = .ok (.getfield 43, 3) := by decide +kernel
theorem dX4_become_163 : decode cX4_become 163 = .ok (.aload_n 0, 1) := by decide +kernel
theorem dX4_become_164 : decode cX4_become 164 = .ok (.getfield 65, 3) := by decide +kernel
theorem dX4_become_167 : decode cX4_become 167 = .ok (.invokevirtual 68, 3) := by decide +kernel
theorem dX4_become_170 : decode cX4_become 170 = .ok (.aload_n 0, 1) := by decide +kernel
theorem dX4_become_171 : decode cX4_become 171 = .ok (.aload_n 1, 1) := by decide +kernel
theorem dX4_become_172 : decode cX4_become 172 = .ok (.getfield 46, 3) := by decide +kernel
theorem dX4_become_175 : decode cX4_become 175 = .ok (.aload_n 0, 1) := by decide +kernel
theorem dX4_become_176 : decode cX4_become 176 = .ok (.getfield 46, 3) := by decide +kernel
theorem dX4_become_179 : decode cX4_become 179 = .ok (.aload_n 0, 1) := by decide +kernel
theorem dX4_become_180 : decode cX4_become 180 = .ok (.getfield 65, 3) := by decide +kernel
theorem dX4_become_183 : decode cX4_become 183 = .ok (.invokevirtual 68, 3) := by decide +kernel
theorem dX4_become_186 : decode cX4_become 186 = .ok (.aload_n 0, 1) := by decide +kernel
theorem dX4_become_187 : decode cX4_become 187 = .ok (.aload_n 1, 1) := by decide +kernel
theorem dX4_become_188 : decode cX4_become 188 = .ok (.getfield 49, 3) := by decide +kernel
theorem dX4_become_191 : decode cX4_become 191 = .ok (.aload_n 0, 1) := by decide +kernel
theorem dX4_become_192 : decode cX4_become 192 = .ok (.getfield 49, 3) := by decide +kernel
theorem dX4_become_195 : decode cX4_become 195 = .ok (.aload_n 0, 1) := by decide +kernel
theorem dX4_become_196 : decode cX4_become 196 = .ok (.getfield 65, 3) := by decide +kernel
theorem dX4_become_199 : decode cX4_become 199 = .ok (.invokevirtual 68, 3) := by decide +kernel
theorem dX4_become_202 : decode cX4_become 202 = .ok (.return_, 1) := by decide +kernel
theorem dX4_isAwake_0 : decode cX4_isAwake 0 = .ok (.aload_n 0, 1) := by decide +kernel
theorem dX4_isAwake_1 : decode cX4_isAwake 1 = .ok (.getfield 58, 3) := by decide +kernel
theorem dX4_isAwake_4 : decode cX4_isAwake 4 = .ok (.bipush 24, 2) := by decide +kernel
theorem dX4_isAwake_6 : decode cX4_isAwake 6 = .ok (.irem, 1) := by decide +kernel
theorem dX4_isAwake_7 : decode cX4_isAwake 7 = .ok (.bipush 24, 2) := by decide +kernel
theorem dX4_isAwake_9 : decode cX4_isAwake 9 = .ok (.iadd, 1) := by decide +kernel
theorem dX4_isAwake_10 : decode cX4_isAwake 10 = .ok (.aload_n 0, 1) := by decide +kernel
theorem dX4_isAwake_11 : decode cX4_isAwake 11 = .ok (.getfield 3, 3) := by decide +kernel
theorem dX4_isAwake_14 : decode cX4_isAwake 14 = .ok (.getfield 72, 3) := by decide +kernel
theorem dX4_isAwake_17 : decode cX4_isAwake 17 = .ok (.iload_n 1, 1) := by decide +kernel
theorem dX4_isAwake_18 : decode cX4_isAwake 18 = .ok (.iaload, 1) := by decide +kernel
theorem dX4_isAwake_19 : decode cX4_isAwake 19 = .ok (.isub, 1) := by decide +kernel
theorem dX4_isAwake_20 : decode cX4_isAwake 20 = .ok (.bipush 24, 2) := by decide +kernel
theorem dX4_isAwake_22 : decode cX4_isAwake 22 = .ok (.irem, 1) := by decide +kernel
theorem dX4_isAwake_23 : decode cX4_isAwake 23 = .ok (.aload_n 0, 1) := by decide +kernel
theorem dX4_isAwake_24 : decode cX4_isAwake 24 = .ok (.getfield 3, 3) := by decide +kernel
theorem dX4_isAwake_27 : decode cX4_isAwake 27 = .ok (.getfield 75, 3) := by decide +kernel
theorem dX4_isAwake_30 : decode cX4_isAwake 30 = .ok (.iload_n 1, 1) := by decide +kernel
theorem dX4_isAwake_31 : decode cX4_isAwake 31 = .ok (.iaload, 1) := by decide +kernel
theorem dX4_isAwake_32 : decode cX4_isAwake 32 = .ok (.if_icmp .ge 7, 3) := by decide +kernel
theorem dX4_isAwake_35 : decode cX4_isAwake 35 = .ok (.iconst 1, 1) := by decide +kernel
theorem dX4_isAwake_36 : decode cX4_isAwake 36 = .ok (.goto 4, 3) := by decide +kernel
theorem dX4_isAwake_39 : decode cX4_isAwake 39 = .ok (.iconst 0, 1) := by decide +kernel
theorem dX4_isAwake_40 : decode cX4_isAwake 40 = .ok (.ireturn, 1) := by decide +kernel
set_option maxRecDepth 20000 in
theorem ggX4_hears_X5_far : GoodIn wsX4_hears wsX5_far := goodIn_r _ [6, 7, 8, 9, 10, 11, 12, 29, 30, 31, 32, 33, 34, 35, 36, 37, 38, 39, 40] (by decide +kernel) (by decide +kernel)
set_option maxRecDepth 20000 in
theorem gX4_hears_X5_far_n78 : GoodIn wsX4_hears (wsX5_far) := ggX4_hears_X5_far
theorem dX4_hears_0 : decode cX4_hears 0 = .ok (.aload_n 0, 1) := by decide +kernel
theorem dX4_hears_1 : decode cX4_hears 1 = .ok (.getfield 3, 3) := by decide +kernel
theorem dX4_hears_4 : decode cX4_hears 4 = .ok (.iload_n 1, 1) := by decide +kernel
theorem dX4_hears_5 : decode cX4_hears 5 = .ok (.iload_n 2, 1) := by decide +kernel
theorem dX4_hears_6 : decode cX4_hears 6 = .ok (.invokevirtual 78, 3) := by decide +kernel
theorem dX4_hears_9 : decode cX4_hears 9 = .ok (.iconst 3, 1) := by decide +kernel
theorem dX4_hears_10 : decode cX4_hears 10 = .ok (.aload_n 0, 1) := by decide +kernel
theorem dX4_hears_11 : decode cX4_hears 11 = .ok (.getfield 15, 3) := by decide +kernel
theorem dX4_hears_14 : decode cX4_hears 14 = .ok (.iload_n 1, 1) := by decide +kernel
theorem dX4_hears_15 : decode cX4_hears 15 = .ok (.iaload, 1) := by decide +kernel
theorem dX4_hears_16 : decode cX4_hears 16 = .ok (.imul, 1) := by decide +kernel
theorem dX4_hears_17 : decode cX4_hears 17 = .ok (.if_icmp .gt 7, 3) := by decide +kernel
theorem dX4_hears_20 : decode cX4_hears 20 = .ok (.iconst 1, 1) := by decide +kernel
theorem dX4_hears_21 : decode cX4_hears 21 = .ok (.goto 4, 3) := by decide +kernel
theorem dX4_hears_24 : decode cX4_hears 24 = .ok (.iconst 0, 1) := by decide +kernel
theorem dX4_hears_25 : decode cX4_hears 25 = .ok (.ireturn, 1) := by decide +kernel
theorem dX4_sound_0 : decode cX4_sound 0 = .ok (.aload_n 0, 1) := by decide +kernel
theorem dX4_sound_1 : decode cX4_sound 1 = .ok (.getfield 37, 3) := by decide +kernel
theorem dX4_sound_4 : decode cX4_sound 4 = .ok (.aload_n 0, 1) := by decide +kernel
theorem dX4_sound_5 : decode cX4_sound 5 = .ok (.getfield 65, 3) := by decide +kernel
theorem dX4_sound_8 : decode cX4_sound 8 = .ok (.iload_n 1, 1) := by decide +kernel
theorem dX4_sound_9 : decode cX4_sound 9 = .ok (.iastore, 1) := by decide +kernel
theorem dX4_sound_10 : decode cX4_sound 10 = .ok (.aload_n 0, 1) := by decide +kernel
theorem dX4_sound_11 : decode cX4_sound 11 = .ok (.getfield 40, 3) := by decide +kernel
theorem dX4_sound_14 : decode cX4_sound 14 = .ok (.aload_n 0, 1) := by decide +kernel
theorem dX4_sound_15 : decode cX4_sound 15 = .ok (.getfield 65, 3) := by decide +kernel
theorem dX4_sound_18 : decode cX4_sound 18 = .ok (.iload_n 2, 1) := by decide +kernel
theorem dX4_sound_19 : decode cX4_sound 19 = .ok (.iastore, 1) := by decide +kernel
theorem dX4_sound_20 : decode cX4_sound 20 = .ok (.aload_n 0, 1) := by decide +kernel
theorem dX4_sound_21 : decode cX4_sound 21 = .ok (.getfield 43, 3) := by decide +kernel
theorem dX4_sound_24 : decode cX4_sound 24 = .ok (.aload_n 0, 1) := by decide +kernel
theorem dX4_sound_25 : decode cX4_sound 25 = .ok (.getfield 65, 3) := by decide +kernel
theorem dX4_sound_28 : decode cX4_sound 28 = .ok (.iload_n 3, 1) := by decide +kernel
theorem dX4_sound_29 : decode cX4_sound 29 = .ok (.iastore, 1) := by decide +kernel
theorem dX4_sound_30 : decode cX4_sound 30 = .ok (.aload_n 0, 1) := by decide +kernel
theorem dX4_sound_31 : decode cX4_sound 31 = .ok (.getfield 46, 3) := by decide +kernel
theorem dX4_sound_34 : decode cX4_sound 34 = .ok (.aload_n 0, 1) := by decide +kernel
theorem dX4_sound_35 : decode cX4_sound 35 = .ok (.getfield 65, 3) := by decide +kernel
theorem dX4_sound_38 : decode cX4_sound 38 = .ok (.iload_n 3, 1) := by decide +kernel
theorem dX4_sound_39 : decode cX4_sound 39 = .ok (.aload_n 0, 1) := by decide +kernel
theorem dX4_sound_40 : decode cX4_sound 40 = .ok (.getfield 3, 3) := by decide +kernel
theorem dX4_sound_43 : decode cX4_sound 43 = .ok (.getfield 82, 3) := by decide +kernel
theorem dX4_sound_46 : decode cX4_sound 46 = .ok (.iload_n 2, 1) := by decide +kernel
theorem dX4_sound_47 : decode cX4_sound 47 = .ok (.iaload, 1) := by decide +kernel
theorem dX4_sound_48 : decode cX4_sound 48 = .ok (.iadd, 1) := by decide +kernel
theorem dX4_sound_49 : decode cX4_sound 49 = .ok (.iconst 1, 1) := by decide +kernel
theorem dX4_sound_50 : decode cX4_sound 50 = .ok (.isub, 1) := by decide +kernel
theorem dX4_sound_51 : decode cX4_sound 51 = .ok (.iastore, 1) := by decide +kernel
theorem dX4_sound_52 : decode cX4_sound 52 = .ok (.aload_n 0, 1) := by decide +kernel
theorem dX4_sound_53 : decode cX4_sound 53 = .ok (.getfield 49, 3) := by decide +kernel
theorem dX4_sound_56 : decode cX4_sound 56 = .ok (.aload_n 0, 1) := by decide +kernel
theorem dX4_sound_57 : decode cX4_sound 57 = .ok (.getfield 65, 3) := by decide +kernel
theorem dX4_sound_60 : decode cX4_sound 60 = .ok (.iconst 0, 1) := by decide +kernel
theorem dX4_sound_61 : decode cX4_sound 61 = .ok (.iastore, 1) := by decide +kernel
theorem dX4_sound_62 : decode cX4_sound 62 = .ok (.aload_n 0, 1) := by decide +kernel
theorem dX4_sound_63 : decode cX4_sound 63 = .ok (.dup, 1) := by decide +kernel
theorem dX4_sound_64 : decode cX4_sound 64 = .ok (.getfield 65, 3) := by decide +kernel
theorem dX4_sound_67 : decode cX4_sound 67 = .ok (.iconst 1, 1) := by decide +kernel
theorem dX4_sound_68 : decode cX4_sound 68 = .ok (.iadd, 1) := by decide +kernel
theorem dX4_sound_69 : decode cX4_sound 69 = .ok (.putfield 65, 3) := by decide +kernel
theorem dX4_sound_72 : decode cX4_sound 72 = .ok (.return_, 1) := by decide +kernel
set_option maxRecDepth 20000 in
theorem ggX4_begin_X4_isAwake : GoodIn wsX4_begin wsX4_isAwake := goodIn_r _ [16, 11, 9, 42, 43, 44, 45, 46, 47, 48, 49, 50, 51, 52, 53, 54, 55, 56, 57, 58, 59, 60, 61, 62, 63, 64, 65, 66, 67, 68, 69] (by decide +kernel) (by decide +kernel)
set_option maxRecDepth 20000 in
theorem gX4_begin_X4_isAwake : GoodIn wsX4_begin (wsV RX4 85 RX4 yX4_isAwake wsX4_isAwake) := goodIn_app (goodIn_of _ (by decide +kernel)) ggX4_begin_X4_isAwake
set_option maxRecDepth 20000 in
theorem ggX4_begin_X4_hears : GoodIn wsX4_begin wsX4_hears := goodIn_r _ [20, 9, 21, 22, 23, 24, 25, 26, 27, 28, 29, 30, 31, 42, 43, 44, 45, 46, 47, 48, 49, 50, 51, 52, 53, 54, 55, 56, 57, 58, 59, 60, 61, 62, 63, 64, 65, 66, 67, 68, 69] (by decide +kernel) (by decide +kernel)
set_option maxRecDepth 20000 in
theorem gX4_begin_X4_hears : GoodIn wsX4_begin (wsV RX4 92 RX4 yX4_hears wsX4_hears) := goodIn_app (goodIn_of _ (by decide +kernel)) ggX4_begin_X4_hears
set_option maxRecDepth 20000 in
theorem ggX4_begin_X5_far : GoodIn wsX4_begin wsX5_far := goodIn_r _ [25, 26, 27, 28, 29, 30, 31, 58, 59, 60, 61, 62, 63, 64, 65, 66, 67, 68, 69] (by decide +kernel) (by decide +kernel)
set_option maxRecDepth 20000 in
theorem gX4_begin_X5_far_n78 : GoodIn wsX4_begin (wsX5_far) := ggX4_begin_X5_far
set_option maxRecDepth 20000 in
theorem ggX4_begin_X4_sound : GoodIn wsX4_begin wsX4_sound := goodIn_r _ [35, 36, 37, 38, 39, 40, 9, 41, 42, 43, 44, 45, 46, 47, 48, 49, 50, 51, 52, 53, 54, 55, 56, 57, 58, 59, 60, 61, 62, 63, 64, 65, 66, 67, 68, 69] (by decide +kernel) (by decide +kernel)
set_option maxRecDepth 20000 in
theorem gX4_begin_X4_sound : GoodIn wsX4_begin (wsV RX4 96 RX4 yX4_sound wsX4_sound) := goodIn_app (goodIn_of _ (by decide +kernel)) ggX4_begin_X4_sound
theorem dX4_begin_0 : decode cX4_begin 0 = .ok (.aload_n 0, 1) := by decide +kernel
theorem dX4_begin_1 : decode cX4_begin 1 = .ok (.getfield 19, 3) := by decide +kernel
theorem dX4_begin_4 : decode cX4_begin 4 = .ok (.iload_n 1, 1) := by decide +kernel
theorem dX4_begin_5 : decode cX4_begin 5 = .ok (.iaload, 1) := by decide +kernel
theorem dX4_begin_6 : decode cX4_begin 6 = .ok (.iconst (-1), 1) := by decide +kernel
theorem dX4_begin_7 : decode cX4_begin 7 = .ok (.if_icmp .ne 20, 3) := by decide +kernel
theorem dX4_begin_10 : decode cX4_begin 10 = .ok (.aload_n 0, 1) := by decide +kernel
theorem dX4_begin_11 : decode cX4_begin 11 = .ok (.iload_n 1, 1) := by decide +kernel
theorem dX4_begin_12 : decode cX4_begin 12 = .ok (.invokevirtual 85, 3) := by decide +kernel
theorem dX4_begin_15 : decode cX4_begin 15 = .ok (.ifCond .eq 12, 3) := by decide +kernel
theorem dX4_begin_18 : decode cX4_begin 18 = .ok (.aload_n 0, 1) := by decide +kernel
theorem dX4_begin_19 : decode cX4_begin 19 = .ok (.getfield 25, 3) := by decide +kernel
theorem dX4_begin_22 : decode cX4_begin 22 = .ok (.iload_n 1, 1) := by decide +kernel
theorem dX4_begin_23 : decode cX4_begin 23 = .ok (.iaload, 1) := by decide +kernel
theorem dX4_begin_24 : decode cX4_begin 24 = .ok (.ifCond .ne 4, 3) := by decide +kernel
theorem dX4_begin_27 : decode cX4_begin 27 = .ok (.return_, 1) := by decide +kernel
theorem dX4_begin_28 : decode cX4_begin 28 = .ok (.aload_n 0, 1) := by decide +kernel
theorem dX4_begin_29 : decode cX4_begin 29 = .ok (.getfield 28, 3) := by decide +kernel
theorem dX4_begin_32 : decode cX4_begin 32 = .ok (.iconst 5, 1) := by decide +kernel
theorem dX4_begin_33 : decode cX4_begin 33 = .ok (.iload_n 1, 1) := by decide +kernel
theorem dX4_begin_34 : decode cX4_begin 34 = .ok (.imul, 1) := by decide +kernel
theorem dX4_begin_35 : decode cX4_begin 35 = .ok (.iaload, 1) := by decide +kernel
theorem dX4_begin_36 : decode cX4_begin 36 = .ok (.istore_n 2, 1) := by decide +kernel
theorem dX4_begin_37 : decode cX4_begin 37 = .ok (.aload_n 0, 1) := by decide +kernel
theorem dX4_begin_38 : decode cX4_begin 38 = .ok (.getfield 25, 3) := by decide +kernel
theorem dX4_begin_41 : decode cX4_begin 41 = .ok (.iload_n 1, 1) := by decide +kernel
theorem dX4_begin_42 : decode cX4_begin 42 = .ok (.dup2, 1) := by decide +kernel
theorem dX4_begin_43 : decode cX4_begin 43 = .ok (.iaload, 1) := by decide +kernel
theorem dX4_begin_44 : decode cX4_begin 44 = .ok (.iconst 1, 1) := by decide +kernel
theorem dX4_begin_45 : decode cX4_begin 45 = .ok (.isub, 1) := by decide +kernel
theorem dX4_begin_46 : decode cX4_begin 46 = .ok (.iastore, 1) := by decide +kernel
theorem dX4_begin_47 : decode cX4_begin 47 = .ok (.aload_n 0, 1) := by decide +kernel
theorem dX4_begin_48 : decode cX4_begin 48 = .ok (.getfield 28, 3) := by decide +kernel
theorem dX4_begin_51 : decode cX4_begin 51 = .ok (.iconst 5, 1) := by decide +kernel
theorem dX4_begin_52 : decode cX4_begin 52 = .ok (.iload_n 1, 1) := by decide +kernel
theorem dX4_begin_53 : decode cX4_begin 53 = .ok (.imul, 1) := by decide +kernel
theorem dX4_begin_54 : decode cX4_begin 54 = .ok (.iconst 1, 1) := by decide +kernel
theorem dX4_begin_55 : decode cX4_begin 55 = .ok (.iadd, 1) := by decide +kernel
theorem dX4_begin_56 : decode cX4_begin 56 = .ok (.aload_n 0, 1) := by decide +kernel
theorem dX4_begin_57 : decode cX4_begin 57 = .ok (.getfield 28, 3) := by decide +kernel
theorem dX4_begin_60 : decode cX4_begin 60 = .ok (.iconst 5, 1) := by decide +kernel
theorem dX4_begin_61 : decode cX4_begin 61 = .ok (.iload_n 1, 1) := by decide +kernel
theorem dX4_begin_62 : decode cX4_begin 62 = .ok (.imul, 1) := by decide +kernel
theorem dX4_begin_63 : decode cX4_begin 63 = .ok (.aload_n 0, 1) := by decide +kernel
theorem dX4_begin_64 : decode cX4_begin 64 = .ok (.getfield 25, 3) := by decide +kernel
theorem dX4_begin_67 : decode cX4_begin 67 = .ok (.iload_n 1, 1) := by decide +kernel
theorem dX4_begin_68 : decode cX4_begin 68 = .ok (.iaload, 1) := by decide +kernel
theorem dX4_begin_69 : decode cX4_begin 69 = .ok (.invokestatic 52, 3) := by decide +kernel
theorem dX4_begin_72 : decode cX4_begin 72 = .ok (.aload_n 0, 1) := by decide +kernel
theorem dX4_begin_73 : decode cX4_begin 73 = .ok (.getfield 19, 3) := by decide +kernel
theorem dX4_begin_76 : decode cX4_begin 76 = .ok (.iload_n 1, 1) := by decide +kernel
theorem dX4_begin_77 : decode cX4_begin 77 = .ok (.iload_n 2, 1) := by decide +kernel
theorem dX4_begin_78 : decode cX4_begin 78 = .ok (.iastore, 1) := by decide +kernel
theorem dX4_begin_79 : decode cX4_begin 79 = .ok (.aload_n 0, 1) := by decide +kernel
theorem dX4_begin_80 : decode cX4_begin 80 = .ok (.getfield 22, 3) := by decide +kernel
theorem dX4_begin_83 : decode cX4_begin 83 = .ok (.iload_n 1, 1) := by decide +kernel
theorem dX4_begin_84 : decode cX4_begin 84 = .ok (.aload_n 0, 1) := by decide +kernel
theorem dX4_begin_85 : decode cX4_begin 85 = .ok (.getfield 3, 3) := by decide +kernel
theorem dX4_begin_88 : decode cX4_begin 88 = .ok (.getfield 82, 3) := by decide +kernel
theorem dX4_begin_91 : decode cX4_begin 91 = .ok (.iload_n 2, 1) := by decide +kernel
theorem dX4_begin_92 : decode cX4_begin 92 = .ok (.iaload, 1) := by decide +kernel
theorem dX4_begin_93 : decode cX4_begin 93 = .ok (.iastore, 1) := by decide +kernel
theorem dX4_begin_94 : decode cX4_begin 94 = .ok (.aload_n 0, 1) := by decide +kernel
theorem dX4_begin_95 : decode cX4_begin 95 = .ok (.dup, 1) := by decide +kernel
theorem dX4_begin_96 : decode cX4_begin 96 = .ok (.getfield 62, 3) := by decide +kernel
theorem dX4_begin_99 : decode cX4_begin 99 = .ok (.iconst 1, 1) := by decide +kernel
theorem dX4_begin_100 : decode cX4_begin 100 = .ok (.iadd, 1) := by decide +kernel
theorem dX4_begin_101 : decode cX4_begin 101 = .ok (.putfield 62, 3) := by decide +kernel
theorem dX4_begin_104 : decode cX4_begin 104 = .ok (.iconst 0, 1) := by decide +kernel
theorem dX4_begin_105 : decode cX4_begin 105 = .ok (.istore_n 3, 1) := by decide +kernel
theorem dX4_begin_106 : decode cX4_begin 106 = .ok (.iload_n 3, 1) := by decide +kernel
theorem dX4_begin_107 : decode cX4_begin 107 = .ok (.aload_n 0, 1) := by decide +kernel
theorem dX4_begin_108 : decode cX4_begin 108 = .ok (.getfield 3, 3) := by decide +kernel
theorem dX4_begin_111 : decode cX4_begin 111 = .ok (.getfield 89, 3) := by decide +kernel
theorem dX4_begin_114 : decode cX4_begin 114 = .ok (.if_icmp .ge 77, 3) := by decide +kernel
theorem dX4_begin_117 : decode cX4_begin 117 = .ok (.iload_n 3, 1) := by decide +kernel
theorem dX4_begin_118 : decode cX4_begin 118 = .ok (.iload_n 1, 1) := by decide +kernel
theorem dX4_begin_119 : decode cX4_begin 119 = .ok (.if_icmp .eq 66, 3) := by decide +kernel
theorem dX4_begin_122 : decode cX4_begin 122 = .ok (.aload_n 0, 1) := by decide +kernel
theorem dX4_begin_123 : decode cX4_begin 123 = .ok (.iload_n 1, 1) := by decide +kernel
theorem dX4_begin_124 : decode cX4_begin 124 = .ok (.iload_n 3, 1) := by decide +kernel
theorem dX4_begin_125 : decode cX4_begin 125 = .ok (.invokevirtual 92, 3) := by decide +kernel
theorem dX4_begin_128 : decode cX4_begin 128 = .ok (.ifCond .ne 6, 3) := by decide +kernel
theorem dX4_begin_131 : decode cX4_begin 131 = .ok (.goto 54, 3) := by decide +kernel
theorem dX4_begin_134 : decode cX4_begin 134 = .ok (.aload_n 0, 1) := by decide +kernel
theorem dX4_begin_135 : decode cX4_begin 135 = .ok (.getfield 58, 3) := by decide +kernel
theorem dX4_begin_138 : decode cX4_begin 138 = .ok (.aload_n 0, 1) := by decide +kernel
theorem dX4_begin_139 : decode cX4_begin 139 = .ok (.getfield 3, 3) := by decide +kernel
theorem dX4_begin_142 : decode cX4_begin 142 = .ok (.iload_n 1, 1) := by decide +kernel
theorem dX4_begin_143 : decode cX4_begin 143 = .ok (.iload_n 3, 1) := by decide +kernel
theorem dX4_begin_144 : decode cX4_begin 144 = .ok (.invokevirtual 78, 3) := by decide +kernel
theorem dX4_begin_147 : decode cX4_begin 147 = .ok (.iconst 3, 1) := by decide +kernel
theorem dX4_begin_148 : decode cX4_begin 148 = .ok (.idiv, 1) := by decide +kernel
theorem dX4_begin_149 : decode cX4_begin 149 = .ok (.iadd, 1) := by decide +kernel
theorem dX4_begin_150 : decode cX4_begin 150 = .ok (.iconst 1, 1) := by decide +kernel
theorem dX4_begin_151 : decode cX4_begin 151 = .ok (.iadd, 1) := by decide +kernel
theorem dX4_begin_152 : decode cX4_begin 152 = .ok (.istore 4, 2) := by decide +kernel
theorem dX4_begin_154 : decode cX4_begin 154 = .ok (.aload_n 0, 1) := by decide +kernel
theorem dX4_begin_155 : decode cX4_begin 155 = .ok (.iload_n 3, 1) := by decide +kernel
theorem dX4_begin_156 : decode cX4_begin 156 = .ok (.iload_n 2, 1) := by decide +kernel
theorem dX4_begin_157 : decode cX4_begin 157 = .ok (.iload 4, 2) := by decide +kernel
theorem dX4_begin_159 : decode cX4_begin 159 = .ok (.invokevirtual 96, 3) := by decide +kernel
theorem dX4_begin_162 : decode cX4_begin 162 = .ok (.aload_n 0, 1) := by decide +kernel
theorem dX4_begin_163 : decode cX4_begin 163 = .ok (.getfield 3, 3) := by decide +kernel
theorem dX4_begin_166 : decode cX4_begin 166 = .ok (.getfield 100, 3) := by decide +kernel
theorem dX4_begin_169 : decode cX4_begin 169 = .ok (.iload_n 1, 1) := by decide +kernel
theorem dX4_begin_170 : decode cX4_begin 170 = .ok (.iaload, 1) := by decide +kernel
theorem dX4_begin_171 : decode cX4_begin 171 = .ok (.iconst 1, 1) := by decide +kernel
theorem dX4_begin_172 : decode cX4_begin 172 = .ok (.if_icmp .ne 13, 3) := by decide +kernel
theorem dX4_begin_175 : decode cX4_begin 175 = .ok (.aload_n 0, 1) := by decide +kernel
theorem dX4_begin_176 : decode cX4_begin 176 = .ok (.iload_n 3, 1) := by decide +kernel
theorem dX4_begin_177 : decode cX4_begin 177 = .ok (.iload_n 2, 1) := by decide +kernel
theorem dX4_begin_178 : decode cX4_begin 178 = .ok (.iload 4, 2) := by decide +kernel
theorem dX4_begin_180 : decode cX4_begin 180 = .ok (.iconst 4, 1) := by decide +kernel
theorem dX4_begin_181 : decode cX4_begin 181 = .ok (.iadd, 1) := by decide +kernel
theorem dX4_begin_182 : decode cX4_begin 182 = .ok (.invokevirtual 96, 3) := by decide +kernel
theorem dX4_begin_185 : decode cX4_begin 185 = .ok (.iinc 3 1, 3) := by decide +kernel
theorem dX4_begin_188 : decode cX4_begin 188 = .ok (.goto (-82), 3) := by decide +kernel
theorem dX4_begin_191 : decode cX4_begin 191 = .ok (.return_, 1) := by decide +kernel
theorem dX4_lasting_0 : decode cX4_lasting 0 = .ok (.iconst 0, 1) := by decide +kernel
theorem dX4_lasting_1 : decode cX4_lasting 1 = .ok (.istore_n 2, 1) := by decide +kernel
theorem dX4_lasting_2 : decode cX4_lasting 2 = .ok (.iconst 0, 1) := by decide +kernel
theorem dX4_lasting_3 : decode cX4_lasting 3 = .ok (.istore_n 3, 1) := by decide +kernel
theorem dX4_lasting_4 : decode cX4_lasting 4 = .ok (.iload_n 3, 1) := by decide +kernel
theorem dX4_lasting_5 : decode cX4_lasting 5 = .ok (.aload_n 0, 1) := by decide +kernel
theorem dX4_lasting_6 : decode cX4_lasting 6 = .ok (.getfield 65, 3) := by decide +kernel
theorem dX4_lasting_9 : decode cX4_lasting 9 = .ok (.if_icmp .ge 53, 3) := by decide +kernel
theorem dX4_lasting_12 : decode cX4_lasting 12 = .ok (.iload_n 2, 1) := by decide +kernel
theorem dX4_lasting_13 : decode cX4_lasting 13 = .ok (.aload_n 0, 1) := by decide +kernel
theorem dX4_lasting_14 : decode cX4_lasting 14 = .ok (.getfield 37, 3) := by decide +kernel
theorem dX4_lasting_17 : decode cX4_lasting 17 = .ok (.iload_n 3, 1) := by decide +kernel
theorem dX4_lasting_18 : decode cX4_lasting 18 = .ok (.iaload, 1) := by decide +kernel
theorem dX4_lasting_19 : decode cX4_lasting 19 = .ok (.iload_n 1, 1) := by decide +kernel
theorem dX4_lasting_20 : decode cX4_lasting 20 = .ok (.if_icmp .ne 33, 3) := by decide +kernel
theorem dX4_lasting_23 : decode cX4_lasting 23 = .ok (.aload_n 0, 1) := by decide +kernel
theorem dX4_lasting_24 : decode cX4_lasting 24 = .ok (.getfield 43, 3) := by decide +kernel
theorem dX4_lasting_27 : decode cX4_lasting 27 = .ok (.iload_n 3, 1) := by decide +kernel
theorem dX4_lasting_28 : decode cX4_lasting 28 = .ok (.iaload, 1) := by decide +kernel
theorem dX4_lasting_29 : decode cX4_lasting 29 = .ok (.aload_n 0, 1) := by decide +kernel
theorem dX4_lasting_30 : decode cX4_lasting 30 = .ok (.getfield 58, 3) := by decide +kernel
theorem dX4_lasting_33 : decode cX4_lasting 33 = .ok (.if_icmp .gt 20, 3) := by decide +kernel
theorem dX4_lasting_36 : decode cX4_lasting 36 = .ok (.aload_n 0, 1) := by decide +kernel
theorem dX4_lasting_37 : decode cX4_lasting 37 = .ok (.getfield 46, 3) := by decide +kernel
theorem dX4_lasting_40 : decode cX4_lasting 40 = .ok (.iload_n 3, 1) := by decide +kernel
theorem dX4_lasting_41 : decode cX4_lasting 41 = .ok (.iaload, 1) := by decide +kernel
theorem dX4_lasting_42 : decode cX4_lasting 42 = .ok (.aload_n 0, 1) := by decide +kernel
theorem dX4_lasting_43 : decode cX4_lasting 43 = .ok (.getfield 58, 3) := by decide +kernel
theorem dX4_lasting_46 : decode cX4_lasting 46 = .ok (.if_icmp .lt 7, 3) := by decide +kernel
theorem dX4_lasting_49 : decode cX4_lasting 49 = .ok (.iconst 1, 1) := by decide +kernel
theorem dX4_lasting_50 : decode cX4_lasting 50 = .ok (.goto 4, 3) := by decide +kernel
theorem dX4_lasting_53 : decode cX4_lasting 53 = .ok (.iconst 0, 1) := by decide +kernel
theorem dX4_lasting_54 : decode cX4_lasting 54 = .ok (.iadd, 1) := by decide +kernel
theorem dX4_lasting_55 : decode cX4_lasting 55 = .ok (.istore_n 2, 1) := by decide +kernel
theorem dX4_lasting_56 : decode cX4_lasting 56 = .ok (.iinc 3 1, 3) := by decide +kernel
theorem dX4_lasting_59 : decode cX4_lasting 59 = .ok (.goto (-55), 3) := by decide +kernel
theorem dX4_lasting_62 : decode cX4_lasting 62 = .ok (.iload_n 2, 1) := by decide +kernel
theorem dX4_lasting_63 : decode cX4_lasting 63 = .ok (.ireturn, 1) := by decide +kernel
theorem dX4_learns_0 : decode cX4_learns 0 = .ok (.aload_n 0, 1) := by decide +kernel
theorem dX4_learns_1 : decode cX4_learns 1 = .ok (.getfield 31, 3) := by decide +kernel
theorem dX4_learns_4 : decode cX4_learns 4 = .ok (.bipush 12, 2) := by decide +kernel
theorem dX4_learns_6 : decode cX4_learns 6 = .ok (.iload_n 1, 1) := by decide +kernel
theorem dX4_learns_7 : decode cX4_learns 7 = .ok (.imul, 1) := by decide +kernel
theorem dX4_learns_8 : decode cX4_learns 8 = .ok (.iload_n 2, 1) := by decide +kernel
theorem dX4_learns_9 : decode cX4_learns 9 = .ok (.iadd, 1) := by decide +kernel
theorem dX4_learns_10 : decode cX4_learns 10 = .ok (.iaload, 1) := by decide +kernel
theorem dX4_learns_11 : decode cX4_learns 11 = .ok (.iconst (-1), 1) := by decide +kernel
theorem dX4_learns_12 : decode cX4_learns 12 = .ok (.if_icmp .eq 5, 3) := by decide +kernel
theorem dX4_learns_15 : decode cX4_learns 15 = .ok (.iconst 0, 1) := by decide +kernel
theorem dX4_learns_16 : decode cX4_learns 16 = .ok (.ireturn, 1) := by decide +kernel
theorem dX4_learns_17 : decode cX4_learns 17 = .ok (.aload_n 0, 1) := by decide +kernel
theorem dX4_learns_18 : decode cX4_learns 18 = .ok (.getfield 31, 3) := by decide +kernel
theorem dX4_learns_21 : decode cX4_learns 21 = .ok (.bipush 12, 2) := by decide +kernel
theorem dX4_learns_23 : decode cX4_learns 23 = .ok (.iload_n 1, 1) := by decide +kernel
theorem dX4_learns_24 : decode cX4_learns 24 = .ok (.imul, 1) := by decide +kernel
theorem dX4_learns_25 : decode cX4_learns 25 = .ok (.iload_n 2, 1) := by decide +kernel
theorem dX4_learns_26 : decode cX4_learns 26 = .ok (.iadd, 1) := by decide +kernel
theorem dX4_learns_27 : decode cX4_learns 27 = .ok (.aload_n 0, 1) := by decide +kernel
theorem dX4_learns_28 : decode cX4_learns 28 = .ok (.getfield 58, 3) := by decide +kernel
theorem dX4_learns_31 : decode cX4_learns 31 = .ok (.iastore, 1) := by decide +kernel
theorem dX4_learns_32 : decode cX4_learns 32 = .ok (.iconst 1, 1) := by decide +kernel
theorem dX4_learns_33 : decode cX4_learns 33 = .ok (.ireturn, 1) := by decide +kernel
theorem dX4_put_0 : decode cX4_put 0 = .ok (.aload_n 0, 1) := by decide +kernel
theorem dX4_put_1 : decode cX4_put 1 = .ok (.getfield 28, 3) := by decide +kernel
theorem dX4_put_4 : decode cX4_put 4 = .ok (.iconst 5, 1) := by decide +kernel
theorem dX4_put_5 : decode cX4_put 5 = .ok (.iload_n 1, 1) := by decide +kernel
theorem dX4_put_6 : decode cX4_put 6 = .ok (.imul, 1) := by decide +kernel
theorem dX4_put_7 : decode cX4_put 7 = .ok (.aload_n 0, 1) := by decide +kernel
theorem dX4_put_8 : decode cX4_put 8 = .ok (.getfield 25, 3) := by decide +kernel
theorem dX4_put_11 : decode cX4_put 11 = .ok (.iload_n 1, 1) := by decide +kernel
theorem dX4_put_12 : decode cX4_put 12 = .ok (.iaload, 1) := by decide +kernel
theorem dX4_put_13 : decode cX4_put 13 = .ok (.iadd, 1) := by decide +kernel
theorem dX4_put_14 : decode cX4_put 14 = .ok (.iload_n 2, 1) := by decide +kernel
theorem dX4_put_15 : decode cX4_put 15 = .ok (.iastore, 1) := by decide +kernel
theorem dX4_put_16 : decode cX4_put 16 = .ok (.aload_n 0, 1) := by decide +kernel
theorem dX4_put_17 : decode cX4_put 17 = .ok (.getfield 25, 3) := by decide +kernel
theorem dX4_put_20 : decode cX4_put 20 = .ok (.iload_n 1, 1) := by decide +kernel
theorem dX4_put_21 : decode cX4_put 21 = .ok (.dup2, 1) := by decide +kernel
theorem dX4_put_22 : decode cX4_put 22 = .ok (.iaload, 1) := by decide +kernel
theorem dX4_put_23 : decode cX4_put 23 = .ok (.iconst 1, 1) := by decide +kernel
theorem dX4_put_24 : decode cX4_put 24 = .ok (.iadd, 1) := by decide +kernel
theorem dX4_put_25 : decode cX4_put 25 = .ok (.iastore, 1) := by decide +kernel
theorem dX4_put_26 : decode cX4_put 26 = .ok (.return_, 1) := by decide +kernel
set_option maxRecDepth 20000 in
theorem ggX4_pass_X4_begin : GoodIn wsX4_pass wsX4_begin := goodIn_r _ [21, 2, 11, 22, 23, 24, 25, 26, 12, 1, 27, 6, 28, 29, 30, 20, 31, 32, 33, 34, 35, 36, 37, 38, 39, 40, 41, 42, 43, 15, 44, 45, 46, 47, 48, 49, 4, 3, 9, 5, 8, 7, 63, 64, 65, 66, 67, 68, 69, 70, 71, 72, 73, 74, 75, 76, 77, 78, 79, 80, 81, 82, 83, 84, 85, 86, 87, 88, 89, 90] (by decide +kernel) (by decide +kernel)
set_option maxRecDepth 20000 in
theorem gX4_pass_X4_begin : GoodIn wsX4_pass (wsV RX4 103 RX4 yX4_begin wsX4_begin) := goodIn_app (goodIn_of _ (by decide +kernel)) ggX4_pass_X4_begin
set_option maxRecDepth 20000 in
theorem ggX4_pass_X4_isAwake : GoodIn wsX4_pass wsX4_isAwake := goodIn_r _ [31, 6, 1, 63, 64, 65, 66, 67, 68, 69, 70, 71, 72, 73, 74, 75, 76, 77, 78, 79, 80, 81, 82, 83, 84, 85, 86, 87, 88, 89, 90] (by decide +kernel) (by decide +kernel)
set_option maxRecDepth 20000 in
theorem gX4_pass_X4_isAwake : GoodIn wsX4_pass (wsV RX4 85 RX4 yX4_isAwake wsX4_isAwake) := goodIn_app (goodIn_of _ (by decide +kernel)) ggX4_pass_X4_isAwake
set_option maxRecDepth 20000 in
theorem ggX4_pass_X4_lasting : GoodIn wsX4_pass wsX4_lasting := goodIn_r _ [53, 3, 4, 5, 6, 8, 63, 64, 65, 66, 67, 68, 69, 70, 71, 72, 73, 74, 75, 76, 77, 78] (by decide +kernel) (by decide +kernel)
set_option maxRecDepth 20000 in
theorem gX4_pass_X4_lasting : GoodIn wsX4_pass (wsV RX4 107 RX4 yX4_lasting wsX4_lasting) := goodIn_app (goodIn_of _ (by decide +kernel)) ggX4_pass_X4_lasting
set_option maxRecDepth 20000 in
theorem ggX4_pass_X4_learns : GoodIn wsX4_pass wsX4_learns := goodIn_r _ [57, 58, 6, 63, 64, 65, 66, 67, 68, 69, 70, 71, 72, 73, 74, 75, 76, 77, 78] (by decide +kernel) (by decide +kernel)
set_option maxRecDepth 20000 in
theorem gX4_pass_X4_learns : GoodIn wsX4_pass (wsV RX4 111 RX4 yX4_learns wsX4_learns) := goodIn_app (goodIn_of _ (by decide +kernel)) ggX4_pass_X4_learns
set_option maxRecDepth 20000 in
theorem ggX4_pass_X4_put : GoodIn wsX4_pass wsX4_put := goodIn_r _ [62, 22, 11, 63, 64, 65, 66, 67, 68, 69, 70, 71, 72, 73, 74, 75, 76, 77, 78] (by decide +kernel) (by decide +kernel)
set_option maxRecDepth 20000 in
theorem gX4_pass_X4_put : GoodIn wsX4_pass (wsV RX4 114 RX4 yX4_put wsX4_put) := goodIn_app (goodIn_of _ (by decide +kernel)) ggX4_pass_X4_put
theorem dX4_pass_0 : decode cX4_pass 0 = .ok (.iconst 0, 1) := by decide +kernel
theorem dX4_pass_1 : decode cX4_pass 1 = .ok (.istore_n 1, 1) := by decide +kernel
theorem dX4_pass_2 : decode cX4_pass 2 = .ok (.iload_n 1, 1) := by decide +kernel
theorem dX4_pass_3 : decode cX4_pass 3 = .ok (.aload_n 0, 1) := by decide +kernel
theorem dX4_pass_4 : decode cX4_pass 4 = .ok (.getfield 3, 3) := by decide +kernel
theorem dX4_pass_7 : decode cX4_pass 7 = .ok (.getfield 89, 3) := by decide +kernel
theorem dX4_pass_10 : decode cX4_pass 10 = .ok (.if_icmp .ge 14, 3) := by decide +kernel
theorem dX4_pass_13 : decode cX4_pass 13 = .ok (.aload_n 0, 1) := by decide +kernel
theorem dX4_pass_14 : decode cX4_pass 14 = .ok (.iload_n 1, 1) := by decide +kernel
theorem dX4_pass_15 : decode cX4_pass 15 = .ok (.invokevirtual 103, 3) := by decide +kernel
theorem dX4_pass_18 : decode cX4_pass 18 = .ok (.iinc 1 1, 3) := by decide +kernel
theorem dX4_pass_21 : decode cX4_pass 21 = .ok (.goto (-19), 3) := by decide +kernel
theorem dX4_pass_24 : decode cX4_pass 24 = .ok (.iconst 0, 1) := by decide +kernel
theorem dX4_pass_25 : decode cX4_pass 25 = .ok (.istore_n 1, 1) := by decide +kernel
theorem dX4_pass_26 : decode cX4_pass 26 = .ok (.iload_n 1, 1) := by decide +kernel
theorem dX4_pass_27 : decode cX4_pass 27 = .ok (.aload_n 0, 1) := by decide +kernel
theorem dX4_pass_28 : decode cX4_pass 28 = .ok (.getfield 3, 3) := by decide +kernel
theorem dX4_pass_31 : decode cX4_pass 31 = .ok (.getfield 89, 3) := by decide +kernel
theorem dX4_pass_34 : decode cX4_pass 34 = .ok (.if_icmp .ge 85, 3) := by decide +kernel
theorem dX4_pass_37 : decode cX4_pass 37 = .ok (.aload_n 0, 1) := by decide +kernel
theorem dX4_pass_38 : decode cX4_pass 38 = .ok (.iload_n 1, 1) := by decide +kernel
theorem dX4_pass_39 : decode cX4_pass 39 = .ok (.invokevirtual 85, 3) := by decide +kernel
theorem dX4_pass_42 : decode cX4_pass 42 = .ok (.ifCond .eq 25, 3) := by decide +kernel
theorem dX4_pass_45 : decode cX4_pass 45 = .ok (.aload_n 0, 1) := by decide +kernel
theorem dX4_pass_46 : decode cX4_pass 46 = .ok (.getfield 19, 3) := by decide +kernel
theorem dX4_pass_49 : decode cX4_pass 49 = .ok (.iload_n 1, 1) := by decide +kernel
theorem dX4_pass_50 : decode cX4_pass 50 = .ok (.iaload, 1) := by decide +kernel
theorem dX4_pass_51 : decode cX4_pass 51 = .ok (.iconst (-1), 1) := by decide +kernel
theorem dX4_pass_52 : decode cX4_pass 52 = .ok (.if_icmp .ne 15, 3) := by decide +kernel
theorem dX4_pass_55 : decode cX4_pass 55 = .ok (.aload_n 0, 1) := by decide +kernel
theorem dX4_pass_56 : decode cX4_pass 56 = .ok (.iload_n 1, 1) := by decide +kernel
theorem dX4_pass_57 : decode cX4_pass 57 = .ok (.invokevirtual 107, 3) := by decide +kernel
theorem dX4_pass_60 : decode cX4_pass 60 = .ok (.iconst 2, 1) := by decide +kernel
theorem dX4_pass_61 : decode cX4_pass 61 = .ok (.if_icmp .ge 6, 3) := by decide +kernel
theorem dX4_pass_64 : decode cX4_pass 64 = .ok (.goto 49, 3) := by decide +kernel
theorem dX4_pass_67 : decode cX4_pass 67 = .ok (.iconst 0, 1) := by decide +kernel
theorem dX4_pass_68 : decode cX4_pass 68 = .ok (.istore_n 2, 1) := by decide +kernel
theorem dX4_pass_69 : decode cX4_pass 69 = .ok (.iload_n 2, 1) := by decide +kernel
theorem dX4_pass_70 : decode cX4_pass 70 = .ok (.aload_n 0, 1) := by decide +kernel
theorem dX4_pass_71 : decode cX4_pass 71 = .ok (.getfield 65, 3) := by decide +kernel
theorem dX4_pass_74 : decode cX4_pass 74 = .ok (.if_icmp .ge 39, 3) := by decide +kernel
theorem dX4_pass_77 : decode cX4_pass 77 = .ok (.aload_n 0, 1) := by decide +kernel
theorem dX4_pass_78 : decode cX4_pass 78 = .ok (.getfield 37, 3) := by decide +kernel
theorem dX4_pass_81 : decode cX4_pass 81 = .ok (.iload_n 2, 1) := by decide +kernel
theorem dX4_pass_82 : decode cX4_pass 82 = .ok (.iaload, 1) := by decide +kernel
theorem dX4_pass_83 : decode cX4_pass 83 = .ok (.iload_n 1, 1) := by decide +kernel
theorem dX4_pass_84 : decode cX4_pass 84 = .ok (.if_icmp .ne 23, 3) := by decide +kernel
theorem dX4_pass_87 : decode cX4_pass 87 = .ok (.aload_n 0, 1) := by decide +kernel
theorem dX4_pass_88 : decode cX4_pass 88 = .ok (.getfield 43, 3) := by decide +kernel
theorem dX4_pass_91 : decode cX4_pass 91 = .ok (.iload_n 2, 1) := by decide +kernel
theorem dX4_pass_92 : decode cX4_pass 92 = .ok (.iaload, 1) := by decide +kernel
theorem dX4_pass_93 : decode cX4_pass 93 = .ok (.aload_n 0, 1) := by decide +kernel
theorem dX4_pass_94 : decode cX4_pass 94 = .ok (.getfield 58, 3) := by decide +kernel
theorem dX4_pass_97 : decode cX4_pass 97 = .ok (.if_icmp .gt 10, 3) := by decide +kernel
theorem dX4_pass_100 : decode cX4_pass 100 = .ok (.aload_n 0, 1) := by decide +kernel
theorem dX4_pass_101 : decode cX4_pass 101 = .ok (.getfield 49, 3) := by decide +kernel
theorem dX4_pass_104 : decode cX4_pass 104 = .ok (.iload_n 2, 1) := by decide +kernel
theorem dX4_pass_105 : decode cX4_pass 105 = .ok (.iconst 1, 1) := by decide +kernel
theorem dX4_pass_106 : decode cX4_pass 106 = .ok (.iastore, 1) := by decide +kernel
theorem dX4_pass_107 : decode cX4_pass 107 = .ok (.iinc 2 1, 3) := by decide +kernel
theorem dX4_pass_110 : decode cX4_pass 110 = .ok (.goto (-41), 3) := by decide +kernel
theorem dX4_pass_113 : decode cX4_pass 113 = .ok (.iinc 1 1, 3) := by decide +kernel
theorem dX4_pass_116 : decode cX4_pass 116 = .ok (.goto (-90), 3) := by decide +kernel
theorem dX4_pass_119 : decode cX4_pass 119 = .ok (.iconst 0, 1) := by decide +kernel
theorem dX4_pass_120 : decode cX4_pass 120 = .ok (.istore_n 1, 1) := by decide +kernel
theorem dX4_pass_121 : decode cX4_pass 121 = .ok (.iconst 0, 1) := by decide +kernel
theorem dX4_pass_122 : decode cX4_pass 122 = .ok (.istore_n 2, 1) := by decide +kernel
theorem dX4_pass_123 : decode cX4_pass 123 = .ok (.iconst 0, 1) := by decide +kernel
theorem dX4_pass_124 : decode cX4_pass 124 = .ok (.istore_n 3, 1) := by decide +kernel
theorem dX4_pass_125 : decode cX4_pass 125 = .ok (.iload_n 3, 1) := by decide +kernel
theorem dX4_pass_126 : decode cX4_pass 126 = .ok (.aload_n 0, 1) := by decide +kernel
theorem dX4_pass_127 : decode cX4_pass 127 = .ok (.getfield 65, 3) := by decide +kernel
theorem dX4_pass_130 : decode cX4_pass 130 = .ok (.if_icmp .ge 169, 3) := by decide +kernel
theorem dX4_pass_133 : decode cX4_pass 133 = .ok (.aload_n 0, 1) := by decide +kernel
theorem dX4_pass_134 : decode cX4_pass 134 = .ok (.getfield 46, 3) := by decide +kernel
theorem dX4_pass_137 : decode cX4_pass 137 = .ok (.iload_n 3, 1) := by decide +kernel
theorem dX4_pass_138 : decode cX4_pass 138 = .ok (.iaload, 1) := by decide +kernel
theorem dX4_pass_139 : decode cX4_pass 139 = .ok (.aload_n 0, 1) := by decide +kernel
theorem dX4_pass_140 : decode cX4_pass 140 = .ok (.getfield 58, 3) := by decide +kernel
theorem dX4_pass_143 : decode cX4_pass 143 = .ok (.if_icmp .le 69, 3) := by decide +kernel
theorem dX4_pass_146 : decode cX4_pass 146 = .ok (.aload_n 0, 1) := by decide +kernel
theorem dX4_pass_147 : decode cX4_pass 147 = .ok (.getfield 37, 3) := by decide +kernel
theorem dX4_pass_150 : decode cX4_pass 150 = .ok (.iload_n 2, 1) := by decide +kernel
theorem dX4_pass_151 : decode cX4_pass 151 = .ok (.aload_n 0, 1) := by decide +kernel
theorem dX4_pass_152 : decode cX4_pass 152 = .ok (.getfield 37, 3) := by decide +kernel
theorem dX4_pass_155 : decode cX4_pass 155 = .ok (.iload_n 3, 1) := by decide +kernel
theorem dX4_pass_156 : decode cX4_pass 156 = .ok (.iaload, 1) := by decide +kernel
theorem dX4_pass_157 : decode cX4_pass 157 = .ok (.iastore, 1) := by decide +kernel
theorem dX4_pass_158 : decode cX4_pass 158 = .ok (.aload_n 0, 1) := by decide +kernel
theorem dX4_pass_159 : decode cX4_pass 159 = .ok (.getfield 40, 3) := by decide +kernel
theorem dX4_pass_162 : decode cX4_pass 162 = .ok (.iload_n 2, 1) := by decide +kernel
theorem dX4_pass_163 : decode cX4_pass 163 = .ok (.aload_n 0, 1) := by decide +kernel
theorem dX4_pass_164 : decode cX4_pass 164 = .ok (.getfield 40, 3) := by decide +kernel
theorem dX4_pass_167 : decode cX4_pass 167 = .ok (.iload_n 3, 1) := by decide +kernel
theorem dX4_pass_168 : decode cX4_pass 168 = .ok (.iaload, 1) := by decide +kernel
theorem dX4_pass_169 : decode cX4_pass 169 = .ok (.iastore, 1) := by decide +kernel
theorem dX4_pass_170 : decode cX4_pass 170 = .ok (.aload_n 0, 1) := by decide +kernel
theorem dX4_pass_171 : decode cX4_pass 171 = .ok (.getfield 43, 3) := by decide +kernel
theorem dX4_pass_174 : decode cX4_pass 174 = .ok (.iload_n 2, 1) := by decide +kernel
theorem dX4_pass_175 : decode cX4_pass 175 = .ok (.aload_n 0, 1) := by decide +kernel
theorem dX4_pass_176 : decode cX4_pass 176 = .ok (.getfield 43, 3) := by decide +kernel
theorem dX4_pass_179 : decode cX4_pass 179 = .ok (.iload_n 3, 1) := by decide +kernel
theorem dX4_pass_180 : decode cX4_pass 180 = .ok (.iaload, 1) := by decide +kernel
theorem dX4_pass_181 : decode cX4_pass 181 = .ok (.iastore, 1) := by decide +kernel
theorem dX4_pass_182 : decode cX4_pass 182 = .ok (.aload_n 0, 1) := by decide +kernel
theorem dX4_pass_183 : decode cX4_pass 183 = .ok (.getfield 46, 3) := by decide +kernel
theorem dX4_pass_186 : decode cX4_pass 186 = .ok (.iload_n 2, 1) := by decide +kernel
theorem dX4_pass_187 : decode cX4_pass 187 = .ok (.aload_n 0, 1) := by decide +kernel
theorem dX4_pass_188 : decode cX4_pass 188 = .ok (.getfield 46, 3) := by decide +kernel
theorem dX4_pass_191 : decode cX4_pass 191 = .ok (.iload_n 3, 1) := by decide +kernel
theorem dX4_pass_192 : decode cX4_pass 192 = .ok (.iaload, 1) := by decide +kernel
theorem dX4_pass_193 : decode cX4_pass 193 = .ok (.iastore, 1) := by decide +kernel
theorem dX4_pass_194 : decode cX4_pass 194 = .ok (.aload_n 0, 1) := by decide +kernel
theorem dX4_pass_195 : decode cX4_pass 195 = .ok (.getfield 49, 3) := by decide +kernel
theorem dX4_pass_198 : decode cX4_pass 198 = .ok (.iload_n 2, 1) := by decide +kernel
theorem dX4_pass_199 : decode cX4_pass 199 = .ok (.aload_n 0, 1) := by decide +kernel
theorem dX4_pass_200 : decode cX4_pass 200 = .ok (.getfield 49, 3) := by decide +kernel
theorem dX4_pass_203 : decode cX4_pass 203 = .ok (.iload_n 3, 1) := by decide +kernel
theorem dX4_pass_204 : decode cX4_pass 204 = .ok (.iaload, 1) := by decide +kernel
theorem dX4_pass_205 : decode cX4_pass 205 = .ok (.iastore, 1) := by decide +kernel
theorem dX4_pass_206 : decode cX4_pass 206 = .ok (.iinc 2 1, 3) := by decide +kernel
theorem dX4_pass_209 : decode cX4_pass 209 = .ok (.goto 84, 3) := by decide +kernel
theorem dX4_pass_212 : decode cX4_pass 212 = .ok (.aload_n 0, 1) := by decide +kernel
theorem dX4_pass_213 : decode cX4_pass 213 = .ok (.getfield 49, 3) := by decide +kernel
theorem dX4_pass_216 : decode cX4_pass 216 = .ok (.iload_n 3, 1) := by decide +kernel
theorem dX4_pass_217 : decode cX4_pass 217 = .ok (.iaload, 1) := by decide +kernel
theorem dX4_pass_218 : decode cX4_pass 218 = .ok (.iconst 1, 1) := by decide +kernel
theorem dX4_pass_219 : decode cX4_pass 219 = .ok (.if_icmp .ne 21, 3) := by decide +kernel
theorem dX4_pass_222 : decode cX4_pass 222 = .ok (.aload_n 0, 1) := by decide +kernel
theorem dX4_pass_223 : decode cX4_pass 223 = .ok (.getfield 34, 3) := by decide +kernel
theorem dX4_pass_226 : decode cX4_pass 226 = .ok (.aload_n 0, 1) := by decide +kernel
theorem dX4_pass_227 : decode cX4_pass 227 = .ok (.getfield 37, 3) := by decide +kernel
theorem dX4_pass_230 : decode cX4_pass 230 = .ok (.iload_n 3, 1) := by decide +kernel
theorem dX4_pass_231 : decode cX4_pass 231 = .ok (.iaload, 1) := by decide +kernel
theorem dX4_pass_232 : decode cX4_pass 232 = .ok (.dup2, 1) := by decide +kernel
theorem dX4_pass_233 : decode cX4_pass 233 = .ok (.iaload, 1) := by decide +kernel
theorem dX4_pass_234 : decode cX4_pass 234 = .ok (.iconst 1, 1) := by decide +kernel
theorem dX4_pass_235 : decode cX4_pass 235 = .ok (.iadd, 1) := by decide +kernel
theorem dX4_pass_236 : decode cX4_pass 236 = .ok (.iastore, 1) := by decide +kernel
theorem dX4_pass_237 : decode cX4_pass 237 = .ok (.goto 56, 3) := by decide +kernel
theorem dX4_pass_240 : decode cX4_pass 240 = .ok (.aload_n 0, 1) := by decide +kernel
theorem dX4_pass_241 : decode cX4_pass 241 = .ok (.aload_n 0, 1) := by decide +kernel
theorem dX4_pass_242 : decode cX4_pass 242 = .ok (.getfield 37, 3) := by decide +kernel
theorem dX4_pass_245 : decode cX4_pass 245 = .ok (.iload_n 3, 1) := by decide +kernel
theorem dX4_pass_246 : decode cX4_pass 246 = .ok (.iaload, 1) := by decide +kernel
theorem dX4_pass_247 : decode cX4_pass 247 = .ok (.aload_n 0, 1) := by decide +kernel
theorem dX4_pass_248 : decode cX4_pass 248 = .ok (.getfield 40, 3) := by decide +kernel
theorem dX4_pass_251 : decode cX4_pass 251 = .ok (.iload_n 3, 1) := by decide +kernel
theorem dX4_pass_252 : decode cX4_pass 252 = .ok (.iaload, 1) := by decide +kernel
theorem dX4_pass_253 : decode cX4_pass 253 = .ok (.invokevirtual 111, 3) := by decide +kernel
theorem dX4_pass_256 : decode cX4_pass 256 = .ok (.ifCond .eq 37, 3) := by decide +kernel
theorem dX4_pass_259 : decode cX4_pass 259 = .ok (.iinc 1 1, 3) := by decide +kernel
theorem dX4_pass_262 : decode cX4_pass 262 = .ok (.aload_n 0, 1) := by decide +kernel
theorem dX4_pass_263 : decode cX4_pass 263 = .ok (.getfield 25, 3) := by decide +kernel
theorem dX4_pass_266 : decode cX4_pass 266 = .ok (.aload_n 0, 1) := by decide +kernel
theorem dX4_pass_267 : decode cX4_pass 267 = .ok (.getfield 37, 3) := by decide +kernel
theorem dX4_pass_270 : decode cX4_pass 270 = .ok (.iload_n 3, 1) := by decide +kernel
theorem dX4_pass_271 : decode cX4_pass 271 = .ok (.iaload, 1) := by decide +kernel
theorem dX4_pass_272 : decode cX4_pass 272 = .ok (.iaload, 1) := by decide +kernel
theorem dX4_pass_273 : decode cX4_pass 273 = .ok (.iconst 5, 1) := by decide +kernel
theorem dX4_pass_274 : decode cX4_pass 274 = .ok (.if_icmp .ge 19, 3) := by decide +kernel
theorem dX4_pass_277 : decode cX4_pass 277 = .ok (.aload_n 0, 1) := by decide +kernel
theorem dX4_pass_278 : decode cX4_pass 278 = .ok (.aload_n 0, 1) := by decide +kernel
theorem dX4_pass_279 : decode cX4_pass 279 = .ok (.getfield 37, 3) := by decide +kernel
theorem dX4_pass_282 : decode cX4_pass 282 = .ok (.iload_n 3, 1) := by decide +kernel
theorem dX4_pass_283 : decode cX4_pass 283 = .ok (.iaload, 1) := by decide +kernel
theorem dX4_pass_284 : decode cX4_pass 284 = .ok (.aload_n 0, 1) := by decide +kernel
theorem dX4_pass_285 : decode cX4_pass 285 = .ok (.getfield 40, 3) := by decide +kernel
theorem dX4_pass_288 : decode cX4_pass 288 = .ok (.iload_n 3, 1) := by decide +kernel
theorem dX4_pass_289 : decode cX4_pass 289 = .ok (.iaload, 1) := by decide +kernel
theorem dX4_pass_290 : decode cX4_pass 290 = .ok (.invokevirtual 114, 3) := by decide +kernel
theorem dX4_pass_293 : decode cX4_pass 293 = .ok (.iinc 3 1, 3) := by decide +kernel
theorem dX4_pass_296 : decode cX4_pass 296 = .ok (.goto (-171), 3) := by decide +kernel
theorem dX4_pass_299 : decode cX4_pass 299 = .ok (.aload_n 0, 1) := by decide +kernel
theorem dX4_pass_300 : decode cX4_pass 300 = .ok (.iload_n 2, 1) := by decide +kernel
theorem dX4_pass_301 : decode cX4_pass 301 = .ok (.putfield 65, 3) := by decide +kernel
theorem dX4_pass_304 : decode cX4_pass 304 = .ok (.iconst 0, 1) := by decide +kernel
theorem dX4_pass_305 : decode cX4_pass 305 = .ok (.istore_n 3, 1) := by decide +kernel
theorem dX4_pass_306 : decode cX4_pass 306 = .ok (.iload_n 3, 1) := by decide +kernel
theorem dX4_pass_307 : decode cX4_pass 307 = .ok (.aload_n 0, 1) := by decide +kernel
theorem dX4_pass_308 : decode cX4_pass 308 = .ok (.getfield 3, 3) := by decide +kernel
theorem dX4_pass_311 : decode cX4_pass 311 = .ok (.getfield 89, 3) := by decide +kernel
theorem dX4_pass_314 : decode cX4_pass 314 = .ok (.if_icmp .ge 43, 3) := by decide +kernel
theorem dX4_pass_317 : decode cX4_pass 317 = .ok (.aload_n 0, 1) := by decide +kernel
theorem dX4_pass_318 : decode cX4_pass 318 = .ok (.getfield 22, 3) := by decide +kernel
theorem dX4_pass_321 : decode cX4_pass 321 = .ok (.iload_n 3, 1) := by decide +kernel
theorem dX4_pass_322 : decode cX4_pass 322 = .ok (.iconst 0, 1) := by decide +kernel
theorem dX4_pass_323 : decode cX4_pass 323 = .ok (.aload_n 0, 1) := by decide +kernel
theorem dX4_pass_324 : decode cX4_pass 324 = .ok (.getfield 22, 3) := by decide +kernel
theorem dX4_pass_327 : decode cX4_pass 327 = .ok (.iload_n 3, 1) := by decide +kernel
theorem dX4_pass_328 : decode cX4_pass 328 = .ok (.iaload, 1) := by decide +kernel
theorem dX4_pass_329 : decode cX4_pass 329 = .ok (.iconst 1, 1) := by decide +kernel
theorem dX4_pass_330 : decode cX4_pass 330 = .ok (.isub, 1) := by decide +kernel
theorem dX4_pass_331 : decode cX4_pass 331 = .ok (.invokestatic 118, 3) := by decide +kernel
theorem dX4_pass_334 : decode cX4_pass 334 = .ok (.iastore, 1) := by decide +kernel
theorem dX4_pass_335 : decode cX4_pass 335 = .ok (.aload_n 0, 1) := by decide +kernel
theorem dX4_pass_336 : decode cX4_pass 336 = .ok (.getfield 22, 3) := by decide +kernel
theorem dX4_pass_339 : decode cX4_pass 339 = .ok (.iload_n 3, 1) := by decide +kernel
theorem dX4_pass_340 : decode cX4_pass 340 = .ok (.iaload, 1) := by decide +kernel
theorem dX4_pass_341 : decode cX4_pass 341 = .ok (.ifCond .ne 10, 3) := by decide +kernel
theorem dX4_pass_344 : decode cX4_pass 344 = .ok (.aload_n 0, 1) := by decide +kernel
theorem dX4_pass_345 : decode cX4_pass 345 = .ok (.getfield 19, 3) := by decide +kernel
theorem dX4_pass_348 : decode cX4_pass 348 = .ok (.iload_n 3, 1) := by decide +kernel
theorem dX4_pass_349 : decode cX4_pass 349 = .ok (.iconst (-1), 1) := by decide +kernel
theorem dX4_pass_350 : decode cX4_pass 350 = .ok (.iastore, 1) := by decide +kernel
theorem dX4_pass_351 : decode cX4_pass 351 = .ok (.iinc 3 1, 3) := by decide +kernel
theorem dX4_pass_354 : decode cX4_pass 354 = .ok (.goto (-48), 3) := by decide +kernel
theorem dX4_pass_357 : decode cX4_pass 357 = .ok (.aload_n 0, 1) := by decide +kernel
theorem dX4_pass_358 : decode cX4_pass 358 = .ok (.dup, 1) := by decide +kernel
theorem dX4_pass_359 : decode cX4_pass 359 = .ok (.getfield 58, 3) := by decide +kernel
theorem dX4_pass_362 : decode cX4_pass 362 = .ok (.iconst 1, 1) := by decide +kernel
theorem dX4_pass_363 : decode cX4_pass 363 = .ok (.iadd, 1) := by decide +kernel
theorem dX4_pass_364 : decode cX4_pass 364 = .ok (.putfield 58, 3) := by decide +kernel
theorem dX4_pass_367 : decode cX4_pass 367 = .ok (.iload_n 1, 1) := by decide +kernel
theorem dX4_pass_368 : decode cX4_pass 368 = .ok (.ireturn, 1) := by decide +kernel
theorem dX4_knowing_0 : decode cX4_knowing 0 = .ok (.iconst 0, 1) := by decide +kernel
theorem dX4_knowing_1 : decode cX4_knowing 1 = .ok (.istore_n 2, 1) := by decide +kernel
theorem dX4_knowing_2 : decode cX4_knowing 2 = .ok (.iconst 0, 1) := by decide +kernel
theorem dX4_knowing_3 : decode cX4_knowing 3 = .ok (.istore_n 3, 1) := by decide +kernel
theorem dX4_knowing_4 : decode cX4_knowing 4 = .ok (.iload_n 3, 1) := by decide +kernel
theorem dX4_knowing_5 : decode cX4_knowing 5 = .ok (.aload_n 0, 1) := by decide +kernel
theorem dX4_knowing_6 : decode cX4_knowing 6 = .ok (.getfield 3, 3) := by decide +kernel
theorem dX4_knowing_9 : decode cX4_knowing 9 = .ok (.getfield 89, 3) := by decide +kernel
theorem dX4_knowing_12 : decode cX4_knowing 12 = .ok (.if_icmp .ge 32, 3) := by decide +kernel
theorem dX4_knowing_15 : decode cX4_knowing 15 = .ok (.iload_n 2, 1) := by decide +kernel
theorem dX4_knowing_16 : decode cX4_knowing 16 = .ok (.aload_n 0, 1) := by decide +kernel
theorem dX4_knowing_17 : decode cX4_knowing 17 = .ok (.getfield 31, 3) := by decide +kernel
theorem dX4_knowing_20 : decode cX4_knowing 20 = .ok (.bipush 12, 2) := by decide +kernel
theorem dX4_knowing_22 : decode cX4_knowing 22 = .ok (.iload_n 3, 1) := by decide +kernel
theorem dX4_knowing_23 : decode cX4_knowing 23 = .ok (.imul, 1) := by decide +kernel
theorem dX4_knowing_24 : decode cX4_knowing 24 = .ok (.iload_n 1, 1) := by decide +kernel
theorem dX4_knowing_25 : decode cX4_knowing 25 = .ok (.iadd, 1) := by decide +kernel
theorem dX4_knowing_26 : decode cX4_knowing 26 = .ok (.iaload, 1) := by decide +kernel
theorem dX4_knowing_27 : decode cX4_knowing 27 = .ok (.iconst (-1), 1) := by decide +kernel
theorem dX4_knowing_28 : decode cX4_knowing 28 = .ok (.if_icmp .ne 7, 3) := by decide +kernel
theorem dX4_knowing_31 : decode cX4_knowing 31 = .ok (.iconst 0, 1) := by decide +kernel
theorem dX4_knowing_32 : decode cX4_knowing 32 = .ok (.goto 4, 3) := by decide +kernel
theorem dX4_knowing_35 : decode cX4_knowing 35 = .ok (.iconst 1, 1) := by decide +kernel
theorem dX4_knowing_36 : decode cX4_knowing 36 = .ok (.iadd, 1) := by decide +kernel
theorem dX4_knowing_37 : decode cX4_knowing 37 = .ok (.istore_n 2, 1) := by decide +kernel
theorem dX4_knowing_38 : decode cX4_knowing 38 = .ok (.iinc 3 1, 3) := by decide +kernel
theorem dX4_knowing_41 : decode cX4_knowing 41 = .ok (.goto (-37), 3) := by decide +kernel
theorem dX4_knowing_44 : decode cX4_knowing 44 = .ok (.iload_n 2, 1) := by decide +kernel
theorem dX4_knowing_45 : decode cX4_knowing 45 = .ok (.ireturn, 1) := by decide +kernel
set_option maxRecDepth 20000 in
theorem ggX4_pairs_X4_knowing : GoodIn wsX4_pairs wsX4_knowing := goodIn_r _ [6, 1, 7, 8, 9, 10, 11, 12, 13, 14, 15, 16, 17, 18, 19, 20, 21, 22, 23, 24, 25, 26, 27, 28, 29, 30, 31, 32, 33, 34, 35] (by decide +kernel) (by decide +kernel)
set_option maxRecDepth 20000 in
theorem gX4_pairs_X4_knowing : GoodIn wsX4_pairs (wsV RX4 126 RX4 yX4_knowing wsX4_knowing) := goodIn_app (goodIn_of _ (by decide +kernel)) ggX4_pairs_X4_knowing
theorem dX4_pairs_0 : decode cX4_pairs 0 = .ok (.iconst 0, 1) := by decide +kernel
theorem dX4_pairs_1 : decode cX4_pairs 1 = .ok (.istore_n 1, 1) := by decide +kernel
theorem dX4_pairs_2 : decode cX4_pairs 2 = .ok (.iconst 0, 1) := by decide +kernel
theorem dX4_pairs_3 : decode cX4_pairs 3 = .ok (.istore_n 2, 1) := by decide +kernel
theorem dX4_pairs_4 : decode cX4_pairs 4 = .ok (.iload_n 2, 1) := by decide +kernel
theorem dX4_pairs_5 : decode cX4_pairs 5 = .ok (.aload_n 0, 1) := by decide +kernel
theorem dX4_pairs_6 : decode cX4_pairs 6 = .ok (.getfield 3, 3) := by decide +kernel
theorem dX4_pairs_9 : decode cX4_pairs 9 = .ok (.getfield 123, 3) := by decide +kernel
theorem dX4_pairs_12 : decode cX4_pairs 12 = .ok (.if_icmp .ge 17, 3) := by decide +kernel
theorem dX4_pairs_15 : decode cX4_pairs 15 = .ok (.iload_n 1, 1) := by decide +kernel
theorem dX4_pairs_16 : decode cX4_pairs 16 = .ok (.aload_n 0, 1) := by decide +kernel
theorem dX4_pairs_17 : decode cX4_pairs 17 = .ok (.iload_n 2, 1) := by decide +kernel
theorem dX4_pairs_18 : decode cX4_pairs 18 = .ok (.invokevirtual 126, 3) := by decide +kernel
theorem dX4_pairs_21 : decode cX4_pairs 21 = .ok (.iadd, 1) := by decide +kernel
theorem dX4_pairs_22 : decode cX4_pairs 22 = .ok (.istore_n 1, 1) := by decide +kernel
theorem dX4_pairs_23 : decode cX4_pairs 23 = .ok (.iinc 2 1, 3) := by decide +kernel
theorem dX4_pairs_26 : decode cX4_pairs 26 = .ok (.goto (-22), 3) := by decide +kernel
theorem dX4_pairs_29 : decode cX4_pairs 29 = .ok (.iload_n 1, 1) := by decide +kernel
theorem dX4_pairs_30 : decode cX4_pairs 30 = .ok (.ireturn, 1) := by decide +kernel
