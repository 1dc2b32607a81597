set_option maxRecDepth 20000 in
theorem ggX0_init_X2_init : GoodIn wsX0_init wsX2_init := goodIn_r _ [13, 14, 2, 3, 15, 16, 17, 6, 18, 19, 20, 21, 22, 23, 24, 25, 26, 27, 28, 29, 30, 31, 32, 33, 34, 42, 43, 44, 45, 46, 47, 48, 49, 50, 51, 52, 53, 54, 55, 56, 57, 58, 59] (by decide +kernel) (by decide +kernel)
set_option maxRecDepth 20000 in
theorem gX0_init_X2_init : GoodIn wsX0_init (wsX2_init) := ggX0_init_X2_init
theorem dX0_init_0 : decode cX0_init 0 = .ok (.aload_n 0, 1) := by decide +kernel
theorem dX0_init_1 : decode cX0_init 1 = .ok (.invokespecial 3, 3) := by decide +kernel
theorem dX0_init_4 : decode cX0_init 4 = .ok (.aload_n 0, 1) := by decide +kernel
theorem dX0_init_5 : decode cX0_init 5 = .ok (.bipush 8, 2) := by decide +kernel
theorem dX0_init_7 : decode cX0_init 7 = .ok (.anewarray 9, 3) := by decide +kernel
theorem dX0_init_10 : decode cX0_init 10 = .ok (.putfield 11, 3) := by decide +kernel
theorem dX0_init_13 : decode cX0_init 13 = .ok (.aload_n 0, 1) := by decide +kernel
theorem dX0_init_14 : decode cX0_init 14 = .ok (.bipush 12, 2) := by decide +kernel
theorem dX0_init_16 : decode cX0_init 16 = .ok (.newarray .int, 2) := by decide +kernel
theorem dX0_init_18 : decode cX0_init 18 = .ok (.putfield 17, 3) := by decide +kernel
theorem dX0_init_21 : decode cX0_init 21 = .ok (.aload_n 0, 1) := by decide +kernel
theorem dX0_init_22 : decode cX0_init 22 = .ok (.bipush 12, 2) := by decide +kernel
theorem dX0_init_24 : decode cX0_init 24 = .ok (.newarray .int, 2) := by decide +kernel
theorem dX0_init_26 : decode cX0_init 26 = .ok (.putfield 21, 3) := by decide +kernel
theorem dX0_init_29 : decode cX0_init 29 = .ok (.iconst 0, 1) := by decide +kernel
theorem dX0_init_30 : decode cX0_init 30 = .ok (.istore_n 1, 1) := by decide +kernel
theorem dX0_init_31 : decode cX0_init 31 = .ok (.iload_n 1, 1) := by decide +kernel
theorem dX0_init_32 : decode cX0_init 32 = .ok (.bipush 8, 2) := by decide +kernel
theorem dX0_init_34 : decode cX0_init 34 = .ok (.if_icmp .ge 22, 3) := by decide +kernel
theorem dX0_init_37 : decode cX0_init 37 = .ok (.aload_n 0, 1) := by decide +kernel
theorem dX0_init_38 : decode cX0_init 38 = .ok (.getfield 11, 3) := by decide +kernel
theorem dX0_init_41 : decode cX0_init 41 = .ok (.iload_n 1, 1) := by decide +kernel
theorem dX0_init_42 : decode cX0_init 42 = .ok (.new 9, 3) := by decide +kernel
theorem dX0_init_45 : decode cX0_init 45 = .ok (.dup, 1) := by decide +kernel
theorem dX0_init_46 : decode cX0_init 46 = .ok (.invokespecial 24, 3) := by decide +kernel
theorem dX0_init_49 : decode cX0_init 49 = .ok (.aastore, 1) := by decide +kernel
theorem dX0_init_50 : decode cX0_init 50 = .ok (.iinc 1 1, 3) := by decide +kernel
theorem dX0_init_53 : decode cX0_init 53 = .ok (.goto (-22), 3) := by decide +kernel
theorem dX0_init_56 : decode cX0_init 56 = .ok (.return_, 1) := by decide +kernel
set_option maxRecDepth 20000 in
theorem ggX0_copy_X2_copy : GoodIn wsX0_copy wsX2_copy := goodIn_r _ [16, 17, 18, 19, 20, 21, 22, 23, 24, 25, 26, 5, 6, 7, 27, 28, 29, 30, 31, 32, 33, 34, 35, 36, 37, 38, 39, 40, 41, 49, 50, 51, 52, 53, 54, 55, 56, 57, 58, 59, 60, 61, 62, 63, 64, 65, 66] (by decide +kernel) (by decide +kernel)
set_option maxRecDepth 20000 in
theorem gX0_copy_X2_copy : GoodIn wsX0_copy (wsV RX0 29 RX2 yX2_copy wsX2_copy) := goodIn_app (goodIn_of _ (by decide +kernel)) ggX0_copy_X2_copy
theorem dX0_copy_0 : decode cX0_copy 0 = .ok (.iconst 0, 1) := by decide +kernel
theorem dX0_copy_1 : decode cX0_copy 1 = .ok (.istore_n 2, 1) := by decide +kernel
theorem dX0_copy_2 : decode cX0_copy 2 = .ok (.iload_n 2, 1) := by decide +kernel
theorem dX0_copy_3 : decode cX0_copy 3 = .ok (.aload_n 1, 1) := by decide +kernel
theorem dX0_copy_4 : decode cX0_copy 4 = .ok (.getfield 25, 3) := by decide +kernel
theorem dX0_copy_7 : decode cX0_copy 7 = .ok (.if_icmp .ge 24, 3) := by decide +kernel
theorem dX0_copy_10 : decode cX0_copy 10 = .ok (.aload_n 0, 1) := by decide +kernel
theorem dX0_copy_11 : decode cX0_copy 11 = .ok (.getfield 11, 3) := by decide +kernel
theorem dX0_copy_14 : decode cX0_copy 14 = .ok (.iload_n 2, 1) := by decide +kernel
theorem dX0_copy_15 : decode cX0_copy 15 = .ok (.aaload, 1) := by decide +kernel
theorem dX0_copy_16 : decode cX0_copy 16 = .ok (.aload_n 1, 1) := by decide +kernel
theorem dX0_copy_17 : decode cX0_copy 17 = .ok (.getfield 11, 3) := by decide +kernel
theorem dX0_copy_20 : decode cX0_copy 20 = .ok (.iload_n 2, 1) := by decide +kernel
theorem dX0_copy_21 : decode cX0_copy 21 = .ok (.aaload, 1) := by decide +kernel
theorem dX0_copy_22 : decode cX0_copy 22 = .ok (.invokevirtual 29, 3) := by decide +kernel
theorem dX0_copy_25 : decode cX0_copy 25 = .ok (.iinc 2 1, 3) := by decide +kernel
theorem dX0_copy_28 : decode cX0_copy 28 = .ok (.goto (-26), 3) := by decide +kernel
theorem dX0_copy_31 : decode cX0_copy 31 = .ok (.aload_n 0, 1) := by decide +kernel
theorem dX0_copy_32 : decode cX0_copy 32 = .ok (.aload_n 1, 1) := by decide +kernel
theorem dX0_copy_33 : decode cX0_copy 33 = .ok (.getfield 25, 3) := by decide +kernel
theorem dX0_copy_36 : decode cX0_copy 36 = .ok (.putfield 25, 3) := by decide +kernel
theorem dX0_copy_39 : decode cX0_copy 39 = .ok (.aload_n 1, 1) := by decide +kernel
theorem dX0_copy_40 : decode cX0_copy 40 = .ok (.getfield 17, 3) := by decide +kernel
theorem dX0_copy_43 : decode cX0_copy 43 = .ok (.iconst 0, 1) := by decide +kernel
theorem dX0_copy_44 : decode cX0_copy 44 = .ok (.aload_n 0, 1) := by decide +kernel
theorem dX0_copy_45 : decode cX0_copy 45 = .ok (.getfield 17, 3) := by decide +kernel
theorem dX0_copy_48 : decode cX0_copy 48 = .ok (.iconst 0, 1) := by decide +kernel
theorem dX0_copy_49 : decode cX0_copy 49 = .ok (.bipush 12, 2) := by decide +kernel
theorem dX0_copy_51 : decode cX0_copy 51 = .ok (.invokestatic 33, 3) := by decide +kernel
theorem dX0_copy_54 : decode cX0_copy 54 = .ok (.aload_n 1, 1) := by decide +kernel
theorem dX0_copy_55 : decode cX0_copy 55 = .ok (.getfield 21, 3) := by decide +kernel
theorem dX0_copy_58 : decode cX0_copy 58 = .ok (.iconst 0, 1) := by decide +kernel
theorem dX0_copy_59 : decode cX0_copy 59 = .ok (.aload_n 0, 1) := by decide +kernel
theorem dX0_copy_60 : decode cX0_copy 60 = .ok (.getfield 21, 3) := by decide +kernel
theorem dX0_copy_63 : decode cX0_copy 63 = .ok (.iconst 0, 1) := by decide +kernel
theorem dX0_copy_64 : decode cX0_copy 64 = .ok (.bipush 12, 2) := by decide +kernel
theorem dX0_copy_66 : decode cX0_copy 66 = .ok (.invokestatic 33, 3) := by decide +kernel
theorem dX0_copy_69 : decode cX0_copy 69 = .ok (.aload_n 0, 1) := by decide +kernel
theorem dX0_copy_70 : decode cX0_copy 70 = .ok (.aload_n 1, 1) := by decide +kernel
theorem dX0_copy_71 : decode cX0_copy 71 = .ok (.getfield 39, 3) := by decide +kernel
theorem dX0_copy_74 : decode cX0_copy 74 = .ok (.putfield 39, 3) := by decide +kernel
theorem dX0_copy_77 : decode cX0_copy 77 = .ok (.aload_n 0, 1) := by decide +kernel
theorem dX0_copy_78 : decode cX0_copy 78 = .ok (.aload_n 1, 1) := by decide +kernel
theorem dX0_copy_79 : decode cX0_copy 79 = .ok (.getfield 42, 3) := by decide +kernel
theorem dX0_copy_82 : decode cX0_copy 82 = .ok (.putfield 42, 3) := by decide +kernel
theorem dX0_copy_85 : decode cX0_copy 85 = .ok (.aload_n 0, 1) := by decide +kernel
theorem dX0_copy_86 : decode cX0_copy 86 = .ok (.aload_n 1, 1) := by decide +kernel
theorem dX0_copy_87 : decode cX0_copy 87 = .ok (.getfield 45, 3) := by decide +kernel
theorem dX0_copy_90 : decode cX0_copy 90 = .ok (.putfield 45, 3) := by decide +kernel
theorem dX0_copy_93 : decode cX0_copy 93 = .ok (.return_, 1) := by decide +kernel
theorem dX0_hasVillageAt_0 : decode cX0_hasVillageAt 0 = .ok (.iconst 0, 1) := by decide +kernel
theorem dX0_hasVillageAt_1 : decode cX0_hasVillageAt 1 = .ok (.istore_n 3, 1) := by decide +kernel
theorem dX0_hasVillageAt_2 : decode cX0_hasVillageAt 2 = .ok (.iload_n 3, 1) := by decide +kernel
theorem dX0_hasVillageAt_3 : decode cX0_hasVillageAt 3 = .ok (.aload_n 0, 1) := by decide +kernel
theorem dX0_hasVillageAt_4 : decode cX0_hasVillageAt 4 = .ok (.getfield 25, 3) := by decide +kernel
theorem dX0_hasVillageAt_7 : decode cX0_hasVillageAt 7 = .ok (.if_icmp .ge 37, 3) := by decide +kernel
theorem dX0_hasVillageAt_10 : decode cX0_hasVillageAt 10 = .ok (.aload_n 0, 1) := by decide +kernel
theorem dX0_hasVillageAt_11 : decode cX0_hasVillageAt 11 = .ok (.getfield 11, 3) := by decide +kernel
theorem dX0_hasVillageAt_14 : decode cX0_hasVillageAt 14 = .ok (.iload_n 3, 1) := by decide +kernel
theorem dX0_hasVillageAt_15 : decode cX0_hasVillageAt 15 = .ok (.aaload, 1) := by decide +kernel
theorem dX0_hasVillageAt_16 : decode cX0_hasVillageAt 16 = .ok (.getfield 48, 3) := by decide +kernel
theorem dX0_hasVillageAt_19 : decode cX0_hasVillageAt 19 = .ok (.iload_n 1, 1) := by decide +kernel
theorem dX0_hasVillageAt_20 : decode cX0_hasVillageAt 20 = .ok (.if_icmp .ne 18, 3) := by decide +kernel
theorem dX0_hasVillageAt_23 : decode cX0_hasVillageAt 23 = .ok (.aload_n 0, 1) := by decide +kernel
theorem dX0_hasVillageAt_24 : decode cX0_hasVillageAt 24 = .ok (.getfield 11, 3) := by decide +kernel
theorem dX0_hasVillageAt_27 : decode cX0_hasVillageAt 27 = .ok (.iload_n 3, 1) := by decide +kernel
theorem dX0_hasVillageAt_28 : decode cX0_hasVillageAt 28 = .ok (.aaload, 1) := by decide +kernel
theorem dX0_hasVillageAt_29 : decode cX0_hasVillageAt 29 = .ok (.getfield 51, 3) := by decide +kernel
theorem dX0_hasVillageAt_32 : decode cX0_hasVillageAt 32 = .ok (.iload_n 2, 1) := by decide +kernel
theorem dX0_hasVillageAt_33 : decode cX0_hasVillageAt 33 = .ok (.if_icmp .ne 5, 3) := by decide +kernel
theorem dX0_hasVillageAt_36 : decode cX0_hasVillageAt 36 = .ok (.iconst 1, 1) := by decide +kernel
theorem dX0_hasVillageAt_37 : decode cX0_hasVillageAt 37 = .ok (.ireturn, 1) := by decide +kernel
theorem dX0_hasVillageAt_38 : decode cX0_hasVillageAt 38 = .ok (.iinc 3 1, 3) := by decide +kernel
theorem dX0_hasVillageAt_41 : decode cX0_hasVillageAt 41 = .ok (.goto (-39), 3) := by decide +kernel
theorem dX0_hasVillageAt_44 : decode cX0_hasVillageAt 44 = .ok (.iconst 0, 1) := by decide +kernel
theorem dX0_hasVillageAt_45 : decode cX0_hasVillageAt 45 = .ok (.ireturn, 1) := by decide +kernel
theorem dX0_addVillage_0 : decode cX0_addVillage 0 = .ok (.aload_n 0, 1) := by decide +kernel
theorem dX0_addVillage_1 : decode cX0_addVillage 1 = .ok (.getfield 25, 3) := by decide +kernel
theorem dX0_addVillage_4 : decode cX0_addVillage 4 = .ok (.bipush 8, 2) := by decide +kernel
theorem dX0_addVillage_6 : decode cX0_addVillage 6 = .ok (.if_icmp .lt 5, 3) := by decide +kernel
theorem dX0_addVillage_9 : decode cX0_addVillage 9 = .ok (.iconst (-1), 1) := by decide +kernel
theorem dX0_addVillage_10 : decode cX0_addVillage 10 = .ok (.ireturn, 1) := by decide +kernel
theorem dX0_addVillage_11 : decode cX0_addVillage 11 = .ok (.aload_n 0, 1) := by decide +kernel
theorem dX0_addVillage_12 : decode cX0_addVillage 12 = .ok (.getfield 11, 3) := by decide +kernel
theorem dX0_addVillage_15 : decode cX0_addVillage 15 = .ok (.aload_n 0, 1) := by decide +kernel
theorem dX0_addVillage_16 : decode cX0_addVillage 16 = .ok (.getfield 25, 3) := by decide +kernel
theorem dX0_addVillage_19 : decode cX0_addVillage 19 = .ok (.aaload, 1) := by decide +kernel
theorem dX0_addVillage_20 : decode cX0_addVillage 20 = .ok (.astore 4, 2) := by decide +kernel
theorem dX0_addVillage_22 : decode cX0_addVillage 22 = .ok (.aload 4, 2) := by decide +kernel
theorem dX0_addVillage_24 : decode cX0_addVillage 24 = .ok (.iload_n 1, 1) := by decide +kernel
theorem dX0_addVillage_25 : decode cX0_addVillage 25 = .ok (.putfield 48, 3) := by decide +kernel
theorem dX0_addVillage_28 : decode cX0_addVillage 28 = .ok (.aload 4, 2) := by decide +kernel
theorem dX0_addVillage_30 : decode cX0_addVillage 30 = .ok (.iload_n 2, 1) := by decide +kernel
theorem dX0_addVillage_31 : decode cX0_addVillage 31 = .ok (.putfield 51, 3) := by decide +kernel
theorem dX0_addVillage_34 : decode cX0_addVillage 34 = .ok (.aload 4, 2) := by decide +kernel
theorem dX0_addVillage_36 : decode cX0_addVillage 36 = .ok (.iload_n 3, 1) := by decide +kernel
theorem dX0_addVillage_37 : decode cX0_addVillage 37 = .ok (.putfield 54, 3) := by decide +kernel
theorem dX0_addVillage_40 : decode cX0_addVillage 40 = .ok (.aload_n 0, 1) := by decide +kernel
theorem dX0_addVillage_41 : decode cX0_addVillage 41 = .ok (.dup, 1) := by decide +kernel
theorem dX0_addVillage_42 : decode cX0_addVillage 42 = .ok (.getfield 25, 3) := by decide +kernel
theorem dX0_addVillage_45 : decode cX0_addVillage 45 = .ok (.iconst 1, 1) := by decide +kernel
theorem dX0_addVillage_46 : decode cX0_addVillage 46 = .ok (.iadd, 1) := by decide +kernel
theorem dX0_addVillage_47 : decode cX0_addVillage 47 = .ok (.putfield 25, 3) := by decide +kernel
theorem dX0_addVillage_50 : decode cX0_addVillage 50 = .ok (.aload_n 0, 1) := by decide +kernel
theorem dX0_addVillage_51 : decode cX0_addVillage 51 = .ok (.getfield 25, 3) := by decide +kernel
theorem dX0_addVillage_54 : decode cX0_addVillage 54 = .ok (.iconst 1, 1) := by decide +kernel
theorem dX0_addVillage_55 : decode cX0_addVillage 55 = .ok (.isub, 1) := by decide +kernel
theorem dX0_addVillage_56 : decode cX0_addVillage 56 = .ok (.ireturn, 1) := by decide +kernel
theorem dX0_hasPhrase_0 : decode cX0_hasPhrase 0 = .ok (.iconst 0, 1) := by decide +kernel
theorem dX0_hasPhrase_1 : decode cX0_hasPhrase 1 = .ok (.istore_n 2, 1) := by decide +kernel
theorem dX0_hasPhrase_2 : decode cX0_hasPhrase 2 = .ok (.iload_n 2, 1) := by decide +kernel
theorem dX0_hasPhrase_3 : decode cX0_hasPhrase 3 = .ok (.aload_n 0, 1) := by decide +kernel
theorem dX0_hasPhrase_4 : decode cX0_hasPhrase 4 = .ok (.getfield 39, 3) := by decide +kernel
theorem dX0_hasPhrase_7 : decode cX0_hasPhrase 7 = .ok (.if_icmp .ge 21, 3) := by decide +kernel
theorem dX0_hasPhrase_10 : decode cX0_hasPhrase 10 = .ok (.aload_n 0, 1) := by decide +kernel
theorem dX0_hasPhrase_11 : decode cX0_hasPhrase 11 = .ok (.getfield 17, 3) := by decide +kernel
theorem dX0_hasPhrase_14 : decode cX0_hasPhrase 14 = .ok (.iload_n 2, 1) := by decide +kernel
theorem dX0_hasPhrase_15 : decode cX0_hasPhrase 15 = .ok (.iaload, 1) := by decide +kernel
theorem dX0_hasPhrase_16 : decode cX0_hasPhrase 16 = .ok (.iload_n 1, 1) := by decide +kernel
theorem dX0_hasPhrase_17 : decode cX0_hasPhrase 17 = .ok (.if_icmp .ne 5, 3) := by decide +kernel
theorem dX0_hasPhrase_20 : decode cX0_hasPhrase 20 = .ok (.iconst 1, 1) := by decide +kernel
theorem dX0_hasPhrase_21 : decode cX0_hasPhrase 21 = .ok (.ireturn, 1) := by decide +kernel
theorem dX0_hasPhrase_22 : decode cX0_hasPhrase 22 = .ok (.iinc 2 1, 3) := by decide +kernel
theorem dX0_hasPhrase_25 : decode cX0_hasPhrase 25 = .ok (.goto (-23), 3) := by decide +kernel
theorem dX0_hasPhrase_28 : decode cX0_hasPhrase 28 = .ok (.iconst 0, 1) := by decide +kernel
theorem dX0_hasPhrase_29 : decode cX0_hasPhrase 29 = .ok (.ireturn, 1) := by decide +kernel
theorem dX0_addPhrase_0 : decode cX0_addPhrase 0 = .ok (.aload_n 0, 1) := by decide +kernel
theorem dX0_addPhrase_1 : decode cX0_addPhrase 1 = .ok (.getfield 39, 3) := by decide +kernel
theorem dX0_addPhrase_4 : decode cX0_addPhrase 4 = .ok (.bipush 12, 2) := by decide +kernel
theorem dX0_addPhrase_6 : decode cX0_addPhrase 6 = .ok (.if_icmp .lt 5, 3) := by decide +kernel
theorem dX0_addPhrase_9 : decode cX0_addPhrase 9 = .ok (.iconst (-1), 1) := by decide +kernel
theorem dX0_addPhrase_10 : decode cX0_addPhrase 10 = .ok (.ireturn, 1) := by decide +kernel
theorem dX0_addPhrase_11 : decode cX0_addPhrase 11 = .ok (.aload_n 0, 1) := by decide +kernel
theorem dX0_addPhrase_12 : decode cX0_addPhrase 12 = .ok (.getfield 17, 3) := by decide +kernel
theorem dX0_addPhrase_15 : decode cX0_addPhrase 15 = .ok (.aload_n 0, 1) := by decide +kernel
theorem dX0_addPhrase_16 : decode cX0_addPhrase 16 = .ok (.getfield 39, 3) := by decide +kernel
theorem dX0_addPhrase_19 : decode cX0_addPhrase 19 = .ok (.iload_n 1, 1) := by decide +kernel
theorem dX0_addPhrase_20 : decode cX0_addPhrase 20 = .ok (.iastore, 1) := by decide +kernel
theorem dX0_addPhrase_21 : decode cX0_addPhrase 21 = .ok (.aload_n 0, 1) := by decide +kernel
theorem dX0_addPhrase_22 : decode cX0_addPhrase 22 = .ok (.getfield 21, 3) := by decide +kernel
theorem dX0_addPhrase_25 : decode cX0_addPhrase 25 = .ok (.aload_n 0, 1) := by decide +kernel
theorem dX0_addPhrase_26 : decode cX0_addPhrase 26 = .ok (.getfield 39, 3) := by decide +kernel
theorem dX0_addPhrase_29 : decode cX0_addPhrase 29 = .ok (.iload_n 2, 1) := by decide +kernel
theorem dX0_addPhrase_30 : decode cX0_addPhrase 30 = .ok (.iastore, 1) := by decide +kernel
theorem dX0_addPhrase_31 : decode cX0_addPhrase 31 = .ok (.aload_n 0, 1) := by decide +kernel
theorem dX0_addPhrase_32 : decode cX0_addPhrase 32 = .ok (.dup, 1) := by decide +kernel
theorem dX0_addPhrase_33 : decode cX0_addPhrase 33 = .ok (.getfield 39, 3) := by decide +kernel
theorem dX0_addPhrase_36 : decode cX0_addPhrase 36 = .ok (.iconst 1, 1) := by decide +kernel
theorem dX0_addPhrase_37 : decode cX0_addPhrase 37 = .ok (.iadd, 1) := by decide +kernel
theorem dX0_addPhrase_38 : decode cX0_addPhrase 38 = .ok (.putfield 39, 3) := by decide +kernel
theorem dX0_addPhrase_41 : decode cX0_addPhrase 41 = .ok (.aload_n 0, 1) := by decide +kernel
theorem dX0_addPhrase_42 : decode cX0_addPhrase 42 = .ok (.getfield 39, 3) := by decide +kernel
theorem dX0_addPhrase_45 : decode cX0_addPhrase 45 = .ok (.iconst 1, 1) := by decide +kernel
theorem dX0_addPhrase_46 : decode cX0_addPhrase 46 = .ok (.isub, 1) := by decide +kernel
theorem dX0_addPhrase_47 : decode cX0_addPhrase 47 = .ok (.ireturn, 1) := by decide +kernel
set_option maxRecDepth 20000 in
theorem ggX0_figure_X0_drummers : GoodIn wsX0_figure wsX0_drummers := goodIn_r _ [9, 2, 10, 11, 12, 13, 14, 15, 16, 41, 42, 43, 44, 45, 46, 47, 48, 49, 50, 51, 52, 53, 54, 55, 56, 57, 58, 59, 60] (by decide +kernel) (by decide +kernel)
set_option maxRecDepth 20000 in
theorem gX0_figure_X0_drummers : GoodIn wsX0_figure (wsV RX0 57 RX0 yX0_drummers wsX0_drummers) := goodIn_app (goodIn_of _ (by decide +kernel)) ggX0_figure_X0_drummers
set_option maxRecDepth 20000 in
theorem ggX0_figure_X0_soundsInTheAir : GoodIn wsX0_figure wsX0_soundsInTheAir := goodIn_r _ [20, 2, 10, 21, 22, 41, 42, 43, 44, 45, 46, 47, 48, 49, 50, 51, 52, 53, 54, 55, 56, 57, 58, 59, 60, 61, 62, 63, 64, 65] (by decide +kernel) (by decide +kernel)
set_option maxRecDepth 20000 in
theorem gX0_figure_X0_soundsInTheAir : GoodIn wsX0_figure (wsV RX0 61 RX0 yX0_soundsInTheAir wsX0_soundsInTheAir) := goodIn_app (goodIn_of _ (by decide +kernel)) ggX0_figure_X0_soundsInTheAir
set_option maxRecDepth 20000 in
theorem ggX0_figure_X0_soundsDrowned : GoodIn wsX0_figure wsX0_soundsDrowned := goodIn_r _ [26, 2, 10, 27, 41, 42, 43, 44, 45, 46, 47, 48, 49, 50, 51, 52, 53, 54, 55, 56, 57, 58, 59, 60] (by decide +kernel) (by decide +kernel)
set_option maxRecDepth 20000 in
theorem gX0_figure_X0_soundsDrowned : GoodIn wsX0_figure (wsV RX0 64 RX0 yX0_soundsDrowned wsX0_soundsDrowned) := goodIn_app (goodIn_of _ (by decide +kernel)) ggX0_figure_X0_soundsDrowned
set_option maxRecDepth 20000 in
theorem ggX0_figure_X0_knownPairs : GoodIn wsX0_figure wsX0_knownPairs := goodIn_r _ [31, 2, 10, 32, 33, 34, 14, 35, 36, 37, 38, 39, 40, 41, 42, 43, 44, 45, 46, 47, 48, 49, 50, 51, 52, 53, 54, 55, 56, 57, 58, 59, 60] (by decide +kernel) (by decide +kernel)
set_option maxRecDepth 20000 in
theorem gX0_figure_X0_knownPairs : GoodIn wsX0_figure (wsV RX0 67 RX0 yX0_knownPairs wsX0_knownPairs) := goodIn_app (goodIn_of _ (by decide +kernel)) ggX0_figure_X0_knownPairs
theorem dX0_figure_0 : decode cX0_figure 0 = .ok (.iload_n 1, 1) := by decide +kernel
theorem dX0_figure_1 : decode cX0_figure 1 = .ok (.tableswitch 78 0 6 #[43, 48, 53, 58, 63, 68, 73], 43) := by decide +kernel
theorem dX0_figure_44 : decode cX0_figure 44 = .ok (.aload_n 0, 1) := by decide +kernel
theorem dX0_figure_45 : decode cX0_figure 45 = .ok (.getfield 42, 3) := by decide +kernel
theorem dX0_figure_48 : decode cX0_figure 48 = .ok (.ireturn, 1) := by decide +kernel
theorem dX0_figure_49 : decode cX0_figure 49 = .ok (.aload_n 0, 1) := by decide +kernel
theorem dX0_figure_50 : decode cX0_figure 50 = .ok (.getfield 25, 3) := by decide +kernel
theorem dX0_figure_53 : decode cX0_figure 53 = .ok (.ireturn, 1) := by decide +kernel
theorem dX0_figure_54 : decode cX0_figure 54 = .ok (.aload_n 0, 1) := by decide +kernel
theorem dX0_figure_55 : decode cX0_figure 55 = .ok (.getfield 39, 3) := by decide +kernel
theorem dX0_figure_58 : decode cX0_figure 58 = .ok (.ireturn, 1) := by decide +kernel
theorem dX0_figure_59 : decode cX0_figure 59 = .ok (.aload_n 0, 1) := by decide +kernel
theorem dX0_figure_60 : decode cX0_figure 60 = .ok (.invokevirtual 57, 3) := by decide +kernel
theorem dX0_figure_63 : decode cX0_figure 63 = .ok (.ireturn, 1) := by decide +kernel
theorem dX0_figure_64 : decode cX0_figure 64 = .ok (.aload_n 0, 1) := by decide +kernel
theorem dX0_figure_65 : decode cX0_figure 65 = .ok (.invokevirtual 61, 3) := by decide +kernel
theorem dX0_figure_68 : decode cX0_figure 68 = .ok (.ireturn, 1) := by decide +kernel
theorem dX0_figure_69 : decode cX0_figure 69 = .ok (.aload_n 0, 1) := by decide +kernel
theorem dX0_figure_70 : decode cX0_figure 70 = .ok (.getfield 45, 3) := by decide +kernel
theorem dX0_figure_73 : decode cX0_figure 73 = .ok (.ireturn, 1) := by decide +kernel
theorem dX0_figure_74 : decode cX0_figure 74 = .ok (.aload_n 0, 1) := by decide +kernel
theorem dX0_figure_75 : decode cX0_figure 75 = .ok (.invokevirtual 64, 3) := by decide +kernel
theorem dX0_figure_78 : decode cX0_figure 78 = .ok (.ireturn, 1) := by decide +kernel
theorem dX0_figure_79 : decode cX0_figure 79 = .ok (.aload_n 0, 1) := by decide +kernel
theorem dX0_figure_80 : decode cX0_figure 80 = .ok (.invokevirtual 67, 3) := by decide +kernel
theorem dX0_figure_83 : decode cX0_figure 83 = .ok (.ireturn, 1) := by decide +kernel
set_option maxRecDepth 20000 in
theorem ggX0_drummers_X2_isDrumming : GoodIn wsX0_drummers wsX2_isDrumming := goodIn_r _ [7, 8, 16, 17, 18, 19, 20, 21, 22, 23, 24, 25, 26, 27, 28] (by decide +kernel) (by decide +kernel)
set_option maxRecDepth 20000 in
theorem gX0_drummers_X2_isDrumming : GoodIn wsX0_drummers (wsV RX0 70 RX2 yX2_isDrumming wsX2_isDrumming) := goodIn_app (goodIn_of _ (by decide +kernel)) ggX0_drummers_X2_isDrumming
theorem dX0_drummers_0 : decode cX0_drummers 0 = .ok (.iconst 0, 1) := by decide +kernel
theorem dX0_drummers_1 : decode cX0_drummers 1 = .ok (.istore_n 1, 1) := by decide +kernel
theorem dX0_drummers_2 : decode cX0_drummers 2 = .ok (.iconst 0, 1) := by decide +kernel
theorem dX0_drummers_3 : decode cX0_drummers 3 = .ok (.istore_n 2, 1) := by decide +kernel
theorem dX0_drummers_4 : decode cX0_drummers 4 = .ok (.iload_n 2, 1) := by decide +kernel
theorem dX0_drummers_5 : decode cX0_drummers 5 = .ok (.aload_n 0, 1) := by decide +kernel
theorem dX0_drummers_6 : decode cX0_drummers 6 = .ok (.getfield 25, 3) := by decide +kernel
theorem dX0_drummers_9 : decode cX0_drummers 9 = .ok (.if_icmp .ge 24, 3) := by decide +kernel
theorem dX0_drummers_12 : decode cX0_drummers 12 = .ok (.aload_n 0, 1) := by decide +kernel
theorem dX0_drummers_13 : decode cX0_drummers 13 = .ok (.getfield 11, 3) := by decide +kernel
theorem dX0_drummers_16 : decode cX0_drummers 16 = .ok (.iload_n 2, 1) := by decide +kernel
theorem dX0_drummers_17 : decode cX0_drummers 17 = .ok (.aaload, 1) := by decide +kernel
theorem dX0_drummers_18 : decode cX0_drummers 18 = .ok (.invokevirtual 70, 3) := by decide +kernel
theorem dX0_drummers_21 : decode cX0_drummers 21 = .ok (.ifCond .eq 6, 3) := by decide +kernel
theorem dX0_drummers_24 : decode cX0_drummers 24 = .ok (.iinc 1 1, 3) := by decide +kernel
theorem dX0_drummers_27 : decode cX0_drummers 27 = .ok (.iinc 2 1, 3) := by decide +kernel
theorem dX0_drummers_30 : decode cX0_drummers 30 = .ok (.goto (-26), 3) := by decide +kernel
theorem dX0_drummers_33 : decode cX0_drummers 33 = .ok (.iload_n 1, 1) := by decide +kernel
theorem dX0_drummers_34 : decode cX0_drummers 34 = .ok (.ireturn, 1) := by decide +kernel
theorem dX0_soundsInTheAir_0 : decode cX0_soundsInTheAir 0 = .ok (.iconst 0, 1) := by decide +kernel
theorem dX0_soundsInTheAir_1 : decode cX0_soundsInTheAir 1 = .ok (.istore_n 1, 1) := by decide +kernel
theorem dX0_soundsInTheAir_2 : decode cX0_soundsInTheAir 2 = .ok (.iconst 0, 1) := by decide +kernel
theorem dX0_soundsInTheAir_3 : decode cX0_soundsInTheAir 3 = .ok (.istore_n 2, 1) := by decide +kernel
theorem dX0_soundsInTheAir_4 : decode cX0_soundsInTheAir 4 = .ok (.iload_n 2, 1) := by decide +kernel
theorem dX0_soundsInTheAir_5 : decode cX0_soundsInTheAir 5 = .ok (.aload_n 0, 1) := by decide +kernel
theorem dX0_soundsInTheAir_6 : decode cX0_soundsInTheAir 6 = .ok (.getfield 25, 3) := by decide +kernel
theorem dX0_soundsInTheAir_9 : decode cX0_soundsInTheAir 9 = .ok (.if_icmp .ge 24, 3) := by decide +kernel
theorem dX0_soundsInTheAir_12 : decode cX0_soundsInTheAir 12 = .ok (.iload_n 1, 1) := by decide +kernel
theorem dX0_soundsInTheAir_13 : decode cX0_soundsInTheAir 13 = .ok (.aload_n 0, 1) := by decide +kernel
theorem dX0_soundsInTheAir_14 : decode cX0_soundsInTheAir 14 = .ok (.getfield 11, 3) := by decide +kernel
theorem dX0_soundsInTheAir_17 : decode cX0_soundsInTheAir 17 = .ok (.iload_n 2, 1) := by decide +kernel
theorem dX0_soundsInTheAir_18 : decode cX0_soundsInTheAir 18 = .ok (.aaload, 1) := by decide +kernel
theorem dX0_soundsInTheAir_19 : decode cX0_soundsInTheAir 19 = .ok (.getfield 74, 3) := by decide +kernel
theorem dX0_soundsInTheAir_22 : decode cX0_soundsInTheAir 22 = .ok (.getfield 78, 3) := by decide +kernel
theorem dX0_soundsInTheAir_25 : decode cX0_soundsInTheAir 25 = .ok (.iadd, 1) := by decide +kernel
theorem dX0_soundsInTheAir_26 : decode cX0_soundsInTheAir 26 = .ok (.istore_n 1, 1) := by decide +kernel
theorem dX0_soundsInTheAir_27 : decode cX0_soundsInTheAir 27 = .ok (.iinc 2 1, 3) := by decide +kernel
theorem dX0_soundsInTheAir_30 : decode cX0_soundsInTheAir 30 = .ok (.goto (-26), 3) := by decide +kernel
theorem dX0_soundsInTheAir_33 : decode cX0_soundsInTheAir 33 = .ok (.iload_n 1, 1) := by decide +kernel
theorem dX0_soundsInTheAir_34 : decode cX0_soundsInTheAir 34 = .ok (.ireturn, 1) := by decide +kernel
theorem dX0_soundsDrowned_0 : decode cX0_soundsDrowned 0 = .ok (.iconst 0, 1) := by decide +kernel
theorem dX0_soundsDrowned_1 : decode cX0_soundsDrowned 1 = .ok (.istore_n 1, 1) := by decide +kernel
theorem dX0_soundsDrowned_2 : decode cX0_soundsDrowned 2 = .ok (.iconst 0, 1) := by decide +kernel
theorem dX0_soundsDrowned_3 : decode cX0_soundsDrowned 3 = .ok (.istore_n 2, 1) := by decide +kernel
theorem dX0_soundsDrowned_4 : decode cX0_soundsDrowned 4 = .ok (.iload_n 2, 1) := by decide +kernel
theorem dX0_soundsDrowned_5 : decode cX0_soundsDrowned 5 = .ok (.aload_n 0, 1) := by decide +kernel
theorem dX0_soundsDrowned_6 : decode cX0_soundsDrowned 6 = .ok (.getfield 25, 3) := by decide +kernel
theorem dX0_soundsDrowned_9 : decode cX0_soundsDrowned 9 = .ok (.if_icmp .ge 21, 3) := by decide +kernel
theorem dX0_soundsDrowned_12 : decode cX0_soundsDrowned 12 = .ok (.iload_n 1, 1) := by decide +kernel
theorem dX0_soundsDrowned_13 : decode cX0_soundsDrowned 13 = .ok (.aload_n 0, 1) := by decide +kernel
theorem dX0_soundsDrowned_14 : decode cX0_soundsDrowned 14 = .ok (.getfield 11, 3) := by decide +kernel
theorem dX0_soundsDrowned_17 : decode cX0_soundsDrowned 17 = .ok (.iload_n 2, 1) := by decide +kernel
theorem dX0_soundsDrowned_18 : decode cX0_soundsDrowned 18 = .ok (.aaload, 1) := by decide +kernel
theorem dX0_soundsDrowned_19 : decode cX0_soundsDrowned 19 = .ok (.getfield 83, 3) := by decide +kernel
theorem dX0_soundsDrowned_22 : decode cX0_soundsDrowned 22 = .ok (.iadd, 1) := by decide +kernel
theorem dX0_soundsDrowned_23 : decode cX0_soundsDrowned 23 = .ok (.istore_n 1, 1) := by decide +kernel
theorem dX0_soundsDrowned_24 : decode cX0_soundsDrowned 24 = .ok (.iinc 2 1, 3) := by decide +kernel
theorem dX0_soundsDrowned_27 : decode cX0_soundsDrowned 27 = .ok (.goto (-23), 3) := by decide +kernel
theorem dX0_soundsDrowned_30 : decode cX0_soundsDrowned 30 = .ok (.iload_n 1, 1) := by decide +kernel
theorem dX0_soundsDrowned_31 : decode cX0_soundsDrowned 31 = .ok (.ireturn, 1) := by decide +kernel
set_option maxRecDepth 20000 in
theorem ggX0_knownPairs_X2_phrasesKnown : GoodIn wsX0_knownPairs wsX2_phrasesKnown := goodIn_r _ [7, 8, 9, 10, 6, 11, 12, 20, 21, 22, 23, 24, 25, 26, 27, 28, 29, 30, 31, 32] (by decide +kernel) (by decide +kernel)
set_option maxRecDepth 20000 in
theorem gX0_knownPairs_X2_phrasesKnown : GoodIn wsX0_knownPairs (wsV RX0 86 RX2 yX2_phrasesKnown wsX2_phrasesKnown) := goodIn_app (goodIn_of _ (by decide +kernel)) ggX0_knownPairs_X2_phrasesKnown
theorem dX0_knownPairs_0 : decode cX0_knownPairs 0 = .ok (.iconst 0, 1) := by decide +kernel
theorem dX0_knownPairs_1 : decode cX0_knownPairs 1 = .ok (.istore_n 1, 1) := by decide +kernel
theorem dX0_knownPairs_2 : decode cX0_knownPairs 2 = .ok (.iconst 0, 1) := by decide +kernel
theorem dX0_knownPairs_3 : decode cX0_knownPairs 3 = .ok (.istore_n 2, 1) := by decide +kernel
theorem dX0_knownPairs_4 : decode cX0_knownPairs 4 = .ok (.iload_n 2, 1) := by decide +kernel
theorem dX0_knownPairs_5 : decode cX0_knownPairs 5 = .ok (.aload_n 0, 1) := by decide +kernel
theorem dX0_knownPairs_6 : decode cX0_knownPairs 6 = .ok (.getfield 25, 3) := by decide +kernel
theorem dX0_knownPairs_9 : decode cX0_knownPairs 9 = .ok (.if_icmp .ge 21, 3) := by decide +kernel
theorem dX0_knownPairs_12 : decode cX0_knownPairs 12 = .ok (.iload_n 1, 1) := by decide +kernel
theorem dX0_knownPairs_13 : decode cX0_knownPairs 13 = .ok (.aload_n 0, 1) := by decide +kernel
theorem dX0_knownPairs_14 : decode cX0_knownPairs 14 = .ok (.getfield 11, 3) := by decide +kernel
theorem dX0_knownPairs_17 : decode cX0_knownPairs 17 = .ok (.iload_n 2, 1) := by decide +kernel
theorem dX0_knownPairs_18 : decode cX0_knownPairs 18 = .ok (.aaload, 1) := by decide +kernel
theorem dX0_knownPairs_19 : decode cX0_knownPairs 19 = .ok (.invokevirtual 86, 3) := by decide +kernel
theorem dX0_knownPairs_22 : decode cX0_knownPairs 22 = .ok (.iadd, 1) := by decide +kernel
theorem dX0_knownPairs_23 : decode cX0_knownPairs 23 = .ok (.istore_n 1, 1) := by decide +kernel
theorem dX0_knownPairs_24 : decode cX0_knownPairs 24 = .ok (.iinc 2 1, 3) := by decide +kernel
theorem dX0_knownPairs_27 : decode cX0_knownPairs 27 = .ok (.goto (-23), 3) := by decide +kernel
theorem dX0_knownPairs_30 : decode cX0_knownPairs 30 = .ok (.iload_n 1, 1) := by decide +kernel
theorem dX0_knownPairs_31 : decode cX0_knownPairs 31 = .ok (.ireturn, 1) := by decide +kernel
set_option maxRecDepth 20000 in
theorem ggX0_knowersOf_X2_isKnown : GoodIn wsX0_knowersOf wsX2_isKnown := goodIn_r _ [7, 8, 16, 17, 18, 19, 20, 21, 22, 23, 24, 25, 26, 27, 28] (by decide +kernel) (by decide +kernel)
set_option maxRecDepth 20000 in
theorem gX0_knowersOf_X2_isKnown : GoodIn wsX0_knowersOf (wsV RX0 89 RX2 yX2_isKnown wsX2_isKnown) := goodIn_app (goodIn_of _ (by decide +kernel)) ggX0_knowersOf_X2_isKnown
theorem dX0_knowersOf_0 : decode cX0_knowersOf 0 = .ok (.iconst 0, 1) := by decide +kernel
theorem dX0_knowersOf_1 : decode cX0_knowersOf 1 = .ok (.istore_n 2, 1) := by decide +kernel
theorem dX0_knowersOf_2 : decode cX0_knowersOf 2 = .ok (.iconst 0, 1) := by decide +kernel
theorem dX0_knowersOf_3 : decode cX0_knowersOf 3 = .ok (.istore_n 3, 1) := by decide +kernel
theorem dX0_knowersOf_4 : decode cX0_knowersOf 4 = .ok (.iload_n 3, 1) := by decide +kernel
theorem dX0_knowersOf_5 : decode cX0_knowersOf 5 = .ok (.aload_n 0, 1) := by decide +kernel
theorem dX0_knowersOf_6 : decode cX0_knowersOf 6 = .ok (.getfield 25, 3) := by decide +kernel
theorem dX0_knowersOf_9 : decode cX0_knowersOf 9 = .ok (.if_icmp .ge 25, 3) := by decide +kernel
theorem dX0_knowersOf_12 : decode cX0_knowersOf 12 = .ok (.aload_n 0, 1) := by decide +kernel
theorem dX0_knowersOf_13 : decode cX0_knowersOf 13 = .ok (.getfield 11, 3) := by decide +kernel
theorem dX0_knowersOf_16 : decode cX0_knowersOf 16 = .ok (.iload_n 3, 1) := by decide +kernel
theorem dX0_knowersOf_17 : decode cX0_knowersOf 17 = .ok (.aaload, 1) := by decide +kernel
theorem dX0_knowersOf_18 : decode cX0_knowersOf 18 = .ok (.iload_n 1, 1) := by decide +kernel
theorem dX0_knowersOf_19 : decode cX0_knowersOf 19 = .ok (.invokevirtual 89, 3) := by decide +kernel
theorem dX0_knowersOf_22 : decode cX0_knowersOf 22 = .ok (.ifCond .eq 6, 3) := by decide +kernel
theorem dX0_knowersOf_25 : decode cX0_knowersOf 25 = .ok (.iinc 2 1, 3) := by decide +kernel
theorem dX0_knowersOf_28 : decode cX0_knowersOf 28 = .ok (.iinc 3 1, 3) := by decide +kernel
theorem dX0_knowersOf_31 : decode cX0_knowersOf 31 = .ok (.goto (-27), 3) := by decide +kernel
theorem dX0_knowersOf_34 : decode cX0_knowersOf 34 = .ok (.iload_n 2, 1) := by decide +kernel
theorem dX0_knowersOf_35 : decode cX0_knowersOf 35 = .ok (.ireturn, 1) := by decide +kernel
set_option maxRecDepth 20000 in
theorem ggX0_hearersOf_X2_distanceTo : GoodIn wsX0_hearersOf wsX2_distanceTo := goodIn_r _ [7, 8, 9, 10, 11, 12, 13, 26, 27, 28, 29, 30, 31, 32, 33, 34, 35, 36, 37, 38] (by decide +kernel) (by decide +kernel)
set_option maxRecDepth 20000 in
theorem gX0_hearersOf_X2_distanceTo : GoodIn wsX0_hearersOf (wsV RX0 93 RX2 yX2_distanceTo wsX2_distanceTo) := goodIn_app (goodIn_of _ (by decide +kernel)) ggX0_hearersOf_X2_distanceTo
set_option maxRecDepth 20000 in
theorem ggX0_hearersOf_X2_isHeardAt : GoodIn wsX0_hearersOf wsX2_isHeardAt := goodIn_r _ [17, 18, 26, 27, 28, 29, 30, 31, 32, 33, 34, 35, 36, 37, 38] (by decide +kernel) (by decide +kernel)
set_option maxRecDepth 20000 in
theorem gX0_hearersOf_X2_isHeardAt : GoodIn wsX0_hearersOf (wsV RX0 97 RX2 yX2_isHeardAt wsX2_isHeardAt) := goodIn_app (goodIn_of _ (by decide +kernel)) ggX0_hearersOf_X2_isHeardAt
theorem dX0_hearersOf_0 : decode cX0_hearersOf 0 = .ok (.iconst 0, 1) := by decide +kernel
theorem dX0_hearersOf_1 : decode cX0_hearersOf 1 = .ok (.istore_n 2, 1) := by decide +kernel
theorem dX0_hearersOf_2 : decode cX0_hearersOf 2 = .ok (.iconst 0, 1) := by decide +kernel
theorem dX0_hearersOf_3 : decode cX0_hearersOf 3 = .ok (.istore_n 3, 1) := by decide +kernel
theorem dX0_hearersOf_4 : decode cX0_hearersOf 4 = .ok (.iload_n 3, 1) := by decide +kernel
theorem dX0_hearersOf_5 : decode cX0_hearersOf 5 = .ok (.aload_n 0, 1) := by decide +kernel
theorem dX0_hearersOf_6 : decode cX0_hearersOf 6 = .ok (.getfield 25, 3) := by decide +kernel
theorem dX0_hearersOf_9 : decode cX0_hearersOf 9 = .ok (.if_icmp .ge 71, 3) := by decide +kernel
theorem dX0_hearersOf_12 : decode cX0_hearersOf 12 = .ok (.iload_n 1, 1) := by decide +kernel
theorem dX0_hearersOf_13 : decode cX0_hearersOf 13 = .ok (.iload_n 3, 1) := by decide +kernel
theorem dX0_hearersOf_14 : decode cX0_hearersOf 14 = .ok (.ishr, 1) := by decide +kernel
theorem dX0_hearersOf_15 : decode cX0_hearersOf 15 = .ok (.iconst 1, 1) := by decide +kernel
theorem dX0_hearersOf_16 : decode cX0_hearersOf 16 = .ok (.iand, 1) := by decide +kernel
theorem dX0_hearersOf_17 : decode cX0_hearersOf 17 = .ok (.iconst 1, 1) := by decide +kernel
theorem dX0_hearersOf_18 : decode cX0_hearersOf 18 = .ok (.if_icmp .ne 56, 3) := by decide +kernel
theorem dX0_hearersOf_21 : decode cX0_hearersOf 21 = .ok (.iconst 0, 1) := by decide +kernel
theorem dX0_hearersOf_22 : decode cX0_hearersOf 22 = .ok (.istore 4, 2) := by decide +kernel
theorem dX0_hearersOf_24 : decode cX0_hearersOf 24 = .ok (.iload 4, 2) := by decide +kernel
theorem dX0_hearersOf_26 : decode cX0_hearersOf 26 = .ok (.aload_n 0, 1) := by decide +kernel
theorem dX0_hearersOf_27 : decode cX0_hearersOf 27 = .ok (.getfield 25, 3) := by decide +kernel
theorem dX0_hearersOf_30 : decode cX0_hearersOf 30 = .ok (.if_icmp .ge 44, 3) := by decide +kernel
theorem dX0_hearersOf_33 : decode cX0_hearersOf 33 = .ok (.aload_n 0, 1) := by decide +kernel
theorem dX0_hearersOf_34 : decode cX0_hearersOf 34 = .ok (.getfield 11, 3) := by decide +kernel
theorem dX0_hearersOf_37 : decode cX0_hearersOf 37 = .ok (.iload_n 3, 1) := by decide +kernel
theorem dX0_hearersOf_38 : decode cX0_hearersOf 38 = .ok (.aaload, 1) := by decide +kernel
theorem dX0_hearersOf_39 : decode cX0_hearersOf 39 = .ok (.aload_n 0, 1) := by decide +kernel
theorem dX0_hearersOf_40 : decode cX0_hearersOf 40 = .ok (.getfield 11, 3) := by decide +kernel
theorem dX0_hearersOf_43 : decode cX0_hearersOf 43 = .ok (.iload_n 3, 1) := by decide +kernel
theorem dX0_hearersOf_44 : decode cX0_hearersOf 44 = .ok (.aaload, 1) := by decide +kernel
theorem dX0_hearersOf_45 : decode cX0_hearersOf 45 = .ok (.aload_n 0, 1) := by decide +kernel
theorem dX0_hearersOf_46 : decode cX0_hearersOf 46 = .ok (.getfield 11, 3) := by decide +kernel
theorem dX0_hearersOf_49 : decode cX0_hearersOf 49 = .ok (.iload 4, 2) := by decide +kernel
theorem dX0_hearersOf_51 : decode cX0_hearersOf 51 = .ok (.aaload, 1) := by decide +kernel
theorem dX0_hearersOf_52 : decode cX0_hearersOf 52 = .ok (.invokevirtual 93, 3) := by decide +kernel
theorem dX0_hearersOf_55 : decode cX0_hearersOf 55 = .ok (.invokevirtual 97, 3) := by decide +kernel
theorem dX0_hearersOf_58 : decode cX0_hearersOf 58 = .ok (.ifCond .eq 10, 3) := by decide +kernel
theorem dX0_hearersOf_61 : decode cX0_hearersOf 61 = .ok (.iload_n 2, 1) := by decide +kernel
theorem dX0_hearersOf_62 : decode cX0_hearersOf 62 = .ok (.iconst 1, 1) := by decide +kernel
theorem dX0_hearersOf_63 : decode cX0_hearersOf 63 = .ok (.iload 4, 2) := by decide +kernel
theorem dX0_hearersOf_65 : decode cX0_hearersOf 65 = .ok (.ishl, 1) := by decide +kernel
theorem dX0_hearersOf_66 : decode cX0_hearersOf 66 = .ok (.ior, 1) := by decide +kernel
theorem dX0_hearersOf_67 : decode cX0_hearersOf 67 = .ok (.istore_n 2, 1) := by decide +kernel
theorem dX0_hearersOf_68 : decode cX0_hearersOf 68 = .ok (.iinc 4 1, 3) := by decide +kernel
theorem dX0_hearersOf_71 : decode cX0_hearersOf 71 = .ok (.goto (-47), 3) := by decide +kernel
theorem dX0_hearersOf_74 : decode cX0_hearersOf 74 = .ok (.iinc 3 1, 3) := by decide +kernel
theorem dX0_hearersOf_77 : decode cX0_hearersOf 77 = .ok (.goto (-73), 3) := by decide +kernel
theorem dX0_hearersOf_80 : decode cX0_hearersOf 80 = .ok (.iload_n 2, 1) := by decide +kernel
theorem dX0_hearersOf_81 : decode cX0_hearersOf 81 = .ok (.ireturn, 1) := by decide +kernel
set_option maxRecDepth 20000 in
theorem ggX0_letGo_X0_isQuiet : GoodIn wsX0_letGo wsX0_isQuiet := goodIn_r _ [6, 7, 8, 9, 10, 11, 12, 13, 14, 15, 16, 17, 122, 123, 124, 125, 126, 127, 128, 129, 130, 131, 132, 133, 134, 135, 136, 137, 138, 139, 140, 141, 142, 143, 144, 145, 146] (by decide +kernel) (by decide +kernel)
set_option maxRecDepth 20000 in
theorem gX0_letGo_X0_isQuiet : GoodIn wsX0_letGo (wsV RX0 100 RX0 yX0_isQuiet wsX0_isQuiet) := goodIn_app (goodIn_of _ (by decide +kernel)) ggX0_letGo_X0_isQuiet
set_option maxRecDepth 20000 in
theorem ggX0_letGo_X0_goBeat : GoodIn wsX0_letGo wsX0_goBeat := goodIn_r _ [21, 7, 8, 1, 22, 23, 24, 15, 25, 26, 27, 13, 14, 16, 17, 28, 29, 30, 31, 32, 33, 34, 35, 36, 37, 38, 39, 40, 5, 41, 42, 43, 44, 45, 46, 10, 47, 48, 49, 50, 51, 52, 53, 54, 55, 56, 57, 58, 59, 60, 61, 62, 63, 64, 65, 66, 67, 68, 69, 70, 71, 72, 73, 74, 75, 76, 77, 78, 79, 80, 81, 82, 83, 84, 85, 86, 87, 88, 89, 90, 91, 92, 93, 94, 95, 96, 97, 98, 99, 100, 101, 102, 103, 104, 105, 106, 107, 108, 109, 110, 111, 112, 113, 114, 115, 116, 117, 118, 119, 120, 121, 122, 123, 124, 125, 126, 127, 128, 129, 130, 131, 132, 133, 134, 135, 136, 137, 138, 139, 140, 141, 142, 143, 144, 145, 146] (by decide +kernel) (by decide +kernel)
set_option maxRecDepth 20000 in
theorem gX0_letGo_X0_goBeat : GoodIn wsX0_letGo (wsV RX0 103 RX0 yX0_goBeat wsX0_goBeat) := goodIn_app (goodIn_of _ (by decide +kernel)) ggX0_letGo_X0_goBeat
theorem dX0_letGo_0 : decode cX0_letGo 0 = .ok (.iconst 0, 1) := by decide +kernel
theorem dX0_letGo_1 : decode cX0_letGo 1 = .ok (.istore_n 2, 1) := by decide +kernel
theorem dX0_letGo_2 : decode cX0_letGo 2 = .ok (.iconst 0, 1) := by decide +kernel
theorem dX0_letGo_3 : decode cX0_letGo 3 = .ok (.istore_n 3, 1) := by decide +kernel
theorem dX0_letGo_4 : decode cX0_letGo 4 = .ok (.iload_n 3, 1) := by decide +kernel
theorem dX0_letGo_5 : decode cX0_letGo 5 = .ok (.iload_n 1, 1) := by decide +kernel
theorem dX0_letGo_6 : decode cX0_letGo 6 = .ok (.if_icmp .ge 37, 3) := by decide +kernel
theorem dX0_letGo_9 : decode cX0_letGo 9 = .ok (.aload_n 0, 1) := by decide +kernel
theorem dX0_letGo_10 : decode cX0_letGo 10 = .ok (.invokevirtual 100, 3) := by decide +kernel
theorem dX0_letGo_13 : decode cX0_letGo 13 = .ok (.ifCond .eq 17, 3) := by decide +kernel
theorem dX0_letGo_16 : decode cX0_letGo 16 = .ok (.aload_n 0, 1) := by decide +kernel
theorem dX0_letGo_17 : decode cX0_letGo 17 = .ok (.dup, 1) := by decide +kernel
theorem dX0_letGo_18 : decode cX0_letGo 18 = .ok (.getfield 42, 3) := by decide +kernel
theorem dX0_letGo_21 : decode cX0_letGo 21 = .ok (.iload_n 1, 1) := by decide +kernel
theorem dX0_letGo_22 : decode cX0_letGo 22 = .ok (.iload_n 3, 1) := by decide +kernel
theorem dX0_letGo_23 : decode cX0_letGo 23 = .ok (.isub, 1) := by decide +kernel
theorem dX0_letGo_24 : decode cX0_letGo 24 = .ok (.iadd, 1) := by decide +kernel
theorem dX0_letGo_25 : decode cX0_letGo 25 = .ok (.putfield 42, 3) := by decide +kernel
theorem dX0_letGo_28 : decode cX0_letGo 28 = .ok (.iload_n 2, 1) := by decide +kernel
theorem dX0_letGo_29 : decode cX0_letGo 29 = .ok (.ireturn, 1) := by decide +kernel
theorem dX0_letGo_30 : decode cX0_letGo 30 = .ok (.iload_n 2, 1) := by decide +kernel
theorem dX0_letGo_31 : decode cX0_letGo 31 = .ok (.aload_n 0, 1) := by decide +kernel
theorem dX0_letGo_32 : decode cX0_letGo 32 = .ok (.invokevirtual 103, 3) := by decide +kernel
theorem dX0_letGo_35 : decode cX0_letGo 35 = .ok (.iadd, 1) := by decide +kernel
theorem dX0_letGo_36 : decode cX0_letGo 36 = .ok (.istore_n 2, 1) := by decide +kernel
theorem dX0_letGo_37 : decode cX0_letGo 37 = .ok (.iinc 3 1, 3) := by decide +kernel
theorem dX0_letGo_40 : decode cX0_letGo 40 = .ok (.goto (-36), 3) := by decide +kernel
theorem dX0_letGo_43 : decode cX0_letGo 43 = .ok (.iload_n 2, 1) := by decide +kernel
theorem dX0_letGo_44 : decode cX0_letGo 44 = .ok (.ireturn, 1) := by decide +kernel
set_option maxRecDepth 20000 in
theorem ggX0_isQuiet_X2_isDrumming : GoodIn wsX0_isQuiet wsX2_isDrumming := goodIn_r _ [10, 11, 19, 20, 21, 22, 23, 24, 25, 26, 27, 28, 29, 30, 31] (by decide +kernel) (by decide +kernel)
set_option maxRecDepth 20000 in
theorem gX0_isQuiet_X2_isDrumming : GoodIn wsX0_isQuiet (wsV RX0 70 RX2 yX2_isDrumming wsX2_isDrumming) := goodIn_app (goodIn_of _ (by decide +kernel)) ggX0_isQuiet_X2_isDrumming
theorem dX0_isQuiet_0 : decode cX0_isQuiet 0 = .ok (.iconst 0, 1) := by decide +kernel
theorem dX0_isQuiet_1 : decode cX0_isQuiet 1 = .ok (.istore_n 1, 1) := by decide +kernel
theorem dX0_isQuiet_2 : decode cX0_isQuiet 2 = .ok (.iload_n 1, 1) := by decide +kernel
theorem dX0_isQuiet_3 : decode cX0_isQuiet 3 = .ok (.aload_n 0, 1) := by decide +kernel
theorem dX0_isQuiet_4 : decode cX0_isQuiet 4 = .ok (.getfield 25, 3) := by decide +kernel
theorem dX0_isQuiet_7 : decode cX0_isQuiet 7 = .ok (.if_icmp .ge 42, 3) := by decide +kernel
theorem dX0_isQuiet_10 : decode cX0_isQuiet 10 = .ok (.aload_n 0, 1) := by decide +kernel
theorem dX0_isQuiet_11 : decode cX0_isQuiet 11 = .ok (.getfield 11, 3) := by decide +kernel
theorem dX0_isQuiet_14 : decode cX0_isQuiet 14 = .ok (.iload_n 1, 1) := by decide +kernel
theorem dX0_isQuiet_15 : decode cX0_isQuiet 15 = .ok (.aaload, 1) := by decide +kernel
theorem dX0_isQuiet_16 : decode cX0_isQuiet 16 = .ok (.astore_n 2, 1) := by decide +kernel
theorem dX0_isQuiet_17 : decode cX0_isQuiet 17 = .ok (.aload_n 2, 1) := by decide +kernel
theorem dX0_isQuiet_18 : decode cX0_isQuiet 18 = .ok (.invokevirtual 70, 3) := by decide +kernel
theorem dX0_isQuiet_21 : decode cX0_isQuiet 21 = .ok (.ifCond .ne 20, 3) := by decide +kernel
theorem dX0_isQuiet_24 : decode cX0_isQuiet 24 = .ok (.aload_n 2, 1) := by decide +kernel
theorem dX0_isQuiet_25 : decode cX0_isQuiet 25 = .ok (.getfield 106, 3) := by decide +kernel
theorem dX0_isQuiet_28 : decode cX0_isQuiet 28 = .ok (.ifCond .gt 13, 3) := by decide +kernel
theorem dX0_isQuiet_31 : decode cX0_isQuiet 31 = .ok (.aload_n 2, 1) := by decide +kernel
theorem dX0_isQuiet_32 : decode cX0_isQuiet 32 = .ok (.getfield 74, 3) := by decide +kernel
theorem dX0_isQuiet_35 : decode cX0_isQuiet 35 = .ok (.getfield 78, 3) := by decide +kernel
theorem dX0_isQuiet_38 : decode cX0_isQuiet 38 = .ok (.ifCond .le 5, 3) := by decide +kernel
theorem dX0_isQuiet_41 : decode cX0_isQuiet 41 = .ok (.iconst 0, 1) := by decide +kernel
theorem dX0_isQuiet_42 : decode cX0_isQuiet 42 = .ok (.ireturn, 1) := by decide +kernel
theorem dX0_isQuiet_43 : decode cX0_isQuiet 43 = .ok (.iinc 1 1, 3) := by decide +kernel
theorem dX0_isQuiet_46 : decode cX0_isQuiet 46 = .ok (.goto (-44), 3) := by decide +kernel
theorem dX0_isQuiet_49 : decode cX0_isQuiet 49 = .ok (.iconst 1, 1) := by decide +kernel
theorem dX0_isQuiet_50 : decode cX0_isQuiet 50 = .ok (.ireturn, 1) := by decide +kernel
set_option maxRecDepth 20000 in
theorem ggX0_goBeat_X2_isReady : GoodIn wsX0_goBeat wsX2_isReady := goodIn_r _ [8, 9, 10, 11, 12, 7, 13, 14, 15, 16, 17, 18, 19, 20, 21, 22, 23, 24, 118, 119, 120, 121, 122, 123, 124, 125, 126, 127, 128, 129, 130] (by decide +kernel) (by decide +kernel)
set_option maxRecDepth 20000 in
theorem gX0_goBeat_X2_isReady : GoodIn wsX0_goBeat (wsV RX0 109 RX2 yX2_isReady wsX2_isReady) := goodIn_app (goodIn_of _ (by decide +kernel)) ggX0_goBeat_X2_isReady
set_option maxRecDepth 20000 in
theorem ggX0_goBeat_X0_beginDrumming : GoodIn wsX0_goBeat wsX0_beginDrumming := goodIn_r _ [29, 2, 30, 31, 32, 33, 34, 1, 3, 35, 36, 37, 38, 39, 7, 40, 9, 41, 42, 43, 44, 45, 46, 47, 48, 49, 50, 51, 52, 53, 54, 55, 56, 57, 58, 59, 60, 61, 62, 63, 64, 65, 66, 67, 68, 69, 70, 111, 112, 113, 114, 115, 116, 117, 118, 119, 120, 121, 122, 123, 124, 125, 126, 127, 128, 129, 130, 131, 132, 133, 134, 135] (by decide +kernel) (by decide +kernel)
set_option maxRecDepth 20000 in
theorem gX0_goBeat_X0_beginDrumming : GoodIn wsX0_goBeat (wsV RX0 112 RX0 yX0_beginDrumming wsX0_beginDrumming) := goodIn_app (goodIn_of _ (by decide +kernel)) ggX0_goBeat_X0_beginDrumming
set_option maxRecDepth 20000 in
theorem ggX0_goBeat_X2_drownIfDisturbed : GoodIn wsX0_goBeat wsX2_drownIfDisturbed := goodIn_r _ [74, 75, 15, 16, 17, 7, 18, 19, 20, 21, 22, 23, 24, 10, 11, 12, 13, 14, 76, 77, 78, 64, 79, 66, 68, 80, 81, 82, 83, 70, 118, 119, 120, 121, 122, 123, 124, 125, 126, 127, 128, 129, 130, 131, 132, 133, 134, 135] (by decide +kernel) (by decide +kernel)
set_option maxRecDepth 20000 in
theorem gX0_goBeat_X2_drownIfDisturbed : GoodIn wsX0_goBeat (wsV RX0 116 RX2 yX2_drownIfDisturbed wsX2_drownIfDisturbed) := goodIn_app (goodIn_of _ (by decide +kernel)) ggX0_goBeat_X2_drownIfDisturbed
set_option maxRecDepth 20000 in
theorem ggX0_goBeat_X2_endSounds : GoodIn wsX0_goBeat wsX2_endSounds := goodIn_r _ [87, 75, 88, 89, 90, 91, 92, 93, 94, 95, 64, 96, 66, 67, 68, 69, 70, 97, 98, 99, 7, 100, 101, 102, 103, 104, 105, 9, 41, 118, 119, 120, 121, 122, 123, 124, 125, 126, 127, 128, 129, 130, 131, 132, 133, 134, 135] (by decide +kernel) (by decide +kernel)
set_option maxRecDepth 20000 in
theorem gX0_goBeat_X2_endSounds : GoodIn wsX0_goBeat (wsV RX0 119 RX2 yX2_endSounds wsX2_endSounds) := goodIn_app (goodIn_of _ (by decide +kernel)) ggX0_goBeat_X2_endSounds
set_option maxRecDepth 20000 in
theorem ggX0_goBeat_X2_endDrumBeat : GoodIn wsX0_goBeat wsX2_endDrumBeat := goodIn_r _ [109, 110, 14, 10, 11, 12, 7, 13, 118, 119, 120, 121, 122, 123, 124, 125, 126, 127, 128, 129, 130] (by decide +kernel) (by decide +kernel)
set_option maxRecDepth 20000 in
theorem gX0_goBeat_X2_endDrumBeat : GoodIn wsX0_goBeat (wsV RX0 123 RX2 yX2_endDrumBeat wsX2_endDrumBeat) := goodIn_app (goodIn_of _ (by decide +kernel)) ggX0_goBeat_X2_endDrumBeat
theorem dX0_goBeat_0 : decode cX0_goBeat 0 = .ok (.iconst 0, 1) := by decide +kernel
theorem dX0_goBeat_1 : decode cX0_goBeat 1 = .ok (.istore_n 1, 1) := by decide +kernel
theorem dX0_goBeat_2 : decode cX0_goBeat 2 = .ok (.iload_n 1, 1) := by decide +kernel
theorem dX0_goBeat_3 : decode cX0_goBeat 3 = .ok (.aload_n 0, 1) := by decide +kernel
theorem dX0_goBeat_4 : decode cX0_goBeat 4 = .ok (.getfield 25, 3) := by decide +kernel
theorem dX0_goBeat_7 : decode cX0_goBeat 7 = .ok (.if_icmp .ge 30, 3) := by decide +kernel
theorem dX0_goBeat_10 : decode cX0_goBeat 10 = .ok (.aload_n 0, 1) := by decide +kernel
theorem dX0_goBeat_11 : decode cX0_goBeat 11 = .ok (.getfield 11, 3) := by decide +kernel
theorem dX0_goBeat_14 : decode cX0_goBeat 14 = .ok (.iload_n 1, 1) := by decide +kernel
theorem dX0_goBeat_15 : decode cX0_goBeat 15 = .ok (.aaload, 1) := by decide +kernel
theorem dX0_goBeat_16 : decode cX0_goBeat 16 = .ok (.aload_n 0, 1) := by decide +kernel
theorem dX0_goBeat_17 : decode cX0_goBeat 17 = .ok (.getfield 42, 3) := by decide +kernel
theorem dX0_goBeat_20 : decode cX0_goBeat 20 = .ok (.invokevirtual 109, 3) := by decide +kernel
theorem dX0_goBeat_23 : decode cX0_goBeat 23 = .ok (.ifCond .eq 8, 3) := by decide +kernel
theorem dX0_goBeat_26 : decode cX0_goBeat 26 = .ok (.aload_n 0, 1) := by decide +kernel
theorem dX0_goBeat_27 : decode cX0_goBeat 27 = .ok (.iload_n 1, 1) := by decide +kernel
theorem dX0_goBeat_28 : decode cX0_goBeat 28 = .ok (.invokevirtual 112, 3) := by decide +kernel
theorem dX0_goBeat_31 : decode cX0_goBeat 31 = .ok (.iinc 1 1, 3) := by decide +kernel
theorem dX0_goBeat_34 : decode cX0_goBeat 34 = .ok (.goto (-32), 3) := by decide +kernel
theorem dX0_goBeat_37 : decode cX0_goBeat 37 = .ok (.iconst 0, 1) := by decide +kernel
theorem dX0_goBeat_38 : decode cX0_goBeat 38 = .ok (.istore_n 1, 1) := by decide +kernel
theorem dX0_goBeat_39 : decode cX0_goBeat 39 = .ok (.iload_n 1, 1) := by decide +kernel
theorem dX0_goBeat_40 : decode cX0_goBeat 40 = .ok (.aload_n 0, 1) := by decide +kernel
theorem dX0_goBeat_41 : decode cX0_goBeat 41 = .ok (.getfield 25, 3) := by decide +kernel
theorem dX0_goBeat_44 : decode cX0_goBeat 44 = .ok (.if_icmp .ge 22, 3) := by decide +kernel
theorem dX0_goBeat_47 : decode cX0_goBeat 47 = .ok (.aload_n 0, 1) := by decide +kernel
theorem dX0_goBeat_48 : decode cX0_goBeat 48 = .ok (.getfield 11, 3) := by decide +kernel
theorem dX0_goBeat_51 : decode cX0_goBeat 51 = .ok (.iload_n 1, 1) := by decide +kernel
theorem dX0_goBeat_52 : decode cX0_goBeat 52 = .ok (.aaload, 1) := by decide +kernel
theorem dX0_goBeat_53 : decode cX0_goBeat 53 = .ok (.aload_n 0, 1) := by decide +kernel
theorem dX0_goBeat_54 : decode cX0_goBeat 54 = .ok (.getfield 42, 3) := by decide +kernel
theorem dX0_goBeat_57 : decode cX0_goBeat 57 = .ok (.invokevirtual 116, 3) := by decide +kernel
theorem dX0_goBeat_60 : decode cX0_goBeat 60 = .ok (.iinc 1 1, 3) := by decide +kernel
theorem dX0_goBeat_63 : decode cX0_goBeat 63 = .ok (.goto (-24), 3) := by decide +kernel
theorem dX0_goBeat_66 : decode cX0_goBeat 66 = .ok (.iconst 0, 1) := by decide +kernel
theorem dX0_goBeat_67 : decode cX0_goBeat 67 = .ok (.istore_n 1, 1) := by decide +kernel
theorem dX0_goBeat_68 : decode cX0_goBeat 68 = .ok (.iconst 0, 1) := by decide +kernel
theorem dX0_goBeat_69 : decode cX0_goBeat 69 = .ok (.istore_n 2, 1) := by decide +kernel
theorem dX0_goBeat_70 : decode cX0_goBeat 70 = .ok (.iload_n 2, 1) := by decide +kernel
theorem dX0_goBeat_71 : decode cX0_goBeat 71 = .ok (.aload_n 0, 1) := by decide +kernel
theorem dX0_goBeat_72 : decode cX0_goBeat 72 = .ok (.getfield 25, 3) := by decide +kernel
theorem dX0_goBeat_75 : decode cX0_goBeat 75 = .ok (.if_icmp .ge 25, 3) := by decide +kernel
theorem dX0_goBeat_78 : decode cX0_goBeat 78 = .ok (.iload_n 1, 1) := by decide +kernel
theorem dX0_goBeat_79 : decode cX0_goBeat 79 = .ok (.aload_n 0, 1) := by decide +kernel
theorem dX0_goBeat_80 : decode cX0_goBeat 80 = .ok (.getfield 11, 3) := by decide +kernel
theorem dX0_goBeat_83 : decode cX0_goBeat 83 = .ok (.iload_n 2, 1) := by decide +kernel
theorem dX0_goBeat_84 : decode cX0_goBeat 84 = .ok (.aaload, 1) := by decide +kernel
theorem dX0_goBeat_85 : decode cX0_goBeat 85 = .ok (.aload_n 0, 1) := by decide +kernel
theorem dX0_goBeat_86 : decode cX0_goBeat 86 = .ok (.getfield 42, 3) := by decide +kernel
theorem dX0_goBeat_89 : decode cX0_goBeat 89 = .ok (.invokevirtual 119, 3) := by decide +kernel
theorem dX0_goBeat_92 : decode cX0_goBeat 92 = .ok (.iadd, 1) := by decide +kernel
theorem dX0_goBeat_93 : decode cX0_goBeat 93 = .ok (.istore_n 1, 1) := by decide +kernel
theorem dX0_goBeat_94 : decode cX0_goBeat 94 = .ok (.iinc 2 1, 3) := by decide +kernel
theorem dX0_goBeat_97 : decode cX0_goBeat 97 = .ok (.goto (-27), 3) := by decide +kernel
theorem dX0_goBeat_100 : decode cX0_goBeat 100 = .ok (.iconst 0, 1) := by decide +kernel
theorem dX0_goBeat_101 : decode cX0_goBeat 101 = .ok (.istore_n 2, 1) := by decide +kernel
theorem dX0_goBeat_102 : decode cX0_goBeat 102 = .ok (.iload_n 2, 1) := by decide +kernel
theorem dX0_goBeat_103 : decode cX0_goBeat 103 = .ok (.aload_n 0, 1) := by decide +kernel
theorem dX0_goBeat_104 : decode cX0_goBeat 104 = .ok (.getfield 25, 3) := by decide +kernel
theorem dX0_goBeat_107 : decode cX0_goBeat 107 = .ok (.if_icmp .ge 18, 3) := by decide +kernel
theorem dX0_goBeat_110 : decode cX0_goBeat 110 = .ok (.aload_n 0, 1) := by decide +kernel
theorem dX0_goBeat_111 : decode cX0_goBeat 111 = .ok (.getfield 11, 3) := by decide +kernel
theorem dX0_goBeat_114 : decode cX0_goBeat 114 = .ok (.iload_n 2, 1) := by decide +kernel
theorem dX0_goBeat_115 : decode cX0_goBeat 115 = .ok (.aaload, 1) := by decide +kernel
theorem dX0_goBeat_116 : decode cX0_goBeat 116 = .ok (.invokevirtual 123, 3) := by decide +kernel
theorem dX0_goBeat_119 : decode cX0_goBeat 119 = .ok (.iinc 2 1, 3) := by decide +kernel
theorem dX0_goBeat_122 : decode cX0_goBeat 122 = .ok (.goto (-20), 3) := by decide +kernel
theorem dX0_goBeat_125 : decode cX0_goBeat 125 = .ok (.aload_n 0, 1) := by decide +kernel
theorem dX0_goBeat_126 : decode cX0_goBeat 126 = .ok (.dup, 1) := by decide +kernel
theorem dX0_goBeat_127 : decode cX0_goBeat 127 = .ok (.getfield 42, 3) := by decide +kernel
theorem dX0_goBeat_130 : decode cX0_goBeat 130 = .ok (.iconst 1, 1) := by decide +kernel
theorem dX0_goBeat_131 : decode cX0_goBeat 131 = .ok (.iadd, 1) := by decide +kernel
theorem dX0_goBeat_132 : decode cX0_goBeat 132 = .ok (.putfield 42, 3) := by decide +kernel
theorem dX0_goBeat_135 : decode cX0_goBeat 135 = .ok (.iload_n 1, 1) := by decide +kernel
theorem dX0_goBeat_136 : decode cX0_goBeat 136 = .ok (.ireturn, 1) := by decide +kernel
set_option maxRecDepth 20000 in
theorem ggX0_beginDrumming_X2_takeFromQueue : GoodIn wsX0_beginDrumming wsX2_takeFromQueue := goodIn_r _ [15, 16, 17, 18, 19, 20, 21, 54, 55, 56, 57, 58, 59, 60, 61, 62, 63, 64, 65, 66] (by decide +kernel) (by decide +kernel)
set_option maxRecDepth 20000 in
theorem gX0_beginDrumming_X2_takeFromQueue : GoodIn wsX0_beginDrumming (wsV RX0 126 RX2 yX2_takeFromQueue wsX2_takeFromQueue) := goodIn_app (goodIn_of _ (by decide +kernel)) ggX0_beginDrumming_X2_takeFromQueue
set_option maxRecDepth 20000 in
theorem ggX0_beginDrumming_X2_distanceTo : GoodIn wsX0_beginDrumming wsX2_distanceTo := goodIn_r _ [25, 26, 27, 28, 29, 30, 31, 54, 55, 56, 57, 58, 59, 60, 61, 62, 63, 64, 65, 66] (by decide +kernel) (by decide +kernel)
set_option maxRecDepth 20000 in
theorem gX0_beginDrumming_X2_distanceTo : GoodIn wsX0_beginDrumming (wsV RX0 93 RX2 yX2_distanceTo wsX2_distanceTo) := goodIn_app (goodIn_of _ (by decide +kernel)) ggX0_beginDrumming_X2_distanceTo
set_option maxRecDepth 20000 in
theorem ggX0_beginDrumming_X2_isHeardAt : GoodIn wsX0_beginDrumming wsX2_isHeardAt := goodIn_r _ [35, 36, 54, 55, 56, 57, 58, 59, 60, 61, 62, 63, 64, 65, 66] (by decide +kernel) (by decide +kernel)
set_option maxRecDepth 20000 in
theorem gX0_beginDrumming_X2_isHeardAt : GoodIn wsX0_beginDrumming (wsV RX0 97 RX2 yX2_isHeardAt wsX2_isHeardAt) := goodIn_app (goodIn_of _ (by decide +kernel)) ggX0_beginDrumming_X2_isHeardAt
set_option maxRecDepth 20000 in
theorem ggX0_beginDrumming_X1_add : GoodIn wsX0_beginDrumming wsX1_add := goodIn_r _ [41, 42, 43, 44, 45, 46, 67, 68, 69, 70, 71] (by decide +kernel) (by decide +kernel)
set_option maxRecDepth 20000 in
theorem gX0_beginDrumming_X1_add : GoodIn wsX0_beginDrumming (wsV RX0 135 RX1 yX1_add wsX1_add) := goodIn_app (goodIn_of _ (by decide +kernel)) ggX0_beginDrumming_X1_add
theorem dX0_beginDrumming_0 : decode cX0_beginDrumming 0 = .ok (.aload_n 0, 1) := by decide +kernel
theorem dX0_beginDrumming_1 : decode cX0_beginDrumming 1 = .ok (.getfield 11, 3) := by decide +kernel
theorem dX0_beginDrumming_4 : decode cX0_beginDrumming 4 = .ok (.iload_n 1, 1) := by decide +kernel
theorem dX0_beginDrumming_5 : decode cX0_beginDrumming 5 = .ok (.aaload, 1) := by decide +kernel
theorem dX0_beginDrumming_6 : decode cX0_beginDrumming 6 = .ok (.astore_n 2, 1) := by decide +kernel
theorem dX0_beginDrumming_7 : decode cX0_beginDrumming 7 = .ok (.aload_n 2, 1) := by decide +kernel
theorem dX0_beginDrumming_8 : decode cX0_beginDrumming 8 = .ok (.invokevirtual 126, 3) := by decide +kernel
theorem dX0_beginDrumming_11 : decode cX0_beginDrumming 11 = .ok (.istore_n 3, 1) := by decide +kernel
theorem dX0_beginDrumming_12 : decode cX0_beginDrumming 12 = .ok (.iload_n 3, 1) := by decide +kernel
theorem dX0_beginDrumming_13 : decode cX0_beginDrumming 13 = .ok (.ifCond .lt 11, 3) := by decide +kernel
theorem dX0_beginDrumming_16 : decode cX0_beginDrumming 16 = .ok (.iload_n 3, 1) := by decide +kernel
theorem dX0_beginDrumming_17 : decode cX0_beginDrumming 17 = .ok (.aload_n 0, 1) := by decide +kernel
theorem dX0_beginDrumming_18 : decode cX0_beginDrumming 18 = .ok (.getfield 39, 3) := by decide +kernel
theorem dX0_beginDrumming_21 : decode cX0_beginDrumming 21 = .ok (.if_icmp .lt 4, 3) := by decide +kernel
theorem dX0_beginDrumming_24 : decode cX0_beginDrumming 24 = .ok (.return_, 1) := by decide +kernel
theorem dX0_beginDrumming_25 : decode cX0_beginDrumming 25 = .ok (.aload_n 0, 1) := by decide +kernel
theorem dX0_beginDrumming_26 : decode cX0_beginDrumming 26 = .ok (.getfield 21, 3) := by decide +kernel
theorem dX0_beginDrumming_29 : decode cX0_beginDrumming 29 = .ok (.iload_n 3, 1) := by decide +kernel
theorem dX0_beginDrumming_30 : decode cX0_beginDrumming 30 = .ok (.iaload, 1) := by decide +kernel
theorem dX0_beginDrumming_31 : decode cX0_beginDrumming 31 = .ok (.istore 4, 2) := by decide +kernel
theorem dX0_beginDrumming_33 : decode cX0_beginDrumming 33 = .ok (.aload_n 2, 1) := by decide +kernel
theorem dX0_beginDrumming_34 : decode cX0_beginDrumming 34 = .ok (.iload_n 3, 1) := by decide +kernel
theorem dX0_beginDrumming_35 : decode cX0_beginDrumming 35 = .ok (.putfield 129, 3) := by decide +kernel
theorem dX0_beginDrumming_38 : decode cX0_beginDrumming 38 = .ok (.aload_n 2, 1) := by decide +kernel
theorem dX0_beginDrumming_39 : decode cX0_beginDrumming 39 = .ok (.iload 4, 2) := by decide +kernel
theorem dX0_beginDrumming_41 : decode cX0_beginDrumming 41 = .ok (.putfield 132, 3) := by decide +kernel
theorem dX0_beginDrumming_44 : decode cX0_beginDrumming 44 = .ok (.aload_n 0, 1) := by decide +kernel
theorem dX0_beginDrumming_45 : decode cX0_beginDrumming 45 = .ok (.dup, 1) := by decide +kernel
theorem dX0_beginDrumming_46 : decode cX0_beginDrumming 46 = .ok (.getfield 45, 3) := by decide +kernel
theorem dX0_beginDrumming_49 : decode cX0_beginDrumming 49 = .ok (.iconst 1, 1) := by decide +kernel
theorem dX0_beginDrumming_50 : decode cX0_beginDrumming 50 = .ok (.iadd, 1) := by decide +kernel
theorem dX0_beginDrumming_51 : decode cX0_beginDrumming 51 = .ok (.putfield 45, 3) := by decide +kernel
theorem dX0_beginDrumming_54 : decode cX0_beginDrumming 54 = .ok (.iconst 0, 1) := by decide +kernel
theorem dX0_beginDrumming_55 : decode cX0_beginDrumming 55 = .ok (.istore 5, 2) := by decide +kernel
theorem dX0_beginDrumming_57 : decode cX0_beginDrumming 57 = .ok (.iload 5, 2) := by decide +kernel
theorem dX0_beginDrumming_59 : decode cX0_beginDrumming 59 = .ok (.aload_n 0, 1) := by decide +kernel
theorem dX0_beginDrumming_60 : decode cX0_beginDrumming 60 = .ok (.getfield 25, 3) := by decide +kernel
theorem dX0_beginDrumming_63 : decode cX0_beginDrumming 63 = .ok (.if_icmp .ge 89, 3) := by decide +kernel
theorem dX0_beginDrumming_66 : decode cX0_beginDrumming 66 = .ok (.aload_n 0, 1) := by decide +kernel
theorem dX0_beginDrumming_67 : decode cX0_beginDrumming 67 = .ok (.getfield 11, 3) := by decide +kernel
theorem dX0_beginDrumming_70 : decode cX0_beginDrumming 70 = .ok (.iload 5, 2) := by decide +kernel
theorem dX0_beginDrumming_72 : decode cX0_beginDrumming 72 = .ok (.aaload, 1) := by decide +kernel
theorem dX0_beginDrumming_73 : decode cX0_beginDrumming 73 = .ok (.astore 6, 2) := by decide +kernel
theorem dX0_beginDrumming_75 : decode cX0_beginDrumming 75 = .ok (.aload_n 2, 1) := by decide +kernel
theorem dX0_beginDrumming_76 : decode cX0_beginDrumming 76 = .ok (.aload 6, 2) := by decide +kernel
theorem dX0_beginDrumming_78 : decode cX0_beginDrumming 78 = .ok (.invokevirtual 93, 3) := by decide +kernel
theorem dX0_beginDrumming_81 : decode cX0_beginDrumming 81 = .ok (.istore 7, 2) := by decide +kernel
theorem dX0_beginDrumming_83 : decode cX0_beginDrumming 83 = .ok (.iload 5, 2) := by decide +kernel
theorem dX0_beginDrumming_85 : decode cX0_beginDrumming 85 = .ok (.iload_n 1, 1) := by decide +kernel
theorem dX0_beginDrumming_86 : decode cX0_beginDrumming 86 = .ok (.if_icmp .eq 60, 3) := by decide +kernel
theorem dX0_beginDrumming_89 : decode cX0_beginDrumming 89 = .ok (.aload_n 2, 1) := by decide +kernel
theorem dX0_beginDrumming_90 : decode cX0_beginDrumming 90 = .ok (.iload 7, 2) := by decide +kernel
theorem dX0_beginDrumming_92 : decode cX0_beginDrumming 92 = .ok (.invokevirtual 97, 3) := by decide +kernel
theorem dX0_beginDrumming_95 : decode cX0_beginDrumming 95 = .ok (.ifCond .eq 51, 3) := by decide +kernel
theorem dX0_beginDrumming_98 : decode cX0_beginDrumming 98 = .ok (.aload_n 0, 1) := by decide +kernel
theorem dX0_beginDrumming_99 : decode cX0_beginDrumming 99 = .ok (.getfield 42, 3) := by decide +kernel
theorem dX0_beginDrumming_102 : decode cX0_beginDrumming 102 = .ok (.iload 7, 2) := by decide +kernel
theorem dX0_beginDrumming_104 : decode cX0_beginDrumming 104 = .ok (.iconst 3, 1) := by decide +kernel
theorem dX0_beginDrumming_105 : decode cX0_beginDrumming 105 = .ok (.idiv, 1) := by decide +kernel
theorem dX0_beginDrumming_106 : decode cX0_beginDrumming 106 = .ok (.iadd, 1) := by decide +kernel
theorem dX0_beginDrumming_107 : decode cX0_beginDrumming 107 = .ok (.iconst 1, 1) := by decide +kernel
theorem dX0_beginDrumming_108 : decode cX0_beginDrumming 108 = .ok (.iadd, 1) := by decide +kernel
theorem dX0_beginDrumming_109 : decode cX0_beginDrumming 109 = .ok (.istore 8, 2) := by decide +kernel
theorem dX0_beginDrumming_111 : decode cX0_beginDrumming 111 = .ok (.aload 6, 2) := by decide +kernel
theorem dX0_beginDrumming_113 : decode cX0_beginDrumming 113 = .ok (.getfield 74, 3) := by decide +kernel
theorem dX0_beginDrumming_116 : decode cX0_beginDrumming 116 = .ok (.iload_n 3, 1) := by decide +kernel
theorem dX0_beginDrumming_117 : decode cX0_beginDrumming 117 = .ok (.iload 8, 2) := by decide +kernel
theorem dX0_beginDrumming_119 : decode cX0_beginDrumming 119 = .ok (.iload 4, 2) := by decide +kernel
theorem dX0_beginDrumming_121 : decode cX0_beginDrumming 121 = .ok (.invokevirtual 135, 3) := by decide +kernel
theorem dX0_beginDrumming_124 : decode cX0_beginDrumming 124 = .ok (.aload_n 2, 1) := by decide +kernel
theorem dX0_beginDrumming_125 : decode cX0_beginDrumming 125 = .ok (.getfield 139, 3) := by decide +kernel
theorem dX0_beginDrumming_128 : decode cX0_beginDrumming 128 = .ok (.ifCond .eq 18, 3) := by decide +kernel
theorem dX0_beginDrumming_131 : decode cX0_beginDrumming 131 = .ok (.aload 6, 2) := by decide +kernel
theorem dX0_beginDrumming_133 : decode cX0_beginDrumming 133 = .ok (.getfield 74, 3) := by decide +kernel
theorem dX0_beginDrumming_136 : decode cX0_beginDrumming 136 = .ok (.iload_n 3, 1) := by decide +kernel
theorem dX0_beginDrumming_137 : decode cX0_beginDrumming 137 = .ok (.iload 8, 2) := by decide +kernel
theorem dX0_beginDrumming_139 : decode cX0_beginDrumming 139 = .ok (.iconst 4, 1) := by decide +kernel
theorem dX0_beginDrumming_140 : decode cX0_beginDrumming 140 = .ok (.iadd, 1) := by decide +kernel
theorem dX0_beginDrumming_141 : decode cX0_beginDrumming 141 = .ok (.iload 4, 2) := by decide +kernel
theorem dX0_beginDrumming_143 : decode cX0_beginDrumming 143 = .ok (.invokevirtual 135, 3) := by decide +kernel
theorem dX0_beginDrumming_146 : decode cX0_beginDrumming 146 = .ok (.iinc 5 1, 3) := by decide +kernel
theorem dX0_beginDrumming_149 : decode cX0_beginDrumming 149 = .ok (.goto (-92), 3) := by decide +kernel
theorem dX0_beginDrumming_152 : decode cX0_beginDrumming 152 = .ok (.return_, 1) := by decide +kernel
