set_option maxRecDepth 20000 in
theorem ggX3_init_X0_init : GoodIn wsX3_init wsX0_init := goodIn_r _ [11, 12, 2, 3, 13, 14, 15, 16, 17, 18, 19, 20, 21, 22, 23, 24, 25, 26, 27, 28, 29, 30, 31, 32, 33, 34, 35, 36, 37, 38, 39, 40, 41, 42, 43, 44, 45, 46, 47, 48, 49, 50, 53, 54, 55, 56, 57, 58, 59, 60, 61, 62, 63, 64, 65, 66, 67, 68, 69, 70] (by decide +kernel) (by decide +kernel)
set_option maxRecDepth 20000 in
theorem gX3_init_X0_init : GoodIn wsX3_init (wsX0_init) := ggX3_init_X0_init
theorem dX3_init_0 : decode cX3_init 0 = .ok (.aload_n 0, 1) := by decide +kernel
theorem dX3_init_1 : decode cX3_init 1 = .ok (.invokespecial 3, 3) := by decide +kernel
theorem dX3_init_4 : decode cX3_init 4 = .ok (.aload_n 0, 1) := by decide +kernel
theorem dX3_init_5 : decode cX3_init 5 = .ok (.new 9, 3) := by decide +kernel
theorem dX3_init_8 : decode cX3_init 8 = .ok (.dup, 1) := by decide +kernel
theorem dX3_init_9 : decode cX3_init 9 = .ok (.invokespecial 11, 3) := by decide +kernel
theorem dX3_init_12 : decode cX3_init 12 = .ok (.putfield 12, 3) := by decide +kernel
theorem dX3_init_15 : decode cX3_init 15 = .ok (.aload_n 0, 1) := by decide +kernel
theorem dX3_init_16 : decode cX3_init 16 = .ok (.new 9, 3) := by decide +kernel
theorem dX3_init_19 : decode cX3_init 19 = .ok (.dup, 1) := by decide +kernel
theorem dX3_init_20 : decode cX3_init 20 = .ok (.invokespecial 11, 3) := by decide +kernel
theorem dX3_init_23 : decode cX3_init 23 = .ok (.putfield 16, 3) := by decide +kernel
theorem dX3_init_26 : decode cX3_init 26 = .ok (.return_, 1) := by decide +kernel
set_option maxRecDepth 20000 in
theorem ggX3_found_X3_isPlace : GoodIn wsX3_found wsX3_isPlace := goodIn_r _ [10] (by decide +kernel) (by decide +kernel)
set_option maxRecDepth 20000 in
theorem gX3_found_X3_isPlace : GoodIn wsX3_found (va_wsS RX3 19 yX3_isPlace wsX3_isPlace) := goodIn_app (goodIn_of _ (by decide +kernel)) ggX3_found_X3_isPlace
set_option maxRecDepth 20000 in
theorem ggX3_found_X3_isDrum : GoodIn wsX3_found wsX3_isDrum := goodIn_r _ [13] (by decide +kernel) (by decide +kernel)
set_option maxRecDepth 20000 in
theorem gX3_found_X3_isDrum : GoodIn wsX3_found (va_wsS RX3 23 yX3_isDrum wsX3_isDrum) := goodIn_app (goodIn_of _ (by decide +kernel)) ggX3_found_X3_isDrum
set_option maxRecDepth 20000 in
theorem ggX3_found_X0_hasVillageAt : GoodIn wsX3_found wsX0_hasVillageAt := goodIn_r _ [18, 19, 20, 21, 22, 30, 31, 32, 33, 34, 35, 36, 37, 38, 39, 40, 41, 42, 43, 44, 45, 46, 47, 48, 49] (by decide +kernel) (by decide +kernel)
set_option maxRecDepth 20000 in
theorem gX3_found_X0_hasVillageAt : GoodIn wsX3_found (wsV RX3 37 RX0 yX0_hasVillageAt wsX0_hasVillageAt) := goodIn_app (goodIn_of _ (by decide +kernel)) ggX3_found_X0_hasVillageAt
set_option maxRecDepth 20000 in
theorem ggX3_found_X0_addVillage : GoodIn wsX3_found wsX0_addVillage := goodIn_r _ [26, 19, 20, 21, 22, 27, 30, 31, 32, 33, 34, 35, 36, 37, 38, 39, 40, 41, 42, 43, 44, 45, 46, 47, 48, 49] (by decide +kernel) (by decide +kernel)
set_option maxRecDepth 20000 in
theorem gX3_found_X0_addVillage : GoodIn wsX3_found (wsV RX3 46 RX0 yX0_addVillage wsX0_addVillage) := goodIn_app (goodIn_of _ (by decide +kernel)) ggX3_found_X0_addVillage
theorem dX3_found_0 : decode cX3_found 0 = .ok (.iload_n 1, 1) := by decide +kernel
theorem dX3_found_1 : decode cX3_found 1 = .ok (.invokestatic 19, 3) := by decide +kernel
theorem dX3_found_4 : decode cX3_found 4 = .ok (.ifCond .eq 17, 3) := by decide +kernel
theorem dX3_found_7 : decode cX3_found 7 = .ok (.iload_n 2, 1) := by decide +kernel
theorem dX3_found_8 : decode cX3_found 8 = .ok (.invokestatic 19, 3) := by decide +kernel
theorem dX3_found_11 : decode cX3_found 11 = .ok (.ifCond .eq 10, 3) := by decide +kernel
theorem dX3_found_14 : decode cX3_found 14 = .ok (.iload_n 3, 1) := by decide +kernel
theorem dX3_found_15 : decode cX3_found 15 = .ok (.invokestatic 23, 3) := by decide +kernel
theorem dX3_found_18 : decode cX3_found 18 = .ok (.ifCond .ne 13, 3) := by decide +kernel
theorem dX3_found_21 : decode cX3_found 21 = .ok (.new 26, 3) := by decide +kernel
theorem dX3_found_24 : decode cX3_found 24 = .ok (.dup, 1) := by decide +kernel
theorem dX3_found_25 : decode cX3_found 25 = .ok (.ldc 28, 2) := by decide +kernel
theorem dX3_found_27 : decode cX3_found 27 = .ok (.invokespecial 30, 3) := by decide +kernel
theorem dX3_found_30 : decode cX3_found 30 = .ok (.athrow, 1) := by decide +kernel
theorem dX3_found_31 : decode cX3_found 31 = .ok (.aload_n 0, 1) := by decide +kernel
theorem dX3_found_32 : decode cX3_found 32 = .ok (.getfield 12, 3) := by decide +kernel
theorem dX3_found_35 : decode cX3_found 35 = .ok (.getfield 33, 3) := by decide +kernel
theorem dX3_found_38 : decode cX3_found 38 = .ok (.bipush 8, 2) := by decide +kernel
theorem dX3_found_40 : decode cX3_found 40 = .ok (.if_icmp .ge 15, 3) := by decide +kernel
theorem dX3_found_43 : decode cX3_found 43 = .ok (.aload_n 0, 1) := by decide +kernel
theorem dX3_found_44 : decode cX3_found 44 = .ok (.getfield 12, 3) := by decide +kernel
theorem dX3_found_47 : decode cX3_found 47 = .ok (.iload_n 1, 1) := by decide +kernel
theorem dX3_found_48 : decode cX3_found 48 = .ok (.iload_n 2, 1) := by decide +kernel
theorem dX3_found_49 : decode cX3_found 49 = .ok (.invokevirtual 37, 3) := by decide +kernel
theorem dX3_found_52 : decode cX3_found 52 = .ok (.ifCond .eq 13, 3) := by decide +kernel
theorem dX3_found_55 : decode cX3_found 55 = .ok (.new 41, 3) := by decide +kernel
theorem dX3_found_58 : decode cX3_found 58 = .ok (.dup, 1) := by decide +kernel
theorem dX3_found_59 : decode cX3_found 59 = .ok (.ldc 43, 2) := by decide +kernel
theorem dX3_found_61 : decode cX3_found 61 = .ok (.invokespecial 45, 3) := by decide +kernel
theorem dX3_found_64 : decode cX3_found 64 = .ok (.athrow, 1) := by decide +kernel
theorem dX3_found_65 : decode cX3_found 65 = .ok (.aload_n 0, 1) := by decide +kernel
theorem dX3_found_66 : decode cX3_found 66 = .ok (.getfield 12, 3) := by decide +kernel
theorem dX3_found_69 : decode cX3_found 69 = .ok (.iload_n 1, 1) := by decide +kernel
theorem dX3_found_70 : decode cX3_found 70 = .ok (.iload_n 2, 1) := by decide +kernel
theorem dX3_found_71 : decode cX3_found 71 = .ok (.iload_n 3, 1) := by decide +kernel
theorem dX3_found_72 : decode cX3_found 72 = .ok (.invokevirtual 46, 3) := by decide +kernel
theorem dX3_found_75 : decode cX3_found 75 = .ok (.ireturn, 1) := by decide +kernel
set_option maxRecDepth 20000 in
theorem ggX3_setDrum_X3_villageOf : GoodIn wsX3_setDrum wsX3_villageOf := goodIn_ca (goodIn_r _ [8, 9, 10, 11, 12, 13, 7, 14, 15, 16, 17, 34, 35, 36, 37, 38, 39, 40, 41, 42] (by decide +kernel) (by decide +kernel)) (goodIn_sub (fun _ h => List.mem_cons_of_mem _ (List.mem_append_right _ h)) (by decide +kernel))
set_option maxRecDepth 20000 in
theorem gX3_setDrum_X3_villageOf : GoodIn wsX3_setDrum (wsV RX3 50 RX3 yX3_villageOf wsX3_villageOf) := goodIn_app (goodIn_of _ (by decide +kernel)) ggX3_setDrum_X3_villageOf
set_option maxRecDepth 20000 in
theorem ggX3_setDrum_X3_isDrum : GoodIn wsX3_setDrum wsX3_isDrum := goodIn_r _ [20] (by decide +kernel) (by decide +kernel)
set_option maxRecDepth 20000 in
theorem gX3_setDrum_X3_isDrum : GoodIn wsX3_setDrum (va_wsS RX3 23 yX3_isDrum wsX3_isDrum) := goodIn_app (goodIn_of _ (by decide +kernel)) ggX3_setDrum_X3_isDrum
theorem dX3_setDrum_0 : decode cX3_setDrum 0 = .ok (.aload_n 0, 1) := by decide +kernel
theorem dX3_setDrum_1 : decode cX3_setDrum 1 = .ok (.iload_n 1, 1) := by decide +kernel
theorem dX3_setDrum_2 : decode cX3_setDrum 2 = .ok (.invokevirtual 50, 3) := by decide +kernel
theorem dX3_setDrum_5 : decode cX3_setDrum 5 = .ok (.astore_n 3, 1) := by decide +kernel
theorem dX3_setDrum_6 : decode cX3_setDrum 6 = .ok (.iload_n 2, 1) := by decide +kernel
theorem dX3_setDrum_7 : decode cX3_setDrum 7 = .ok (.invokestatic 23, 3) := by decide +kernel
theorem dX3_setDrum_10 : decode cX3_setDrum 10 = .ok (.ifCond .ne 13, 3) := by decide +kernel
theorem dX3_setDrum_13 : decode cX3_setDrum 13 = .ok (.new 26, 3) := by decide +kernel
theorem dX3_setDrum_16 : decode cX3_setDrum 16 = .ok (.dup, 1) := by decide +kernel
theorem dX3_setDrum_17 : decode cX3_setDrum 17 = .ok (.ldc 54, 2) := by decide +kernel
theorem dX3_setDrum_19 : decode cX3_setDrum 19 = .ok (.invokespecial 30, 3) := by decide +kernel
theorem dX3_setDrum_22 : decode cX3_setDrum 22 = .ok (.athrow, 1) := by decide +kernel
theorem dX3_setDrum_23 : decode cX3_setDrum 23 = .ok (.aload_n 3, 1) := by decide +kernel
theorem dX3_setDrum_24 : decode cX3_setDrum 24 = .ok (.getfield 56, 3) := by decide +kernel
theorem dX3_setDrum_27 : decode cX3_setDrum 27 = .ok (.istore 4, 2) := by decide +kernel
theorem dX3_setDrum_29 : decode cX3_setDrum 29 = .ok (.aload_n 3, 1) := by decide +kernel
theorem dX3_setDrum_30 : decode cX3_setDrum 30 = .ok (.iload_n 2, 1) := by decide +kernel
theorem dX3_setDrum_31 : decode cX3_setDrum 31 = .ok (.putfield 56, 3) := by decide +kernel
theorem dX3_setDrum_34 : decode cX3_setDrum 34 = .ok (.iload 4, 2) := by decide +kernel
theorem dX3_setDrum_36 : decode cX3_setDrum 36 = .ok (.ireturn, 1) := by decide +kernel
set_option maxRecDepth 20000 in
theorem ggX3_setCliff_X3_villageOf : GoodIn wsX3_setCliff wsX3_villageOf := goodIn_ca (goodIn_r _ [6, 7, 8, 9, 10, 11, 5, 12, 13, 14, 15, 29, 30, 31, 32, 33, 34, 35, 36, 37] (by decide +kernel) (by decide +kernel)) (goodIn_sub (fun _ h => List.mem_cons_of_mem _ (List.mem_append_right _ h)) (by decide +kernel))
set_option maxRecDepth 20000 in
theorem gX3_setCliff_X3_villageOf : GoodIn wsX3_setCliff (wsV RX3 50 RX3 yX3_villageOf wsX3_villageOf) := goodIn_app (goodIn_of _ (by decide +kernel)) ggX3_setCliff_X3_villageOf
theorem dX3_setCliff_0 : decode cX3_setCliff 0 = .ok (.aload_n 0, 1) := by decide +kernel
theorem dX3_setCliff_1 : decode cX3_setCliff 1 = .ok (.iload_n 1, 1) := by decide +kernel
theorem dX3_setCliff_2 : decode cX3_setCliff 2 = .ok (.invokevirtual 50, 3) := by decide +kernel
theorem dX3_setCliff_5 : decode cX3_setCliff 5 = .ok (.astore_n 3, 1) := by decide +kernel
theorem dX3_setCliff_6 : decode cX3_setCliff 6 = .ok (.aload_n 3, 1) := by decide +kernel
theorem dX3_setCliff_7 : decode cX3_setCliff 7 = .ok (.getfield 61, 3) := by decide +kernel
theorem dX3_setCliff_10 : decode cX3_setCliff 10 = .ok (.istore 4, 2) := by decide +kernel
theorem dX3_setCliff_12 : decode cX3_setCliff 12 = .ok (.aload_n 3, 1) := by decide +kernel
theorem dX3_setCliff_13 : decode cX3_setCliff 13 = .ok (.iload_n 2, 1) := by decide +kernel
theorem dX3_setCliff_14 : decode cX3_setCliff 14 = .ok (.putfield 61, 3) := by decide +kernel
theorem dX3_setCliff_17 : decode cX3_setCliff 17 = .ok (.iload 4, 2) := by decide +kernel
theorem dX3_setCliff_19 : decode cX3_setCliff 19 = .ok (.ireturn, 1) := by decide +kernel
set_option maxRecDepth 20000 in
theorem ggX3_setAwake_X3_villageOf : GoodIn wsX3_setAwake wsX3_villageOf := goodIn_ca (goodIn_r _ [9, 10, 11, 12, 13, 14, 8, 15, 16, 17, 18, 32, 33, 34, 35, 36, 37, 38, 39, 40] (by decide +kernel) (by decide +kernel)) (goodIn_sub (fun _ h => List.mem_cons_of_mem _ (List.mem_append_right _ h)) (by decide +kernel))
set_option maxRecDepth 20000 in
theorem gX3_setAwake_X3_villageOf : GoodIn wsX3_setAwake (wsV RX3 50 RX3 yX3_villageOf wsX3_villageOf) := goodIn_app (goodIn_of _ (by decide +kernel)) ggX3_setAwake_X3_villageOf
theorem dX3_setAwake_0 : decode cX3_setAwake 0 = .ok (.aload_n 0, 1) := by decide +kernel
theorem dX3_setAwake_1 : decode cX3_setAwake 1 = .ok (.iload_n 1, 1) := by decide +kernel
theorem dX3_setAwake_2 : decode cX3_setAwake 2 = .ok (.invokevirtual 50, 3) := by decide +kernel
theorem dX3_setAwake_5 : decode cX3_setAwake 5 = .ok (.astore 4, 2) := by decide +kernel
theorem dX3_setAwake_7 : decode cX3_setAwake 7 = .ok (.iload_n 2, 1) := by decide +kernel
theorem dX3_setAwake_8 : decode cX3_setAwake 8 = .ok (.ifCond .lt 20, 3) := by decide +kernel
theorem dX3_setAwake_11 : decode cX3_setAwake 11 = .ok (.iload_n 2, 1) := by decide +kernel
theorem dX3_setAwake_12 : decode cX3_setAwake 12 = .ok (.bipush 24, 2) := by decide +kernel
theorem dX3_setAwake_14 : decode cX3_setAwake 14 = .ok (.if_icmp .ge 14, 3) := by decide +kernel
theorem dX3_setAwake_17 : decode cX3_setAwake 17 = .ok (.iload_n 3, 1) := by decide +kernel
theorem dX3_setAwake_18 : decode cX3_setAwake 18 = .ok (.iconst 1, 1) := by decide +kernel
theorem dX3_setAwake_19 : decode cX3_setAwake 19 = .ok (.if_icmp .lt 9, 3) := by decide +kernel
theorem dX3_setAwake_22 : decode cX3_setAwake 22 = .ok (.iload_n 3, 1) := by decide +kernel
theorem dX3_setAwake_23 : decode cX3_setAwake 23 = .ok (.bipush 24, 2) := by decide +kernel
theorem dX3_setAwake_25 : decode cX3_setAwake 25 = .ok (.if_icmp .le 13, 3) := by decide +kernel
theorem dX3_setAwake_28 : decode cX3_setAwake 28 = .ok (.new 26, 3) := by decide +kernel
theorem dX3_setAwake_31 : decode cX3_setAwake 31 = .ok (.dup, 1) := by decide +kernel
theorem dX3_setAwake_32 : decode cX3_setAwake 32 = .ok (.ldc 65, 2) := by decide +kernel
theorem dX3_setAwake_34 : decode cX3_setAwake 34 = .ok (.invokespecial 30, 3) := by decide +kernel
theorem dX3_setAwake_37 : decode cX3_setAwake 37 = .ok (.athrow, 1) := by decide +kernel
theorem dX3_setAwake_38 : decode cX3_setAwake 38 = .ok (.aload 4, 2) := by decide +kernel
theorem dX3_setAwake_40 : decode cX3_setAwake 40 = .ok (.getfield 67, 3) := by decide +kernel
theorem dX3_setAwake_43 : decode cX3_setAwake 43 = .ok (.istore 5, 2) := by decide +kernel
theorem dX3_setAwake_45 : decode cX3_setAwake 45 = .ok (.aload 4, 2) := by decide +kernel
theorem dX3_setAwake_47 : decode cX3_setAwake 47 = .ok (.iload_n 2, 1) := by decide +kernel
theorem dX3_setAwake_48 : decode cX3_setAwake 48 = .ok (.putfield 70, 3) := by decide +kernel
theorem dX3_setAwake_51 : decode cX3_setAwake 51 = .ok (.aload 4, 2) := by decide +kernel
theorem dX3_setAwake_53 : decode cX3_setAwake 53 = .ok (.iload_n 3, 1) := by decide +kernel
theorem dX3_setAwake_54 : decode cX3_setAwake 54 = .ok (.putfield 67, 3) := by decide +kernel
theorem dX3_setAwake_57 : decode cX3_setAwake 57 = .ok (.iload 5, 2) := by decide +kernel
theorem dX3_setAwake_59 : decode cX3_setAwake 59 = .ok (.ireturn, 1) := by decide +kernel
set_option maxRecDepth 20000 in
theorem ggX3_phrase_X3_countTones : GoodIn wsX3_phrase wsX3_countTones := goodIn_r _ [10] (by decide +kernel) (by decide +kernel)
set_option maxRecDepth 20000 in
theorem gX3_phrase_X3_countTones : GoodIn wsX3_phrase (va_wsS RX3 73 yX3_countTones wsX3_countTones) := goodIn_app (goodIn_of _ (by decide +kernel)) ggX3_phrase_X3_countTones
set_option maxRecDepth 20000 in
theorem ggX3_phrase_X0_hasPhrase : GoodIn wsX3_phrase wsX0_hasPhrase := goodIn_r _ [15, 16, 17, 25, 26, 27, 28, 29, 30, 31] (by decide +kernel) (by decide +kernel)
set_option maxRecDepth 20000 in
theorem gX3_phrase_X0_hasPhrase : GoodIn wsX3_phrase (wsV RX3 82 RX0 yX0_hasPhrase wsX0_hasPhrase) := goodIn_app (goodIn_of _ (by decide +kernel)) ggX3_phrase_X0_hasPhrase
set_option maxRecDepth 20000 in
theorem ggX3_phrase_X0_addPhrase : GoodIn wsX3_phrase wsX0_addPhrase := goodIn_r _ [21, 16, 17, 22, 25, 26, 27, 28, 29, 30, 31] (by decide +kernel) (by decide +kernel)
set_option maxRecDepth 20000 in
theorem gX3_phrase_X0_addPhrase : GoodIn wsX3_phrase (wsV RX3 87 RX0 yX0_addPhrase wsX0_addPhrase) := goodIn_app (goodIn_of _ (by decide +kernel)) ggX3_phrase_X0_addPhrase
theorem dX3_phrase_0 : decode cX3_phrase 0 = .ok (.iload_n 1, 1) := by decide +kernel
theorem dX3_phrase_1 : decode cX3_phrase 1 = .ok (.invokestatic 73, 3) := by decide +kernel
theorem dX3_phrase_4 : decode cX3_phrase 4 = .ok (.istore_n 2, 1) := by decide +kernel
theorem dX3_phrase_5 : decode cX3_phrase 5 = .ok (.iload_n 2, 1) := by decide +kernel
theorem dX3_phrase_6 : decode cX3_phrase 6 = .ok (.iconst 2, 1) := by decide +kernel
theorem dX3_phrase_7 : decode cX3_phrase 7 = .ok (.if_icmp .lt 9, 3) := by decide +kernel
theorem dX3_phrase_10 : decode cX3_phrase 10 = .ok (.iload_n 2, 1) := by decide +kernel
theorem dX3_phrase_11 : decode cX3_phrase 11 = .ok (.bipush 8, 2) := by decide +kernel
theorem dX3_phrase_13 : decode cX3_phrase 13 = .ok (.if_icmp .le 13, 3) := by decide +kernel
theorem dX3_phrase_16 : decode cX3_phrase 16 = .ok (.new 26, 3) := by decide +kernel
theorem dX3_phrase_19 : decode cX3_phrase 19 = .ok (.dup, 1) := by decide +kernel
theorem dX3_phrase_20 : decode cX3_phrase 20 = .ok (.ldc 77, 2) := by decide +kernel
theorem dX3_phrase_22 : decode cX3_phrase 22 = .ok (.invokespecial 30, 3) := by decide +kernel
theorem dX3_phrase_25 : decode cX3_phrase 25 = .ok (.athrow, 1) := by decide +kernel
theorem dX3_phrase_26 : decode cX3_phrase 26 = .ok (.aload_n 0, 1) := by decide +kernel
theorem dX3_phrase_27 : decode cX3_phrase 27 = .ok (.getfield 12, 3) := by decide +kernel
theorem dX3_phrase_30 : decode cX3_phrase 30 = .ok (.getfield 79, 3) := by decide +kernel
theorem dX3_phrase_33 : decode cX3_phrase 33 = .ok (.bipush 12, 2) := by decide +kernel
theorem dX3_phrase_35 : decode cX3_phrase 35 = .ok (.if_icmp .ge 14, 3) := by decide +kernel
theorem dX3_phrase_38 : decode cX3_phrase 38 = .ok (.aload_n 0, 1) := by decide +kernel
theorem dX3_phrase_39 : decode cX3_phrase 39 = .ok (.getfield 12, 3) := by decide +kernel
theorem dX3_phrase_42 : decode cX3_phrase 42 = .ok (.iload_n 1, 1) := by decide +kernel
theorem dX3_phrase_43 : decode cX3_phrase 43 = .ok (.invokevirtual 82, 3) := by decide +kernel
theorem dX3_phrase_46 : decode cX3_phrase 46 = .ok (.ifCond .eq 13, 3) := by decide +kernel
theorem dX3_phrase_49 : decode cX3_phrase 49 = .ok (.new 41, 3) := by decide +kernel
theorem dX3_phrase_52 : decode cX3_phrase 52 = .ok (.dup, 1) := by decide +kernel
theorem dX3_phrase_53 : decode cX3_phrase 53 = .ok (.ldc 85, 2) := by decide +kernel
theorem dX3_phrase_55 : decode cX3_phrase 55 = .ok (.invokespecial 45, 3) := by decide +kernel
theorem dX3_phrase_58 : decode cX3_phrase 58 = .ok (.athrow, 1) := by decide +kernel
theorem dX3_phrase_59 : decode cX3_phrase 59 = .ok (.aload_n 0, 1) := by decide +kernel
theorem dX3_phrase_60 : decode cX3_phrase 60 = .ok (.getfield 12, 3) := by decide +kernel
theorem dX3_phrase_63 : decode cX3_phrase 63 = .ok (.iload_n 1, 1) := by decide +kernel
theorem dX3_phrase_64 : decode cX3_phrase 64 = .ok (.iload_n 2, 1) := by decide +kernel
theorem dX3_phrase_65 : decode cX3_phrase 65 = .ok (.invokevirtual 87, 3) := by decide +kernel
theorem dX3_phrase_68 : decode cX3_phrase 68 = .ok (.ireturn, 1) := by decide +kernel
set_option maxRecDepth 20000 in
theorem ggX3_tell_X3_villageOf : GoodIn wsX3_tell wsX3_villageOf := goodIn_ca (goodIn_r _ [10, 4, 11, 12, 13, 14, 9, 15, 16, 17, 18, 45, 46, 47, 48, 49, 50, 51, 52, 53] (by decide +kernel) (by decide +kernel)) (goodIn_sub (fun _ h => List.mem_cons_of_mem _ (List.mem_append_right _ h)) (by decide +kernel))
set_option maxRecDepth 20000 in
theorem gX3_tell_X3_villageOf : GoodIn wsX3_tell (wsV RX3 50 RX3 yX3_villageOf wsX3_villageOf) := goodIn_app (goodIn_of _ (by decide +kernel)) ggX3_tell_X3_villageOf
set_option maxRecDepth 20000 in
theorem ggX3_tell_X3_checkPhrase : GoodIn wsX3_tell wsX3_checkPhrase := goodIn_ca (goodIn_r _ [22, 16, 17, 4, 23, 45, 46, 47, 48, 49, 50, 51, 52, 53] (by decide +kernel) (by decide +kernel)) (goodIn_sub (fun _ h => List.mem_cons_of_mem _ (List.mem_append_right _ h)) (by decide +kernel))
set_option maxRecDepth 20000 in
theorem gX3_tell_X3_checkPhrase : GoodIn wsX3_tell (wsV RX3 91 RX3 yX3_checkPhrase wsX3_checkPhrase) := goodIn_app (goodIn_of _ (by decide +kernel)) ggX3_tell_X3_checkPhrase
set_option maxRecDepth 20000 in
theorem ggX3_tell_X2_takeIn : GoodIn wsX3_tell wsX2_takeIn := goodIn_r _ [28, 29, 30, 31, 32, 33, 34, 35, 36, 37, 38, 39, 40, 41, 42, 43, 44] (by decide +kernel) (by decide +kernel)
set_option maxRecDepth 20000 in
theorem gX3_tell_X2_takeIn : GoodIn wsX3_tell (wsV RX3 103 RX2 yX2_takeIn wsX2_takeIn) := goodIn_app (goodIn_of _ (by decide +kernel)) ggX3_tell_X2_takeIn
theorem dX3_tell_0 : decode cX3_tell 0 = .ok (.aload_n 0, 1) := by decide +kernel
theorem dX3_tell_1 : decode cX3_tell 1 = .ok (.iload_n 1, 1) := by decide +kernel
theorem dX3_tell_2 : decode cX3_tell 2 = .ok (.invokevirtual 50, 3) := by decide +kernel
theorem dX3_tell_5 : decode cX3_tell 5 = .ok (.astore_n 3, 1) := by decide +kernel
theorem dX3_tell_6 : decode cX3_tell 6 = .ok (.aload_n 0, 1) := by decide +kernel
theorem dX3_tell_7 : decode cX3_tell 7 = .ok (.iload_n 2, 1) := by decide +kernel
theorem dX3_tell_8 : decode cX3_tell 8 = .ok (.invokevirtual 91, 3) := by decide +kernel
theorem dX3_tell_11 : decode cX3_tell 11 = .ok (.aload_n 3, 1) := by decide +kernel
theorem dX3_tell_12 : decode cX3_tell 12 = .ok (.getfield 95, 3) := by decide +kernel
theorem dX3_tell_15 : decode cX3_tell 15 = .ok (.iconst 5, 1) := by decide +kernel
theorem dX3_tell_16 : decode cX3_tell 16 = .ok (.if_icmp .lt 13, 3) := by decide +kernel
theorem dX3_tell_19 : decode cX3_tell 19 = .ok (.new 41, 3) := by decide +kernel
theorem dX3_tell_22 : decode cX3_tell 22 = .ok (.dup, 1) := by decide +kernel
theorem dX3_tell_23 : decode cX3_tell 23 = .ok (.ldc 98, 2) := by decide +kernel
theorem dX3_tell_25 : decode cX3_tell 25 = .ok (.invokespecial 45, 3) := by decide +kernel
theorem dX3_tell_28 : decode cX3_tell 28 = .ok (.athrow, 1) := by decide +kernel
theorem dX3_tell_29 : decode cX3_tell 29 = .ok (.aload_n 3, 1) := by decide +kernel
theorem dX3_tell_30 : decode cX3_tell 30 = .ok (.iload_n 2, 1) := by decide +kernel
theorem dX3_tell_31 : decode cX3_tell 31 = .ok (.aload_n 0, 1) := by decide +kernel
theorem dX3_tell_32 : decode cX3_tell 32 = .ok (.getfield 12, 3) := by decide +kernel
theorem dX3_tell_35 : decode cX3_tell 35 = .ok (.getfield 100, 3) := by decide +kernel
theorem dX3_tell_38 : decode cX3_tell 38 = .ok (.invokevirtual 103, 3) := by decide +kernel
theorem dX3_tell_41 : decode cX3_tell 41 = .ok (.aload_n 3, 1) := by decide +kernel
theorem dX3_tell_42 : decode cX3_tell 42 = .ok (.getfield 95, 3) := by decide +kernel
theorem dX3_tell_45 : decode cX3_tell 45 = .ok (.ireturn, 1) := by decide +kernel
set_option maxRecDepth 20000 in
theorem ggX3_village_X3_villageOf : GoodIn wsX3_village wsX3_villageOf := goodIn_ca (goodIn_r _ [9, 3, 10, 11, 12, 13, 8, 14, 1, 2, 15, 48, 49, 50, 51, 52, 53, 54, 55, 56] (by decide +kernel) (by decide +kernel)) (goodIn_sub (fun _ h => List.mem_cons_of_mem _ (List.mem_append_right _ h)) (by decide +kernel))
set_option maxRecDepth 20000 in
theorem gX3_village_X3_villageOf : GoodIn wsX3_village (wsV RX3 50 RX3 yX3_villageOf wsX3_villageOf) := goodIn_app (goodIn_of _ (by decide +kernel)) ggX3_village_X3_villageOf
set_option maxRecDepth 20000 in
theorem ggX3_village_X2_figure : GoodIn wsX3_village wsX2_figure := goodIn_r _ [20, 21, 22, 23, 24, 25, 26, 27, 28, 29, 30, 31, 19, 32, 33, 34, 35, 36, 37, 38, 39, 40, 41, 42, 43, 44, 45, 46, 47, 57, 58, 59, 60, 61, 62, 63, 64, 65, 66, 67, 68, 69] (by decide +kernel) (by decide +kernel)
set_option maxRecDepth 20000 in
theorem gX3_village_X2_figure : GoodIn wsX3_village (wsV RX3 112 RX2 yX2_figure wsX2_figure) := goodIn_app (goodIn_of _ (by decide +kernel)) ggX3_village_X2_figure
theorem dX3_village_0 : decode cX3_village 0 = .ok (.aload_n 0, 1) := by decide +kernel
theorem dX3_village_1 : decode cX3_village 1 = .ok (.iload_n 1, 1) := by decide +kernel
theorem dX3_village_2 : decode cX3_village 2 = .ok (.invokevirtual 50, 3) := by decide +kernel
theorem dX3_village_5 : decode cX3_village 5 = .ok (.astore_n 3, 1) := by decide +kernel
theorem dX3_village_6 : decode cX3_village 6 = .ok (.iload_n 2, 1) := by decide +kernel
theorem dX3_village_7 : decode cX3_village 7 = .ok (.ifCond .lt 9, 3) := by decide +kernel
theorem dX3_village_10 : decode cX3_village 10 = .ok (.iload_n 2, 1) := by decide +kernel
theorem dX3_village_11 : decode cX3_village 11 = .ok (.bipush 10, 2) := by decide +kernel
theorem dX3_village_13 : decode cX3_village 13 = .ok (.if_icmp .lt 13, 3) := by decide +kernel
theorem dX3_village_16 : decode cX3_village 16 = .ok (.new 107, 3) := by decide +kernel
theorem dX3_village_19 : decode cX3_village 19 = .ok (.dup, 1) := by decide +kernel
theorem dX3_village_20 : decode cX3_village 20 = .ok (.ldc 109, 2) := by decide +kernel
theorem dX3_village_22 : decode cX3_village 22 = .ok (.invokespecial 111, 3) := by decide +kernel
theorem dX3_village_25 : decode cX3_village 25 = .ok (.athrow, 1) := by decide +kernel
theorem dX3_village_26 : decode cX3_village 26 = .ok (.aload_n 3, 1) := by decide +kernel
theorem dX3_village_27 : decode cX3_village 27 = .ok (.iload_n 2, 1) := by decide +kernel
theorem dX3_village_28 : decode cX3_village 28 = .ok (.aload_n 0, 1) := by decide +kernel
theorem dX3_village_29 : decode cX3_village 29 = .ok (.getfield 12, 3) := by decide +kernel
theorem dX3_village_32 : decode cX3_village 32 = .ok (.getfield 100, 3) := by decide +kernel
theorem dX3_village_35 : decode cX3_village 35 = .ok (.invokevirtual 112, 3) := by decide +kernel
theorem dX3_village_38 : decode cX3_village 38 = .ok (.ireturn, 1) := by decide +kernel
set_option maxRecDepth 20000 in
theorem ggX3_queue_X3_villageOf : GoodIn wsX3_queue wsX3_villageOf := goodIn_ca (goodIn_r _ [9, 10, 11, 12, 13, 14, 8, 15, 1, 2, 16, 30, 31, 32, 33, 34, 35, 36, 37, 38] (by decide +kernel) (by decide +kernel)) (goodIn_sub (fun _ h => List.mem_cons_of_mem _ (List.mem_append_right _ h)) (by decide +kernel))
set_option maxRecDepth 20000 in
theorem gX3_queue_X3_villageOf : GoodIn wsX3_queue (wsV RX3 50 RX3 yX3_villageOf wsX3_villageOf) := goodIn_app (goodIn_of _ (by decide +kernel)) ggX3_queue_X3_villageOf
theorem dX3_queue_0 : decode cX3_queue 0 = .ok (.aload_n 0, 1) := by decide +kernel
theorem dX3_queue_1 : decode cX3_queue 1 = .ok (.iload_n 1, 1) := by decide +kernel
theorem dX3_queue_2 : decode cX3_queue 2 = .ok (.invokevirtual 50, 3) := by decide +kernel
theorem dX3_queue_5 : decode cX3_queue 5 = .ok (.astore_n 3, 1) := by decide +kernel
theorem dX3_queue_6 : decode cX3_queue 6 = .ok (.iload_n 2, 1) := by decide +kernel
theorem dX3_queue_7 : decode cX3_queue 7 = .ok (.ifCond .lt 11, 3) := by decide +kernel
theorem dX3_queue_10 : decode cX3_queue 10 = .ok (.iload_n 2, 1) := by decide +kernel
theorem dX3_queue_11 : decode cX3_queue 11 = .ok (.aload_n 3, 1) := by decide +kernel
theorem dX3_queue_12 : decode cX3_queue 12 = .ok (.getfield 95, 3) := by decide +kernel
theorem dX3_queue_15 : decode cX3_queue 15 = .ok (.if_icmp .lt 13, 3) := by decide +kernel
theorem dX3_queue_18 : decode cX3_queue 18 = .ok (.new 107, 3) := by decide +kernel
theorem dX3_queue_21 : decode cX3_queue 21 = .ok (.dup, 1) := by decide +kernel
theorem dX3_queue_22 : decode cX3_queue 22 = .ok (.ldc 115, 2) := by decide +kernel
theorem dX3_queue_24 : decode cX3_queue 24 = .ok (.invokespecial 111, 3) := by decide +kernel
theorem dX3_queue_27 : decode cX3_queue 27 = .ok (.athrow, 1) := by decide +kernel
theorem dX3_queue_28 : decode cX3_queue 28 = .ok (.aload_n 3, 1) := by decide +kernel
theorem dX3_queue_29 : decode cX3_queue 29 = .ok (.getfield 117, 3) := by decide +kernel
theorem dX3_queue_32 : decode cX3_queue 32 = .ok (.iload_n 2, 1) := by decide +kernel
theorem dX3_queue_33 : decode cX3_queue 33 = .ok (.iaload, 1) := by decide +kernel
theorem dX3_queue_34 : decode cX3_queue 34 = .ok (.ireturn, 1) := by decide +kernel
set_option maxRecDepth 20000 in
theorem ggX3_knows_X3_villageOf : GoodIn wsX3_knows wsX3_villageOf := goodIn_ca (goodIn_r _ [6, 7, 8, 9, 10, 11, 5, 12, 13, 14, 15, 34, 35, 36, 37, 38, 39, 40, 41, 42] (by decide +kernel) (by decide +kernel)) (goodIn_sub (fun _ h => List.mem_cons_of_mem _ (List.mem_append_right _ h)) (by decide +kernel))
set_option maxRecDepth 20000 in
theorem gX3_knows_X3_villageOf : GoodIn wsX3_knows (wsV RX3 50 RX3 yX3_villageOf wsX3_villageOf) := goodIn_app (goodIn_of _ (by decide +kernel)) ggX3_knows_X3_villageOf
set_option maxRecDepth 20000 in
theorem ggX3_knows_X3_checkPhrase : GoodIn wsX3_knows wsX3_checkPhrase := goodIn_ca (goodIn_r _ [19, 13, 14, 7, 20, 34, 35, 36, 37, 38, 39, 40, 41, 42] (by decide +kernel) (by decide +kernel)) (goodIn_sub (fun _ h => List.mem_cons_of_mem _ (List.mem_append_right _ h)) (by decide +kernel))
set_option maxRecDepth 20000 in
theorem gX3_knows_X3_checkPhrase : GoodIn wsX3_knows (wsV RX3 91 RX3 yX3_checkPhrase wsX3_checkPhrase) := goodIn_app (goodIn_of _ (by decide +kernel)) ggX3_knows_X3_checkPhrase
theorem dX3_knows_0 : decode cX3_knows 0 = .ok (.aload_n 0, 1) := by decide +kernel
theorem dX3_knows_1 : decode cX3_knows 1 = .ok (.iload_n 1, 1) := by decide +kernel
theorem dX3_knows_2 : decode cX3_knows 2 = .ok (.invokevirtual 50, 3) := by decide +kernel
theorem dX3_knows_5 : decode cX3_knows 5 = .ok (.astore_n 3, 1) := by decide +kernel
theorem dX3_knows_6 : decode cX3_knows 6 = .ok (.aload_n 0, 1) := by decide +kernel
theorem dX3_knows_7 : decode cX3_knows 7 = .ok (.iload_n 2, 1) := by decide +kernel
theorem dX3_knows_8 : decode cX3_knows 8 = .ok (.invokevirtual 91, 3) := by decide +kernel
theorem dX3_knows_11 : decode cX3_knows 11 = .ok (.aload_n 3, 1) := by decide +kernel
theorem dX3_knows_12 : decode cX3_knows 12 = .ok (.getfield 121, 3) := by decide +kernel
theorem dX3_knows_15 : decode cX3_knows 15 = .ok (.iload_n 2, 1) := by decide +kernel
theorem dX3_knows_16 : decode cX3_knows 16 = .ok (.iaload, 1) := by decide +kernel
theorem dX3_knows_17 : decode cX3_knows 17 = .ok (.ireturn, 1) := by decide +kernel
set_option maxRecDepth 20000 in
theorem ggX3_sounds_X3_villageOf : GoodIn wsX3_sounds wsX3_villageOf := goodIn_ca (goodIn_r _ [8, 2, 9, 10, 11, 12, 7, 13, 14, 15, 16, 37, 38, 39, 40, 41, 42, 43, 44, 45] (by decide +kernel) (by decide +kernel)) (goodIn_sub (fun _ h => List.mem_cons_of_mem _ (List.mem_append_right _ h)) (by decide +kernel))
set_option maxRecDepth 20000 in
theorem gX3_sounds_X3_villageOf : GoodIn wsX3_sounds (wsV RX3 50 RX3 yX3_villageOf wsX3_villageOf) := goodIn_app (goodIn_of _ (by decide +kernel)) ggX3_sounds_X3_villageOf
set_option maxRecDepth 20000 in
theorem ggX3_sounds_X1_lasting : GoodIn wsX3_sounds wsX1_lasting := goodIn_r _ [21, 22, 23, 46, 47, 48, 49, 50] (by decide +kernel) (by decide +kernel)
set_option maxRecDepth 20000 in
theorem gX3_sounds_X1_lasting : GoodIn wsX3_sounds (wsV RX3 128 RX1 yX1_lasting wsX1_lasting) := goodIn_app (goodIn_of _ (by decide +kernel)) ggX3_sounds_X1_lasting
theorem dX3_sounds_0 : decode cX3_sounds 0 = .ok (.aload_n 0, 1) := by decide +kernel
theorem dX3_sounds_1 : decode cX3_sounds 1 = .ok (.iload_n 1, 1) := by decide +kernel
theorem dX3_sounds_2 : decode cX3_sounds 2 = .ok (.invokevirtual 50, 3) := by decide +kernel
theorem dX3_sounds_5 : decode cX3_sounds 5 = .ok (.getfield 124, 3) := by decide +kernel
theorem dX3_sounds_8 : decode cX3_sounds 8 = .ok (.aload_n 0, 1) := by decide +kernel
theorem dX3_sounds_9 : decode cX3_sounds 9 = .ok (.getfield 12, 3) := by decide +kernel
theorem dX3_sounds_12 : decode cX3_sounds 12 = .ok (.getfield 100, 3) := by decide +kernel
theorem dX3_sounds_15 : decode cX3_sounds 15 = .ok (.invokevirtual 128, 3) := by decide +kernel
theorem dX3_sounds_18 : decode cX3_sounds 18 = .ok (.ireturn, 1) := by decide +kernel
set_option maxRecDepth 20000 in
theorem ggX3_count_X0_figure : GoodIn wsX3_count wsX0_figure := goodIn_r _ [8, 9, 10, 11, 12, 13, 14, 15, 7, 16, 17, 18, 19, 20, 21, 22, 23, 24, 25, 26, 27, 28, 29, 30, 31, 32, 33, 34, 35, 36, 37, 38, 39, 40, 41, 42, 43, 44, 45, 46, 47, 50, 51, 52, 53, 54, 55, 56, 57, 58, 59, 60, 61, 62, 63, 64, 65, 66, 67, 68, 69, 70, 71, 72, 73, 74] (by decide +kernel) (by decide +kernel)
set_option maxRecDepth 20000 in
theorem gX3_count_X0_figure : GoodIn wsX3_count (wsV RX3 135 RX0 yX0_figure wsX0_figure) := goodIn_app (goodIn_of _ (by decide +kernel)) ggX3_count_X0_figure
theorem dX3_count_0 : decode cX3_count 0 = .ok (.iload_n 1, 1) := by decide +kernel
theorem dX3_count_1 : decode cX3_count 1 = .ok (.ifCond .lt 9, 3) := by decide +kernel
theorem dX3_count_4 : decode cX3_count 4 = .ok (.iload_n 1, 1) := by decide +kernel
theorem dX3_count_5 : decode cX3_count 5 = .ok (.bipush 8, 2) := by decide +kernel
theorem dX3_count_7 : decode cX3_count 7 = .ok (.if_icmp .lt 13, 3) := by decide +kernel
theorem dX3_count_10 : decode cX3_count 10 = .ok (.new 107, 3) := by decide +kernel
theorem dX3_count_13 : decode cX3_count 13 = .ok (.dup, 1) := by decide +kernel
theorem dX3_count_14 : decode cX3_count 14 = .ok (.ldc 133, 2) := by decide +kernel
theorem dX3_count_16 : decode cX3_count 16 = .ok (.invokespecial 111, 3) := by decide +kernel
theorem dX3_count_19 : decode cX3_count 19 = .ok (.athrow, 1) := by decide +kernel
theorem dX3_count_20 : decode cX3_count 20 = .ok (.aload_n 0, 1) := by decide +kernel
theorem dX3_count_21 : decode cX3_count 21 = .ok (.getfield 12, 3) := by decide +kernel
theorem dX3_count_24 : decode cX3_count 24 = .ok (.iload_n 1, 1) := by decide +kernel
theorem dX3_count_25 : decode cX3_count 25 = .ok (.invokevirtual 135, 3) := by decide +kernel
theorem dX3_count_28 : decode cX3_count 28 = .ok (.ireturn, 1) := by decide +kernel
set_option maxRecDepth 20000 in
theorem ggX3_way_X3_checkVillage : GoodIn wsX3_way wsX3_checkVillage := goodIn_ca (goodIn_r _ [6, 7, 8, 1, 9, 33, 34, 35, 36, 37, 38, 39, 40, 41] (by decide +kernel) (by decide +kernel)) (goodIn_sub (fun _ h => List.mem_cons_of_mem _ (List.mem_append_right _ h)) (by decide +kernel))
set_option maxRecDepth 20000 in
theorem gX3_way_X3_checkVillage : GoodIn wsX3_way (wsV RX3 137 RX3 yX3_checkVillage wsX3_checkVillage) := goodIn_app (goodIn_of _ (by decide +kernel)) ggX3_way_X3_checkVillage
set_option maxRecDepth 20000 in
theorem ggX3_way_X0_hearersOf : GoodIn wsX3_way wsX0_hearersOf := goodIn_r _ [14, 15, 16, 17, 18, 19, 20, 21, 22, 23, 24, 25, 26, 27, 28, 29, 30, 31, 32, 35, 36, 37, 38, 39, 40, 41, 42, 43, 44, 45, 46, 47, 48, 49, 50, 51, 52, 53, 54] (by decide +kernel) (by decide +kernel)
set_option maxRecDepth 20000 in
theorem gX3_way_X0_hearersOf : GoodIn wsX3_way (wsV RX3 140 RX0 yX0_hearersOf wsX0_hearersOf) := goodIn_app (goodIn_of _ (by decide +kernel)) ggX3_way_X0_hearersOf
theorem dX3_way_0 : decode cX3_way 0 = .ok (.aload_n 0, 1) := by decide +kernel
theorem dX3_way_1 : decode cX3_way 1 = .ok (.iload_n 1, 1) := by decide +kernel
theorem dX3_way_2 : decode cX3_way 2 = .ok (.invokevirtual 137, 3) := by decide +kernel
theorem dX3_way_5 : decode cX3_way 5 = .ok (.aload_n 0, 1) := by decide +kernel
theorem dX3_way_6 : decode cX3_way 6 = .ok (.iload_n 2, 1) := by decide +kernel
theorem dX3_way_7 : decode cX3_way 7 = .ok (.invokevirtual 137, 3) := by decide +kernel
theorem dX3_way_10 : decode cX3_way 10 = .ok (.iconst 1, 1) := by decide +kernel
theorem dX3_way_11 : decode cX3_way 11 = .ok (.iload_n 1, 1) := by decide +kernel
theorem dX3_way_12 : decode cX3_way 12 = .ok (.ishl, 1) := by decide +kernel
theorem dX3_way_13 : decode cX3_way 13 = .ok (.istore_n 3, 1) := by decide +kernel
theorem dX3_way_14 : decode cX3_way 14 = .ok (.iconst 0, 1) := by decide +kernel
theorem dX3_way_15 : decode cX3_way 15 = .ok (.istore 4, 2) := by decide +kernel
theorem dX3_way_17 : decode cX3_way 17 = .ok (.iload 4, 2) := by decide +kernel
theorem dX3_way_19 : decode cX3_way 19 = .ok (.bipush 8, 2) := by decide +kernel
theorem dX3_way_21 : decode cX3_way 21 = .ok (.if_icmp .ge 32, 3) := by decide +kernel
theorem dX3_way_24 : decode cX3_way 24 = .ok (.iload_n 3, 1) := by decide +kernel
theorem dX3_way_25 : decode cX3_way 25 = .ok (.iload_n 2, 1) := by decide +kernel
theorem dX3_way_26 : decode cX3_way 26 = .ok (.ishr, 1) := by decide +kernel
theorem dX3_way_27 : decode cX3_way 27 = .ok (.iconst 1, 1) := by decide +kernel
theorem dX3_way_28 : decode cX3_way 28 = .ok (.iand, 1) := by decide +kernel
theorem dX3_way_29 : decode cX3_way 29 = .ok (.iconst 1, 1) := by decide +kernel
theorem dX3_way_30 : decode cX3_way 30 = .ok (.if_icmp .ne 6, 3) := by decide +kernel
theorem dX3_way_33 : decode cX3_way 33 = .ok (.iload 4, 2) := by decide +kernel
theorem dX3_way_35 : decode cX3_way 35 = .ok (.ireturn, 1) := by decide +kernel
theorem dX3_way_36 : decode cX3_way 36 = .ok (.iload_n 3, 1) := by decide +kernel
theorem dX3_way_37 : decode cX3_way 37 = .ok (.aload_n 0, 1) := by decide +kernel
theorem dX3_way_38 : decode cX3_way 38 = .ok (.getfield 12, 3) := by decide +kernel
theorem dX3_way_41 : decode cX3_way 41 = .ok (.iload_n 3, 1) := by decide +kernel
theorem dX3_way_42 : decode cX3_way 42 = .ok (.invokevirtual 140, 3) := by decide +kernel
theorem dX3_way_45 : decode cX3_way 45 = .ok (.ior, 1) := by decide +kernel
theorem dX3_way_46 : decode cX3_way 46 = .ok (.istore_n 3, 1) := by decide +kernel
theorem dX3_way_47 : decode cX3_way 47 = .ok (.iinc 4 1, 3) := by decide +kernel
theorem dX3_way_50 : decode cX3_way 50 = .ok (.goto (-33), 3) := by decide +kernel
theorem dX3_way_53 : decode cX3_way 53 = .ok (.iconst (-1), 1) := by decide +kernel
theorem dX3_way_54 : decode cX3_way 54 = .ok (.ireturn, 1) := by decide +kernel
set_option maxRecDepth 20000 in
theorem ggX3_pass_X0_letGo : GoodIn wsX3_pass wsX0_letGo := goodIn_r _ [8, 9, 10, 11, 12, 7, 13, 14, 15, 16, 17, 18, 19, 20, 21, 22, 23, 24, 25, 26, 27, 28, 29, 30, 31, 32, 33, 34, 35, 36, 37, 38, 39, 40, 41, 42, 43, 44, 45, 46, 47, 48, 49, 50, 51, 52, 53, 54, 55, 56, 57, 58, 59, 60, 61, 62, 63, 64, 65, 66, 67, 68, 69, 70, 71, 72, 73, 74, 75, 76, 77, 78, 79, 80, 81, 82, 83, 84, 85, 86, 87, 88, 89, 90, 91, 92, 93, 94, 95, 96, 97, 98, 99, 100, 101, 102, 103, 104, 105, 106, 107, 108, 109, 110, 111, 112, 113, 114, 115, 116, 117, 118, 119, 120, 121, 122, 123, 124, 125, 126, 127, 128, 131, 132, 133, 134, 135, 136, 137, 138, 139, 140, 141, 142, 143, 144, 145, 146, 147, 148, 149, 150, 151, 152, 153, 154, 155] (by decide +kernel) (by decide +kernel)
set_option maxRecDepth 20000 in
theorem gX3_pass_X0_letGo : GoodIn wsX3_pass (wsV RX3 145 RX0 yX0_letGo wsX0_letGo) := goodIn_app (goodIn_of _ (by decide +kernel)) ggX3_pass_X0_letGo
theorem dX3_pass_0 : decode cX3_pass 0 = .ok (.iload_n 1, 1) := by decide +kernel
theorem dX3_pass_1 : decode cX3_pass 1 = .ok (.iconst 1, 1) := by decide +kernel
theorem dX3_pass_2 : decode cX3_pass 2 = .ok (.if_icmp .lt 10, 3) := by decide +kernel
theorem dX3_pass_5 : decode cX3_pass 5 = .ok (.iload_n 1, 1) := by decide +kernel
theorem dX3_pass_6 : decode cX3_pass 6 = .ok (.sipush 200, 3) := by decide +kernel
theorem dX3_pass_9 : decode cX3_pass 9 = .ok (.if_icmp .le 13, 3) := by decide +kernel
theorem dX3_pass_12 : decode cX3_pass 12 = .ok (.new 26, 3) := by decide +kernel
theorem dX3_pass_15 : decode cX3_pass 15 = .ok (.dup, 1) := by decide +kernel
theorem dX3_pass_16 : decode cX3_pass 16 = .ok (.ldc 143, 2) := by decide +kernel
theorem dX3_pass_18 : decode cX3_pass 18 = .ok (.invokespecial 30, 3) := by decide +kernel
theorem dX3_pass_21 : decode cX3_pass 21 = .ok (.athrow, 1) := by decide +kernel
theorem dX3_pass_22 : decode cX3_pass 22 = .ok (.aload_n 0, 1) := by decide +kernel
theorem dX3_pass_23 : decode cX3_pass 23 = .ok (.getfield 12, 3) := by decide +kernel
theorem dX3_pass_26 : decode cX3_pass 26 = .ok (.iload_n 1, 1) := by decide +kernel
theorem dX3_pass_27 : decode cX3_pass 27 = .ok (.invokevirtual 145, 3) := by decide +kernel
theorem dX3_pass_30 : decode cX3_pass 30 = .ok (.ireturn, 1) := by decide +kernel
set_option maxRecDepth 20000 in
theorem ggX3_reaches_X3_checkVillage : GoodIn wsX3_reaches wsX3_checkVillage := goodIn_ca (goodIn_r _ [8, 9, 10, 2, 11, 159, 160, 161, 162, 163, 164, 165, 166, 167] (by decide +kernel) (by decide +kernel)) (goodIn_sub (fun _ h => List.mem_cons_of_mem _ (List.mem_append_right _ h)) (by decide +kernel))
set_option maxRecDepth 20000 in
theorem gX3_reaches_X3_checkVillage : GoodIn wsX3_reaches (wsV RX3 137 RX3 yX3_checkVillage wsX3_checkVillage) := goodIn_app (goodIn_of _ (by decide +kernel)) ggX3_reaches_X3_checkVillage
set_option maxRecDepth 20000 in
theorem ggX3_reaches_X3_checkPhrase : GoodIn wsX3_reaches wsX3_checkPhrase := goodIn_ca (goodIn_r _ [15, 9, 10, 2, 16, 159, 160, 161, 162, 163, 164, 165, 166, 167] (by decide +kernel) (by decide +kernel)) (goodIn_sub (fun _ h => List.mem_cons_of_mem _ (List.mem_append_right _ h)) (by decide +kernel))
set_option maxRecDepth 20000 in
theorem gX3_reaches_X3_checkPhrase : GoodIn wsX3_reaches (wsV RX3 91 RX3 yX3_checkPhrase wsX3_checkPhrase) := goodIn_app (goodIn_of _ (by decide +kernel)) ggX3_reaches_X3_checkPhrase
set_option maxRecDepth 20000 in
theorem ggX3_reaches_X0_copy : GoodIn wsX3_reaches wsX0_copy := goodIn_r _ [21, 22, 23, 24, 25, 26, 27, 28, 29, 30, 31, 32, 33, 34, 35, 36, 37, 38, 39, 40, 41, 42, 43, 44, 45, 46, 47, 48, 49, 50, 51, 52, 53, 54, 55, 56, 57, 58, 59, 60, 61, 62, 161, 162, 163, 164, 165, 166, 167, 168, 169, 170, 171, 172, 173, 174, 175, 176, 177, 178, 179, 180, 181, 182, 183, 184, 185] (by decide +kernel) (by decide +kernel)
set_option maxRecDepth 20000 in
theorem gX3_reaches_X0_copy : GoodIn wsX3_reaches (wsV RX3 148 RX0 yX0_copy wsX0_copy) := goodIn_app (goodIn_of _ (by decide +kernel)) ggX3_reaches_X0_copy
set_option maxRecDepth 20000 in
theorem ggX3_reaches_X2_isKnown : GoodIn wsX3_reaches wsX2_isKnown := goodIn_r _ [66, 49, 168, 169, 170, 171, 172, 173, 174, 175, 176, 177, 178, 179, 180] (by decide +kernel) (by decide +kernel)
set_option maxRecDepth 20000 in
theorem gX3_reaches_X2_isKnown : GoodIn wsX3_reaches (wsV RX3 156 RX2 yX2_isKnown wsX2_isKnown) := goodIn_app (goodIn_of _ (by decide +kernel)) ggX3_reaches_X2_isKnown
set_option maxRecDepth 20000 in
theorem ggX3_reaches_X0_letGo : GoodIn wsX3_reaches wsX0_letGo := goodIn_r _ [70, 31, 71, 72, 73, 20, 74, 22, 23, 75, 76, 77, 78, 79, 80, 36, 81, 44, 82, 83, 84, 85, 86, 87, 88, 89, 48, 90, 91, 92, 93, 94, 42, 43, 95, 96, 97, 98, 99, 100, 101, 102, 30, 29, 103, 104, 32, 105, 106, 107, 108, 109, 46, 47, 26, 27, 28, 110, 111, 112, 113, 38, 114, 115, 116, 117, 39, 118, 119, 120, 121, 40, 122, 123, 124, 55, 125, 58, 57, 60, 61, 62, 126, 127, 128, 129, 50, 130, 131, 132, 133, 134, 135, 136, 137, 138, 139, 140, 141, 142, 143, 144, 51, 145, 146, 147, 148, 149, 150, 64, 65, 66, 49, 151, 152, 153, 154, 155, 156, 157, 158, 45, 161, 162, 163, 164, 165, 166, 167, 168, 169, 170, 171, 172, 173, 174, 175, 176, 177, 178, 179, 180, 181, 182, 183, 184, 185] (by decide +kernel) (by decide +kernel)
set_option maxRecDepth 20000 in
theorem gX3_reaches_X0_letGo : GoodIn wsX3_reaches (wsV RX3 145 RX0 yX0_letGo wsX0_letGo) := goodIn_app (goodIn_of _ (by decide +kernel)) ggX3_reaches_X0_letGo
theorem dX3_reaches_0 : decode cX3_reaches 0 = .ok (.aload_n 0, 1) := by decide +kernel
theorem dX3_reaches_1 : decode cX3_reaches 1 = .ok (.iload_n 1, 1) := by decide +kernel
theorem dX3_reaches_2 : decode cX3_reaches 2 = .ok (.invokevirtual 137, 3) := by decide +kernel
theorem dX3_reaches_5 : decode cX3_reaches 5 = .ok (.aload_n 0, 1) := by decide +kernel
theorem dX3_reaches_6 : decode cX3_reaches 6 = .ok (.iload_n 2, 1) := by decide +kernel
theorem dX3_reaches_7 : decode cX3_reaches 7 = .ok (.invokevirtual 91, 3) := by decide +kernel
theorem dX3_reaches_10 : decode cX3_reaches 10 = .ok (.aload_n 0, 1) := by decide +kernel
theorem dX3_reaches_11 : decode cX3_reaches 11 = .ok (.getfield 16, 3) := by decide +kernel
theorem dX3_reaches_14 : decode cX3_reaches 14 = .ok (.aload_n 0, 1) := by decide +kernel
theorem dX3_reaches_15 : decode cX3_reaches 15 = .ok (.getfield 12, 3) := by decide +kernel
theorem dX3_reaches_18 : decode cX3_reaches 18 = .ok (.invokevirtual 148, 3) := by decide +kernel
theorem dX3_reaches_21 : decode cX3_reaches 21 = .ok (.aload_n 0, 1) := by decide +kernel
theorem dX3_reaches_22 : decode cX3_reaches 22 = .ok (.getfield 16, 3) := by decide +kernel
theorem dX3_reaches_25 : decode cX3_reaches 25 = .ok (.getfield 152, 3) := by decide +kernel
theorem dX3_reaches_28 : decode cX3_reaches 28 = .ok (.iload_n 1, 1) := by decide +kernel
theorem dX3_reaches_29 : decode cX3_reaches 29 = .ok (.aaload, 1) := by decide +kernel
theorem dX3_reaches_30 : decode cX3_reaches 30 = .ok (.astore_n 3, 1) := by decide +kernel
theorem dX3_reaches_31 : decode cX3_reaches 31 = .ok (.iconst 0, 1) := by decide +kernel
theorem dX3_reaches_32 : decode cX3_reaches 32 = .ok (.istore 4, 2) := by decide +kernel
theorem dX3_reaches_34 : decode cX3_reaches 34 = .ok (.iload 4, 2) := by decide +kernel
theorem dX3_reaches_36 : decode cX3_reaches 36 = .ok (.sipush 200, 3) := by decide +kernel
theorem dX3_reaches_39 : decode cX3_reaches 39 = .ok (.if_icmp .gt 29, 3) := by decide +kernel
theorem dX3_reaches_42 : decode cX3_reaches 42 = .ok (.aload_n 3, 1) := by decide +kernel
theorem dX3_reaches_43 : decode cX3_reaches 43 = .ok (.iload_n 2, 1) := by decide +kernel
theorem dX3_reaches_44 : decode cX3_reaches 44 = .ok (.invokevirtual 156, 3) := by decide +kernel
theorem dX3_reaches_47 : decode cX3_reaches 47 = .ok (.ifCond .eq 6, 3) := by decide +kernel
theorem dX3_reaches_50 : decode cX3_reaches 50 = .ok (.iload 4, 2) := by decide +kernel
theorem dX3_reaches_52 : decode cX3_reaches 52 = .ok (.ireturn, 1) := by decide +kernel
theorem dX3_reaches_53 : decode cX3_reaches 53 = .ok (.aload_n 0, 1) := by decide +kernel
theorem dX3_reaches_54 : decode cX3_reaches 54 = .ok (.getfield 16, 3) := by decide +kernel
theorem dX3_reaches_57 : decode cX3_reaches 57 = .ok (.iconst 1, 1) := by decide +kernel
theorem dX3_reaches_58 : decode cX3_reaches 58 = .ok (.invokevirtual 145, 3) := by decide +kernel
theorem dX3_reaches_61 : decode cX3_reaches 61 = .ok (.pop, 1) := by decide +kernel
theorem dX3_reaches_62 : decode cX3_reaches 62 = .ok (.iinc 4 1, 3) := by decide +kernel
theorem dX3_reaches_65 : decode cX3_reaches 65 = .ok (.goto (-31), 3) := by decide +kernel
theorem dX3_reaches_68 : decode cX3_reaches 68 = .ok (.iconst (-1), 1) := by decide +kernel
theorem dX3_reaches_69 : decode cX3_reaches 69 = .ok (.ireturn, 1) := by decide +kernel
set_option maxRecDepth 20000 in
theorem ggX3_best_X3_checkVillage : GoodIn wsX3_best wsX3_checkVillage := goodIn_ca (goodIn_r _ [7, 8, 9, 2, 10, 170, 171, 172, 173, 174, 175, 176, 177, 178] (by decide +kernel) (by decide +kernel)) (goodIn_sub (fun _ h => List.mem_cons_of_mem _ (List.mem_append_right _ h)) (by decide +kernel))
set_option maxRecDepth 20000 in
theorem gX3_best_X3_checkVillage : GoodIn wsX3_best (wsV RX3 137 RX3 yX3_checkVillage wsX3_checkVillage) := goodIn_app (goodIn_of _ (by decide +kernel)) ggX3_best_X3_checkVillage
set_option maxRecDepth 20000 in
theorem ggX3_best_X3_checkPhrase : GoodIn wsX3_best wsX3_checkPhrase := goodIn_ca (goodIn_r _ [14, 8, 9, 2, 15, 170, 171, 172, 173, 174, 175, 176, 177, 178] (by decide +kernel) (by decide +kernel)) (goodIn_sub (fun _ h => List.mem_cons_of_mem _ (List.mem_append_right _ h)) (by decide +kernel))
set_option maxRecDepth 20000 in
theorem gX3_best_X3_checkPhrase : GoodIn wsX3_best (wsV RX3 91 RX3 yX3_checkPhrase wsX3_checkPhrase) := goodIn_app (goodIn_of _ (by decide +kernel)) ggX3_best_X3_checkPhrase
set_option maxRecDepth 20000 in
theorem ggX3_best_X0_copy : GoodIn wsX3_best wsX0_copy := goodIn_r _ [20, 21, 22, 23, 24, 25, 26, 27, 28, 29, 30, 31, 32, 33, 34, 35, 36, 37, 38, 39, 40, 41, 42, 43, 44, 45, 46, 47, 48, 49, 50, 51, 52, 53, 54, 55, 56, 57, 58, 59, 60, 61, 172, 173, 174, 175, 176, 177, 178, 179, 180, 181, 182, 183, 184, 185, 186, 187, 188, 189, 190, 191, 192, 193, 194, 195, 196] (by decide +kernel) (by decide +kernel)
set_option maxRecDepth 20000 in
theorem gX3_best_X0_copy : GoodIn wsX3_best (wsV RX3 148 RX0 yX0_copy wsX0_copy) := goodIn_app (goodIn_of _ (by decide +kernel)) ggX3_best_X0_copy
set_option maxRecDepth 20000 in
theorem ggX3_best_X0_letGo : GoodIn wsX3_best wsX0_letGo := goodIn_r _ [65, 30, 66, 67, 68, 19, 69, 21, 22, 70, 71, 72, 73, 74, 75, 35, 76, 43, 77, 78, 79, 80, 81, 82, 83, 84, 47, 85, 86, 87, 88, 89, 41, 42, 90, 91, 92, 93, 94, 95, 96, 97, 29, 28, 98, 99, 31, 100, 101, 102, 103, 104, 45, 46, 25, 26, 27, 105, 106, 107, 108, 37, 109, 110, 111, 112, 38, 113, 114, 115, 116, 39, 117, 118, 119, 54, 120, 57, 56, 59, 60, 61, 121, 122, 123, 124, 49, 125, 126, 127, 128, 129, 130, 131, 132, 133, 134, 135, 136, 137, 138, 139, 50, 140, 141, 142, 143, 144, 145, 146, 147, 148, 48, 149, 150, 151, 152, 153, 154, 155, 156, 44, 172, 173, 174, 175, 176, 177, 178, 179, 180, 181, 182, 183, 184, 185, 186, 187, 188, 189, 190, 191, 192, 193, 194, 195, 196] (by decide +kernel) (by decide +kernel)
set_option maxRecDepth 20000 in
theorem gX3_best_X0_letGo : GoodIn wsX3_best (wsV RX3 145 RX0 yX0_letGo wsX0_letGo) := goodIn_app (goodIn_of _ (by decide +kernel)) ggX3_best_X0_letGo
set_option maxRecDepth 20000 in
theorem ggX3_best_X0_knowersOf : GoodIn wsX3_best wsX0_knowersOf := goodIn_r _ [160, 21, 22, 161, 146, 147, 35, 148, 48, 172, 173, 174, 175, 176, 177, 178, 179, 180, 181, 182, 183, 184, 185, 186, 187, 188, 189, 190, 191] (by decide +kernel) (by decide +kernel)
set_option maxRecDepth 20000 in
theorem gX3_best_X0_knowersOf : GoodIn wsX3_best (wsV RX3 159 RX0 yX0_knowersOf wsX0_knowersOf) := goodIn_app (goodIn_of _ (by decide +kernel)) ggX3_best_X0_knowersOf
set_option maxRecDepth 20000 in
theorem ggX3_best_X3_knowersIfTold : GoodIn wsX3_best wsX3_knowersIfTold := goodIn_r _ [165, 1, 2, 166, 167, 168, 16, 17, 18, 19, 20, 21, 22, 23, 24, 25, 26, 27, 28, 29, 30, 31, 32, 33, 34, 35, 36, 37, 38, 39, 40, 41, 42, 43, 44, 45, 46, 47, 48, 49, 50, 51, 52, 53, 54, 55, 56, 57, 58, 59, 60, 61, 62, 63, 64, 65, 66, 67, 68, 69, 70, 71, 72, 73, 74, 75, 76, 77, 78, 79, 80, 81, 82, 83, 84, 85, 86, 87, 88, 89, 90, 91, 92, 93, 94, 95, 96, 97, 98, 99, 100, 101, 102, 103, 104, 105, 106, 107, 108, 109, 110, 111, 112, 113, 114, 115, 116, 117, 118, 119, 120, 121, 122, 123, 124, 125, 126, 127, 128, 129, 130, 131, 132, 133, 134, 135, 136, 137, 138, 139, 140, 141, 142, 143, 144, 145, 146, 147, 148, 149, 150, 151, 152, 153, 154, 155, 156, 169, 157, 158, 159, 160, 161, 170, 171, 172, 173, 174, 175, 176, 177, 178, 179, 180, 181, 182, 183, 184, 185, 186, 187, 188, 189, 190, 191, 192, 193, 194, 195, 196] (by decide +kernel) (by decide +kernel)
set_option maxRecDepth 20000 in
theorem gX3_best_X3_knowersIfTold : GoodIn wsX3_best (wsV RX3 162 RX3 yX3_knowersIfTold wsX3_knowersIfTold) := goodIn_app (goodIn_of _ (by decide +kernel)) ggX3_best_X3_knowersIfTold
theorem dX3_best_0 : decode cX3_best 0 = .ok (.aload_n 0, 1) := by decide +kernel
theorem dX3_best_1 : decode cX3_best 1 = .ok (.iload_n 1, 1) := by decide +kernel
theorem dX3_best_2 : decode cX3_best 2 = .ok (.invokevirtual 137, 3) := by decide +kernel
theorem dX3_best_5 : decode cX3_best 5 = .ok (.aload_n 0, 1) := by decide +kernel
theorem dX3_best_6 : decode cX3_best 6 = .ok (.iload_n 2, 1) := by decide +kernel
theorem dX3_best_7 : decode cX3_best 7 = .ok (.invokevirtual 91, 3) := by decide +kernel
theorem dX3_best_10 : decode cX3_best 10 = .ok (.aload_n 0, 1) := by decide +kernel
theorem dX3_best_11 : decode cX3_best 11 = .ok (.getfield 16, 3) := by decide +kernel
theorem dX3_best_14 : decode cX3_best 14 = .ok (.aload_n 0, 1) := by decide +kernel
theorem dX3_best_15 : decode cX3_best 15 = .ok (.getfield 12, 3) := by decide +kernel
theorem dX3_best_18 : decode cX3_best 18 = .ok (.invokevirtual 148, 3) := by decide +kernel
theorem dX3_best_21 : decode cX3_best 21 = .ok (.aload_n 0, 1) := by decide +kernel
theorem dX3_best_22 : decode cX3_best 22 = .ok (.getfield 16, 3) := by decide +kernel
theorem dX3_best_25 : decode cX3_best 25 = .ok (.bipush 80, 2) := by decide +kernel
theorem dX3_best_27 : decode cX3_best 27 = .ok (.invokevirtual 145, 3) := by decide +kernel
theorem dX3_best_30 : decode cX3_best 30 = .ok (.pop, 1) := by decide +kernel
theorem dX3_best_31 : decode cX3_best 31 = .ok (.aload_n 0, 1) := by decide +kernel
theorem dX3_best_32 : decode cX3_best 32 = .ok (.getfield 16, 3) := by decide +kernel
theorem dX3_best_35 : decode cX3_best 35 = .ok (.iload_n 2, 1) := by decide +kernel
theorem dX3_best_36 : decode cX3_best 36 = .ok (.invokevirtual 159, 3) := by decide +kernel
theorem dX3_best_39 : decode cX3_best 39 = .ok (.istore_n 3, 1) := by decide +kernel
theorem dX3_best_40 : decode cX3_best 40 = .ok (.iconst (-1), 1) := by decide +kernel
theorem dX3_best_41 : decode cX3_best 41 = .ok (.istore 4, 2) := by decide +kernel
theorem dX3_best_43 : decode cX3_best 43 = .ok (.iconst 0, 1) := by decide +kernel
theorem dX3_best_44 : decode cX3_best 44 = .ok (.istore 5, 2) := by decide +kernel
theorem dX3_best_46 : decode cX3_best 46 = .ok (.iload 5, 2) := by decide +kernel
theorem dX3_best_48 : decode cX3_best 48 = .ok (.bipush 24, 2) := by decide +kernel
theorem dX3_best_50 : decode cX3_best 50 = .ok (.if_icmp .ge 32, 3) := by decide +kernel
theorem dX3_best_53 : decode cX3_best 53 = .ok (.aload_n 0, 1) := by decide +kernel
theorem dX3_best_54 : decode cX3_best 54 = .ok (.iload_n 1, 1) := by decide +kernel
theorem dX3_best_55 : decode cX3_best 55 = .ok (.iload_n 2, 1) := by decide +kernel
theorem dX3_best_56 : decode cX3_best 56 = .ok (.iload 5, 2) := by decide +kernel
theorem dX3_best_58 : decode cX3_best 58 = .ok (.invokevirtual 162, 3) := by decide +kernel
theorem dX3_best_61 : decode cX3_best 61 = .ok (.istore 6, 2) := by decide +kernel
theorem dX3_best_63 : decode cX3_best 63 = .ok (.iload 6, 2) := by decide +kernel
theorem dX3_best_65 : decode cX3_best 65 = .ok (.iload_n 3, 1) := by decide +kernel
theorem dX3_best_66 : decode cX3_best 66 = .ok (.if_icmp .le 10, 3) := by decide +kernel
theorem dX3_best_69 : decode cX3_best 69 = .ok (.iload 6, 2) := by decide +kernel
theorem dX3_best_71 : decode cX3_best 71 = .ok (.istore_n 3, 1) := by decide +kernel
theorem dX3_best_72 : decode cX3_best 72 = .ok (.iload 5, 2) := by decide +kernel
theorem dX3_best_74 : decode cX3_best 74 = .ok (.istore 4, 2) := by decide +kernel
theorem dX3_best_76 : decode cX3_best 76 = .ok (.iinc 5 1, 3) := by decide +kernel
theorem dX3_best_79 : decode cX3_best 79 = .ok (.goto (-33), 3) := by decide +kernel
theorem dX3_best_82 : decode cX3_best 82 = .ok (.iload 4, 2) := by decide +kernel
theorem dX3_best_84 : decode cX3_best 84 = .ok (.ireturn, 1) := by decide +kernel
set_option maxRecDepth 20000 in
theorem ggX3_larger_X0_copy : GoodIn wsX3_larger wsX0_copy := goodIn_r _ [12, 13, 14, 15, 16, 17, 18, 19, 20, 21, 22, 23, 24, 25, 26, 27, 28, 29, 30, 31, 32, 33, 34, 35, 36, 37, 38, 39, 40, 41, 42, 43, 44, 45, 46, 47, 48, 49, 50, 51, 52, 53, 164, 165, 166, 167, 168, 169, 170, 171, 172, 173, 174, 175, 176, 177, 178, 179, 180, 181, 182, 183, 184, 185, 186, 187, 188] (by decide +kernel) (by decide +kernel)
set_option maxRecDepth 20000 in
theorem gX3_larger_X0_copy : GoodIn wsX3_larger (wsV RX3 148 RX0 yX0_copy wsX0_copy) := goodIn_app (goodIn_of _ (by decide +kernel)) ggX3_larger_X0_copy
set_option maxRecDepth 20000 in
theorem ggX3_larger_X0_letGo : GoodIn wsX3_larger wsX0_letGo := goodIn_r _ [57, 22, 58, 59, 60, 11, 61, 13, 14, 62, 63, 64, 65, 66, 67, 27, 68, 35, 69, 70, 71, 72, 73, 74, 75, 76, 39, 77, 78, 79, 80, 81, 33, 34, 82, 83, 84, 85, 86, 87, 88, 89, 21, 20, 90, 91, 23, 92, 93, 94, 95, 96, 37, 38, 17, 18, 19, 97, 98, 99, 100, 29, 101, 102, 103, 104, 30, 105, 106, 107, 108, 31, 109, 110, 111, 46, 112, 49, 48, 51, 52, 53, 113, 114, 115, 116, 41, 117, 118, 119, 120, 121, 122, 123, 124, 125, 126, 127, 128, 129, 130, 131, 42, 132, 133, 134, 135, 136, 137, 138, 139, 140, 40, 141, 142, 143, 144, 145, 146, 147, 148, 36, 164, 165, 166, 167, 168, 169, 170, 171, 172, 173, 174, 175, 176, 177, 178, 179, 180, 181, 182, 183, 184, 185, 186, 187, 188] (by decide +kernel) (by decide +kernel)
set_option maxRecDepth 20000 in
theorem gX3_larger_X0_letGo : GoodIn wsX3_larger (wsV RX3 145 RX0 yX0_letGo wsX0_letGo) := goodIn_app (goodIn_of _ (by decide +kernel)) ggX3_larger_X0_letGo
set_option maxRecDepth 20000 in
theorem ggX3_larger_X0_knownPairs : GoodIn wsX3_larger wsX0_knownPairs := goodIn_r _ [152, 13, 14, 153, 154, 155, 27, 156, 137, 138, 139, 140, 40, 164, 165, 166, 167, 168, 169, 170, 171, 172, 173, 174, 175, 176, 177, 178, 179, 180, 181, 182, 183] (by decide +kernel) (by decide +kernel)
set_option maxRecDepth 20000 in
theorem gX3_larger_X0_knownPairs : GoodIn wsX3_larger (wsV RX3 167 RX0 yX0_knownPairs wsX0_knownPairs) := goodIn_app (goodIn_of _ (by decide +kernel)) ggX3_larger_X0_knownPairs
set_option maxRecDepth 20000 in
theorem ggX3_larger_X3_pairsIfLarger : GoodIn wsX3_larger wsX3_pairsIfLarger := goodIn_r _ [161, 3, 4, 6, 7, 8, 9, 10, 11, 12, 13, 14, 15, 16, 17, 18, 19, 20, 21, 22, 23, 24, 25, 26, 27, 28, 29, 30, 31, 32, 33, 34, 35, 36, 37, 38, 39, 40, 41, 42, 43, 44, 45, 46, 47, 48, 49, 50, 51, 52, 53, 54, 55, 56, 57, 58, 59, 60, 61, 62, 63, 64, 65, 66, 67, 68, 69, 70, 71, 72, 73, 74, 75, 76, 77, 78, 79, 80, 81, 82, 83, 84, 85, 86, 87, 88, 89, 90, 91, 92, 93, 94, 95, 96, 97, 98, 99, 100, 101, 102, 103, 104, 105, 106, 107, 108, 109, 110, 111, 112, 113, 114, 115, 116, 117, 118, 119, 120, 121, 122, 123, 124, 125, 126, 127, 128, 129, 130, 131, 132, 133, 134, 135, 136, 137, 138, 139, 140, 141, 142, 143, 144, 145, 146, 147, 148, 149, 150, 151, 152, 153, 154, 155, 156, 162, 163, 164, 165, 166, 167, 168, 169, 170, 171, 172, 173, 174, 175, 176, 177, 178, 179, 180, 181, 182, 183, 184, 185, 186, 187, 188] (by decide +kernel) (by decide +kernel)
set_option maxRecDepth 20000 in
theorem gX3_larger_X3_pairsIfLarger : GoodIn wsX3_larger (wsV RX3 171 RX3 yX3_pairsIfLarger wsX3_pairsIfLarger) := goodIn_app (goodIn_of _ (by decide +kernel)) ggX3_larger_X3_pairsIfLarger
theorem dX3_larger_0 : decode cX3_larger 0 = .ok (.iload_n 1, 1) := by decide +kernel
theorem dX3_larger_1 : decode cX3_larger 1 = .ok (.iconst 1, 1) := by decide +kernel
theorem dX3_larger_2 : decode cX3_larger 2 = .ok (.if_icmp .lt 9, 3) := by decide +kernel
theorem dX3_larger_5 : decode cX3_larger 5 = .ok (.iload_n 1, 1) := by decide +kernel
theorem dX3_larger_6 : decode cX3_larger 6 = .ok (.bipush 100, 2) := by decide +kernel
theorem dX3_larger_8 : decode cX3_larger 8 = .ok (.if_icmp .le 13, 3) := by decide +kernel
theorem dX3_larger_11 : decode cX3_larger 11 = .ok (.new 26, 3) := by decide +kernel
theorem dX3_larger_14 : decode cX3_larger 14 = .ok (.dup, 1) := by decide +kernel
theorem dX3_larger_15 : decode cX3_larger 15 = .ok (.ldc 165, 2) := by decide +kernel
theorem dX3_larger_17 : decode cX3_larger 17 = .ok (.invokespecial 30, 3) := by decide +kernel
theorem dX3_larger_20 : decode cX3_larger 20 = .ok (.athrow, 1) := by decide +kernel
theorem dX3_larger_21 : decode cX3_larger 21 = .ok (.aload_n 0, 1) := by decide +kernel
theorem dX3_larger_22 : decode cX3_larger 22 = .ok (.getfield 16, 3) := by decide +kernel
theorem dX3_larger_25 : decode cX3_larger 25 = .ok (.aload_n 0, 1) := by decide +kernel
theorem dX3_larger_26 : decode cX3_larger 26 = .ok (.getfield 12, 3) := by decide +kernel
theorem dX3_larger_29 : decode cX3_larger 29 = .ok (.invokevirtual 148, 3) := by decide +kernel
theorem dX3_larger_32 : decode cX3_larger 32 = .ok (.aload_n 0, 1) := by decide +kernel
theorem dX3_larger_33 : decode cX3_larger 33 = .ok (.getfield 16, 3) := by decide +kernel
theorem dX3_larger_36 : decode cX3_larger 36 = .ok (.iload_n 1, 1) := by decide +kernel
theorem dX3_larger_37 : decode cX3_larger 37 = .ok (.invokevirtual 145, 3) := by decide +kernel
theorem dX3_larger_40 : decode cX3_larger 40 = .ok (.pop, 1) := by decide +kernel
theorem dX3_larger_41 : decode cX3_larger 41 = .ok (.aload_n 0, 1) := by decide +kernel
theorem dX3_larger_42 : decode cX3_larger 42 = .ok (.getfield 16, 3) := by decide +kernel
theorem dX3_larger_45 : decode cX3_larger 45 = .ok (.invokevirtual 167, 3) := by decide +kernel
theorem dX3_larger_48 : decode cX3_larger 48 = .ok (.istore_n 2, 1) := by decide +kernel
theorem dX3_larger_49 : decode cX3_larger 49 = .ok (.iconst (-1), 1) := by decide +kernel
theorem dX3_larger_50 : decode cX3_larger 50 = .ok (.istore_n 3, 1) := by decide +kernel
theorem dX3_larger_51 : decode cX3_larger 51 = .ok (.iconst 0, 1) := by decide +kernel
theorem dX3_larger_52 : decode cX3_larger 52 = .ok (.istore 4, 2) := by decide +kernel
theorem dX3_larger_54 : decode cX3_larger 54 = .ok (.iload 4, 2) := by decide +kernel
theorem dX3_larger_56 : decode cX3_larger 56 = .ok (.aload_n 0, 1) := by decide +kernel
theorem dX3_larger_57 : decode cX3_larger 57 = .ok (.getfield 12, 3) := by decide +kernel
theorem dX3_larger_60 : decode cX3_larger 60 = .ok (.getfield 33, 3) := by decide +kernel
theorem dX3_larger_63 : decode cX3_larger 63 = .ok (.if_icmp .ge 48, 3) := by decide +kernel
theorem dX3_larger_66 : decode cX3_larger 66 = .ok (.aload_n 0, 1) := by decide +kernel
theorem dX3_larger_67 : decode cX3_larger 67 = .ok (.getfield 12, 3) := by decide +kernel
theorem dX3_larger_70 : decode cX3_larger 70 = .ok (.getfield 152, 3) := by decide +kernel
theorem dX3_larger_73 : decode cX3_larger 73 = .ok (.iload 4, 2) := by decide +kernel
theorem dX3_larger_75 : decode cX3_larger 75 = .ok (.aaload, 1) := by decide +kernel
theorem dX3_larger_76 : decode cX3_larger 76 = .ok (.getfield 56, 3) := by decide +kernel
theorem dX3_larger_79 : decode cX3_larger 79 = .ok (.bipush 9, 2) := by decide +kernel
theorem dX3_larger_81 : decode cX3_larger 81 = .ok (.if_icmp .ge 24, 3) := by decide +kernel
theorem dX3_larger_84 : decode cX3_larger 84 = .ok (.aload_n 0, 1) := by decide +kernel
theorem dX3_larger_85 : decode cX3_larger 85 = .ok (.iload 4, 2) := by decide +kernel
theorem dX3_larger_87 : decode cX3_larger 87 = .ok (.iload_n 1, 1) := by decide +kernel
theorem dX3_larger_88 : decode cX3_larger 88 = .ok (.invokevirtual 171, 3) := by decide +kernel
theorem dX3_larger_91 : decode cX3_larger 91 = .ok (.istore 5, 2) := by decide +kernel
theorem dX3_larger_93 : decode cX3_larger 93 = .ok (.iload 5, 2) := by decide +kernel
theorem dX3_larger_95 : decode cX3_larger 95 = .ok (.iload_n 2, 1) := by decide +kernel
theorem dX3_larger_96 : decode cX3_larger 96 = .ok (.if_icmp .le 9, 3) := by decide +kernel
theorem dX3_larger_99 : decode cX3_larger 99 = .ok (.iload 5, 2) := by decide +kernel
theorem dX3_larger_101 : decode cX3_larger 101 = .ok (.istore_n 2, 1) := by decide +kernel
theorem dX3_larger_102 : decode cX3_larger 102 = .ok (.iload 4, 2) := by decide +kernel
theorem dX3_larger_104 : decode cX3_larger 104 = .ok (.istore_n 3, 1) := by decide +kernel
theorem dX3_larger_105 : decode cX3_larger 105 = .ok (.iinc 4 1, 3) := by decide +kernel
theorem dX3_larger_108 : decode cX3_larger 108 = .ok (.goto (-54), 3) := by decide +kernel
theorem dX3_larger_111 : decode cX3_larger 111 = .ok (.iload_n 3, 1) := by decide +kernel
theorem dX3_larger_112 : decode cX3_larger 112 = .ok (.ireturn, 1) := by decide +kernel
set_option maxRecDepth 20000 in
theorem ggX3_known_X0_knownPairs : GoodIn wsX3_known wsX0_knownPairs := goodIn_r _ [8, 9, 10, 11, 12, 13, 14, 15, 16, 17, 18, 19, 20, 23, 24, 25, 26, 27, 28, 29, 30, 31, 32, 33, 34, 35, 36, 37, 38, 39, 40, 41, 42] (by decide +kernel) (by decide +kernel)
set_option maxRecDepth 20000 in
theorem gX3_known_X0_knownPairs : GoodIn wsX3_known (wsV RX3 167 RX0 yX0_knownPairs wsX0_knownPairs) := goodIn_app (goodIn_of _ (by decide +kernel)) ggX3_known_X0_knownPairs
theorem dX3_known_0 : decode cX3_known 0 = .ok (.aload_n 0, 1) := by decide +kernel
theorem dX3_known_1 : decode cX3_known 1 = .ok (.getfield 12, 3) := by decide +kernel
theorem dX3_known_4 : decode cX3_known 4 = .ok (.getfield 33, 3) := by decide +kernel
theorem dX3_known_7 : decode cX3_known 7 = .ok (.aload_n 0, 1) := by decide +kernel
theorem dX3_known_8 : decode cX3_known 8 = .ok (.getfield 12, 3) := by decide +kernel
theorem dX3_known_11 : decode cX3_known 11 = .ok (.getfield 79, 3) := by decide +kernel
theorem dX3_known_14 : decode cX3_known 14 = .ok (.imul, 1) := by decide +kernel
theorem dX3_known_15 : decode cX3_known 15 = .ok (.istore_n 1, 1) := by decide +kernel
theorem dX3_known_16 : decode cX3_known 16 = .ok (.iload_n 1, 1) := by decide +kernel
theorem dX3_known_17 : decode cX3_known 17 = .ok (.ifCond .ne 5, 3) := by decide +kernel
theorem dX3_known_20 : decode cX3_known 20 = .ok (.dconst 0, 1) := by decide +kernel
theorem dX3_known_21 : decode cX3_known 21 = .ok (.dreturn, 1) := by decide +kernel
theorem dX3_known_22 : decode cX3_known 22 = .ok (.aload_n 0, 1) := by decide +kernel
theorem dX3_known_23 : decode cX3_known 23 = .ok (.getfield 12, 3) := by decide +kernel
theorem dX3_known_26 : decode cX3_known 26 = .ok (.invokevirtual 167, 3) := by decide +kernel
theorem dX3_known_29 : decode cX3_known 29 = .ok (.i2d, 1) := by decide +kernel
theorem dX3_known_30 : decode cX3_known 30 = .ok (.iload_n 1, 1) := by decide +kernel
theorem dX3_known_31 : decode cX3_known 31 = .ok (.i2d, 1) := by decide +kernel
theorem dX3_known_32 : decode cX3_known 32 = .ok (.ddiv, 1) := by decide +kernel
theorem dX3_known_33 : decode cX3_known 33 = .ok (.dreturn, 1) := by decide +kernel
set_option maxRecDepth 20000 in
theorem ggX3_digest_X0_figure : GoodIn wsX3_digest wsX0_figure := goodIn_r _ [12, 13, 14, 15, 16, 17, 18, 19, 11, 20, 21, 22, 23, 24, 25, 26, 27, 28, 29, 30, 31, 32, 33, 34, 35, 36, 37, 38, 39, 40, 41, 42, 43, 44, 45, 46, 47, 48, 49, 50, 51, 93, 94, 95, 96, 97, 98, 99, 100, 101, 102, 103, 104, 105, 106, 107, 108, 109, 110, 111, 112, 113, 114, 115, 116, 117] (by decide +kernel) (by decide +kernel)
set_option maxRecDepth 20000 in
theorem gX3_digest_X0_figure : GoodIn wsX3_digest (wsV RX3 135 RX0 yX0_figure wsX0_figure) := goodIn_app (goodIn_of _ (by decide +kernel)) ggX3_digest_X0_figure
set_option maxRecDepth 20000 in
theorem ggX3_digest_X3_digestOn : GoodIn wsX3_digest wsX3_digestOn := goodIn_r _ [56, 2, 3, 57, 58, 59, 60, 4, 61, 62, 63, 64, 25, 65, 66, 67, 68, 69, 27, 70, 71, 72, 73, 74, 75, 76, 77, 78, 79, 80, 81, 82, 83, 44, 45, 46, 47, 48, 49, 50, 51, 84, 85, 86, 87, 88, 89, 90, 91, 92, 93, 94, 95, 96, 97, 98, 99, 100, 101, 102, 103, 104, 105, 106, 107, 108, 109, 110, 111, 112, 113, 114, 115, 116, 117] (by decide +kernel) (by decide +kernel)
set_option maxRecDepth 20000 in
theorem gX3_digest_X3_digestOn : GoodIn wsX3_digest (wsV RX3 181 RX3 yX3_digestOn wsX3_digestOn) := goodIn_app (goodIn_of _ (by decide +kernel)) ggX3_digest_X3_digestOn
theorem dX3_digest_0 : decode cX3_digest 0 = .ok (.ldc2_w 174, 3) := by decide +kernel
theorem dX3_digest_3 : decode cX3_digest 3 = .ok (.lstore_n 1, 1) := by decide +kernel
theorem dX3_digest_4 : decode cX3_digest 4 = .ok (.iconst 0, 1) := by decide +kernel
theorem dX3_digest_5 : decode cX3_digest 5 = .ok (.istore_n 3, 1) := by decide +kernel
theorem dX3_digest_6 : decode cX3_digest 6 = .ok (.iload_n 3, 1) := by decide +kernel
theorem dX3_digest_7 : decode cX3_digest 7 = .ok (.bipush 8, 2) := by decide +kernel
theorem dX3_digest_9 : decode cX3_digest 9 = .ok (.if_icmp .ge 25, 3) := by decide +kernel
theorem dX3_digest_12 : decode cX3_digest 12 = .ok (.lload_n 1, 1) := by decide +kernel
theorem dX3_digest_13 : decode cX3_digest 13 = .ok (.ldc2_w 176, 3) := by decide +kernel
theorem dX3_digest_16 : decode cX3_digest 16 = .ok (.lmul, 1) := by decide +kernel
theorem dX3_digest_17 : decode cX3_digest 17 = .ok (.aload_n 0, 1) := by decide +kernel
theorem dX3_digest_18 : decode cX3_digest 18 = .ok (.getfield 12, 3) := by decide +kernel
theorem dX3_digest_21 : decode cX3_digest 21 = .ok (.iload_n 3, 1) := by decide +kernel
theorem dX3_digest_22 : decode cX3_digest 22 = .ok (.invokevirtual 135, 3) := by decide +kernel
theorem dX3_digest_25 : decode cX3_digest 25 = .ok (.i2l, 1) := by decide +kernel
theorem dX3_digest_26 : decode cX3_digest 26 = .ok (.ladd, 1) := by decide +kernel
theorem dX3_digest_27 : decode cX3_digest 27 = .ok (.lstore_n 1, 1) := by decide +kernel
theorem dX3_digest_28 : decode cX3_digest 28 = .ok (.iinc 3 1, 3) := by decide +kernel
theorem dX3_digest_31 : decode cX3_digest 31 = .ok (.goto (-25), 3) := by decide +kernel
theorem dX3_digest_34 : decode cX3_digest 34 = .ok (.iconst 0, 1) := by decide +kernel
theorem dX3_digest_35 : decode cX3_digest 35 = .ok (.istore_n 3, 1) := by decide +kernel
theorem dX3_digest_36 : decode cX3_digest 36 = .ok (.iload_n 3, 1) := by decide +kernel
theorem dX3_digest_37 : decode cX3_digest 37 = .ok (.aload_n 0, 1) := by decide +kernel
theorem dX3_digest_38 : decode cX3_digest 38 = .ok (.getfield 12, 3) := by decide +kernel
theorem dX3_digest_41 : decode cX3_digest 41 = .ok (.getfield 79, 3) := by decide +kernel
theorem dX3_digest_44 : decode cX3_digest 44 = .ok (.if_icmp .ge 26, 3) := by decide +kernel
theorem dX3_digest_47 : decode cX3_digest 47 = .ok (.lload_n 1, 1) := by decide +kernel
theorem dX3_digest_48 : decode cX3_digest 48 = .ok (.ldc2_w 176, 3) := by decide +kernel
theorem dX3_digest_51 : decode cX3_digest 51 = .ok (.lmul, 1) := by decide +kernel
theorem dX3_digest_52 : decode cX3_digest 52 = .ok (.aload_n 0, 1) := by decide +kernel
theorem dX3_digest_53 : decode cX3_digest 53 = .ok (.getfield 12, 3) := by decide +kernel
theorem dX3_digest_56 : decode cX3_digest 56 = .ok (.getfield 178, 3) := by decide +kernel
theorem dX3_digest_59 : decode cX3_digest 59 = .ok (.iload_n 3, 1) := by decide +kernel
theorem dX3_digest_60 : decode cX3_digest 60 = .ok (.iaload, 1) := by decide +kernel
theorem dX3_digest_61 : decode cX3_digest 61 = .ok (.i2l, 1) := by decide +kernel
theorem dX3_digest_62 : decode cX3_digest 62 = .ok (.ladd, 1) := by decide +kernel
theorem dX3_digest_63 : decode cX3_digest 63 = .ok (.lstore_n 1, 1) := by decide +kernel
theorem dX3_digest_64 : decode cX3_digest 64 = .ok (.iinc 3 1, 3) := by decide +kernel
theorem dX3_digest_67 : decode cX3_digest 67 = .ok (.goto (-31), 3) := by decide +kernel
theorem dX3_digest_70 : decode cX3_digest 70 = .ok (.iconst 0, 1) := by decide +kernel
theorem dX3_digest_71 : decode cX3_digest 71 = .ok (.istore_n 3, 1) := by decide +kernel
theorem dX3_digest_72 : decode cX3_digest 72 = .ok (.iload_n 3, 1) := by decide +kernel
theorem dX3_digest_73 : decode cX3_digest 73 = .ok (.aload_n 0, 1) := by decide +kernel
theorem dX3_digest_74 : decode cX3_digest 74 = .ok (.getfield 12, 3) := by decide +kernel
theorem dX3_digest_77 : decode cX3_digest 77 = .ok (.getfield 33, 3) := by decide +kernel
theorem dX3_digest_80 : decode cX3_digest 80 = .ok (.if_icmp .ge 24, 3) := by decide +kernel
theorem dX3_digest_83 : decode cX3_digest 83 = .ok (.aload_n 0, 1) := by decide +kernel
theorem dX3_digest_84 : decode cX3_digest 84 = .ok (.lload_n 1, 1) := by decide +kernel
theorem dX3_digest_85 : decode cX3_digest 85 = .ok (.aload_n 0, 1) := by decide +kernel
theorem dX3_digest_86 : decode cX3_digest 86 = .ok (.getfield 12, 3) := by decide +kernel
theorem dX3_digest_89 : decode cX3_digest 89 = .ok (.getfield 152, 3) := by decide +kernel
theorem dX3_digest_92 : decode cX3_digest 92 = .ok (.iload_n 3, 1) := by decide +kernel
theorem dX3_digest_93 : decode cX3_digest 93 = .ok (.aaload, 1) := by decide +kernel
theorem dX3_digest_94 : decode cX3_digest 94 = .ok (.invokevirtual 181, 3) := by decide +kernel
theorem dX3_digest_97 : decode cX3_digest 97 = .ok (.lstore_n 1, 1) := by decide +kernel
theorem dX3_digest_98 : decode cX3_digest 98 = .ok (.iinc 3 1, 3) := by decide +kernel
theorem dX3_digest_101 : decode cX3_digest 101 = .ok (.goto (-29), 3) := by decide +kernel
theorem dX3_digest_104 : decode cX3_digest 104 = .ok (.lload_n 1, 1) := by decide +kernel
theorem dX3_digest_105 : decode cX3_digest 105 = .ok (.lreturn, 1) := by decide +kernel
theorem dX3_isPlace_0 : decode cX3_isPlace 0 = .ok (.iload_n 0, 1) := by decide +kernel
theorem dX3_isPlace_1 : decode cX3_isPlace 1 = .ok (.ifCond .lt 13, 3) := by decide +kernel
theorem dX3_isPlace_4 : decode cX3_isPlace 4 = .ok (.iload_n 0, 1) := by decide +kernel
theorem dX3_isPlace_5 : decode cX3_isPlace 5 = .ok (.bipush 30, 2) := by decide +kernel
theorem dX3_isPlace_7 : decode cX3_isPlace 7 = .ok (.if_icmp .gt 7, 3) := by decide +kernel
theorem dX3_isPlace_10 : decode cX3_isPlace 10 = .ok (.iconst 1, 1) := by decide +kernel
theorem dX3_isPlace_11 : decode cX3_isPlace 11 = .ok (.goto 4, 3) := by decide +kernel
theorem dX3_isPlace_14 : decode cX3_isPlace 14 = .ok (.iconst 0, 1) := by decide +kernel
theorem dX3_isPlace_15 : decode cX3_isPlace 15 = .ok (.ireturn, 1) := by decide +kernel
theorem dX3_isDrum_0 : decode cX3_isDrum 0 = .ok (.iload_n 0, 1) := by decide +kernel
theorem dX3_isDrum_1 : decode cX3_isDrum 1 = .ok (.iconst 1, 1) := by decide +kernel
theorem dX3_isDrum_2 : decode cX3_isDrum 2 = .ok (.if_icmp .lt 13, 3) := by decide +kernel
theorem dX3_isDrum_5 : decode cX3_isDrum 5 = .ok (.iload_n 0, 1) := by decide +kernel
theorem dX3_isDrum_6 : decode cX3_isDrum 6 = .ok (.bipush 9, 2) := by decide +kernel
theorem dX3_isDrum_8 : decode cX3_isDrum 8 = .ok (.if_icmp .gt 7, 3) := by decide +kernel
theorem dX3_isDrum_11 : decode cX3_isDrum 11 = .ok (.iconst 1, 1) := by decide +kernel
theorem dX3_isDrum_12 : decode cX3_isDrum 12 = .ok (.goto 4, 3) := by decide +kernel
theorem dX3_isDrum_15 : decode cX3_isDrum 15 = .ok (.iconst 0, 1) := by decide +kernel
theorem dX3_isDrum_16 : decode cX3_isDrum 16 = .ok (.ireturn, 1) := by decide +kernel
theorem dX3_countTones_0 : decode cX3_countTones 0 = .ok (.iload_n 0, 1) := by decide +kernel
theorem dX3_countTones_1 : decode cX3_countTones 1 = .ok (.istore_n 1, 1) := by decide +kernel
theorem dX3_countTones_2 : decode cX3_countTones 2 = .ok (.iconst 0, 1) := by decide +kernel
theorem dX3_countTones_3 : decode cX3_countTones 3 = .ok (.istore_n 2, 1) := by decide +kernel
theorem dX3_countTones_4 : decode cX3_countTones 4 = .ok (.iload_n 2, 1) := by decide +kernel
theorem dX3_countTones_5 : decode cX3_countTones 5 = .ok (.bipush 8, 2) := by decide +kernel
theorem dX3_countTones_7 : decode cX3_countTones 7 = .ok (.if_icmp .gt 37, 3) := by decide +kernel
theorem dX3_countTones_10 : decode cX3_countTones 10 = .ok (.iload_n 1, 1) := by decide +kernel
theorem dX3_countTones_11 : decode cX3_countTones 11 = .ok (.ifCond .ne 5, 3) := by decide +kernel
theorem dX3_countTones_14 : decode cX3_countTones 14 = .ok (.iload_n 2, 1) := by decide +kernel
theorem dX3_countTones_15 : decode cX3_countTones 15 = .ok (.ireturn, 1) := by decide +kernel
theorem dX3_countTones_16 : decode cX3_countTones 16 = .ok (.iload_n 1, 1) := by decide +kernel
theorem dX3_countTones_17 : decode cX3_countTones 17 = .ok (.bipush 10, 2) := by decide +kernel
theorem dX3_countTones_19 : decode cX3_countTones 19 = .ok (.irem, 1) := by decide +kernel
theorem dX3_countTones_20 : decode cX3_countTones 20 = .ok (.istore_n 3, 1) := by decide +kernel
theorem dX3_countTones_21 : decode cX3_countTones 21 = .ok (.iload_n 3, 1) := by decide +kernel
theorem dX3_countTones_22 : decode cX3_countTones 22 = .ok (.iconst 1, 1) := by decide +kernel
theorem dX3_countTones_23 : decode cX3_countTones 23 = .ok (.if_icmp .eq 10, 3) := by decide +kernel
theorem dX3_countTones_26 : decode cX3_countTones 26 = .ok (.iload_n 3, 1) := by decide +kernel
theorem dX3_countTones_27 : decode cX3_countTones 27 = .ok (.iconst 2, 1) := by decide +kernel
theorem dX3_countTones_28 : decode cX3_countTones 28 = .ok (.if_icmp .eq 5, 3) := by decide +kernel
theorem dX3_countTones_31 : decode cX3_countTones 31 = .ok (.iconst 0, 1) := by decide +kernel
theorem dX3_countTones_32 : decode cX3_countTones 32 = .ok (.ireturn, 1) := by decide +kernel
theorem dX3_countTones_33 : decode cX3_countTones 33 = .ok (.iload_n 1, 1) := by decide +kernel
theorem dX3_countTones_34 : decode cX3_countTones 34 = .ok (.bipush 10, 2) := by decide +kernel
theorem dX3_countTones_36 : decode cX3_countTones 36 = .ok (.idiv, 1) := by decide +kernel
theorem dX3_countTones_37 : decode cX3_countTones 37 = .ok (.istore_n 1, 1) := by decide +kernel
theorem dX3_countTones_38 : decode cX3_countTones 38 = .ok (.iinc 2 1, 3) := by decide +kernel
theorem dX3_countTones_41 : decode cX3_countTones 41 = .ok (.goto (-37), 3) := by decide +kernel
theorem dX3_countTones_44 : decode cX3_countTones 44 = .ok (.iconst 0, 1) := by decide +kernel
theorem dX3_countTones_45 : decode cX3_countTones 45 = .ok (.ireturn, 1) := by decide +kernel
theorem dX3_checkVillage_0 : decode cX3_checkVillage 0 = .ok (.iload_n 1, 1) := by decide +kernel
theorem dX3_checkVillage_1 : decode cX3_checkVillage 1 = .ok (.ifCond .lt 14, 3) := by decide +kernel
theorem dX3_checkVillage_4 : decode cX3_checkVillage 4 = .ok (.iload_n 1, 1) := by decide +kernel
theorem dX3_checkVillage_5 : decode cX3_checkVillage 5 = .ok (.aload_n 0, 1) := by decide +kernel
theorem dX3_checkVillage_6 : decode cX3_checkVillage 6 = .ok (.getfield 12, 3) := by decide +kernel
theorem dX3_checkVillage_9 : decode cX3_checkVillage 9 = .ok (.getfield 33, 3) := by decide +kernel
theorem dX3_checkVillage_12 : decode cX3_checkVillage 12 = .ok (.if_icmp .lt 13, 3) := by decide +kernel
theorem dX3_checkVillage_15 : decode cX3_checkVillage 15 = .ok (.new 107, 3) := by decide +kernel
theorem dX3_checkVillage_18 : decode cX3_checkVillage 18 = .ok (.dup, 1) := by decide +kernel
theorem dX3_checkVillage_19 : decode cX3_checkVillage 19 = .ok (.ldc 185, 2) := by decide +kernel
theorem dX3_checkVillage_21 : decode cX3_checkVillage 21 = .ok (.invokespecial 111, 3) := by decide +kernel
theorem dX3_checkVillage_24 : decode cX3_checkVillage 24 = .ok (.athrow, 1) := by decide +kernel
theorem dX3_checkVillage_25 : decode cX3_checkVillage 25 = .ok (.return_, 1) := by decide +kernel
theorem dX3_checkPhrase_0 : decode cX3_checkPhrase 0 = .ok (.iload_n 1, 1) := by decide +kernel
theorem dX3_checkPhrase_1 : decode cX3_checkPhrase 1 = .ok (.ifCond .lt 14, 3) := by decide +kernel
theorem dX3_checkPhrase_4 : decode cX3_checkPhrase 4 = .ok (.iload_n 1, 1) := by decide +kernel
theorem dX3_checkPhrase_5 : decode cX3_checkPhrase 5 = .ok (.aload_n 0, 1) := by decide +kernel
theorem dX3_checkPhrase_6 : decode cX3_checkPhrase 6 = .ok (.getfield 12, 3) := by decide +kernel
theorem dX3_checkPhrase_9 : decode cX3_checkPhrase 9 = .ok (.getfield 79, 3) := by decide +kernel
theorem dX3_checkPhrase_12 : decode cX3_checkPhrase 12 = .ok (.if_icmp .lt 13, 3) := by decide +kernel
theorem dX3_checkPhrase_15 : decode cX3_checkPhrase 15 = .ok (.new 107, 3) := by decide +kernel
theorem dX3_checkPhrase_18 : decode cX3_checkPhrase 18 = .ok (.dup, 1) := by decide +kernel
theorem dX3_checkPhrase_19 : decode cX3_checkPhrase 19 = .ok (.ldc 187, 2) := by decide +kernel
theorem dX3_checkPhrase_21 : decode cX3_checkPhrase 21 = .ok (.invokespecial 111, 3) := by decide +kernel
theorem dX3_checkPhrase_24 : decode cX3_checkPhrase 24 = .ok (.athrow, 1) := by decide +kernel
theorem dX3_checkPhrase_25 : decode cX3_checkPhrase 25 = .ok (.return_, 1) := by decide +kernel
set_option maxRecDepth 20000 in
theorem ggX3_villageOf_X3_checkVillage : GoodIn wsX3_villageOf wsX3_checkVillage := goodIn_ca (goodIn_r _ [7, 8, 9, 1, 10, 11, 12, 13, 14, 15, 16, 17, 18, 19] (by decide +kernel) (by decide +kernel)) (goodIn_sub (fun _ h => List.mem_cons_of_mem _ (List.mem_append_right _ h)) (by decide +kernel))
set_option maxRecDepth 20000 in
theorem gX3_villageOf_X3_checkVillage : GoodIn wsX3_villageOf (wsV RX3 137 RX3 yX3_checkVillage wsX3_checkVillage) := goodIn_app (goodIn_of _ (by decide +kernel)) ggX3_villageOf_X3_checkVillage
theorem dX3_villageOf_0 : decode cX3_villageOf 0 = .ok (.aload_n 0, 1) := by decide +kernel
theorem dX3_villageOf_1 : decode cX3_villageOf 1 = .ok (.iload_n 1, 1) := by decide +kernel
theorem dX3_villageOf_2 : decode cX3_villageOf 2 = .ok (.invokevirtual 137, 3) := by decide +kernel
theorem dX3_villageOf_5 : decode cX3_villageOf 5 = .ok (.aload_n 0, 1) := by decide +kernel
theorem dX3_villageOf_6 : decode cX3_villageOf 6 = .ok (.getfield 12, 3) := by decide +kernel
theorem dX3_villageOf_9 : decode cX3_villageOf 9 = .ok (.getfield 152, 3) := by decide +kernel
theorem dX3_villageOf_12 : decode cX3_villageOf 12 = .ok (.iload_n 1, 1) := by decide +kernel
theorem dX3_villageOf_13 : decode cX3_villageOf 13 = .ok (.aaload, 1) := by decide +kernel
theorem dX3_villageOf_14 : decode cX3_villageOf 14 = .ok (.areturn, 1) := by decide +kernel
set_option maxRecDepth 20000 in
theorem ggX3_knowersIfTold_X0_copy : GoodIn wsX3_knowersIfTold wsX0_copy := goodIn_r _ [10, 11, 12, 13, 14, 15, 16, 17, 18, 19, 20, 21, 22, 23, 24, 25, 26, 27, 28, 29, 30, 31, 32, 33, 34, 35, 36, 37, 38, 39, 40, 41, 42, 43, 44, 45, 46, 47, 48, 49, 50, 51, 155, 156, 157, 158, 159, 160, 161, 162, 163, 164, 165, 166, 167, 168, 169, 170, 171, 172, 173, 174, 175, 176, 177, 178, 179] (by decide +kernel) (by decide +kernel)
set_option maxRecDepth 20000 in
theorem gX3_knowersIfTold_X0_copy : GoodIn wsX3_knowersIfTold (wsV RX3 148 RX0 yX0_copy wsX0_copy) := goodIn_app (goodIn_of _ (by decide +kernel)) ggX3_knowersIfTold_X0_copy
set_option maxRecDepth 20000 in
theorem ggX3_knowersIfTold_X0_letGo : GoodIn wsX3_knowersIfTold wsX0_letGo := goodIn_r _ [55, 20, 56, 57, 58, 9, 59, 11, 12, 60, 61, 62, 63, 64, 65, 25, 66, 33, 67, 68, 69, 70, 71, 72, 73, 74, 37, 75, 76, 77, 78, 79, 31, 32, 80, 81, 82, 83, 84, 85, 86, 87, 19, 18, 88, 89, 21, 90, 91, 92, 93, 94, 35, 36, 15, 16, 17, 95, 96, 97, 98, 27, 99, 100, 101, 102, 28, 103, 104, 105, 106, 29, 107, 108, 109, 44, 110, 47, 46, 49, 50, 51, 111, 112, 113, 114, 39, 115, 116, 117, 118, 119, 120, 121, 122, 123, 124, 125, 126, 127, 128, 129, 40, 130, 131, 132, 133, 134, 135, 136, 137, 138, 38, 139, 140, 141, 142, 143, 144, 145, 146, 34, 155, 156, 157, 158, 159, 160, 161, 162, 163, 164, 165, 166, 167, 168, 169, 170, 171, 172, 173, 174, 175, 176, 177, 178, 179] (by decide +kernel) (by decide +kernel)
set_option maxRecDepth 20000 in
theorem gX3_knowersIfTold_X0_letGo : GoodIn wsX3_knowersIfTold (wsV RX3 145 RX0 yX0_letGo wsX0_letGo) := goodIn_app (goodIn_of _ (by decide +kernel)) ggX3_knowersIfTold_X0_letGo
set_option maxRecDepth 20000 in
theorem ggX3_knowersIfTold_X2_takeIn : GoodIn wsX3_knowersIfTold wsX2_takeIn := goodIn_r _ [142, 38, 37, 35, 162, 163, 164, 165, 166, 167, 168, 169, 170, 171, 172, 173, 174] (by decide +kernel) (by decide +kernel)
set_option maxRecDepth 20000 in
theorem gX3_knowersIfTold_X2_takeIn : GoodIn wsX3_knowersIfTold (wsV RX3 103 RX2 yX2_takeIn wsX2_takeIn) := goodIn_app (goodIn_of _ (by decide +kernel)) ggX3_knowersIfTold_X2_takeIn
set_option maxRecDepth 20000 in
theorem ggX3_knowersIfTold_X0_knowersOf : GoodIn wsX3_knowersIfTold wsX0_knowersOf := goodIn_r _ [151, 11, 12, 152, 136, 137, 25, 138, 38, 155, 156, 157, 158, 159, 160, 161, 162, 163, 164, 165, 166, 167, 168, 169, 170, 171, 172, 173, 174] (by decide +kernel) (by decide +kernel)
set_option maxRecDepth 20000 in
theorem gX3_knowersIfTold_X0_knowersOf : GoodIn wsX3_knowersIfTold (wsV RX3 159 RX0 yX0_knowersOf wsX0_knowersOf) := goodIn_app (goodIn_of _ (by decide +kernel)) ggX3_knowersIfTold_X0_knowersOf
theorem dX3_knowersIfTold_0 : decode cX3_knowersIfTold 0 = .ok (.aload_n 0, 1) := by decide +kernel
theorem dX3_knowersIfTold_1 : decode cX3_knowersIfTold 1 = .ok (.getfield 16, 3) := by decide +kernel
theorem dX3_knowersIfTold_4 : decode cX3_knowersIfTold 4 = .ok (.aload_n 0, 1) := by decide +kernel
theorem dX3_knowersIfTold_5 : decode cX3_knowersIfTold 5 = .ok (.getfield 12, 3) := by decide +kernel
theorem dX3_knowersIfTold_8 : decode cX3_knowersIfTold 8 = .ok (.invokevirtual 148, 3) := by decide +kernel
theorem dX3_knowersIfTold_11 : decode cX3_knowersIfTold 11 = .ok (.aload_n 0, 1) := by decide +kernel
theorem dX3_knowersIfTold_12 : decode cX3_knowersIfTold 12 = .ok (.getfield 16, 3) := by decide +kernel
theorem dX3_knowersIfTold_15 : decode cX3_knowersIfTold 15 = .ok (.iload_n 3, 1) := by decide +kernel
theorem dX3_knowersIfTold_16 : decode cX3_knowersIfTold 16 = .ok (.invokevirtual 145, 3) := by decide +kernel
theorem dX3_knowersIfTold_19 : decode cX3_knowersIfTold 19 = .ok (.pop, 1) := by decide +kernel
theorem dX3_knowersIfTold_20 : decode cX3_knowersIfTold 20 = .ok (.aload_n 0, 1) := by decide +kernel
theorem dX3_knowersIfTold_21 : decode cX3_knowersIfTold 21 = .ok (.getfield 16, 3) := by decide +kernel
theorem dX3_knowersIfTold_24 : decode cX3_knowersIfTold 24 = .ok (.getfield 152, 3) := by decide +kernel
theorem dX3_knowersIfTold_27 : decode cX3_knowersIfTold 27 = .ok (.iload_n 1, 1) := by decide +kernel
theorem dX3_knowersIfTold_28 : decode cX3_knowersIfTold 28 = .ok (.aaload, 1) := by decide +kernel
theorem dX3_knowersIfTold_29 : decode cX3_knowersIfTold 29 = .ok (.astore 4, 2) := by decide +kernel
theorem dX3_knowersIfTold_31 : decode cX3_knowersIfTold 31 = .ok (.aload 4, 2) := by decide +kernel
theorem dX3_knowersIfTold_33 : decode cX3_knowersIfTold 33 = .ok (.getfield 95, 3) := by decide +kernel
theorem dX3_knowersIfTold_36 : decode cX3_knowersIfTold 36 = .ok (.iconst 5, 1) := by decide +kernel
theorem dX3_knowersIfTold_37 : decode cX3_knowersIfTold 37 = .ok (.if_icmp .ge 16, 3) := by decide +kernel
theorem dX3_knowersIfTold_40 : decode cX3_knowersIfTold 40 = .ok (.aload 4, 2) := by decide +kernel
theorem dX3_knowersIfTold_42 : decode cX3_knowersIfTold 42 = .ok (.iload_n 2, 1) := by decide +kernel
theorem dX3_knowersIfTold_43 : decode cX3_knowersIfTold 43 = .ok (.aload_n 0, 1) := by decide +kernel
theorem dX3_knowersIfTold_44 : decode cX3_knowersIfTold 44 = .ok (.getfield 16, 3) := by decide +kernel
theorem dX3_knowersIfTold_47 : decode cX3_knowersIfTold 47 = .ok (.getfield 100, 3) := by decide +kernel
theorem dX3_knowersIfTold_50 : decode cX3_knowersIfTold 50 = .ok (.invokevirtual 103, 3) := by decide +kernel
theorem dX3_knowersIfTold_53 : decode cX3_knowersIfTold 53 = .ok (.aload_n 0, 1) := by decide +kernel
theorem dX3_knowersIfTold_54 : decode cX3_knowersIfTold 54 = .ok (.getfield 16, 3) := by decide +kernel
theorem dX3_knowersIfTold_57 : decode cX3_knowersIfTold 57 = .ok (.bipush 80, 2) := by decide +kernel
theorem dX3_knowersIfTold_59 : decode cX3_knowersIfTold 59 = .ok (.iload_n 3, 1) := by decide +kernel
theorem dX3_knowersIfTold_60 : decode cX3_knowersIfTold 60 = .ok (.isub, 1) := by decide +kernel
theorem dX3_knowersIfTold_61 : decode cX3_knowersIfTold 61 = .ok (.invokevirtual 145, 3) := by decide +kernel
theorem dX3_knowersIfTold_64 : decode cX3_knowersIfTold 64 = .ok (.pop, 1) := by decide +kernel
theorem dX3_knowersIfTold_65 : decode cX3_knowersIfTold 65 = .ok (.aload_n 0, 1) := by decide +kernel
theorem dX3_knowersIfTold_66 : decode cX3_knowersIfTold 66 = .ok (.getfield 16, 3) := by decide +kernel
theorem dX3_knowersIfTold_69 : decode cX3_knowersIfTold 69 = .ok (.iload_n 2, 1) := by decide +kernel
theorem dX3_knowersIfTold_70 : decode cX3_knowersIfTold 70 = .ok (.invokevirtual 159, 3) := by decide +kernel
theorem dX3_knowersIfTold_73 : decode cX3_knowersIfTold 73 = .ok (.ireturn, 1) := by decide +kernel
set_option maxRecDepth 20000 in
theorem ggX3_pairsIfLarger_X0_copy : GoodIn wsX3_pairsIfLarger wsX0_copy := goodIn_r _ [9, 10, 11, 12, 13, 14, 15, 16, 17, 18, 19, 20, 21, 22, 23, 24, 25, 26, 27, 28, 29, 30, 31, 32, 33, 34, 35, 36, 37, 38, 39, 40, 41, 42, 43, 44, 45, 46, 47, 48, 49, 50, 156, 157, 158, 159, 160, 161, 162, 163, 164, 165, 166, 167, 168, 169, 170, 171, 172, 173, 174, 175, 176, 177, 178, 179, 180] (by decide +kernel) (by decide +kernel)
set_option maxRecDepth 20000 in
theorem gX3_pairsIfLarger_X0_copy : GoodIn wsX3_pairsIfLarger (wsV RX3 148 RX0 yX0_copy wsX0_copy) := goodIn_app (goodIn_of _ (by decide +kernel)) ggX3_pairsIfLarger_X0_copy
set_option maxRecDepth 20000 in
theorem ggX3_pairsIfLarger_X0_letGo : GoodIn wsX3_pairsIfLarger wsX0_letGo := goodIn_r _ [54, 19, 55, 56, 57, 8, 58, 10, 11, 59, 60, 61, 62, 63, 64, 24, 65, 32, 66, 67, 68, 69, 70, 71, 72, 73, 36, 74, 75, 76, 77, 78, 30, 31, 79, 80, 81, 82, 83, 84, 85, 86, 18, 17, 87, 88, 20, 89, 90, 91, 92, 93, 34, 35, 14, 15, 16, 94, 95, 96, 97, 26, 98, 99, 100, 101, 27, 102, 103, 104, 105, 28, 106, 107, 108, 43, 109, 46, 45, 48, 49, 50, 110, 111, 112, 113, 38, 114, 115, 116, 117, 118, 119, 120, 121, 122, 123, 124, 125, 126, 127, 128, 39, 129, 130, 131, 132, 133, 134, 135, 136, 137, 37, 138, 139, 140, 141, 142, 143, 144, 145, 33, 156, 157, 158, 159, 160, 161, 162, 163, 164, 165, 166, 167, 168, 169, 170, 171, 172, 173, 174, 175, 176, 177, 178, 179, 180] (by decide +kernel) (by decide +kernel)
set_option maxRecDepth 20000 in
theorem gX3_pairsIfLarger_X0_letGo : GoodIn wsX3_pairsIfLarger (wsV RX3 145 RX0 yX0_letGo wsX0_letGo) := goodIn_app (goodIn_of _ (by decide +kernel)) ggX3_pairsIfLarger_X0_letGo
set_option maxRecDepth 20000 in
theorem ggX3_pairsIfLarger_X0_knownPairs : GoodIn wsX3_pairsIfLarger wsX0_knownPairs := goodIn_r _ [149, 10, 11, 150, 151, 152, 24, 153, 134, 135, 136, 137, 37, 156, 157, 158, 159, 160, 161, 162, 163, 164, 165, 166, 167, 168, 169, 170, 171, 172, 173, 174, 175] (by decide +kernel) (by decide +kernel)
set_option maxRecDepth 20000 in
theorem gX3_pairsIfLarger_X0_knownPairs : GoodIn wsX3_pairsIfLarger (wsV RX3 167 RX0 yX0_knownPairs wsX0_knownPairs) := goodIn_app (goodIn_of _ (by decide +kernel)) ggX3_pairsIfLarger_X0_knownPairs
theorem dX3_pairsIfLarger_0 : decode cX3_pairsIfLarger 0 = .ok (.aload_n 0, 1) := by decide +kernel
theorem dX3_pairsIfLarger_1 : decode cX3_pairsIfLarger 1 = .ok (.getfield 16, 3) := by decide +kernel
theorem dX3_pairsIfLarger_4 : decode cX3_pairsIfLarger 4 = .ok (.aload_n 0, 1) := by decide +kernel
theorem dX3_pairsIfLarger_5 : decode cX3_pairsIfLarger 5 = .ok (.getfield 12, 3) := by decide +kernel
theorem dX3_pairsIfLarger_8 : decode cX3_pairsIfLarger 8 = .ok (.invokevirtual 148, 3) := by decide +kernel
theorem dX3_pairsIfLarger_11 : decode cX3_pairsIfLarger 11 = .ok (.aload_n 0, 1) := by decide +kernel
theorem dX3_pairsIfLarger_12 : decode cX3_pairsIfLarger 12 = .ok (.getfield 16, 3) := by decide +kernel
theorem dX3_pairsIfLarger_15 : decode cX3_pairsIfLarger 15 = .ok (.getfield 152, 3) := by decide +kernel
theorem dX3_pairsIfLarger_18 : decode cX3_pairsIfLarger 18 = .ok (.iload_n 1, 1) := by decide +kernel
theorem dX3_pairsIfLarger_19 : decode cX3_pairsIfLarger 19 = .ok (.aaload, 1) := by decide +kernel
theorem dX3_pairsIfLarger_20 : decode cX3_pairsIfLarger 20 = .ok (.dup, 1) := by decide +kernel
theorem dX3_pairsIfLarger_21 : decode cX3_pairsIfLarger 21 = .ok (.getfield 56, 3) := by decide +kernel
theorem dX3_pairsIfLarger_24 : decode cX3_pairsIfLarger 24 = .ok (.iconst 1, 1) := by decide +kernel
theorem dX3_pairsIfLarger_25 : decode cX3_pairsIfLarger 25 = .ok (.iadd, 1) := by decide +kernel
theorem dX3_pairsIfLarger_26 : decode cX3_pairsIfLarger 26 = .ok (.putfield 56, 3) := by decide +kernel
theorem dX3_pairsIfLarger_29 : decode cX3_pairsIfLarger 29 = .ok (.aload_n 0, 1) := by decide +kernel
theorem dX3_pairsIfLarger_30 : decode cX3_pairsIfLarger 30 = .ok (.getfield 16, 3) := by decide +kernel
theorem dX3_pairsIfLarger_33 : decode cX3_pairsIfLarger 33 = .ok (.iload_n 2, 1) := by decide +kernel
theorem dX3_pairsIfLarger_34 : decode cX3_pairsIfLarger 34 = .ok (.invokevirtual 145, 3) := by decide +kernel
theorem dX3_pairsIfLarger_37 : decode cX3_pairsIfLarger 37 = .ok (.pop, 1) := by decide +kernel
theorem dX3_pairsIfLarger_38 : decode cX3_pairsIfLarger 38 = .ok (.aload_n 0, 1) := by decide +kernel
theorem dX3_pairsIfLarger_39 : decode cX3_pairsIfLarger 39 = .ok (.getfield 16, 3) := by decide +kernel
theorem dX3_pairsIfLarger_42 : decode cX3_pairsIfLarger 42 = .ok (.invokevirtual 167, 3) := by decide +kernel
theorem dX3_pairsIfLarger_45 : decode cX3_pairsIfLarger 45 = .ok (.ireturn, 1) := by decide +kernel
set_option maxRecDepth 20000 in
theorem ggX3_digestOn_X2_figure : GoodIn wsX3_digestOn wsX2_figure := goodIn_r _ [13, 14, 15, 16, 17, 18, 19, 20, 21, 22, 23, 24, 12, 25, 26, 27, 28, 29, 30, 31, 32, 33, 34, 35, 36, 37, 38, 39, 40, 57, 58, 59, 60, 61, 62, 63, 64, 65, 66, 67, 68, 69] (by decide +kernel) (by decide +kernel)
set_option maxRecDepth 20000 in
theorem gX3_digestOn_X2_figure : GoodIn wsX3_digestOn (wsV RX3 112 RX2 yX2_figure wsX2_figure) := goodIn_app (goodIn_of _ (by decide +kernel)) ggX3_digestOn_X2_figure
set_option maxRecDepth 20000 in
theorem ggX3_digestOn_X1_lasting : GoodIn wsX3_digestOn wsX1_lasting := goodIn_r _ [45, 46, 47, 70, 71, 72, 73, 74] (by decide +kernel) (by decide +kernel)
set_option maxRecDepth 20000 in
theorem gX3_digestOn_X1_lasting : GoodIn wsX3_digestOn (wsV RX3 128 RX1 yX1_lasting wsX1_lasting) := goodIn_app (goodIn_of _ (by decide +kernel)) ggX3_digestOn_X1_lasting
theorem dX3_digestOn_0 : decode cX3_digestOn 0 = .ok (.lload_n 1, 1) := by decide +kernel
theorem dX3_digestOn_1 : decode cX3_digestOn 1 = .ok (.lstore 4, 2) := by decide +kernel
theorem dX3_digestOn_3 : decode cX3_digestOn 3 = .ok (.iconst 0, 1) := by decide +kernel
theorem dX3_digestOn_4 : decode cX3_digestOn 4 = .ok (.istore 6, 2) := by decide +kernel
theorem dX3_digestOn_6 : decode cX3_digestOn 6 = .ok (.iload 6, 2) := by decide +kernel
theorem dX3_digestOn_8 : decode cX3_digestOn 8 = .ok (.bipush 10, 2) := by decide +kernel
theorem dX3_digestOn_10 : decode cX3_digestOn 10 = .ok (.if_icmp .ge 32, 3) := by decide +kernel
theorem dX3_digestOn_13 : decode cX3_digestOn 13 = .ok (.lload 4, 2) := by decide +kernel
theorem dX3_digestOn_15 : decode cX3_digestOn 15 = .ok (.ldc2_w 176, 3) := by decide +kernel
theorem dX3_digestOn_18 : decode cX3_digestOn 18 = .ok (.lmul, 1) := by decide +kernel
theorem dX3_digestOn_19 : decode cX3_digestOn 19 = .ok (.aload_n 3, 1) := by decide +kernel
theorem dX3_digestOn_20 : decode cX3_digestOn 20 = .ok (.iload 6, 2) := by decide +kernel
theorem dX3_digestOn_22 : decode cX3_digestOn 22 = .ok (.aload_n 0, 1) := by decide +kernel
theorem dX3_digestOn_23 : decode cX3_digestOn 23 = .ok (.getfield 12, 3) := by decide +kernel
theorem dX3_digestOn_26 : decode cX3_digestOn 26 = .ok (.getfield 100, 3) := by decide +kernel
theorem dX3_digestOn_29 : decode cX3_digestOn 29 = .ok (.invokevirtual 112, 3) := by decide +kernel
theorem dX3_digestOn_32 : decode cX3_digestOn 32 = .ok (.i2l, 1) := by decide +kernel
theorem dX3_digestOn_33 : decode cX3_digestOn 33 = .ok (.ladd, 1) := by decide +kernel
theorem dX3_digestOn_34 : decode cX3_digestOn 34 = .ok (.lstore 4, 2) := by decide +kernel
theorem dX3_digestOn_36 : decode cX3_digestOn 36 = .ok (.iinc 6 1, 3) := by decide +kernel
theorem dX3_digestOn_39 : decode cX3_digestOn 39 = .ok (.goto (-33), 3) := by decide +kernel
theorem dX3_digestOn_42 : decode cX3_digestOn 42 = .ok (.lload 4, 2) := by decide +kernel
theorem dX3_digestOn_44 : decode cX3_digestOn 44 = .ok (.ldc2_w 176, 3) := by decide +kernel
theorem dX3_digestOn_47 : decode cX3_digestOn 47 = .ok (.lmul, 1) := by decide +kernel
theorem dX3_digestOn_48 : decode cX3_digestOn 48 = .ok (.aload_n 3, 1) := by decide +kernel
theorem dX3_digestOn_49 : decode cX3_digestOn 49 = .ok (.getfield 124, 3) := by decide +kernel
theorem dX3_digestOn_52 : decode cX3_digestOn 52 = .ok (.aload_n 0, 1) := by decide +kernel
theorem dX3_digestOn_53 : decode cX3_digestOn 53 = .ok (.getfield 12, 3) := by decide +kernel
theorem dX3_digestOn_56 : decode cX3_digestOn 56 = .ok (.getfield 100, 3) := by decide +kernel
theorem dX3_digestOn_59 : decode cX3_digestOn 59 = .ok (.invokevirtual 128, 3) := by decide +kernel
theorem dX3_digestOn_62 : decode cX3_digestOn 62 = .ok (.i2l, 1) := by decide +kernel
theorem dX3_digestOn_63 : decode cX3_digestOn 63 = .ok (.ladd, 1) := by decide +kernel
theorem dX3_digestOn_64 : decode cX3_digestOn 64 = .ok (.lstore 4, 2) := by decide +kernel
theorem dX3_digestOn_66 : decode cX3_digestOn 66 = .ok (.iconst 0, 1) := by decide +kernel
theorem dX3_digestOn_67 : decode cX3_digestOn 67 = .ok (.istore 6, 2) := by decide +kernel
theorem dX3_digestOn_69 : decode cX3_digestOn 69 = .ok (.iload 6, 2) := by decide +kernel
theorem dX3_digestOn_71 : decode cX3_digestOn 71 = .ok (.aload_n 3, 1) := by decide +kernel
theorem dX3_digestOn_72 : decode cX3_digestOn 72 = .ok (.getfield 95, 3) := by decide +kernel
theorem dX3_digestOn_75 : decode cX3_digestOn 75 = .ok (.if_icmp .ge 26, 3) := by decide +kernel
theorem dX3_digestOn_78 : decode cX3_digestOn 78 = .ok (.lload 4, 2) := by decide +kernel
theorem dX3_digestOn_80 : decode cX3_digestOn 80 = .ok (.ldc2_w 176, 3) := by decide +kernel
theorem dX3_digestOn_83 : decode cX3_digestOn 83 = .ok (.lmul, 1) := by decide +kernel
theorem dX3_digestOn_84 : decode cX3_digestOn 84 = .ok (.aload_n 3, 1) := by decide +kernel
theorem dX3_digestOn_85 : decode cX3_digestOn 85 = .ok (.getfield 117, 3) := by decide +kernel
theorem dX3_digestOn_88 : decode cX3_digestOn 88 = .ok (.iload 6, 2) := by decide +kernel
theorem dX3_digestOn_90 : decode cX3_digestOn 90 = .ok (.iaload, 1) := by decide +kernel
theorem dX3_digestOn_91 : decode cX3_digestOn 91 = .ok (.i2l, 1) := by decide +kernel
theorem dX3_digestOn_92 : decode cX3_digestOn 92 = .ok (.ladd, 1) := by decide +kernel
theorem dX3_digestOn_93 : decode cX3_digestOn 93 = .ok (.lstore 4, 2) := by decide +kernel
theorem dX3_digestOn_95 : decode cX3_digestOn 95 = .ok (.iinc 6 1, 3) := by decide +kernel
theorem dX3_digestOn_98 : decode cX3_digestOn 98 = .ok (.goto (-29), 3) := by decide +kernel
theorem dX3_digestOn_101 : decode cX3_digestOn 101 = .ok (.iconst 0, 1) := by decide +kernel
theorem dX3_digestOn_102 : decode cX3_digestOn 102 = .ok (.istore 6, 2) := by decide +kernel
theorem dX3_digestOn_104 : decode cX3_digestOn 104 = .ok (.iload 6, 2) := by decide +kernel
theorem dX3_digestOn_106 : decode cX3_digestOn 106 = .ok (.aload_n 0, 1) := by decide +kernel
theorem dX3_digestOn_107 : decode cX3_digestOn 107 = .ok (.getfield 12, 3) := by decide +kernel
theorem dX3_digestOn_110 : decode cX3_digestOn 110 = .ok (.getfield 79, 3) := by decide +kernel
theorem dX3_digestOn_113 : decode cX3_digestOn 113 = .ok (.if_icmp .ge 26, 3) := by decide +kernel
theorem dX3_digestOn_116 : decode cX3_digestOn 116 = .ok (.lload 4, 2) := by decide +kernel
theorem dX3_digestOn_118 : decode cX3_digestOn 118 = .ok (.ldc2_w 176, 3) := by decide +kernel
theorem dX3_digestOn_121 : decode cX3_digestOn 121 = .ok (.lmul, 1) := by decide +kernel
theorem dX3_digestOn_122 : decode cX3_digestOn 122 = .ok (.aload_n 3, 1) := by decide +kernel
theorem dX3_digestOn_123 : decode cX3_digestOn 123 = .ok (.getfield 121, 3) := by decide +kernel
theorem dX3_digestOn_126 : decode cX3_digestOn 126 = .ok (.iload 6, 2) := by decide +kernel
theorem dX3_digestOn_128 : decode cX3_digestOn 128 = .ok (.iaload, 1) := by decide +kernel
theorem dX3_digestOn_129 : decode cX3_digestOn 129 = .ok (.i2l, 1) := by decide +kernel
theorem dX3_digestOn_130 : decode cX3_digestOn 130 = .ok (.ladd, 1) := by decide +kernel
theorem dX3_digestOn_131 : decode cX3_digestOn 131 = .ok (.lstore 4, 2) := by decide +kernel
theorem dX3_digestOn_133 : decode cX3_digestOn 133 = .ok (.iinc 6 1, 3) := by decide +kernel
theorem dX3_digestOn_136 : decode cX3_digestOn 136 = .ok (.goto (-32), 3) := by decide +kernel
theorem dX3_digestOn_139 : decode cX3_digestOn 139 = .ok (.lload 4, 2) := by decide +kernel
theorem dX3_digestOn_141 : decode cX3_digestOn 141 = .ok (.lreturn, 1) := by decide +kernel
