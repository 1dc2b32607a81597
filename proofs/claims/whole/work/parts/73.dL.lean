set_option maxRecDepth 20000 in
theorem ggL_found_X3_found : GoodIn wsL_found wsX3_found := goodIn_ca (goodIn_ca (goodIn_r _ [7, 8, 9, 10, 11, 12, 13, 14, 15, 6, 16, 17, 18, 19, 20, 21, 22, 23, 24, 25, 26, 27, 28, 29, 30, 31, 32, 33, 34, 35, 36, 37, 38, 39, 40, 41, 42, 43, 44, 45, 46, 47, 48, 49, 50, 51, 52, 53, 54, 55] (by decide +kernel) (by decide +kernel)) (goodIn_sub (fun _ h => List.mem_cons_of_mem _ (List.mem_append_left _ (List.mem_append_right _ h))) (by decide +kernel))) (goodIn_sub (fun _ h => List.mem_cons_of_mem _ (List.mem_append_right _ h)) (by decide +kernel))
set_option maxRecDepth 20000 in
theorem gL_found_X3_found : GoodIn wsL_found (wsV RL 7 RX3 yX3_found wsX3_found) := goodIn_app (goodIn_of _ (by decide +kernel)) ggL_found_X3_found
theorem dL_found_0 : decode cL_found 0 = .ok (.aload 4, 2) := by decide +kernel
theorem dL_found_2 : decode cL_found 2 = .ok (.iconst 0, 1) := by decide +kernel
theorem dL_found_3 : decode cL_found 3 = .ok (.aload_n 0, 1) := by decide +kernel
theorem dL_found_4 : decode cL_found 4 = .ok (.iload_n 1, 1) := by decide +kernel
theorem dL_found_5 : decode cL_found 5 = .ok (.iload_n 2, 1) := by decide +kernel
theorem dL_found_6 : decode cL_found 6 = .ok (.iload_n 3, 1) := by decide +kernel
theorem dL_found_7 : decode cL_found 7 = .ok (.invokevirtual 7, 3) := by decide +kernel
theorem dL_found_10 : decode cL_found 10 = .ok (.i2l, 1) := by decide +kernel
theorem dL_found_11 : decode cL_found 11 = .ok (.lastore, 1) := by decide +kernel
theorem dL_found_12 : decode cL_found 12 = .ok (.goto 11, 3) := by decide +kernel
theorem dL_found_15 : decode cL_found 15 = .ok (.astore 5, 2) := by decide +kernel
theorem dL_found_17 : decode cL_found 17 = .ok (.iconst 1, 1) := by decide +kernel
theorem dL_found_18 : decode cL_found 18 = .ok (.ireturn, 1) := by decide +kernel
theorem dL_found_19 : decode cL_found 19 = .ok (.astore 5, 2) := by decide +kernel
theorem dL_found_21 : decode cL_found 21 = .ok (.iconst 2, 1) := by decide +kernel
theorem dL_found_22 : decode cL_found 22 = .ok (.ireturn, 1) := by decide +kernel
theorem dL_found_23 : decode cL_found 23 = .ok (.iconst 0, 1) := by decide +kernel
theorem dL_found_24 : decode cL_found 24 = .ok (.ireturn, 1) := by decide +kernel
set_option maxRecDepth 20000 in
theorem ggL_setDrum_X3_setDrum : GoodIn wsL_setDrum wsX3_setDrum := goodIn_ca (goodIn_ca (goodIn_r _ [7, 8, 9, 10, 11, 12, 13, 6, 14, 15, 16, 17, 18, 19, 20, 21, 22, 23, 24, 25, 26, 27, 28, 29, 30, 31, 32, 33, 34, 35, 36, 37, 38, 39, 40, 41, 42, 43, 44, 45, 46, 47, 48] (by decide +kernel) (by decide +kernel)) (goodIn_sub (fun _ h => List.mem_cons_of_mem _ (List.mem_append_left _ (List.mem_append_right _ h))) (by decide +kernel))) (goodIn_sub (fun _ h => List.mem_cons_of_mem _ (List.mem_append_right _ h)) (by decide +kernel))
set_option maxRecDepth 20000 in
theorem gL_setDrum_X3_setDrum : GoodIn wsL_setDrum (wsV RL 17 RX3 yX3_setDrum wsX3_setDrum) := goodIn_app (goodIn_of _ (by decide +kernel)) ggL_setDrum_X3_setDrum
theorem dL_setDrum_0 : decode cL_setDrum 0 = .ok (.aload_n 3, 1) := by decide +kernel
theorem dL_setDrum_1 : decode cL_setDrum 1 = .ok (.iconst 0, 1) := by decide +kernel
theorem dL_setDrum_2 : decode cL_setDrum 2 = .ok (.aload_n 0, 1) := by decide +kernel
theorem dL_setDrum_3 : decode cL_setDrum 3 = .ok (.iload_n 1, 1) := by decide +kernel
theorem dL_setDrum_4 : decode cL_setDrum 4 = .ok (.iload_n 2, 1) := by decide +kernel
theorem dL_setDrum_5 : decode cL_setDrum 5 = .ok (.invokevirtual 17, 3) := by decide +kernel
theorem dL_setDrum_8 : decode cL_setDrum 8 = .ok (.i2l, 1) := by decide +kernel
theorem dL_setDrum_9 : decode cL_setDrum 9 = .ok (.lastore, 1) := by decide +kernel
theorem dL_setDrum_10 : decode cL_setDrum 10 = .ok (.goto 11, 3) := by decide +kernel
theorem dL_setDrum_13 : decode cL_setDrum 13 = .ok (.astore 4, 2) := by decide +kernel
theorem dL_setDrum_15 : decode cL_setDrum 15 = .ok (.iconst 1, 1) := by decide +kernel
theorem dL_setDrum_16 : decode cL_setDrum 16 = .ok (.ireturn, 1) := by decide +kernel
theorem dL_setDrum_17 : decode cL_setDrum 17 = .ok (.astore 4, 2) := by decide +kernel
theorem dL_setDrum_19 : decode cL_setDrum 19 = .ok (.iconst 2, 1) := by decide +kernel
theorem dL_setDrum_20 : decode cL_setDrum 20 = .ok (.ireturn, 1) := by decide +kernel
theorem dL_setDrum_21 : decode cL_setDrum 21 = .ok (.iconst 0, 1) := by decide +kernel
theorem dL_setDrum_22 : decode cL_setDrum 22 = .ok (.ireturn, 1) := by decide +kernel
set_option maxRecDepth 20000 in
theorem ggL_setCliff_X3_setCliff : GoodIn wsL_setCliff wsX3_setCliff := goodIn_ca (goodIn_r _ [6, 7, 8, 9, 10, 5, 11, 12, 13, 14, 15, 16, 17, 18, 19, 20, 21, 22, 23, 24, 25, 26, 27, 28, 29, 30, 31, 32, 33, 34, 35, 36, 37, 38, 39, 40, 41, 42] (by decide +kernel) (by decide +kernel)) (goodIn_sub (fun _ h => List.mem_cons_of_mem _ (List.mem_append_right _ h)) (by decide +kernel))
set_option maxRecDepth 20000 in
theorem gL_setCliff_X3_setCliff : GoodIn wsL_setCliff (wsV RL 23 RX3 yX3_setCliff wsX3_setCliff) := goodIn_app (goodIn_of _ (by decide +kernel)) ggL_setCliff_X3_setCliff
theorem dL_setCliff_0 : decode cL_setCliff 0 = .ok (.aload_n 3, 1) := by decide +kernel
theorem dL_setCliff_1 : decode cL_setCliff 1 = .ok (.iconst 0, 1) := by decide +kernel
theorem dL_setCliff_2 : decode cL_setCliff 2 = .ok (.aload_n 0, 1) := by decide +kernel
theorem dL_setCliff_3 : decode cL_setCliff 3 = .ok (.iload_n 1, 1) := by decide +kernel
theorem dL_setCliff_4 : decode cL_setCliff 4 = .ok (.iload_n 2, 1) := by decide +kernel
theorem dL_setCliff_5 : decode cL_setCliff 5 = .ok (.invokevirtual 23, 3) := by decide +kernel
theorem dL_setCliff_8 : decode cL_setCliff 8 = .ok (.ifCond .eq 7, 3) := by decide +kernel
theorem dL_setCliff_11 : decode cL_setCliff 11 = .ok (.lconst 1, 1) := by decide +kernel
theorem dL_setCliff_12 : decode cL_setCliff 12 = .ok (.goto 4, 3) := by decide +kernel
theorem dL_setCliff_15 : decode cL_setCliff 15 = .ok (.lconst 0, 1) := by decide +kernel
theorem dL_setCliff_16 : decode cL_setCliff 16 = .ok (.lastore, 1) := by decide +kernel
theorem dL_setCliff_17 : decode cL_setCliff 17 = .ok (.goto 7, 3) := by decide +kernel
theorem dL_setCliff_20 : decode cL_setCliff 20 = .ok (.astore 4, 2) := by decide +kernel
theorem dL_setCliff_22 : decode cL_setCliff 22 = .ok (.iconst 1, 1) := by decide +kernel
theorem dL_setCliff_23 : decode cL_setCliff 23 = .ok (.ireturn, 1) := by decide +kernel
theorem dL_setCliff_24 : decode cL_setCliff 24 = .ok (.iconst 0, 1) := by decide +kernel
theorem dL_setCliff_25 : decode cL_setCliff 25 = .ok (.ireturn, 1) := by decide +kernel
set_option maxRecDepth 20000 in
theorem ggL_setAwake_X3_setAwake : GoodIn wsL_setAwake wsX3_setAwake := goodIn_ca (goodIn_ca (goodIn_r _ [7, 8, 9, 10, 11, 12, 13, 14, 6, 15, 16, 17, 18, 19, 20, 21, 22, 23, 24, 25, 26, 27, 28, 29, 30, 31, 32, 33, 34, 35, 36, 37, 38, 39, 40, 41, 42, 43, 44, 45, 46] (by decide +kernel) (by decide +kernel)) (goodIn_sub (fun _ h => List.mem_cons_of_mem _ (List.mem_append_left _ (List.mem_append_right _ h))) (by decide +kernel))) (goodIn_sub (fun _ h => List.mem_cons_of_mem _ (List.mem_append_right _ h)) (by decide +kernel))
set_option maxRecDepth 20000 in
theorem gL_setAwake_X3_setAwake : GoodIn wsL_setAwake (wsV RL 27 RX3 yX3_setAwake wsX3_setAwake) := goodIn_app (goodIn_of _ (by decide +kernel)) ggL_setAwake_X3_setAwake
theorem dL_setAwake_0 : decode cL_setAwake 0 = .ok (.aload 4, 2) := by decide +kernel
theorem dL_setAwake_2 : decode cL_setAwake 2 = .ok (.iconst 0, 1) := by decide +kernel
theorem dL_setAwake_3 : decode cL_setAwake 3 = .ok (.aload_n 0, 1) := by decide +kernel
theorem dL_setAwake_4 : decode cL_setAwake 4 = .ok (.iload_n 1, 1) := by decide +kernel
theorem dL_setAwake_5 : decode cL_setAwake 5 = .ok (.iload_n 2, 1) := by decide +kernel
theorem dL_setAwake_6 : decode cL_setAwake 6 = .ok (.iload_n 3, 1) := by decide +kernel
theorem dL_setAwake_7 : decode cL_setAwake 7 = .ok (.invokevirtual 27, 3) := by decide +kernel
theorem dL_setAwake_10 : decode cL_setAwake 10 = .ok (.i2l, 1) := by decide +kernel
theorem dL_setAwake_11 : decode cL_setAwake 11 = .ok (.lastore, 1) := by decide +kernel
theorem dL_setAwake_12 : decode cL_setAwake 12 = .ok (.goto 11, 3) := by decide +kernel
theorem dL_setAwake_15 : decode cL_setAwake 15 = .ok (.astore 5, 2) := by decide +kernel
theorem dL_setAwake_17 : decode cL_setAwake 17 = .ok (.iconst 1, 1) := by decide +kernel
theorem dL_setAwake_18 : decode cL_setAwake 18 = .ok (.ireturn, 1) := by decide +kernel
theorem dL_setAwake_19 : decode cL_setAwake 19 = .ok (.astore 5, 2) := by decide +kernel
theorem dL_setAwake_21 : decode cL_setAwake 21 = .ok (.iconst 2, 1) := by decide +kernel
theorem dL_setAwake_22 : decode cL_setAwake 22 = .ok (.ireturn, 1) := by decide +kernel
theorem dL_setAwake_23 : decode cL_setAwake 23 = .ok (.iconst 0, 1) := by decide +kernel
theorem dL_setAwake_24 : decode cL_setAwake 24 = .ok (.ireturn, 1) := by decide +kernel
set_option maxRecDepth 20000 in
theorem ggL_phrase_X3_phrase : GoodIn wsL_phrase wsX3_phrase := goodIn_ca (goodIn_ca (goodIn_r _ [7, 8, 9, 10, 11, 12, 13, 14, 15, 6, 16, 17, 18, 19, 20, 21, 22, 23, 24, 25, 26, 27, 28, 29, 30, 31, 32, 33, 34, 35, 36, 37] (by decide +kernel) (by decide +kernel)) (goodIn_sub (fun _ h => List.mem_cons_of_mem _ (List.mem_append_left _ (List.mem_append_right _ h))) (by decide +kernel))) (goodIn_sub (fun _ h => List.mem_cons_of_mem _ (List.mem_append_right _ h)) (by decide +kernel))
set_option maxRecDepth 20000 in
theorem gL_phrase_X3_phrase : GoodIn wsL_phrase (wsV RL 30 RX3 yX3_phrase wsX3_phrase) := goodIn_app (goodIn_of _ (by decide +kernel)) ggL_phrase_X3_phrase
theorem dL_phrase_0 : decode cL_phrase 0 = .ok (.aload_n 2, 1) := by decide +kernel
theorem dL_phrase_1 : decode cL_phrase 1 = .ok (.iconst 0, 1) := by decide +kernel
theorem dL_phrase_2 : decode cL_phrase 2 = .ok (.aload_n 0, 1) := by decide +kernel
theorem dL_phrase_3 : decode cL_phrase 3 = .ok (.iload_n 1, 1) := by decide +kernel
theorem dL_phrase_4 : decode cL_phrase 4 = .ok (.invokevirtual 30, 3) := by decide +kernel
theorem dL_phrase_7 : decode cL_phrase 7 = .ok (.i2l, 1) := by decide +kernel
theorem dL_phrase_8 : decode cL_phrase 8 = .ok (.lastore, 1) := by decide +kernel
theorem dL_phrase_9 : decode cL_phrase 9 = .ok (.goto 9, 3) := by decide +kernel
theorem dL_phrase_12 : decode cL_phrase 12 = .ok (.astore_n 3, 1) := by decide +kernel
theorem dL_phrase_13 : decode cL_phrase 13 = .ok (.iconst 1, 1) := by decide +kernel
theorem dL_phrase_14 : decode cL_phrase 14 = .ok (.ireturn, 1) := by decide +kernel
theorem dL_phrase_15 : decode cL_phrase 15 = .ok (.astore_n 3, 1) := by decide +kernel
theorem dL_phrase_16 : decode cL_phrase 16 = .ok (.iconst 2, 1) := by decide +kernel
theorem dL_phrase_17 : decode cL_phrase 17 = .ok (.ireturn, 1) := by decide +kernel
theorem dL_phrase_18 : decode cL_phrase 18 = .ok (.iconst 0, 1) := by decide +kernel
theorem dL_phrase_19 : decode cL_phrase 19 = .ok (.ireturn, 1) := by decide +kernel
set_option maxRecDepth 20000 in
theorem ggL_tell_X3_tell : GoodIn wsL_tell wsX3_tell := goodIn_ca (goodIn_ca (goodIn_r _ [7, 8, 9, 10, 11, 12, 13, 14, 15, 6, 16, 17, 18, 19, 20, 21, 22, 23, 24, 25, 26, 27, 28, 29, 30, 31, 32, 33, 34, 35, 36, 37, 38, 39, 40, 41, 42, 43, 44, 45, 46, 47, 48, 49, 50, 51, 52, 53, 54, 55, 56, 57, 58, 59] (by decide +kernel) (by decide +kernel)) (goodIn_sub (fun _ h => List.mem_cons_of_mem _ (List.mem_append_left _ (List.mem_append_right _ h))) (by decide +kernel))) (goodIn_sub (fun _ h => List.mem_cons_of_mem _ (List.mem_append_right _ h)) (by decide +kernel))
set_option maxRecDepth 20000 in
theorem gL_tell_X3_tell : GoodIn wsL_tell (wsV RL 34 RX3 yX3_tell wsX3_tell) := goodIn_app (goodIn_of _ (by decide +kernel)) ggL_tell_X3_tell
theorem dL_tell_0 : decode cL_tell 0 = .ok (.aload_n 3, 1) := by decide +kernel
theorem dL_tell_1 : decode cL_tell 1 = .ok (.iconst 0, 1) := by decide +kernel
theorem dL_tell_2 : decode cL_tell 2 = .ok (.aload_n 0, 1) := by decide +kernel
theorem dL_tell_3 : decode cL_tell 3 = .ok (.iload_n 1, 1) := by decide +kernel
theorem dL_tell_4 : decode cL_tell 4 = .ok (.iload_n 2, 1) := by decide +kernel
theorem dL_tell_5 : decode cL_tell 5 = .ok (.invokevirtual 34, 3) := by decide +kernel
theorem dL_tell_8 : decode cL_tell 8 = .ok (.i2l, 1) := by decide +kernel
theorem dL_tell_9 : decode cL_tell 9 = .ok (.lastore, 1) := by decide +kernel
theorem dL_tell_10 : decode cL_tell 10 = .ok (.goto 11, 3) := by decide +kernel
theorem dL_tell_13 : decode cL_tell 13 = .ok (.astore 4, 2) := by decide +kernel
theorem dL_tell_15 : decode cL_tell 15 = .ok (.iconst 1, 1) := by decide +kernel
theorem dL_tell_16 : decode cL_tell 16 = .ok (.ireturn, 1) := by decide +kernel
theorem dL_tell_17 : decode cL_tell 17 = .ok (.astore 4, 2) := by decide +kernel
theorem dL_tell_19 : decode cL_tell 19 = .ok (.iconst 2, 1) := by decide +kernel
theorem dL_tell_20 : decode cL_tell 20 = .ok (.ireturn, 1) := by decide +kernel
theorem dL_tell_21 : decode cL_tell 21 = .ok (.iconst 0, 1) := by decide +kernel
theorem dL_tell_22 : decode cL_tell 22 = .ok (.ireturn, 1) := by decide +kernel
set_option maxRecDepth 20000 in
theorem ggL_village_X3_village : GoodIn wsL_village wsX3_village := goodIn_ca (goodIn_r _ [6, 7, 8, 9, 10, 11, 12, 13, 5, 14, 15, 16, 17, 18, 19, 20, 21, 22, 23, 24, 25, 26, 27, 28, 29, 30, 31, 32, 33, 34, 35, 36, 37, 38, 39, 40, 41, 42, 43, 44, 45, 46, 47, 48, 49, 50, 51, 52, 53, 54, 55, 56, 57, 58, 59, 60, 61, 62, 63, 64, 65, 66, 67, 68, 69, 70, 71, 72, 73, 74] (by decide +kernel) (by decide +kernel)) (goodIn_sub (fun _ h => List.mem_cons_of_mem _ (List.mem_append_right _ h)) (by decide +kernel))
set_option maxRecDepth 20000 in
theorem gL_village_X3_village : GoodIn wsL_village (wsV RL 37 RX3 yX3_village wsX3_village) := goodIn_app (goodIn_of _ (by decide +kernel)) ggL_village_X3_village
theorem dL_village_0 : decode cL_village 0 = .ok (.aload_n 3, 1) := by decide +kernel
theorem dL_village_1 : decode cL_village 1 = .ok (.iconst 0, 1) := by decide +kernel
theorem dL_village_2 : decode cL_village 2 = .ok (.aload_n 0, 1) := by decide +kernel
theorem dL_village_3 : decode cL_village 3 = .ok (.iload_n 1, 1) := by decide +kernel
theorem dL_village_4 : decode cL_village 4 = .ok (.iload_n 2, 1) := by decide +kernel
theorem dL_village_5 : decode cL_village 5 = .ok (.invokevirtual 37, 3) := by decide +kernel
theorem dL_village_8 : decode cL_village 8 = .ok (.i2l, 1) := by decide +kernel
theorem dL_village_9 : decode cL_village 9 = .ok (.lastore, 1) := by decide +kernel
theorem dL_village_10 : decode cL_village 10 = .ok (.goto 7, 3) := by decide +kernel
theorem dL_village_13 : decode cL_village 13 = .ok (.astore 4, 2) := by decide +kernel
theorem dL_village_15 : decode cL_village 15 = .ok (.iconst 1, 1) := by decide +kernel
theorem dL_village_16 : decode cL_village 16 = .ok (.ireturn, 1) := by decide +kernel
theorem dL_village_17 : decode cL_village 17 = .ok (.iconst 0, 1) := by decide +kernel
theorem dL_village_18 : decode cL_village 18 = .ok (.ireturn, 1) := by decide +kernel
set_option maxRecDepth 20000 in
theorem ggL_queue_X3_queue : GoodIn wsL_queue wsX3_queue := goodIn_ca (goodIn_r _ [6, 7, 8, 9, 10, 11, 12, 13, 5, 14, 15, 16, 17, 18, 19, 20, 21, 22, 23, 24, 25, 26, 27, 28, 29, 30, 31, 32, 33, 34, 35, 36, 37, 38, 39, 40, 41, 42, 43] (by decide +kernel) (by decide +kernel)) (goodIn_sub (fun _ h => List.mem_cons_of_mem _ (List.mem_append_right _ h)) (by decide +kernel))
set_option maxRecDepth 20000 in
theorem gL_queue_X3_queue : GoodIn wsL_queue (wsV RL 40 RX3 yX3_queue wsX3_queue) := goodIn_app (goodIn_of _ (by decide +kernel)) ggL_queue_X3_queue
theorem dL_queue_0 : decode cL_queue 0 = .ok (.aload_n 3, 1) := by decide +kernel
theorem dL_queue_1 : decode cL_queue 1 = .ok (.iconst 0, 1) := by decide +kernel
theorem dL_queue_2 : decode cL_queue 2 = .ok (.aload_n 0, 1) := by decide +kernel
theorem dL_queue_3 : decode cL_queue 3 = .ok (.iload_n 1, 1) := by decide +kernel
theorem dL_queue_4 : decode cL_queue 4 = .ok (.iload_n 2, 1) := by decide +kernel
theorem dL_queue_5 : decode cL_queue 5 = .ok (.invokevirtual 40, 3) := by decide +kernel
theorem dL_queue_8 : decode cL_queue 8 = .ok (.i2l, 1) := by decide +kernel
theorem dL_queue_9 : decode cL_queue 9 = .ok (.lastore, 1) := by decide +kernel
theorem dL_queue_10 : decode cL_queue 10 = .ok (.goto 7, 3) := by decide +kernel
theorem dL_queue_13 : decode cL_queue 13 = .ok (.astore 4, 2) := by decide +kernel
theorem dL_queue_15 : decode cL_queue 15 = .ok (.iconst 1, 1) := by decide +kernel
theorem dL_queue_16 : decode cL_queue 16 = .ok (.ireturn, 1) := by decide +kernel
theorem dL_queue_17 : decode cL_queue 17 = .ok (.iconst 0, 1) := by decide +kernel
theorem dL_queue_18 : decode cL_queue 18 = .ok (.ireturn, 1) := by decide +kernel
set_option maxRecDepth 20000 in
theorem ggL_knows_X3_knows : GoodIn wsL_knows wsX3_knows := goodIn_ca (goodIn_r _ [6, 7, 8, 9, 10, 5, 11, 12, 13, 14, 15, 16, 17, 18, 19, 20, 21, 22, 23, 24, 25, 26, 27, 28, 29, 30, 31, 32, 33, 34, 35, 36, 37, 38, 39, 40, 41, 42, 43, 44, 45, 46, 47] (by decide +kernel) (by decide +kernel)) (goodIn_sub (fun _ h => List.mem_cons_of_mem _ (List.mem_append_right _ h)) (by decide +kernel))
set_option maxRecDepth 20000 in
theorem gL_knows_X3_knows : GoodIn wsL_knows (wsV RL 43 RX3 yX3_knows wsX3_knows) := goodIn_app (goodIn_of _ (by decide +kernel)) ggL_knows_X3_knows
theorem dL_knows_0 : decode cL_knows 0 = .ok (.aload_n 3, 1) := by decide +kernel
theorem dL_knows_1 : decode cL_knows 1 = .ok (.iconst 0, 1) := by decide +kernel
theorem dL_knows_2 : decode cL_knows 2 = .ok (.aload_n 0, 1) := by decide +kernel
theorem dL_knows_3 : decode cL_knows 3 = .ok (.iload_n 1, 1) := by decide +kernel
theorem dL_knows_4 : decode cL_knows 4 = .ok (.iload_n 2, 1) := by decide +kernel
theorem dL_knows_5 : decode cL_knows 5 = .ok (.invokevirtual 43, 3) := by decide +kernel
theorem dL_knows_8 : decode cL_knows 8 = .ok (.i2l, 1) := by decide +kernel
theorem dL_knows_9 : decode cL_knows 9 = .ok (.lastore, 1) := by decide +kernel
theorem dL_knows_10 : decode cL_knows 10 = .ok (.goto 7, 3) := by decide +kernel
theorem dL_knows_13 : decode cL_knows 13 = .ok (.astore 4, 2) := by decide +kernel
theorem dL_knows_15 : decode cL_knows 15 = .ok (.iconst 1, 1) := by decide +kernel
theorem dL_knows_16 : decode cL_knows 16 = .ok (.ireturn, 1) := by decide +kernel
theorem dL_knows_17 : decode cL_knows 17 = .ok (.iconst 0, 1) := by decide +kernel
theorem dL_knows_18 : decode cL_knows 18 = .ok (.ireturn, 1) := by decide +kernel
set_option maxRecDepth 20000 in
theorem ggL_sounds_X3_sounds : GoodIn wsL_sounds wsX3_sounds := goodIn_ca (goodIn_r _ [6, 7, 8, 9, 10, 11, 12, 5, 13, 14, 15, 16, 17, 18, 19, 20, 21, 22, 23, 24, 25, 26, 27, 28, 29, 30, 31, 32, 33, 34, 35, 36, 37, 38, 39, 40, 41, 42, 43, 44, 45, 46, 47, 48, 49, 50, 51, 52, 53, 54, 55] (by decide +kernel) (by decide +kernel)) (goodIn_sub (fun _ h => List.mem_cons_of_mem _ (List.mem_append_right _ h)) (by decide +kernel))
set_option maxRecDepth 20000 in
theorem gL_sounds_X3_sounds : GoodIn wsL_sounds (wsV RL 46 RX3 yX3_sounds wsX3_sounds) := goodIn_app (goodIn_of _ (by decide +kernel)) ggL_sounds_X3_sounds
theorem dL_sounds_0 : decode cL_sounds 0 = .ok (.aload_n 2, 1) := by decide +kernel
theorem dL_sounds_1 : decode cL_sounds 1 = .ok (.iconst 0, 1) := by decide +kernel
theorem dL_sounds_2 : decode cL_sounds 2 = .ok (.aload_n 0, 1) := by decide +kernel
theorem dL_sounds_3 : decode cL_sounds 3 = .ok (.iload_n 1, 1) := by decide +kernel
theorem dL_sounds_4 : decode cL_sounds 4 = .ok (.invokevirtual 46, 3) := by decide +kernel
theorem dL_sounds_7 : decode cL_sounds 7 = .ok (.i2l, 1) := by decide +kernel
theorem dL_sounds_8 : decode cL_sounds 8 = .ok (.lastore, 1) := by decide +kernel
theorem dL_sounds_9 : decode cL_sounds 9 = .ok (.goto 6, 3) := by decide +kernel
theorem dL_sounds_12 : decode cL_sounds 12 = .ok (.astore_n 3, 1) := by decide +kernel
theorem dL_sounds_13 : decode cL_sounds 13 = .ok (.iconst 1, 1) := by decide +kernel
theorem dL_sounds_14 : decode cL_sounds 14 = .ok (.ireturn, 1) := by decide +kernel
theorem dL_sounds_15 : decode cL_sounds 15 = .ok (.iconst 0, 1) := by decide +kernel
theorem dL_sounds_16 : decode cL_sounds 16 = .ok (.ireturn, 1) := by decide +kernel
set_option maxRecDepth 20000 in
theorem ggL_count_X3_count : GoodIn wsL_count wsX3_count := goodIn_ca (goodIn_r _ [6, 7, 8, 9, 10, 11, 12, 13, 14, 15, 16, 17, 18, 19, 20, 21, 22, 23, 24, 25, 26, 27, 28, 29, 30, 31, 32, 33, 34, 35, 36, 37, 38, 39, 40, 41, 42, 43, 44, 45, 46, 47, 48, 49, 50, 51, 52, 53, 54, 55, 56, 57, 58, 59, 60, 61, 62, 63, 64, 65, 66, 67, 68, 69, 70, 71, 72, 73, 74, 75, 76, 77, 78, 79, 80] (by decide +kernel) (by decide +kernel)) (goodIn_sub (fun _ h => List.mem_cons_of_mem _ (List.mem_append_right _ h)) (by decide +kernel))
set_option maxRecDepth 20000 in
theorem gL_count_X3_count : GoodIn wsL_count (wsV RL 49 RX3 yX3_count wsX3_count) := goodIn_app (goodIn_of _ (by decide +kernel)) ggL_count_X3_count
theorem dL_count_0 : decode cL_count 0 = .ok (.aload_n 2, 1) := by decide +kernel
theorem dL_count_1 : decode cL_count 1 = .ok (.iconst 0, 1) := by decide +kernel
theorem dL_count_2 : decode cL_count 2 = .ok (.aload_n 0, 1) := by decide +kernel
theorem dL_count_3 : decode cL_count 3 = .ok (.iload_n 1, 1) := by decide +kernel
theorem dL_count_4 : decode cL_count 4 = .ok (.invokevirtual 49, 3) := by decide +kernel
theorem dL_count_7 : decode cL_count 7 = .ok (.i2l, 1) := by decide +kernel
theorem dL_count_8 : decode cL_count 8 = .ok (.lastore, 1) := by decide +kernel
theorem dL_count_9 : decode cL_count 9 = .ok (.goto 6, 3) := by decide +kernel
theorem dL_count_12 : decode cL_count 12 = .ok (.astore_n 3, 1) := by decide +kernel
theorem dL_count_13 : decode cL_count 13 = .ok (.iconst 1, 1) := by decide +kernel
theorem dL_count_14 : decode cL_count 14 = .ok (.ireturn, 1) := by decide +kernel
theorem dL_count_15 : decode cL_count 15 = .ok (.iconst 0, 1) := by decide +kernel
theorem dL_count_16 : decode cL_count 16 = .ok (.ireturn, 1) := by decide +kernel
set_option maxRecDepth 20000 in
theorem ggL_way_X3_way : GoodIn wsL_way wsX3_way := goodIn_ca (goodIn_r _ [6, 7, 8, 9, 10, 5, 11, 12, 13, 14, 15, 16, 17, 18, 19, 20, 21, 22, 23, 24, 25, 26, 27, 28, 29, 30, 31, 32, 33, 34, 35, 36, 37, 38, 39, 40, 41, 42, 43, 44, 45, 46, 47, 48, 49, 50, 51, 52, 53, 54, 55, 56, 57, 58, 59] (by decide +kernel) (by decide +kernel)) (goodIn_sub (fun _ h => List.mem_cons_of_mem _ (List.mem_append_right _ h)) (by decide +kernel))
set_option maxRecDepth 20000 in
theorem gL_way_X3_way : GoodIn wsL_way (wsV RL 52 RX3 yX3_way wsX3_way) := goodIn_app (goodIn_of _ (by decide +kernel)) ggL_way_X3_way
theorem dL_way_0 : decode cL_way 0 = .ok (.aload_n 3, 1) := by decide +kernel
theorem dL_way_1 : decode cL_way 1 = .ok (.iconst 0, 1) := by decide +kernel
theorem dL_way_2 : decode cL_way 2 = .ok (.aload_n 0, 1) := by decide +kernel
theorem dL_way_3 : decode cL_way 3 = .ok (.iload_n 1, 1) := by decide +kernel
theorem dL_way_4 : decode cL_way 4 = .ok (.iload_n 2, 1) := by decide +kernel
theorem dL_way_5 : decode cL_way 5 = .ok (.invokevirtual 52, 3) := by decide +kernel
theorem dL_way_8 : decode cL_way 8 = .ok (.i2l, 1) := by decide +kernel
theorem dL_way_9 : decode cL_way 9 = .ok (.lastore, 1) := by decide +kernel
theorem dL_way_10 : decode cL_way 10 = .ok (.goto 7, 3) := by decide +kernel
theorem dL_way_13 : decode cL_way 13 = .ok (.astore 4, 2) := by decide +kernel
theorem dL_way_15 : decode cL_way 15 = .ok (.iconst 1, 1) := by decide +kernel
theorem dL_way_16 : decode cL_way 16 = .ok (.ireturn, 1) := by decide +kernel
theorem dL_way_17 : decode cL_way 17 = .ok (.iconst 0, 1) := by decide +kernel
theorem dL_way_18 : decode cL_way 18 = .ok (.ireturn, 1) := by decide +kernel
set_option maxRecDepth 20000 in
theorem ggL_pass_X3_pass : GoodIn wsL_pass wsX3_pass := goodIn_ca (goodIn_r _ [6, 7, 8, 9, 10, 11, 12, 13, 14, 15, 16, 17, 18, 19, 20, 21, 22, 23, 24, 25, 26, 27, 28, 29, 30, 31, 32, 33, 34, 35, 36, 37, 38, 39, 40, 41, 42, 43, 44, 45, 46, 47, 48, 49, 50, 51, 52, 53, 54, 55, 56, 57, 58, 59, 60, 61, 62, 63, 64, 65, 66, 67, 68, 69, 70, 71, 72, 73, 74, 75, 76, 77, 78, 79, 80, 81, 82, 83, 84, 85, 86, 87, 88, 89, 90, 91, 92, 93, 94, 95, 96, 97, 98, 99, 100, 101, 102, 103, 104, 105, 106, 107, 108, 109, 110, 111, 112, 113, 114, 115, 116, 117, 118, 119, 120, 121, 122, 123, 124, 125, 126, 127, 128, 129, 130, 131, 132, 133, 134, 135, 136, 137, 138, 139, 140, 141, 142, 143, 144, 145, 146, 147, 148, 149, 150, 151, 152, 153, 154, 155, 156, 157, 158, 159, 160, 161] (by decide +kernel) (by decide +kernel)) (goodIn_sub (fun _ h => List.mem_cons_of_mem _ (List.mem_append_right _ h)) (by decide +kernel))
set_option maxRecDepth 20000 in
theorem gL_pass_X3_pass : GoodIn wsL_pass (wsV RL 55 RX3 yX3_pass wsX3_pass) := goodIn_app (goodIn_of _ (by decide +kernel)) ggL_pass_X3_pass
theorem dL_pass_0 : decode cL_pass 0 = .ok (.aload_n 2, 1) := by decide +kernel
theorem dL_pass_1 : decode cL_pass 1 = .ok (.iconst 0, 1) := by decide +kernel
theorem dL_pass_2 : decode cL_pass 2 = .ok (.aload_n 0, 1) := by decide +kernel
theorem dL_pass_3 : decode cL_pass 3 = .ok (.iload_n 1, 1) := by decide +kernel
theorem dL_pass_4 : decode cL_pass 4 = .ok (.invokevirtual 55, 3) := by decide +kernel
theorem dL_pass_7 : decode cL_pass 7 = .ok (.i2l, 1) := by decide +kernel
theorem dL_pass_8 : decode cL_pass 8 = .ok (.lastore, 1) := by decide +kernel
theorem dL_pass_9 : decode cL_pass 9 = .ok (.goto 6, 3) := by decide +kernel
theorem dL_pass_12 : decode cL_pass 12 = .ok (.astore_n 3, 1) := by decide +kernel
theorem dL_pass_13 : decode cL_pass 13 = .ok (.iconst 1, 1) := by decide +kernel
theorem dL_pass_14 : decode cL_pass 14 = .ok (.ireturn, 1) := by decide +kernel
theorem dL_pass_15 : decode cL_pass 15 = .ok (.iconst 0, 1) := by decide +kernel
theorem dL_pass_16 : decode cL_pass 16 = .ok (.ireturn, 1) := by decide +kernel
set_option maxRecDepth 20000 in
theorem ggL_reaches_X3_reaches : GoodIn wsL_reaches wsX3_reaches := goodIn_ca (goodIn_r _ [6, 7, 8, 9, 10, 11, 12, 5, 13, 14, 15, 16, 17, 18, 19, 20, 21, 22, 23, 24, 25, 26, 27, 28, 29, 30, 31, 32, 33, 34, 35, 36, 37, 38, 39, 40, 41, 42, 43, 44, 45, 46, 47, 48, 49, 50, 51, 52, 53, 54, 55, 56, 57, 58, 59, 60, 61, 62, 63, 64, 65, 66, 67, 68, 69, 70, 71, 72, 73, 74, 75, 76, 77, 78, 79, 80, 81, 82, 83, 84, 85, 86, 87, 88, 89, 90, 91, 92, 93, 94, 95, 96, 97, 98, 99, 100, 101, 102, 103, 104, 105, 106, 107, 108, 109, 110, 111, 112, 113, 114, 115, 116, 117, 118, 119, 120, 121, 122, 123, 124, 125, 126, 127, 128, 129, 130, 131, 132, 133, 134, 135, 136, 137, 138, 139, 140, 141, 142, 143, 144, 145, 146, 147, 148, 149, 150, 151, 152, 153, 154, 155, 156, 157, 158, 159, 160, 161, 162, 163, 164, 165, 166, 167, 168, 169, 170, 171, 172, 173, 174, 175, 176, 177, 178, 179, 180, 181, 182, 183, 184, 185, 186, 187, 188, 189, 190] (by decide +kernel) (by decide +kernel)) (goodIn_sub (fun _ h => List.mem_cons_of_mem _ (List.mem_append_right _ h)) (by decide +kernel))
set_option maxRecDepth 20000 in
theorem gL_reaches_X3_reaches : GoodIn wsL_reaches (wsV RL 58 RX3 yX3_reaches wsX3_reaches) := goodIn_app (goodIn_of _ (by decide +kernel)) ggL_reaches_X3_reaches
theorem dL_reaches_0 : decode cL_reaches 0 = .ok (.aload_n 3, 1) := by decide +kernel
theorem dL_reaches_1 : decode cL_reaches 1 = .ok (.iconst 0, 1) := by decide +kernel
theorem dL_reaches_2 : decode cL_reaches 2 = .ok (.aload_n 0, 1) := by decide +kernel
theorem dL_reaches_3 : decode cL_reaches 3 = .ok (.iload_n 1, 1) := by decide +kernel
theorem dL_reaches_4 : decode cL_reaches 4 = .ok (.iload_n 2, 1) := by decide +kernel
theorem dL_reaches_5 : decode cL_reaches 5 = .ok (.invokevirtual 58, 3) := by decide +kernel
theorem dL_reaches_8 : decode cL_reaches 8 = .ok (.i2l, 1) := by decide +kernel
theorem dL_reaches_9 : decode cL_reaches 9 = .ok (.lastore, 1) := by decide +kernel
theorem dL_reaches_10 : decode cL_reaches 10 = .ok (.goto 7, 3) := by decide +kernel
theorem dL_reaches_13 : decode cL_reaches 13 = .ok (.astore 4, 2) := by decide +kernel
theorem dL_reaches_15 : decode cL_reaches 15 = .ok (.iconst 1, 1) := by decide +kernel
theorem dL_reaches_16 : decode cL_reaches 16 = .ok (.ireturn, 1) := by decide +kernel
theorem dL_reaches_17 : decode cL_reaches 17 = .ok (.iconst 0, 1) := by decide +kernel
theorem dL_reaches_18 : decode cL_reaches 18 = .ok (.ireturn, 1) := by decide +kernel
set_option maxRecDepth 20000 in
theorem ggL_best_X3_best : GoodIn wsL_best wsX3_best := goodIn_ca (goodIn_r _ [6, 7, 8, 9, 10, 11, 5, 12, 13, 14, 15, 16, 17, 18, 19, 20, 21, 22, 23, 24, 25, 26, 27, 28, 29, 30, 31, 32, 33, 34, 35, 36, 37, 38, 39, 40, 41, 42, 43, 44, 45, 46, 47, 48, 49, 50, 51, 52, 53, 54, 55, 56, 57, 58, 59, 60, 61, 62, 63, 64, 65, 66, 67, 68, 69, 70, 71, 72, 73, 74, 75, 76, 77, 78, 79, 80, 81, 82, 83, 84, 85, 86, 87, 88, 89, 90, 91, 92, 93, 94, 95, 96, 97, 98, 99, 100, 101, 102, 103, 104, 105, 106, 107, 108, 109, 110, 111, 112, 113, 114, 115, 116, 117, 118, 119, 120, 121, 122, 123, 124, 125, 126, 127, 128, 129, 130, 131, 132, 133, 134, 135, 136, 137, 138, 139, 140, 141, 142, 143, 144, 145, 146, 147, 148, 149, 150, 151, 152, 153, 154, 155, 156, 157, 158, 159, 160, 161, 162, 163, 164, 165, 166, 167, 168, 169, 170, 171, 172, 173, 174, 175, 176, 177, 178, 179, 180, 181, 182, 183, 184, 185, 186, 187, 188, 189, 190, 191, 192, 193, 194, 195, 196, 197, 198, 199, 200, 201] (by decide +kernel) (by decide +kernel)) (goodIn_sub (fun _ h => List.mem_cons_of_mem _ (List.mem_append_right _ h)) (by decide +kernel))
set_option maxRecDepth 20000 in
theorem gL_best_X3_best : GoodIn wsL_best (wsV RL 61 RX3 yX3_best wsX3_best) := goodIn_app (goodIn_of _ (by decide +kernel)) ggL_best_X3_best
theorem dL_best_0 : decode cL_best 0 = .ok (.aload_n 3, 1) := by decide +kernel
theorem dL_best_1 : decode cL_best 1 = .ok (.iconst 0, 1) := by decide +kernel
theorem dL_best_2 : decode cL_best 2 = .ok (.aload_n 0, 1) := by decide +kernel
theorem dL_best_3 : decode cL_best 3 = .ok (.iload_n 1, 1) := by decide +kernel
theorem dL_best_4 : decode cL_best 4 = .ok (.iload_n 2, 1) := by decide +kernel
theorem dL_best_5 : decode cL_best 5 = .ok (.invokevirtual 61, 3) := by decide +kernel
theorem dL_best_8 : decode cL_best 8 = .ok (.i2l, 1) := by decide +kernel
theorem dL_best_9 : decode cL_best 9 = .ok (.lastore, 1) := by decide +kernel
theorem dL_best_10 : decode cL_best 10 = .ok (.goto 7, 3) := by decide +kernel
theorem dL_best_13 : decode cL_best 13 = .ok (.astore 4, 2) := by decide +kernel
theorem dL_best_15 : decode cL_best 15 = .ok (.iconst 1, 1) := by decide +kernel
theorem dL_best_16 : decode cL_best 16 = .ok (.ireturn, 1) := by decide +kernel
theorem dL_best_17 : decode cL_best 17 = .ok (.iconst 0, 1) := by decide +kernel
theorem dL_best_18 : decode cL_best 18 = .ok (.ireturn, 1) := by decide +kernel
set_option maxRecDepth 20000 in
theorem ggL_larger_X3_larger : GoodIn wsL_larger wsX3_larger := goodIn_ca (goodIn_r _ [6, 7, 8, 9, 10, 11, 12, 13, 14, 15, 16, 17, 18, 19, 20, 21, 22, 23, 24, 25, 26, 27, 28, 29, 30, 31, 32, 33, 34, 35, 36, 37, 38, 39, 40, 41, 42, 43, 44, 45, 46, 47, 48, 49, 50, 51, 52, 53, 54, 55, 56, 57, 58, 59, 60, 61, 62, 63, 64, 65, 66, 67, 68, 69, 70, 71, 72, 73, 74, 75, 76, 77, 78, 79, 80, 81, 82, 83, 84, 85, 86, 87, 88, 89, 90, 91, 92, 93, 94, 95, 96, 97, 98, 99, 100, 101, 102, 103, 104, 105, 106, 107, 108, 109, 110, 111, 112, 113, 114, 115, 116, 117, 118, 119, 120, 121, 122, 123, 124, 125, 126, 127, 128, 129, 130, 131, 132, 133, 134, 135, 136, 137, 138, 139, 140, 141, 142, 143, 144, 145, 146, 147, 148, 149, 150, 151, 152, 153, 154, 155, 156, 157, 158, 159, 160, 161, 162, 163, 164, 165, 5, 166, 167, 168, 169, 170, 171, 172, 173, 174, 175, 176, 177, 178, 179, 180, 181, 182, 183, 184, 185, 186, 187, 188, 189, 190, 191, 192, 193] (by decide +kernel) (by decide +kernel)) (goodIn_sub (fun _ h => List.mem_cons_of_mem _ (List.mem_append_right _ h)) (by decide +kernel))
set_option maxRecDepth 20000 in
theorem gL_larger_X3_larger : GoodIn wsL_larger (wsV RL 64 RX3 yX3_larger wsX3_larger) := goodIn_app (goodIn_of _ (by decide +kernel)) ggL_larger_X3_larger
theorem dL_larger_0 : decode cL_larger 0 = .ok (.aload_n 2, 1) := by decide +kernel
theorem dL_larger_1 : decode cL_larger 1 = .ok (.iconst 0, 1) := by decide +kernel
theorem dL_larger_2 : decode cL_larger 2 = .ok (.aload_n 0, 1) := by decide +kernel
theorem dL_larger_3 : decode cL_larger 3 = .ok (.iload_n 1, 1) := by decide +kernel
theorem dL_larger_4 : decode cL_larger 4 = .ok (.invokevirtual 64, 3) := by decide +kernel
theorem dL_larger_7 : decode cL_larger 7 = .ok (.i2l, 1) := by decide +kernel
theorem dL_larger_8 : decode cL_larger 8 = .ok (.lastore, 1) := by decide +kernel
theorem dL_larger_9 : decode cL_larger 9 = .ok (.goto 6, 3) := by decide +kernel
theorem dL_larger_12 : decode cL_larger 12 = .ok (.astore_n 3, 1) := by decide +kernel
theorem dL_larger_13 : decode cL_larger 13 = .ok (.iconst 1, 1) := by decide +kernel
theorem dL_larger_14 : decode cL_larger 14 = .ok (.ireturn, 1) := by decide +kernel
theorem dL_larger_15 : decode cL_larger 15 = .ok (.iconst 0, 1) := by decide +kernel
theorem dL_larger_16 : decode cL_larger 16 = .ok (.ireturn, 1) := by decide +kernel
