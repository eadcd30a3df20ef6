set_option maxRecDepth 20000 in
theorem ggL_send_X1_send : GoodIn wsL_send wsX1_send := goodIn_ca (goodIn_ca (goodIn_ca (goodIn_r _ [8, 9, 10, 11, 12, 13, 14, 15, 16, 17, 18, 7, 19, 20, 21, 22, 23, 24, 25, 26, 27, 28, 29, 30, 31, 32, 33, 34, 35, 36, 37, 38, 39, 40, 41, 42, 43, 44, 45, 46, 47, 48] (by decide +kernel) (by decide +kernel)) (goodIn_sub (fun _ h => List.mem_cons_of_mem _ (List.mem_append_left _ (List.mem_append_left _ (List.mem_append_right _ h)))) (by decide +kernel))) (goodIn_sub (fun _ h => List.mem_cons_of_mem _ (List.mem_append_left _ (List.mem_append_right _ h))) (by decide +kernel))) (goodIn_sub (fun _ h => List.mem_cons_of_mem _ (List.mem_append_right _ h)) (by decide +kernel))
set_option maxRecDepth 20000 in
theorem gL_send_X1_send : GoodIn wsL_send (wsV RL 7 RX1 yX1_send wsX1_send) := goodIn_app (goodIn_of _ (by decide +kernel)) ggL_send_X1_send
theorem dL_send_0 : decode cL_send 0 = .ok (.aload 5, 2) := by decide +kernel
theorem dL_send_2 : decode cL_send 2 = .ok (.iconst 0, 1) := by decide +kernel
theorem dL_send_3 : decode cL_send 3 = .ok (.aload_n 0, 1) := by decide +kernel
theorem dL_send_4 : decode cL_send 4 = .ok (.iload_n 1, 1) := by decide +kernel
theorem dL_send_5 : decode cL_send 5 = .ok (.iload_n 2, 1) := by decide +kernel
theorem dL_send_6 : decode cL_send 6 = .ok (.iload_n 3, 1) := by decide +kernel
theorem dL_send_7 : decode cL_send 7 = .ok (.iload 4, 2) := by decide +kernel
theorem dL_send_9 : decode cL_send 9 = .ok (.invokevirtual 7, 3) := by decide +kernel
theorem dL_send_12 : decode cL_send 12 = .ok (.i2l, 1) := by decide +kernel
theorem dL_send_13 : decode cL_send 13 = .ok (.lastore, 1) := by decide +kernel
theorem dL_send_14 : decode cL_send 14 = .ok (.goto 15, 3) := by decide +kernel
theorem dL_send_17 : decode cL_send 17 = .ok (.astore 6, 2) := by decide +kernel
theorem dL_send_19 : decode cL_send 19 = .ok (.iconst 1, 1) := by decide +kernel
theorem dL_send_20 : decode cL_send 20 = .ok (.ireturn, 1) := by decide +kernel
theorem dL_send_21 : decode cL_send 21 = .ok (.astore 6, 2) := by decide +kernel
theorem dL_send_23 : decode cL_send 23 = .ok (.iconst 2, 1) := by decide +kernel
theorem dL_send_24 : decode cL_send 24 = .ok (.ireturn, 1) := by decide +kernel
theorem dL_send_25 : decode cL_send 25 = .ok (.astore 6, 2) := by decide +kernel
theorem dL_send_27 : decode cL_send 27 = .ok (.iconst 3, 1) := by decide +kernel
theorem dL_send_28 : decode cL_send 28 = .ok (.ireturn, 1) := by decide +kernel
theorem dL_send_29 : decode cL_send 29 = .ok (.iconst 0, 1) := by decide +kernel
theorem dL_send_30 : decode cL_send 30 = .ok (.ireturn, 1) := by decide +kernel
set_option maxRecDepth 20000 in
theorem ggL_recall_X1_recall : GoodIn wsL_recall wsX1_recall := goodIn_ca (goodIn_r _ [6, 7, 8, 9, 10, 11, 12, 13, 14, 15, 5, 16, 17, 18, 19, 20, 21, 22, 23, 24, 25, 26, 27, 28, 29, 30, 31, 32] (by decide +kernel) (by decide +kernel)) (goodIn_sub (fun _ h => List.mem_cons_of_mem _ (List.mem_append_right _ h)) (by decide +kernel))
set_option maxRecDepth 20000 in
theorem gL_recall_X1_recall : GoodIn wsL_recall (wsV RL 19 RX1 yX1_recall wsX1_recall) := goodIn_app (goodIn_of _ (by decide +kernel)) ggL_recall_X1_recall
theorem dL_recall_0 : decode cL_recall 0 = .ok (.aload_n 2, 1) := by decide +kernel
theorem dL_recall_1 : decode cL_recall 1 = .ok (.iconst 0, 1) := by decide +kernel
theorem dL_recall_2 : decode cL_recall 2 = .ok (.aload_n 0, 1) := by decide +kernel
theorem dL_recall_3 : decode cL_recall 3 = .ok (.iload_n 1, 1) := by decide +kernel
theorem dL_recall_4 : decode cL_recall 4 = .ok (.invokevirtual 19, 3) := by decide +kernel
theorem dL_recall_7 : decode cL_recall 7 = .ok (.i2l, 1) := by decide +kernel
theorem dL_recall_8 : decode cL_recall 8 = .ok (.lastore, 1) := by decide +kernel
theorem dL_recall_9 : decode cL_recall 9 = .ok (.goto 6, 3) := by decide +kernel
theorem dL_recall_12 : decode cL_recall 12 = .ok (.astore_n 3, 1) := by decide +kernel
theorem dL_recall_13 : decode cL_recall 13 = .ok (.iconst 1, 1) := by decide +kernel
theorem dL_recall_14 : decode cL_recall 14 = .ok (.ireturn, 1) := by decide +kernel
theorem dL_recall_15 : decode cL_recall 15 = .ok (.iconst 0, 1) := by decide +kernel
theorem dL_recall_16 : decode cL_recall 16 = .ok (.ireturn, 1) := by decide +kernel
set_option maxRecDepth 20000 in
theorem ggL_persuade_X1_persuade : GoodIn wsL_persuade wsX1_persuade := goodIn_ca (goodIn_r _ [6, 7, 8, 9, 10, 5, 11, 12, 13, 14, 15, 16, 17, 18, 19, 20, 21, 22, 23, 24, 25, 26, 27] (by decide +kernel) (by decide +kernel)) (goodIn_sub (fun _ h => List.mem_cons_of_mem _ (List.mem_append_right _ h)) (by decide +kernel))
set_option maxRecDepth 20000 in
theorem gL_persuade_X1_persuade : GoodIn wsL_persuade (wsV RL 23 RX1 yX1_persuade wsX1_persuade) := goodIn_app (goodIn_of _ (by decide +kernel)) ggL_persuade_X1_persuade
theorem dL_persuade_0 : decode cL_persuade 0 = .ok (.aload_n 3, 1) := by decide +kernel
theorem dL_persuade_1 : decode cL_persuade 1 = .ok (.iconst 0, 1) := by decide +kernel
theorem dL_persuade_2 : decode cL_persuade 2 = .ok (.aload_n 0, 1) := by decide +kernel
theorem dL_persuade_3 : decode cL_persuade 3 = .ok (.iload_n 1, 1) := by decide +kernel
theorem dL_persuade_4 : decode cL_persuade 4 = .ok (.iload_n 2, 1) := by decide +kernel
theorem dL_persuade_5 : decode cL_persuade 5 = .ok (.invokevirtual 23, 3) := by decide +kernel
theorem dL_persuade_8 : decode cL_persuade 8 = .ok (.i2l, 1) := by decide +kernel
theorem dL_persuade_9 : decode cL_persuade 9 = .ok (.lastore, 1) := by decide +kernel
theorem dL_persuade_10 : decode cL_persuade 10 = .ok (.goto 7, 3) := by decide +kernel
theorem dL_persuade_13 : decode cL_persuade 13 = .ok (.astore 4, 2) := by decide +kernel
theorem dL_persuade_15 : decode cL_persuade 15 = .ok (.iconst 1, 1) := by decide +kernel
theorem dL_persuade_16 : decode cL_persuade 16 = .ok (.ireturn, 1) := by decide +kernel
theorem dL_persuade_17 : decode cL_persuade 17 = .ok (.iconst 0, 1) := by decide +kernel
theorem dL_persuade_18 : decode cL_persuade 18 = .ok (.ireturn, 1) := by decide +kernel
set_option maxRecDepth 20000 in
theorem ggL_lead_X1_lead : GoodIn wsL_lead wsX1_lead := goodIn_ca (goodIn_ca (goodIn_r _ [7, 8, 9, 10, 11, 12, 13, 6, 14, 15, 16, 17, 18, 19, 20, 21, 22, 23, 24, 25, 26, 27, 28, 29, 30, 31, 32, 33, 34, 35, 36, 37, 38, 39, 40, 41, 42, 43, 44, 45, 46, 47, 48, 49, 50, 51, 52, 53, 54, 55, 56, 57] (by decide +kernel) (by decide +kernel)) (goodIn_sub (fun _ h => List.mem_cons_of_mem _ (List.mem_append_left _ (List.mem_append_right _ h))) (by decide +kernel))) (goodIn_sub (fun _ h => List.mem_cons_of_mem _ (List.mem_append_right _ h)) (by decide +kernel))
set_option maxRecDepth 20000 in
theorem gL_lead_X1_lead : GoodIn wsL_lead (wsV RL 27 RX1 yX1_lead wsX1_lead) := goodIn_app (goodIn_of _ (by decide +kernel)) ggL_lead_X1_lead
theorem dL_lead_0 : decode cL_lead 0 = .ok (.aload_n 3, 1) := by decide +kernel
theorem dL_lead_1 : decode cL_lead 1 = .ok (.iconst 0, 1) := by decide +kernel
theorem dL_lead_2 : decode cL_lead 2 = .ok (.aload_n 0, 1) := by decide +kernel
theorem dL_lead_3 : decode cL_lead 3 = .ok (.iload_n 1, 1) := by decide +kernel
theorem dL_lead_4 : decode cL_lead 4 = .ok (.iload_n 2, 1) := by decide +kernel
theorem dL_lead_5 : decode cL_lead 5 = .ok (.invokevirtual 27, 3) := by decide +kernel
theorem dL_lead_8 : decode cL_lead 8 = .ok (.i2l, 1) := by decide +kernel
theorem dL_lead_9 : decode cL_lead 9 = .ok (.lastore, 1) := by decide +kernel
theorem dL_lead_10 : decode cL_lead 10 = .ok (.goto 11, 3) := by decide +kernel
theorem dL_lead_13 : decode cL_lead 13 = .ok (.astore 4, 2) := by decide +kernel
theorem dL_lead_15 : decode cL_lead 15 = .ok (.iconst 1, 1) := by decide +kernel
theorem dL_lead_16 : decode cL_lead 16 = .ok (.ireturn, 1) := by decide +kernel
theorem dL_lead_17 : decode cL_lead 17 = .ok (.astore 4, 2) := by decide +kernel
theorem dL_lead_19 : decode cL_lead 19 = .ok (.iconst 2, 1) := by decide +kernel
theorem dL_lead_20 : decode cL_lead 20 = .ok (.ireturn, 1) := by decide +kernel
theorem dL_lead_21 : decode cL_lead 21 = .ok (.iconst 0, 1) := by decide +kernel
theorem dL_lead_22 : decode cL_lead 22 = .ok (.ireturn, 1) := by decide +kernel
set_option maxRecDepth 20000 in
theorem ggL_setStrength_X1_setStrength : GoodIn wsL_setStrength wsX1_setStrength := goodIn_ca (goodIn_r _ [6, 7, 8, 9, 10, 11, 12, 13, 14, 15, 16, 17, 18, 19] (by decide +kernel) (by decide +kernel)) (goodIn_sub (fun _ h => List.mem_cons_of_mem _ (List.mem_append_right _ h)) (by decide +kernel))
set_option maxRecDepth 20000 in
theorem gL_setStrength_X1_setStrength : GoodIn wsL_setStrength (wsV RL 30 RX1 yX1_setStrength wsX1_setStrength) := goodIn_app (goodIn_of _ (by decide +kernel)) ggL_setStrength_X1_setStrength
theorem dL_setStrength_0 : decode cL_setStrength 0 = .ok (.aload_n 2, 1) := by decide +kernel
theorem dL_setStrength_1 : decode cL_setStrength 1 = .ok (.iconst 0, 1) := by decide +kernel
theorem dL_setStrength_2 : decode cL_setStrength 2 = .ok (.aload_n 0, 1) := by decide +kernel
theorem dL_setStrength_3 : decode cL_setStrength 3 = .ok (.iload_n 1, 1) := by decide +kernel
theorem dL_setStrength_4 : decode cL_setStrength 4 = .ok (.invokevirtual 30, 3) := by decide +kernel
theorem dL_setStrength_7 : decode cL_setStrength 7 = .ok (.i2l, 1) := by decide +kernel
theorem dL_setStrength_8 : decode cL_setStrength 8 = .ok (.lastore, 1) := by decide +kernel
theorem dL_setStrength_9 : decode cL_setStrength 9 = .ok (.goto 6, 3) := by decide +kernel
theorem dL_setStrength_12 : decode cL_setStrength 12 = .ok (.astore_n 3, 1) := by decide +kernel
theorem dL_setStrength_13 : decode cL_setStrength 13 = .ok (.iconst 1, 1) := by decide +kernel
theorem dL_setStrength_14 : decode cL_setStrength 14 = .ok (.ireturn, 1) := by decide +kernel
theorem dL_setStrength_15 : decode cL_setStrength 15 = .ok (.iconst 0, 1) := by decide +kernel
theorem dL_setStrength_16 : decode cL_setStrength 16 = .ok (.ireturn, 1) := by decide +kernel
set_option maxRecDepth 20000 in
theorem ggL_passRounds_X1_passRounds : GoodIn wsL_passRounds wsX1_passRounds := goodIn_ca (goodIn_r _ [6, 7, 8, 9, 10, 5, 11, 12, 13, 14, 15, 16, 17, 18, 19, 20, 21, 22, 23, 24, 25, 26, 27, 28, 29, 30, 31, 32, 33, 34, 35, 36, 37, 38, 39, 40, 41, 42, 43, 44, 45, 46, 47, 48, 49, 50, 51, 52, 53, 54, 55, 56, 57, 58, 59, 60, 61, 62, 63, 64, 65, 66, 67, 68, 69, 70, 71, 72, 73, 74, 75, 76, 77, 78, 79, 80, 81, 82, 83, 84] (by decide +kernel) (by decide +kernel)) (goodIn_sub (fun _ h => List.mem_cons_of_mem _ (List.mem_append_right _ h)) (by decide +kernel))
set_option maxRecDepth 20000 in
theorem gL_passRounds_X1_passRounds : GoodIn wsL_passRounds (wsV RL 33 RX1 yX1_passRounds wsX1_passRounds) := goodIn_app (goodIn_of _ (by decide +kernel)) ggL_passRounds_X1_passRounds
theorem dL_passRounds_0 : decode cL_passRounds 0 = .ok (.aload_n 2, 1) := by decide +kernel
theorem dL_passRounds_1 : decode cL_passRounds 1 = .ok (.iconst 0, 1) := by decide +kernel
theorem dL_passRounds_2 : decode cL_passRounds 2 = .ok (.aload_n 0, 1) := by decide +kernel
theorem dL_passRounds_3 : decode cL_passRounds 3 = .ok (.iload_n 1, 1) := by decide +kernel
theorem dL_passRounds_4 : decode cL_passRounds 4 = .ok (.invokevirtual 33, 3) := by decide +kernel
theorem dL_passRounds_7 : decode cL_passRounds 7 = .ok (.i2l, 1) := by decide +kernel
theorem dL_passRounds_8 : decode cL_passRounds 8 = .ok (.lastore, 1) := by decide +kernel
theorem dL_passRounds_9 : decode cL_passRounds 9 = .ok (.goto 6, 3) := by decide +kernel
theorem dL_passRounds_12 : decode cL_passRounds 12 = .ok (.astore_n 3, 1) := by decide +kernel
theorem dL_passRounds_13 : decode cL_passRounds 13 = .ok (.iconst 1, 1) := by decide +kernel
theorem dL_passRounds_14 : decode cL_passRounds 14 = .ok (.ireturn, 1) := by decide +kernel
theorem dL_passRounds_15 : decode cL_passRounds 15 = .ok (.iconst 0, 1) := by decide +kernel
theorem dL_passRounds_16 : decode cL_passRounds 16 = .ok (.ireturn, 1) := by decide +kernel
set_option maxRecDepth 20000 in
theorem ggL_villageOf_X1_villageOf : GoodIn wsL_villageOf wsX1_villageOf := goodIn_ca (goodIn_r _ [6, 7, 8, 9, 10, 5, 11, 12, 13, 14, 15, 16, 17, 18, 19, 20, 21, 22, 23, 24] (by decide +kernel) (by decide +kernel)) (goodIn_sub (fun _ h => List.mem_cons_of_mem _ (List.mem_append_right _ h)) (by decide +kernel))
set_option maxRecDepth 20000 in
theorem gL_villageOf_X1_villageOf : GoodIn wsL_villageOf (wsV RL 36 RX1 yX1_villageOf wsX1_villageOf) := goodIn_app (goodIn_of _ (by decide +kernel)) ggL_villageOf_X1_villageOf
theorem dL_villageOf_0 : decode cL_villageOf 0 = .ok (.aload_n 2, 1) := by decide +kernel
theorem dL_villageOf_1 : decode cL_villageOf 1 = .ok (.iconst 0, 1) := by decide +kernel
theorem dL_villageOf_2 : decode cL_villageOf 2 = .ok (.aload_n 0, 1) := by decide +kernel
theorem dL_villageOf_3 : decode cL_villageOf 3 = .ok (.iload_n 1, 1) := by decide +kernel
theorem dL_villageOf_4 : decode cL_villageOf 4 = .ok (.invokevirtual 36, 3) := by decide +kernel
theorem dL_villageOf_7 : decode cL_villageOf 7 = .ok (.i2l, 1) := by decide +kernel
theorem dL_villageOf_8 : decode cL_villageOf 8 = .ok (.lastore, 1) := by decide +kernel
theorem dL_villageOf_9 : decode cL_villageOf 9 = .ok (.goto 6, 3) := by decide +kernel
theorem dL_villageOf_12 : decode cL_villageOf 12 = .ok (.astore_n 3, 1) := by decide +kernel
theorem dL_villageOf_13 : decode cL_villageOf 13 = .ok (.iconst 1, 1) := by decide +kernel
theorem dL_villageOf_14 : decode cL_villageOf 14 = .ok (.ireturn, 1) := by decide +kernel
theorem dL_villageOf_15 : decode cL_villageOf 15 = .ok (.iconst 0, 1) := by decide +kernel
theorem dL_villageOf_16 : decode cL_villageOf 16 = .ok (.ireturn, 1) := by decide +kernel
set_option maxRecDepth 20000 in
theorem ggL_wishOf_X1_wishOf : GoodIn wsL_wishOf wsX1_wishOf := goodIn_ca (goodIn_r _ [6, 7, 8, 9, 10, 5, 11, 12, 13, 14, 15, 16, 17, 18, 19, 20, 21, 22, 23, 24] (by decide +kernel) (by decide +kernel)) (goodIn_sub (fun _ h => List.mem_cons_of_mem _ (List.mem_append_right _ h)) (by decide +kernel))
set_option maxRecDepth 20000 in
theorem gL_wishOf_X1_wishOf : GoodIn wsL_wishOf (wsV RL 39 RX1 yX1_wishOf wsX1_wishOf) := goodIn_app (goodIn_of _ (by decide +kernel)) ggL_wishOf_X1_wishOf
theorem dL_wishOf_0 : decode cL_wishOf 0 = .ok (.aload_n 2, 1) := by decide +kernel
theorem dL_wishOf_1 : decode cL_wishOf 1 = .ok (.iconst 0, 1) := by decide +kernel
theorem dL_wishOf_2 : decode cL_wishOf 2 = .ok (.aload_n 0, 1) := by decide +kernel
theorem dL_wishOf_3 : decode cL_wishOf 3 = .ok (.iload_n 1, 1) := by decide +kernel
theorem dL_wishOf_4 : decode cL_wishOf 4 = .ok (.invokevirtual 39, 3) := by decide +kernel
theorem dL_wishOf_7 : decode cL_wishOf 7 = .ok (.i2l, 1) := by decide +kernel
theorem dL_wishOf_8 : decode cL_wishOf 8 = .ok (.lastore, 1) := by decide +kernel
theorem dL_wishOf_9 : decode cL_wishOf 9 = .ok (.goto 6, 3) := by decide +kernel
theorem dL_wishOf_12 : decode cL_wishOf 12 = .ok (.astore_n 3, 1) := by decide +kernel
theorem dL_wishOf_13 : decode cL_wishOf 13 = .ok (.iconst 1, 1) := by decide +kernel
theorem dL_wishOf_14 : decode cL_wishOf 14 = .ok (.ireturn, 1) := by decide +kernel
theorem dL_wishOf_15 : decode cL_wishOf 15 = .ok (.iconst 0, 1) := by decide +kernel
theorem dL_wishOf_16 : decode cL_wishOf 16 = .ok (.ireturn, 1) := by decide +kernel
set_option maxRecDepth 20000 in
theorem ggL_reachOf_X1_reachOf : GoodIn wsL_reachOf wsX1_reachOf := goodIn_ca (goodIn_r _ [6, 7, 8, 9, 10, 5, 11, 12, 13, 14, 15, 16, 17, 18, 19, 20, 21, 22, 23, 24] (by decide +kernel) (by decide +kernel)) (goodIn_sub (fun _ h => List.mem_cons_of_mem _ (List.mem_append_right _ h)) (by decide +kernel))
set_option maxRecDepth 20000 in
theorem gL_reachOf_X1_reachOf : GoodIn wsL_reachOf (wsV RL 42 RX1 yX1_reachOf wsX1_reachOf) := goodIn_app (goodIn_of _ (by decide +kernel)) ggL_reachOf_X1_reachOf
theorem dL_reachOf_0 : decode cL_reachOf 0 = .ok (.aload_n 2, 1) := by decide +kernel
theorem dL_reachOf_1 : decode cL_reachOf 1 = .ok (.iconst 0, 1) := by decide +kernel
theorem dL_reachOf_2 : decode cL_reachOf 2 = .ok (.aload_n 0, 1) := by decide +kernel
theorem dL_reachOf_3 : decode cL_reachOf 3 = .ok (.iload_n 1, 1) := by decide +kernel
theorem dL_reachOf_4 : decode cL_reachOf 4 = .ok (.invokevirtual 42, 3) := by decide +kernel
theorem dL_reachOf_7 : decode cL_reachOf 7 = .ok (.i2l, 1) := by decide +kernel
theorem dL_reachOf_8 : decode cL_reachOf 8 = .ok (.lastore, 1) := by decide +kernel
theorem dL_reachOf_9 : decode cL_reachOf 9 = .ok (.goto 6, 3) := by decide +kernel
theorem dL_reachOf_12 : decode cL_reachOf 12 = .ok (.astore_n 3, 1) := by decide +kernel
theorem dL_reachOf_13 : decode cL_reachOf 13 = .ok (.iconst 1, 1) := by decide +kernel
theorem dL_reachOf_14 : decode cL_reachOf 14 = .ok (.ireturn, 1) := by decide +kernel
theorem dL_reachOf_15 : decode cL_reachOf 15 = .ok (.iconst 0, 1) := by decide +kernel
theorem dL_reachOf_16 : decode cL_reachOf 16 = .ok (.ireturn, 1) := by decide +kernel
set_option maxRecDepth 20000 in
theorem ggL_paceOf_X1_paceOf : GoodIn wsL_paceOf wsX1_paceOf := goodIn_ca (goodIn_r _ [6, 7, 8, 9, 10, 5, 11, 12, 13, 14, 15, 16, 17, 18, 19, 20, 21, 22, 23, 24] (by decide +kernel) (by decide +kernel)) (goodIn_sub (fun _ h => List.mem_cons_of_mem _ (List.mem_append_right _ h)) (by decide +kernel))
set_option maxRecDepth 20000 in
theorem gL_paceOf_X1_paceOf : GoodIn wsL_paceOf (wsV RL 45 RX1 yX1_paceOf wsX1_paceOf) := goodIn_app (goodIn_of _ (by decide +kernel)) ggL_paceOf_X1_paceOf
theorem dL_paceOf_0 : decode cL_paceOf 0 = .ok (.aload_n 2, 1) := by decide +kernel
theorem dL_paceOf_1 : decode cL_paceOf 1 = .ok (.iconst 0, 1) := by decide +kernel
theorem dL_paceOf_2 : decode cL_paceOf 2 = .ok (.aload_n 0, 1) := by decide +kernel
theorem dL_paceOf_3 : decode cL_paceOf 3 = .ok (.iload_n 1, 1) := by decide +kernel
theorem dL_paceOf_4 : decode cL_paceOf 4 = .ok (.invokevirtual 45, 3) := by decide +kernel
theorem dL_paceOf_7 : decode cL_paceOf 7 = .ok (.i2l, 1) := by decide +kernel
theorem dL_paceOf_8 : decode cL_paceOf 8 = .ok (.lastore, 1) := by decide +kernel
theorem dL_paceOf_9 : decode cL_paceOf 9 = .ok (.goto 6, 3) := by decide +kernel
theorem dL_paceOf_12 : decode cL_paceOf 12 = .ok (.astore_n 3, 1) := by decide +kernel
theorem dL_paceOf_13 : decode cL_paceOf 13 = .ok (.iconst 1, 1) := by decide +kernel
theorem dL_paceOf_14 : decode cL_paceOf 14 = .ok (.ireturn, 1) := by decide +kernel
theorem dL_paceOf_15 : decode cL_paceOf 15 = .ok (.iconst 0, 1) := by decide +kernel
theorem dL_paceOf_16 : decode cL_paceOf 16 = .ok (.ireturn, 1) := by decide +kernel
set_option maxRecDepth 20000 in
theorem ggL_plankOf_X1_plankOf : GoodIn wsL_plankOf wsX1_plankOf := goodIn_ca (goodIn_r _ [6, 7, 8, 9, 10, 5, 11, 12, 13, 14, 15, 16, 17, 18, 19, 20, 21, 22, 23, 24] (by decide +kernel) (by decide +kernel)) (goodIn_sub (fun _ h => List.mem_cons_of_mem _ (List.mem_append_right _ h)) (by decide +kernel))
set_option maxRecDepth 20000 in
theorem gL_plankOf_X1_plankOf : GoodIn wsL_plankOf (wsV RL 48 RX1 yX1_plankOf wsX1_plankOf) := goodIn_app (goodIn_of _ (by decide +kernel)) ggL_plankOf_X1_plankOf
theorem dL_plankOf_0 : decode cL_plankOf 0 = .ok (.aload_n 2, 1) := by decide +kernel
theorem dL_plankOf_1 : decode cL_plankOf 1 = .ok (.iconst 0, 1) := by decide +kernel
theorem dL_plankOf_2 : decode cL_plankOf 2 = .ok (.aload_n 0, 1) := by decide +kernel
theorem dL_plankOf_3 : decode cL_plankOf 3 = .ok (.iload_n 1, 1) := by decide +kernel
theorem dL_plankOf_4 : decode cL_plankOf 4 = .ok (.invokevirtual 48, 3) := by decide +kernel
theorem dL_plankOf_7 : decode cL_plankOf 7 = .ok (.i2l, 1) := by decide +kernel
theorem dL_plankOf_8 : decode cL_plankOf 8 = .ok (.lastore, 1) := by decide +kernel
theorem dL_plankOf_9 : decode cL_plankOf 9 = .ok (.goto 6, 3) := by decide +kernel
theorem dL_plankOf_12 : decode cL_plankOf 12 = .ok (.astore_n 3, 1) := by decide +kernel
theorem dL_plankOf_13 : decode cL_plankOf 13 = .ok (.iconst 1, 1) := by decide +kernel
theorem dL_plankOf_14 : decode cL_plankOf 14 = .ok (.ireturn, 1) := by decide +kernel
theorem dL_plankOf_15 : decode cL_plankOf 15 = .ok (.iconst 0, 1) := by decide +kernel
theorem dL_plankOf_16 : decode cL_plankOf 16 = .ok (.ireturn, 1) := by decide +kernel
set_option maxRecDepth 20000 in
theorem ggL_standingOn_X1_standingOn : GoodIn wsL_standingOn wsX1_standingOn := goodIn_ca (goodIn_r _ [6, 7, 8, 9, 5, 10, 11, 12, 13, 14, 15, 16, 17, 18, 19, 20, 21, 22, 23, 24, 25, 26, 27] (by decide +kernel) (by decide +kernel)) (goodIn_sub (fun _ h => List.mem_cons_of_mem _ (List.mem_append_right _ h)) (by decide +kernel))
set_option maxRecDepth 20000 in
theorem gL_standingOn_X1_standingOn : GoodIn wsL_standingOn (wsV RL 51 RX1 yX1_standingOn wsX1_standingOn) := goodIn_app (goodIn_of _ (by decide +kernel)) ggL_standingOn_X1_standingOn
theorem dL_standingOn_0 : decode cL_standingOn 0 = .ok (.aload_n 2, 1) := by decide +kernel
theorem dL_standingOn_1 : decode cL_standingOn 1 = .ok (.iconst 0, 1) := by decide +kernel
theorem dL_standingOn_2 : decode cL_standingOn 2 = .ok (.aload_n 0, 1) := by decide +kernel
theorem dL_standingOn_3 : decode cL_standingOn 3 = .ok (.iload_n 1, 1) := by decide +kernel
theorem dL_standingOn_4 : decode cL_standingOn 4 = .ok (.invokevirtual 51, 3) := by decide +kernel
theorem dL_standingOn_7 : decode cL_standingOn 7 = .ok (.i2l, 1) := by decide +kernel
theorem dL_standingOn_8 : decode cL_standingOn 8 = .ok (.lastore, 1) := by decide +kernel
theorem dL_standingOn_9 : decode cL_standingOn 9 = .ok (.goto 6, 3) := by decide +kernel
theorem dL_standingOn_12 : decode cL_standingOn 12 = .ok (.astore_n 3, 1) := by decide +kernel
theorem dL_standingOn_13 : decode cL_standingOn 13 = .ok (.iconst 1, 1) := by decide +kernel
theorem dL_standingOn_14 : decode cL_standingOn 14 = .ok (.ireturn, 1) := by decide +kernel
theorem dL_standingOn_15 : decode cL_standingOn 15 = .ok (.iconst 0, 1) := by decide +kernel
theorem dL_standingOn_16 : decode cL_standingOn 16 = .ok (.ireturn, 1) := by decide +kernel
set_option maxRecDepth 20000 in
theorem ggL_compromise_X1_compromise : GoodIn wsL_compromise wsX1_compromise := goodIn_ca (goodIn_r _ [6, 7, 8, 9, 10, 5, 11, 12, 13, 14, 15, 16, 17, 18, 19, 20, 21, 22, 23, 24, 25, 26, 27, 28, 29, 30, 31, 32, 33, 34, 35, 36, 37, 38, 39, 40, 41, 42, 43, 44, 45, 46] (by decide +kernel) (by decide +kernel)) (goodIn_sub (fun _ h => List.mem_cons_of_mem _ (List.mem_append_right _ h)) (by decide +kernel))
set_option maxRecDepth 20000 in
theorem gL_compromise_X1_compromise : GoodIn wsL_compromise (wsV RL 54 RX1 yX1_compromise wsX1_compromise) := goodIn_app (goodIn_of _ (by decide +kernel)) ggL_compromise_X1_compromise
theorem dL_compromise_0 : decode cL_compromise 0 = .ok (.aload_n 1, 1) := by decide +kernel
theorem dL_compromise_1 : decode cL_compromise 1 = .ok (.iconst 0, 1) := by decide +kernel
theorem dL_compromise_2 : decode cL_compromise 2 = .ok (.aload_n 0, 1) := by decide +kernel
theorem dL_compromise_3 : decode cL_compromise 3 = .ok (.invokevirtual 54, 3) := by decide +kernel
theorem dL_compromise_6 : decode cL_compromise 6 = .ok (.i2l, 1) := by decide +kernel
theorem dL_compromise_7 : decode cL_compromise 7 = .ok (.lastore, 1) := by decide +kernel
theorem dL_compromise_8 : decode cL_compromise 8 = .ok (.goto 6, 3) := by decide +kernel
theorem dL_compromise_11 : decode cL_compromise 11 = .ok (.astore_n 2, 1) := by decide +kernel
theorem dL_compromise_12 : decode cL_compromise 12 = .ok (.iconst 1, 1) := by decide +kernel
theorem dL_compromise_13 : decode cL_compromise 13 = .ok (.ireturn, 1) := by decide +kernel
theorem dL_compromise_14 : decode cL_compromise 14 = .ok (.iconst 0, 1) := by decide +kernel
theorem dL_compromise_15 : decode cL_compromise 15 = .ok (.ireturn, 1) := by decide +kernel
set_option maxRecDepth 20000 in
theorem ggL_compromiseOf_X1_compromiseOf : GoodIn wsL_compromiseOf wsX1_compromiseOf := goodIn_ca (goodIn_ca (goodIn_r _ [7, 8, 9, 10, 11, 12, 6, 13, 14, 15, 16, 17, 18, 19, 20, 21, 22, 23, 24, 25, 26, 27, 28, 29, 30, 31, 32, 33, 34, 35, 36, 37, 38, 39, 40, 41, 42, 43, 44, 45, 46, 47, 48, 49, 50, 51, 52, 53] (by decide +kernel) (by decide +kernel)) (goodIn_sub (fun _ h => List.mem_cons_of_mem _ (List.mem_append_left _ (List.mem_append_right _ h))) (by decide +kernel))) (goodIn_sub (fun _ h => List.mem_cons_of_mem _ (List.mem_append_right _ h)) (by decide +kernel))
set_option maxRecDepth 20000 in
theorem gL_compromiseOf_X1_compromiseOf : GoodIn wsL_compromiseOf (wsV RL 58 RX1 yX1_compromiseOf wsX1_compromiseOf) := goodIn_app (goodIn_of _ (by decide +kernel)) ggL_compromiseOf_X1_compromiseOf
theorem dL_compromiseOf_0 : decode cL_compromiseOf 0 = .ok (.aload_n 2, 1) := by decide +kernel
theorem dL_compromiseOf_1 : decode cL_compromiseOf 1 = .ok (.iconst 0, 1) := by decide +kernel
theorem dL_compromiseOf_2 : decode cL_compromiseOf 2 = .ok (.aload_n 0, 1) := by decide +kernel
theorem dL_compromiseOf_3 : decode cL_compromiseOf 3 = .ok (.iload_n 1, 1) := by decide +kernel
theorem dL_compromiseOf_4 : decode cL_compromiseOf 4 = .ok (.invokevirtual 58, 3) := by decide +kernel
theorem dL_compromiseOf_7 : decode cL_compromiseOf 7 = .ok (.i2l, 1) := by decide +kernel
theorem dL_compromiseOf_8 : decode cL_compromiseOf 8 = .ok (.lastore, 1) := by decide +kernel
theorem dL_compromiseOf_9 : decode cL_compromiseOf 9 = .ok (.goto 9, 3) := by decide +kernel
theorem dL_compromiseOf_12 : decode cL_compromiseOf 12 = .ok (.astore_n 3, 1) := by decide +kernel
theorem dL_compromiseOf_13 : decode cL_compromiseOf 13 = .ok (.iconst 1, 1) := by decide +kernel
theorem dL_compromiseOf_14 : decode cL_compromiseOf 14 = .ok (.ireturn, 1) := by decide +kernel
theorem dL_compromiseOf_15 : decode cL_compromiseOf 15 = .ok (.astore_n 3, 1) := by decide +kernel
theorem dL_compromiseOf_16 : decode cL_compromiseOf 16 = .ok (.iconst 2, 1) := by decide +kernel
theorem dL_compromiseOf_17 : decode cL_compromiseOf 17 = .ok (.ireturn, 1) := by decide +kernel
theorem dL_compromiseOf_18 : decode cL_compromiseOf 18 = .ok (.iconst 0, 1) := by decide +kernel
theorem dL_compromiseOf_19 : decode cL_compromiseOf 19 = .ok (.ireturn, 1) := by decide +kernel
set_option maxRecDepth 20000 in
theorem ggL_compromiseWithout_X1_compromiseWithout : GoodIn wsL_compromiseWithout wsX1_compromiseWithout := goodIn_ca (goodIn_ca (goodIn_r _ [7, 8, 9, 10, 11, 12, 13, 6, 14, 15, 16, 17, 18, 19, 20, 21, 22, 23, 24, 25, 26, 27, 28, 29, 30, 31, 32, 33, 34, 35, 36, 37, 38, 39, 40, 41, 42, 43, 44, 45, 46, 47, 48, 49, 50, 51, 52, 53] (by decide +kernel) (by decide +kernel)) (goodIn_sub (fun _ h => List.mem_cons_of_mem _ (List.mem_append_left _ (List.mem_append_right _ h))) (by decide +kernel))) (goodIn_sub (fun _ h => List.mem_cons_of_mem _ (List.mem_append_right _ h)) (by decide +kernel))
set_option maxRecDepth 20000 in
theorem gL_compromiseWithout_X1_compromiseWithout : GoodIn wsL_compromiseWithout (wsV RL 61 RX1 yX1_compromiseWithout wsX1_compromiseWithout) := goodIn_app (goodIn_of _ (by decide +kernel)) ggL_compromiseWithout_X1_compromiseWithout
theorem dL_compromiseWithout_0 : decode cL_compromiseWithout 0 = .ok (.aload_n 2, 1) := by decide +kernel
theorem dL_compromiseWithout_1 : decode cL_compromiseWithout 1 = .ok (.iconst 0, 1) := by decide +kernel
theorem dL_compromiseWithout_2 : decode cL_compromiseWithout 2 = .ok (.aload_n 0, 1) := by decide +kernel
theorem dL_compromiseWithout_3 : decode cL_compromiseWithout 3 = .ok (.iload_n 1, 1) := by decide +kernel
theorem dL_compromiseWithout_4 : decode cL_compromiseWithout 4 = .ok (.invokevirtual 61, 3) := by decide +kernel
theorem dL_compromiseWithout_7 : decode cL_compromiseWithout 7 = .ok (.i2l, 1) := by decide +kernel
theorem dL_compromiseWithout_8 : decode cL_compromiseWithout 8 = .ok (.lastore, 1) := by decide +kernel
theorem dL_compromiseWithout_9 : decode cL_compromiseWithout 9 = .ok (.goto 9, 3) := by decide +kernel
theorem dL_compromiseWithout_12 : decode cL_compromiseWithout 12 = .ok (.astore_n 3, 1) := by decide +kernel
theorem dL_compromiseWithout_13 : decode cL_compromiseWithout 13 = .ok (.iconst 1, 1) := by decide +kernel
theorem dL_compromiseWithout_14 : decode cL_compromiseWithout 14 = .ok (.ireturn, 1) := by decide +kernel
theorem dL_compromiseWithout_15 : decode cL_compromiseWithout 15 = .ok (.astore_n 3, 1) := by decide +kernel
theorem dL_compromiseWithout_16 : decode cL_compromiseWithout 16 = .ok (.iconst 2, 1) := by decide +kernel
theorem dL_compromiseWithout_17 : decode cL_compromiseWithout 17 = .ok (.ireturn, 1) := by decide +kernel
theorem dL_compromiseWithout_18 : decode cL_compromiseWithout 18 = .ok (.iconst 0, 1) := by decide +kernel
theorem dL_compromiseWithout_19 : decode cL_compromiseWithout 19 = .ok (.ireturn, 1) := by decide +kernel
set_option maxRecDepth 20000 in
theorem ggL_decisiveOne_X1_decisiveOne : GoodIn wsL_decisiveOne wsX1_decisiveOne := goodIn_ca (goodIn_r _ [6, 7, 8, 9, 10, 11, 5, 12, 13, 14, 15, 16, 17, 18, 19, 20, 21, 22, 23, 24, 25, 26, 27, 28, 29, 30, 31, 32, 33, 34, 35, 36, 37, 38, 39, 40, 41, 42, 43, 44, 45, 46] (by decide +kernel) (by decide +kernel)) (goodIn_sub (fun _ h => List.mem_cons_of_mem _ (List.mem_append_right _ h)) (by decide +kernel))
set_option maxRecDepth 20000 in
theorem gL_decisiveOne_X1_decisiveOne : GoodIn wsL_decisiveOne (wsV RL 64 RX1 yX1_decisiveOne wsX1_decisiveOne) := goodIn_app (goodIn_of _ (by decide +kernel)) ggL_decisiveOne_X1_decisiveOne
theorem dL_decisiveOne_0 : decode cL_decisiveOne 0 = .ok (.aload_n 1, 1) := by decide +kernel
theorem dL_decisiveOne_1 : decode cL_decisiveOne 1 = .ok (.iconst 0, 1) := by decide +kernel
theorem dL_decisiveOne_2 : decode cL_decisiveOne 2 = .ok (.aload_n 0, 1) := by decide +kernel
theorem dL_decisiveOne_3 : decode cL_decisiveOne 3 = .ok (.invokevirtual 64, 3) := by decide +kernel
theorem dL_decisiveOne_6 : decode cL_decisiveOne 6 = .ok (.i2l, 1) := by decide +kernel
theorem dL_decisiveOne_7 : decode cL_decisiveOne 7 = .ok (.lastore, 1) := by decide +kernel
theorem dL_decisiveOne_8 : decode cL_decisiveOne 8 = .ok (.goto 6, 3) := by decide +kernel
theorem dL_decisiveOne_11 : decode cL_decisiveOne 11 = .ok (.astore_n 2, 1) := by decide +kernel
theorem dL_decisiveOne_12 : decode cL_decisiveOne 12 = .ok (.iconst 1, 1) := by decide +kernel
theorem dL_decisiveOne_13 : decode cL_decisiveOne 13 = .ok (.ireturn, 1) := by decide +kernel
theorem dL_decisiveOne_14 : decode cL_decisiveOne 14 = .ok (.iconst 0, 1) := by decide +kernel
theorem dL_decisiveOne_15 : decode cL_decisiveOne 15 = .ok (.ireturn, 1) := by decide +kernel
set_option maxRecDepth 20000 in
theorem ggL_discontentOf_X1_discontentOf : GoodIn wsL_discontentOf wsX1_discontentOf := goodIn_ca (goodIn_r _ [6, 7, 8, 9, 10, 5, 11, 12, 13, 14, 15, 16, 17, 18, 19, 20, 21, 22, 23, 24, 25, 26, 27, 28, 29, 30, 31, 32, 33, 34, 35, 36, 37, 38, 39, 40, 41, 42, 43, 44, 45, 46, 47, 48, 49, 50, 51, 52, 53, 54, 55] (by decide +kernel) (by decide +kernel)) (goodIn_sub (fun _ h => List.mem_cons_of_mem _ (List.mem_append_right _ h)) (by decide +kernel))
set_option maxRecDepth 20000 in
theorem gL_discontentOf_X1_discontentOf : GoodIn wsL_discontentOf (wsV RL 67 RX1 yX1_discontentOf wsX1_discontentOf) := goodIn_app (goodIn_of _ (by decide +kernel)) ggL_discontentOf_X1_discontentOf
theorem dL_discontentOf_0 : decode cL_discontentOf 0 = .ok (.aload_n 2, 1) := by decide +kernel
theorem dL_discontentOf_1 : decode cL_discontentOf 1 = .ok (.iconst 0, 1) := by decide +kernel
theorem dL_discontentOf_2 : decode cL_discontentOf 2 = .ok (.aload_n 0, 1) := by decide +kernel
theorem dL_discontentOf_3 : decode cL_discontentOf 3 = .ok (.iload_n 1, 1) := by decide +kernel
theorem dL_discontentOf_4 : decode cL_discontentOf 4 = .ok (.invokevirtual 67, 3) := by decide +kernel
theorem dL_discontentOf_7 : decode cL_discontentOf 7 = .ok (.i2l, 1) := by decide +kernel
theorem dL_discontentOf_8 : decode cL_discontentOf 8 = .ok (.lastore, 1) := by decide +kernel
theorem dL_discontentOf_9 : decode cL_discontentOf 9 = .ok (.goto 6, 3) := by decide +kernel
theorem dL_discontentOf_12 : decode cL_discontentOf 12 = .ok (.astore_n 3, 1) := by decide +kernel
theorem dL_discontentOf_13 : decode cL_discontentOf 13 = .ok (.iconst 1, 1) := by decide +kernel
theorem dL_discontentOf_14 : decode cL_discontentOf 14 = .ok (.ireturn, 1) := by decide +kernel
theorem dL_discontentOf_15 : decode cL_discontentOf 15 = .ok (.iconst 0, 1) := by decide +kernel
theorem dL_discontentOf_16 : decode cL_discontentOf 16 = .ok (.ireturn, 1) := by decide +kernel
set_option maxRecDepth 20000 in
theorem ggL_bestPlank_X1_bestPlank : GoodIn wsL_bestPlank wsX1_bestPlank := goodIn_ca (goodIn_r _ [6, 7, 8, 9, 5, 10, 11, 12, 13, 14, 15, 16, 17, 18, 19, 20, 21, 22, 23, 24, 25, 26, 27, 28, 29, 30, 31, 32, 33, 34, 35, 36] (by decide +kernel) (by decide +kernel)) (goodIn_sub (fun _ h => List.mem_cons_of_mem _ (List.mem_append_right _ h)) (by decide +kernel))
set_option maxRecDepth 20000 in
theorem gL_bestPlank_X1_bestPlank : GoodIn wsL_bestPlank (wsV RL 70 RX1 yX1_bestPlank wsX1_bestPlank) := goodIn_app (goodIn_of _ (by decide +kernel)) ggL_bestPlank_X1_bestPlank
theorem dL_bestPlank_0 : decode cL_bestPlank 0 = .ok (.aload_n 1, 1) := by decide +kernel
theorem dL_bestPlank_1 : decode cL_bestPlank 1 = .ok (.iconst 0, 1) := by decide +kernel
theorem dL_bestPlank_2 : decode cL_bestPlank 2 = .ok (.aload_n 0, 1) := by decide +kernel
theorem dL_bestPlank_3 : decode cL_bestPlank 3 = .ok (.invokevirtual 70, 3) := by decide +kernel
theorem dL_bestPlank_6 : decode cL_bestPlank 6 = .ok (.i2l, 1) := by decide +kernel
theorem dL_bestPlank_7 : decode cL_bestPlank 7 = .ok (.lastore, 1) := by decide +kernel
theorem dL_bestPlank_8 : decode cL_bestPlank 8 = .ok (.goto 6, 3) := by decide +kernel
theorem dL_bestPlank_11 : decode cL_bestPlank 11 = .ok (.astore_n 2, 1) := by decide +kernel
theorem dL_bestPlank_12 : decode cL_bestPlank 12 = .ok (.iconst 1, 1) := by decide +kernel
theorem dL_bestPlank_13 : decode cL_bestPlank 13 = .ok (.ireturn, 1) := by decide +kernel
theorem dL_bestPlank_14 : decode cL_bestPlank 14 = .ok (.iconst 0, 1) := by decide +kernel
theorem dL_bestPlank_15 : decode cL_bestPlank 15 = .ok (.ireturn, 1) := by decide +kernel
set_option maxRecDepth 20000 in
theorem ggL_votesFor_X1_votesFor : GoodIn wsL_votesFor wsX1_votesFor := goodIn_ca (goodIn_ca (goodIn_r _ [7, 8, 9, 6, 10, 11, 12, 13, 14, 15, 16, 17, 18, 19, 20, 21, 22, 23, 24, 25, 26, 27, 28, 29, 30, 31, 32, 33, 34, 35, 36, 37, 38, 39, 40, 41] (by decide +kernel) (by decide +kernel)) (goodIn_sub (fun _ h => List.mem_cons_of_mem _ (List.mem_append_left _ (List.mem_append_right _ h))) (by decide +kernel))) (goodIn_sub (fun _ h => List.mem_cons_of_mem _ (List.mem_append_right _ h)) (by decide +kernel))
set_option maxRecDepth 20000 in
theorem gL_votesFor_X1_votesFor : GoodIn wsL_votesFor (wsV RL 73 RX1 yX1_votesFor wsX1_votesFor) := goodIn_app (goodIn_of _ (by decide +kernel)) ggL_votesFor_X1_votesFor
theorem dL_votesFor_0 : decode cL_votesFor 0 = .ok (.aload_n 3, 1) := by decide +kernel
theorem dL_votesFor_1 : decode cL_votesFor 1 = .ok (.iconst 0, 1) := by decide +kernel
theorem dL_votesFor_2 : decode cL_votesFor 2 = .ok (.aload_n 0, 1) := by decide +kernel
theorem dL_votesFor_3 : decode cL_votesFor 3 = .ok (.iload_n 1, 1) := by decide +kernel
theorem dL_votesFor_4 : decode cL_votesFor 4 = .ok (.iload_n 2, 1) := by decide +kernel
theorem dL_votesFor_5 : decode cL_votesFor 5 = .ok (.invokevirtual 73, 3) := by decide +kernel
theorem dL_votesFor_8 : decode cL_votesFor 8 = .ok (.i2l, 1) := by decide +kernel
theorem dL_votesFor_9 : decode cL_votesFor 9 = .ok (.lastore, 1) := by decide +kernel
theorem dL_votesFor_10 : decode cL_votesFor 10 = .ok (.goto 11, 3) := by decide +kernel
theorem dL_votesFor_13 : decode cL_votesFor 13 = .ok (.astore 4, 2) := by decide +kernel
theorem dL_votesFor_15 : decode cL_votesFor 15 = .ok (.iconst 1, 1) := by decide +kernel
theorem dL_votesFor_16 : decode cL_votesFor 16 = .ok (.ireturn, 1) := by decide +kernel
theorem dL_votesFor_17 : decode cL_votesFor 17 = .ok (.astore 4, 2) := by decide +kernel
theorem dL_votesFor_19 : decode cL_votesFor 19 = .ok (.iconst 2, 1) := by decide +kernel
theorem dL_votesFor_20 : decode cL_votesFor 20 = .ok (.ireturn, 1) := by decide +kernel
theorem dL_votesFor_21 : decode cL_votesFor 21 = .ok (.iconst 0, 1) := by decide +kernel
theorem dL_votesFor_22 : decode cL_votesFor 22 = .ok (.ireturn, 1) := by decide +kernel
set_option maxRecDepth 20000 in
theorem ggL_winnerOf_X1_winnerOf : GoodIn wsL_winnerOf wsX1_winnerOf := goodIn_ca (goodIn_ca (goodIn_r _ [7, 8, 9, 10, 11, 12, 13, 6, 14, 15, 16, 17, 18, 19, 20, 21, 22, 23, 24, 25, 26, 27, 28, 29, 30, 31, 32, 33, 34, 35, 36, 37, 38, 39, 40, 41, 42, 43, 44] (by decide +kernel) (by decide +kernel)) (goodIn_sub (fun _ h => List.mem_cons_of_mem _ (List.mem_append_left _ (List.mem_append_right _ h))) (by decide +kernel))) (goodIn_sub (fun _ h => List.mem_cons_of_mem _ (List.mem_append_right _ h)) (by decide +kernel))
set_option maxRecDepth 20000 in
theorem gL_winnerOf_X1_winnerOf : GoodIn wsL_winnerOf (wsV RL 76 RX1 yX1_winnerOf wsX1_winnerOf) := goodIn_app (goodIn_of _ (by decide +kernel)) ggL_winnerOf_X1_winnerOf
theorem dL_winnerOf_0 : decode cL_winnerOf 0 = .ok (.aload_n 3, 1) := by decide +kernel
theorem dL_winnerOf_1 : decode cL_winnerOf 1 = .ok (.iconst 0, 1) := by decide +kernel
theorem dL_winnerOf_2 : decode cL_winnerOf 2 = .ok (.aload_n 0, 1) := by decide +kernel
theorem dL_winnerOf_3 : decode cL_winnerOf 3 = .ok (.iload_n 1, 1) := by decide +kernel
theorem dL_winnerOf_4 : decode cL_winnerOf 4 = .ok (.iload_n 2, 1) := by decide +kernel
theorem dL_winnerOf_5 : decode cL_winnerOf 5 = .ok (.invokevirtual 76, 3) := by decide +kernel
theorem dL_winnerOf_8 : decode cL_winnerOf 8 = .ok (.i2l, 1) := by decide +kernel
theorem dL_winnerOf_9 : decode cL_winnerOf 9 = .ok (.lastore, 1) := by decide +kernel
theorem dL_winnerOf_10 : decode cL_winnerOf 10 = .ok (.goto 11, 3) := by decide +kernel
theorem dL_winnerOf_13 : decode cL_winnerOf 13 = .ok (.astore 4, 2) := by decide +kernel
theorem dL_winnerOf_15 : decode cL_winnerOf 15 = .ok (.iconst 1, 1) := by decide +kernel
theorem dL_winnerOf_16 : decode cL_winnerOf 16 = .ok (.ireturn, 1) := by decide +kernel
theorem dL_winnerOf_17 : decode cL_winnerOf 17 = .ok (.astore 4, 2) := by decide +kernel
theorem dL_winnerOf_19 : decode cL_winnerOf 19 = .ok (.iconst 2, 1) := by decide +kernel
theorem dL_winnerOf_20 : decode cL_winnerOf 20 = .ok (.ireturn, 1) := by decide +kernel
theorem dL_winnerOf_21 : decode cL_winnerOf 21 = .ok (.iconst 0, 1) := by decide +kernel
theorem dL_winnerOf_22 : decode cL_winnerOf 22 = .ok (.ireturn, 1) := by decide +kernel
set_option maxRecDepth 20000 in
theorem ggL_canLeadTo_X1_canLeadTo : GoodIn wsL_canLeadTo wsX1_canLeadTo := goodIn_ca (goodIn_r _ [6, 7, 8, 9, 5, 10, 11, 12, 13, 14, 15, 16, 17, 18, 19, 20, 21, 22, 23, 24, 25, 26, 27, 28, 29, 30, 31, 32, 33, 34, 35, 36, 37, 38, 39, 40, 41, 42, 43, 44, 45, 46, 47, 48, 49, 50, 51, 52, 53, 54] (by decide +kernel) (by decide +kernel)) (goodIn_sub (fun _ h => List.mem_cons_of_mem _ (List.mem_append_right _ h)) (by decide +kernel))
set_option maxRecDepth 20000 in
theorem gL_canLeadTo_X1_canLeadTo : GoodIn wsL_canLeadTo (wsV RL 79 RX1 yX1_canLeadTo wsX1_canLeadTo) := goodIn_app (goodIn_of _ (by decide +kernel)) ggL_canLeadTo_X1_canLeadTo
theorem dL_canLeadTo_0 : decode cL_canLeadTo 0 = .ok (.aload_n 3, 1) := by decide +kernel
theorem dL_canLeadTo_1 : decode cL_canLeadTo 1 = .ok (.iconst 0, 1) := by decide +kernel
theorem dL_canLeadTo_2 : decode cL_canLeadTo 2 = .ok (.aload_n 0, 1) := by decide +kernel
theorem dL_canLeadTo_3 : decode cL_canLeadTo 3 = .ok (.iload_n 1, 1) := by decide +kernel
theorem dL_canLeadTo_4 : decode cL_canLeadTo 4 = .ok (.iload_n 2, 1) := by decide +kernel
theorem dL_canLeadTo_5 : decode cL_canLeadTo 5 = .ok (.invokevirtual 79, 3) := by decide +kernel
theorem dL_canLeadTo_8 : decode cL_canLeadTo 8 = .ok (.ifCond .eq 7, 3) := by decide +kernel
theorem dL_canLeadTo_11 : decode cL_canLeadTo 11 = .ok (.lconst 1, 1) := by decide +kernel
theorem dL_canLeadTo_12 : decode cL_canLeadTo 12 = .ok (.goto 4, 3) := by decide +kernel
theorem dL_canLeadTo_15 : decode cL_canLeadTo 15 = .ok (.lconst 0, 1) := by decide +kernel
theorem dL_canLeadTo_16 : decode cL_canLeadTo 16 = .ok (.lastore, 1) := by decide +kernel
theorem dL_canLeadTo_17 : decode cL_canLeadTo 17 = .ok (.goto 7, 3) := by decide +kernel
theorem dL_canLeadTo_20 : decode cL_canLeadTo 20 = .ok (.astore 4, 2) := by decide +kernel
theorem dL_canLeadTo_22 : decode cL_canLeadTo 22 = .ok (.iconst 1, 1) := by decide +kernel
theorem dL_canLeadTo_23 : decode cL_canLeadTo 23 = .ok (.ireturn, 1) := by decide +kernel
theorem dL_canLeadTo_24 : decode cL_canLeadTo 24 = .ok (.iconst 0, 1) := by decide +kernel
theorem dL_canLeadTo_25 : decode cL_canLeadTo 25 = .ok (.ireturn, 1) := by decide +kernel
set_option maxRecDepth 20000 in
theorem ggL_wouldStepTo_X1_wouldStepTo : GoodIn wsL_wouldStepTo wsX1_wouldStepTo := goodIn_ca (goodIn_r _ [6, 7, 8, 9, 10, 5, 11, 12, 13, 14, 15, 16, 17, 18, 19, 20, 21, 22, 23, 24, 25, 26, 27, 28, 29, 30, 31, 32, 33, 34, 35, 36, 37, 38, 39, 40, 41, 42, 43, 44, 45, 46, 47, 48, 49, 50, 51, 52, 53, 54, 55, 56, 57, 58, 59, 60, 61, 62, 63, 64, 65, 66, 67] (by decide +kernel) (by decide +kernel)) (goodIn_sub (fun _ h => List.mem_cons_of_mem _ (List.mem_append_right _ h)) (by decide +kernel))
set_option maxRecDepth 20000 in
theorem gL_wouldStepTo_X1_wouldStepTo : GoodIn wsL_wouldStepTo (wsV RL 83 RX1 yX1_wouldStepTo wsX1_wouldStepTo) := goodIn_app (goodIn_of _ (by decide +kernel)) ggL_wouldStepTo_X1_wouldStepTo
theorem dL_wouldStepTo_0 : decode cL_wouldStepTo 0 = .ok (.aload_n 2, 1) := by decide +kernel
theorem dL_wouldStepTo_1 : decode cL_wouldStepTo 1 = .ok (.iconst 0, 1) := by decide +kernel
theorem dL_wouldStepTo_2 : decode cL_wouldStepTo 2 = .ok (.aload_n 0, 1) := by decide +kernel
theorem dL_wouldStepTo_3 : decode cL_wouldStepTo 3 = .ok (.iload_n 1, 1) := by decide +kernel
theorem dL_wouldStepTo_4 : decode cL_wouldStepTo 4 = .ok (.invokevirtual 83, 3) := by decide +kernel
theorem dL_wouldStepTo_7 : decode cL_wouldStepTo 7 = .ok (.i2l, 1) := by decide +kernel
theorem dL_wouldStepTo_8 : decode cL_wouldStepTo 8 = .ok (.lastore, 1) := by decide +kernel
theorem dL_wouldStepTo_9 : decode cL_wouldStepTo 9 = .ok (.goto 6, 3) := by decide +kernel
theorem dL_wouldStepTo_12 : decode cL_wouldStepTo 12 = .ok (.astore_n 3, 1) := by decide +kernel
theorem dL_wouldStepTo_13 : decode cL_wouldStepTo 13 = .ok (.iconst 1, 1) := by decide +kernel
theorem dL_wouldStepTo_14 : decode cL_wouldStepTo 14 = .ok (.ireturn, 1) := by decide +kernel
theorem dL_wouldStepTo_15 : decode cL_wouldStepTo 15 = .ok (.iconst 0, 1) := by decide +kernel
theorem dL_wouldStepTo_16 : decode cL_wouldStepTo 16 = .ok (.ireturn, 1) := by decide +kernel
set_option maxRecDepth 20000 in
theorem ggL_plankIn_X1_plankIn : GoodIn wsL_plankIn wsX1_plankIn := goodIn_ca (goodIn_ca (goodIn_r _ [7, 8, 9, 10, 11, 6, 12, 13, 14, 15, 16, 17, 18, 19, 20, 21, 22, 23, 24, 25, 26, 27, 28, 29, 30, 31, 32, 33, 34, 35, 36, 37, 38, 39, 40, 41, 42, 43, 44, 45, 46, 47, 48, 49, 50, 51, 52, 53, 54, 55, 56, 57, 58, 59, 60, 61, 62, 63, 64, 65, 66, 67, 68, 69, 70, 71, 72, 73, 74, 75, 76, 77, 78, 79, 80, 81, 82, 83, 84, 85, 86, 87, 88, 89, 90, 91, 92, 93, 94, 95] (by decide +kernel) (by decide +kernel)) (goodIn_sub (fun _ h => List.mem_cons_of_mem _ (List.mem_append_left _ (List.mem_append_right _ h))) (by decide +kernel))) (goodIn_sub (fun _ h => List.mem_cons_of_mem _ (List.mem_append_right _ h)) (by decide +kernel))
set_option maxRecDepth 20000 in
theorem gL_plankIn_X1_plankIn : GoodIn wsL_plankIn (wsV RL 86 RX1 yX1_plankIn wsX1_plankIn) := goodIn_app (goodIn_of _ (by decide +kernel)) ggL_plankIn_X1_plankIn
theorem dL_plankIn_0 : decode cL_plankIn 0 = .ok (.aload_n 3, 1) := by decide +kernel
theorem dL_plankIn_1 : decode cL_plankIn 1 = .ok (.iconst 0, 1) := by decide +kernel
theorem dL_plankIn_2 : decode cL_plankIn 2 = .ok (.aload_n 0, 1) := by decide +kernel
theorem dL_plankIn_3 : decode cL_plankIn 3 = .ok (.iload_n 1, 1) := by decide +kernel
theorem dL_plankIn_4 : decode cL_plankIn 4 = .ok (.iload_n 2, 1) := by decide +kernel
theorem dL_plankIn_5 : decode cL_plankIn 5 = .ok (.invokevirtual 86, 3) := by decide +kernel
theorem dL_plankIn_8 : decode cL_plankIn 8 = .ok (.i2l, 1) := by decide +kernel
theorem dL_plankIn_9 : decode cL_plankIn 9 = .ok (.lastore, 1) := by decide +kernel
theorem dL_plankIn_10 : decode cL_plankIn 10 = .ok (.goto 11, 3) := by decide +kernel
theorem dL_plankIn_13 : decode cL_plankIn 13 = .ok (.astore 4, 2) := by decide +kernel
theorem dL_plankIn_15 : decode cL_plankIn 15 = .ok (.iconst 1, 1) := by decide +kernel
theorem dL_plankIn_16 : decode cL_plankIn 16 = .ok (.ireturn, 1) := by decide +kernel
theorem dL_plankIn_17 : decode cL_plankIn 17 = .ok (.astore 4, 2) := by decide +kernel
theorem dL_plankIn_19 : decode cL_plankIn 19 = .ok (.iconst 2, 1) := by decide +kernel
theorem dL_plankIn_20 : decode cL_plankIn 20 = .ok (.ireturn, 1) := by decide +kernel
theorem dL_plankIn_21 : decode cL_plankIn 21 = .ok (.iconst 0, 1) := by decide +kernel
theorem dL_plankIn_22 : decode cL_plankIn 22 = .ok (.ireturn, 1) := by decide +kernel
set_option maxRecDepth 20000 in
theorem ggL_compromiseIn_X1_compromiseIn : GoodIn wsL_compromiseIn wsX1_compromiseIn := goodIn_ca (goodIn_ca (goodIn_r _ [7, 8, 9, 10, 6, 11, 12, 13, 14, 15, 16, 17, 18, 19, 20, 21, 22, 23, 24, 25, 26, 27, 28, 29, 30, 31, 32, 33, 34, 35, 36, 37, 38, 39, 40, 41, 42, 43, 44, 45, 46, 47, 48, 49, 50, 51, 52, 53, 54, 55, 56, 57, 58, 59, 60, 61, 62, 63, 64, 65, 66, 67, 68, 69, 70, 71, 72, 73, 74, 75, 76, 77, 78, 79, 80, 81, 82, 83, 84, 85, 86, 87, 88, 89, 90, 91, 92, 93, 94, 95] (by decide +kernel) (by decide +kernel)) (goodIn_sub (fun _ h => List.mem_cons_of_mem _ (List.mem_append_left _ (List.mem_append_right _ h))) (by decide +kernel))) (goodIn_sub (fun _ h => List.mem_cons_of_mem _ (List.mem_append_right _ h)) (by decide +kernel))
set_option maxRecDepth 20000 in
theorem gL_compromiseIn_X1_compromiseIn : GoodIn wsL_compromiseIn (wsV RL 89 RX1 yX1_compromiseIn wsX1_compromiseIn) := goodIn_app (goodIn_of _ (by decide +kernel)) ggL_compromiseIn_X1_compromiseIn
theorem dL_compromiseIn_0 : decode cL_compromiseIn 0 = .ok (.aload_n 2, 1) := by decide +kernel
theorem dL_compromiseIn_1 : decode cL_compromiseIn 1 = .ok (.iconst 0, 1) := by decide +kernel
theorem dL_compromiseIn_2 : decode cL_compromiseIn 2 = .ok (.aload_n 0, 1) := by decide +kernel
theorem dL_compromiseIn_3 : decode cL_compromiseIn 3 = .ok (.iload_n 1, 1) := by decide +kernel
theorem dL_compromiseIn_4 : decode cL_compromiseIn 4 = .ok (.invokevirtual 89, 3) := by decide +kernel
theorem dL_compromiseIn_7 : decode cL_compromiseIn 7 = .ok (.i2l, 1) := by decide +kernel
theorem dL_compromiseIn_8 : decode cL_compromiseIn 8 = .ok (.lastore, 1) := by decide +kernel
theorem dL_compromiseIn_9 : decode cL_compromiseIn 9 = .ok (.goto 9, 3) := by decide +kernel
theorem dL_compromiseIn_12 : decode cL_compromiseIn 12 = .ok (.astore_n 3, 1) := by decide +kernel
theorem dL_compromiseIn_13 : decode cL_compromiseIn 13 = .ok (.iconst 1, 1) := by decide +kernel
theorem dL_compromiseIn_14 : decode cL_compromiseIn 14 = .ok (.ireturn, 1) := by decide +kernel
theorem dL_compromiseIn_15 : decode cL_compromiseIn 15 = .ok (.astore_n 3, 1) := by decide +kernel
theorem dL_compromiseIn_16 : decode cL_compromiseIn 16 = .ok (.iconst 2, 1) := by decide +kernel
theorem dL_compromiseIn_17 : decode cL_compromiseIn 17 = .ok (.ireturn, 1) := by decide +kernel
theorem dL_compromiseIn_18 : decode cL_compromiseIn 18 = .ok (.iconst 0, 1) := by decide +kernel
theorem dL_compromiseIn_19 : decode cL_compromiseIn 19 = .ok (.ireturn, 1) := by decide +kernel
set_option maxRecDepth 20000 in
theorem ggL_bestStand_X1_bestStand : GoodIn wsL_bestStand wsX1_bestStand := goodIn_ca (goodIn_r _ [6, 7, 8, 9, 10, 5, 11, 12, 13, 14, 15, 16, 17, 18, 19, 20, 21, 22, 23, 24, 25, 26, 27, 28, 29, 30, 31, 32, 33, 34, 35, 36, 37, 38, 39, 40, 41, 42, 43, 44, 45, 46, 47, 48, 49, 50, 51, 52, 53, 54, 55, 56, 57, 58, 59, 60, 61, 62, 63] (by decide +kernel) (by decide +kernel)) (goodIn_sub (fun _ h => List.mem_cons_of_mem _ (List.mem_append_right _ h)) (by decide +kernel))
set_option maxRecDepth 20000 in
theorem gL_bestStand_X1_bestStand : GoodIn wsL_bestStand (wsV RL 92 RX1 yX1_bestStand wsX1_bestStand) := goodIn_app (goodIn_of _ (by decide +kernel)) ggL_bestStand_X1_bestStand
theorem dL_bestStand_0 : decode cL_bestStand 0 = .ok (.aload_n 2, 1) := by decide +kernel
theorem dL_bestStand_1 : decode cL_bestStand 1 = .ok (.iconst 0, 1) := by decide +kernel
theorem dL_bestStand_2 : decode cL_bestStand 2 = .ok (.aload_n 0, 1) := by decide +kernel
theorem dL_bestStand_3 : decode cL_bestStand 3 = .ok (.iload_n 1, 1) := by decide +kernel
theorem dL_bestStand_4 : decode cL_bestStand 4 = .ok (.invokevirtual 92, 3) := by decide +kernel
theorem dL_bestStand_7 : decode cL_bestStand 7 = .ok (.i2l, 1) := by decide +kernel
theorem dL_bestStand_8 : decode cL_bestStand 8 = .ok (.lastore, 1) := by decide +kernel
theorem dL_bestStand_9 : decode cL_bestStand 9 = .ok (.goto 6, 3) := by decide +kernel
theorem dL_bestStand_12 : decode cL_bestStand 12 = .ok (.astore_n 3, 1) := by decide +kernel
theorem dL_bestStand_13 : decode cL_bestStand 13 = .ok (.iconst 1, 1) := by decide +kernel
theorem dL_bestStand_14 : decode cL_bestStand 14 = .ok (.ireturn, 1) := by decide +kernel
theorem dL_bestStand_15 : decode cL_bestStand 15 = .ok (.iconst 0, 1) := by decide +kernel
theorem dL_bestStand_16 : decode cL_bestStand 16 = .ok (.ireturn, 1) := by decide +kernel
set_option maxRecDepth 20000 in
theorem ggL_law_X1_init : GoodIn wsL_law wsX1_init := goodIn_r _ [9, 10, 11, 12, 13, 14, 15, 16, 17, 18, 19, 20, 21, 22, 23, 24, 25, 26, 27, 28, 29, 30, 31, 705, 706, 707, 708, 709, 710, 711, 712, 713, 714, 726, 727] (by decide +kernel) (by decide +kernel)
set_option maxRecDepth 20000 in
theorem gL_law_X1_init : GoodIn wsL_law (wsX1_init) := ggL_law_X1_init
set_option maxRecDepth 20000 in
theorem ggL_law_X2_init : GoodIn wsL_law wsX2_init := goodIn_r _ [34, 35, 11, 12, 36, 16, 37, 38, 39, 40, 41, 42, 43, 715, 716, 717, 718, 719, 720, 721, 722, 723, 724, 725] (by decide +kernel) (by decide +kernel)
set_option maxRecDepth 20000 in
theorem gL_law_X2_init : GoodIn wsL_law (wsX2_init) := ggL_law_X2_init
set_option maxRecDepth 20000 in
theorem ggL_law_L_send : GoodIn wsL_law wsL_send := goodIn_ca (goodIn_ca (goodIn_ca (goodIn_r _ [47, 48, 49, 50, 51, 52, 53, 2, 54, 55, 56, 13, 21, 17, 18, 19, 20, 57, 58, 59, 60, 61, 62, 63, 64, 65, 66, 67, 68, 69, 70, 71, 72, 73, 15, 74, 75, 76, 77, 705, 706, 707, 708, 709, 710, 711, 712, 713, 714] (by decide +kernel) (by decide +kernel)) (goodIn_sub (fun _ h => List.mem_append_left _ (List.mem_append_left _ (List.mem_append_right _ h))) (by decide +kernel))) (goodIn_sub (fun _ h => List.mem_append_left _ (List.mem_append_right _ h)) (by decide +kernel))) (goodIn_sub (fun _ h => List.mem_append_right _ h) (by decide +kernel))
set_option maxRecDepth 20000 in
theorem gL_law_L_send : GoodIn wsL_law (va_wsS RL 99 yL_send wsL_send) := goodIn_app (goodIn_of _ (by decide +kernel)) ggL_law_L_send
set_option maxRecDepth 20000 in
theorem ggL_law_X2_send : GoodIn wsL_law wsX2_send := goodIn_r _ [81, 82, 83, 37, 38, 39, 40, 41, 84, 85, 5, 86, 87, 88, 89, 90, 91, 92, 93, 94, 95, 96, 97, 98, 99, 100, 36, 101, 102, 103, 104, 715, 716, 717, 718, 719, 720, 721, 722, 723, 724, 725] (by decide +kernel) (by decide +kernel)
set_option maxRecDepth 20000 in
theorem gL_law_X2_send : GoodIn wsL_law (wsV RL 104 RX2 yX2_send wsX2_send) := goodIn_app (goodIn_of _ (by decide +kernel)) ggL_law_X2_send
set_option maxRecDepth 20000 in
theorem ggL_law_X2_thrown : GoodIn wsL_law wsX2_thrown := goodIn_r _ [108, 82, 715, 716, 717, 718, 719, 720, 721, 722, 723, 724, 725] (by decide +kernel) (by decide +kernel)
set_option maxRecDepth 20000 in
theorem gL_law_X2_thrown : GoodIn wsL_law (wsV RL 105 RX2 yX2_thrown wsX2_thrown) := goodIn_app (goodIn_of _ (by decide +kernel)) ggL_law_X2_thrown
set_option maxRecDepth 20000 in
theorem ggL_law_L_recall : GoodIn wsL_law wsL_recall := goodIn_ca (goodIn_r _ [111, 48, 112, 113, 114, 2, 115, 21, 17, 18, 19, 20, 13, 116, 117, 118, 119, 60, 61, 120, 121, 122, 123, 705, 706, 707, 708, 709, 710, 711, 712, 713, 714] (by decide +kernel) (by decide +kernel)) (goodIn_sub (fun _ h => List.mem_append_left _ (List.mem_append_right _ h)) (by decide +kernel))
set_option maxRecDepth 20000 in
theorem gL_law_L_recall : GoodIn wsL_law (va_wsS RL 108 yL_recall wsL_recall) := goodIn_app (goodIn_of _ (by decide +kernel)) ggL_law_L_recall
set_option maxRecDepth 20000 in
theorem ggL_law_X2_recall : GoodIn wsL_law wsX2_recall := goodIn_r _ [127, 82, 41, 37, 83, 38, 39, 40, 128, 129, 130, 5, 131, 87, 88, 89, 93, 94, 95, 96, 132, 133, 134, 715, 716, 717, 718, 719, 720, 721, 722, 723, 724, 725] (by decide +kernel) (by decide +kernel)
set_option maxRecDepth 20000 in
theorem gL_law_X2_recall : GoodIn wsL_law (wsV RL 111 RX2 yX2_recall wsX2_recall) := goodIn_app (goodIn_of _ (by decide +kernel)) ggL_law_X2_recall
set_option maxRecDepth 20000 in
theorem ggL_law_L_persuade : GoodIn wsL_law wsL_persuade := goodIn_ca (goodIn_r _ [137, 48, 138, 139, 140, 2, 141, 18, 116, 117, 118, 119, 60, 61, 13, 62, 63, 64, 705, 706, 707, 708, 709, 710, 711, 712, 713, 714] (by decide +kernel) (by decide +kernel)) (goodIn_sub (fun _ h => List.mem_append_left _ (List.mem_append_right _ h)) (by decide +kernel))
set_option maxRecDepth 20000 in
theorem gL_law_L_persuade : GoodIn wsL_law (va_wsS RL 112 yL_persuade wsL_persuade) := goodIn_app (goodIn_of _ (by decide +kernel)) ggL_law_L_persuade
set_option maxRecDepth 20000 in
theorem ggL_law_X2_persuade : GoodIn wsL_law wsX2_persuade := goodIn_r _ [145, 82, 38, 128, 129, 130, 5, 131, 83, 87, 88, 89, 90, 91, 92, 93, 94, 95, 96, 715, 716, 717, 718, 719, 720, 721, 722, 723, 724, 725] (by decide +kernel) (by decide +kernel)
set_option maxRecDepth 20000 in
theorem gL_law_X2_persuade : GoodIn wsL_law (wsV RL 115 RX2 yX2_persuade wsX2_persuade) := goodIn_app (goodIn_of _ (by decide +kernel)) ggL_law_X2_persuade
set_option maxRecDepth 20000 in
theorem ggL_law_L_lead : GoodIn wsL_law wsL_lead := goodIn_ca (goodIn_ca (goodIn_r _ [148, 48, 50, 149, 150, 151, 2, 152, 55, 56, 21, 116, 117, 118, 119, 60, 61, 13, 62, 63, 64, 153, 154, 155, 156, 19, 157, 158, 159, 160, 18, 161, 162, 163, 164, 165, 166, 167, 168, 70, 71, 72, 73, 15, 74, 75, 76, 77, 705, 706, 707, 708, 709, 710, 711, 712, 713, 714] (by decide +kernel) (by decide +kernel)) (goodIn_sub (fun _ h => List.mem_append_left _ (List.mem_append_left _ (List.mem_append_right _ h))) (by decide +kernel))) (goodIn_sub (fun _ h => List.mem_append_left _ (List.mem_append_right _ h)) (by decide +kernel))
set_option maxRecDepth 20000 in
theorem gL_law_L_lead : GoodIn wsL_law (va_wsS RL 116 yL_lead wsL_lead) := goodIn_app (goodIn_of _ (by decide +kernel)) ggL_law_L_lead
set_option maxRecDepth 20000 in
theorem ggL_law_X2_lead : GoodIn wsL_law wsX2_lead := goodIn_r _ [172, 82, 41, 128, 129, 130, 5, 131, 83, 87, 88, 89, 90, 91, 92, 93, 94, 95, 96, 173, 174, 175, 176, 177, 178, 179, 180, 38, 181, 162, 163, 164, 39, 97, 98, 99, 100, 36, 101, 102, 103, 104, 715, 716, 717, 718, 719, 720, 721, 722, 723, 724, 725] (by decide +kernel) (by decide +kernel)
set_option maxRecDepth 20000 in
theorem gL_law_X2_lead : GoodIn wsL_law (wsV RL 118 RX2 yX2_lead wsX2_lead) := goodIn_app (goodIn_of _ (by decide +kernel)) ggL_law_X2_lead
set_option maxRecDepth 20000 in
theorem ggL_law_L_setStrength : GoodIn wsL_law wsL_setStrength := goodIn_ca (goodIn_r _ [184, 49, 185, 186, 187, 2, 188, 68, 69, 15, 705, 706, 707, 708, 709, 710, 711, 712, 713, 714] (by decide +kernel) (by decide +kernel)) (goodIn_sub (fun _ h => List.mem_append_right _ h) (by decide +kernel))
set_option maxRecDepth 20000 in
theorem gL_law_L_setStrength : GoodIn wsL_law (va_wsS RL 119 yL_setStrength wsL_setStrength) := goodIn_app (goodIn_of _ (by decide +kernel)) ggL_law_L_setStrength
set_option maxRecDepth 20000 in
theorem ggL_law_X2_setStrength : GoodIn wsL_law wsX2_setStrength := goodIn_r _ [192, 82, 36, 87, 88, 5, 89, 93, 94, 95, 96, 715, 716, 717, 718, 719, 720, 721, 722, 723, 724, 725] (by decide +kernel) (by decide +kernel)
set_option maxRecDepth 20000 in
theorem gL_law_X2_setStrength : GoodIn wsL_law (wsV RL 121 RX2 yX2_setStrength wsX2_setStrength) := goodIn_app (goodIn_of _ (by decide +kernel)) ggL_law_X2_setStrength
set_option maxRecDepth 20000 in
theorem ggL_law_L_passRounds : GoodIn wsL_law wsL_passRounds := goodIn_ca (goodIn_r _ [195, 49, 196, 197, 198, 2, 199, 14, 21, 200, 201, 202, 68, 69, 203, 204, 205, 206, 207, 208, 209, 210, 13, 211, 212, 213, 214, 26, 215, 216, 217, 25, 218, 31, 219, 220, 221, 222, 30, 223, 224, 225, 226, 227, 228, 229, 230, 20, 231, 232, 233, 234, 18, 19, 235, 236, 237, 238, 239, 163, 240, 241, 242, 243, 70, 71, 72, 73, 15, 74, 75, 76, 77, 705, 706, 707, 708, 709, 710, 711, 712, 713, 714, 726, 727] (by decide +kernel) (by decide +kernel)) (goodIn_sub (fun _ h => List.mem_append_right _ h) (by decide +kernel))
set_option maxRecDepth 20000 in
theorem gL_law_L_passRounds : GoodIn wsL_law (va_wsS RL 122 yL_passRounds wsL_passRounds) := goodIn_app (goodIn_of _ (by decide +kernel)) ggL_law_L_passRounds
set_option maxRecDepth 20000 in
theorem ggL_law_X2_passRounds : GoodIn wsL_law wsX2_passRounds := goodIn_r _ [247, 82, 248, 87, 88, 5, 89, 93, 94, 95, 96, 249, 250, 251, 252, 83, 41, 253, 254, 255, 256, 257, 258, 259, 260, 43, 37, 261, 262, 263, 264, 38, 39, 265, 239, 163, 240, 266, 242, 243, 40, 97, 98, 99, 100, 36, 101, 102, 103, 104, 715, 716, 717, 718, 719, 720, 721, 722, 723, 724, 725] (by decide +kernel) (by decide +kernel)
set_option maxRecDepth 20000 in
theorem gL_law_X2_passRounds : GoodIn wsL_law (wsV RL 124 RX2 yX2_passRounds wsX2_passRounds) := goodIn_app (goodIn_of _ (by decide +kernel)) ggL_law_X2_passRounds
set_option maxRecDepth 20000 in
theorem ggL_law_X1_delegates : GoodIn wsL_law wsX1_delegates := goodIn_r _ [270, 13, 705, 706, 707, 708, 709, 710, 711, 712, 713, 714] (by decide +kernel) (by decide +kernel)
set_option maxRecDepth 20000 in
theorem gL_law_X1_delegates : GoodIn wsL_law (wsV RL 125 RX1 yX1_delegates wsX1_delegates) := goodIn_app (goodIn_of _ (by decide +kernel)) ggL_law_X1_delegates
set_option maxRecDepth 20000 in
theorem ggL_law_X2_delegates : GoodIn wsL_law wsX2_delegates := goodIn_r _ [274, 83, 275, 276, 277, 5, 278, 82, 715, 716, 717, 718, 719, 720, 721, 722, 723, 724, 725] (by decide +kernel) (by decide +kernel)
set_option maxRecDepth 20000 in
theorem gL_law_X2_delegates : GoodIn wsL_law (wsV RL 128 RX2 yX2_delegates wsX2_delegates) := goodIn_app (goodIn_of _ (by decide +kernel)) ggL_law_X2_delegates
set_option maxRecDepth 20000 in
theorem ggL_law_X1_rounds : GoodIn wsL_law wsX1_rounds := goodIn_r _ [282, 14, 705, 706, 707, 708, 709, 710, 711, 712, 713, 714] (by decide +kernel) (by decide +kernel)
set_option maxRecDepth 20000 in
theorem gL_law_X1_rounds : GoodIn wsL_law (wsV RL 129 RX1 yX1_rounds wsX1_rounds) := goodIn_app (goodIn_of _ (by decide +kernel)) ggL_law_X1_rounds
set_option maxRecDepth 20000 in
theorem ggL_law_X2_rounds : GoodIn wsL_law wsX2_rounds := goodIn_r _ [286, 248, 275, 276, 277, 5, 278, 82, 715, 716, 717, 718, 719, 720, 721, 722, 723, 724, 725] (by decide +kernel) (by decide +kernel)
set_option maxRecDepth 20000 in
theorem gL_law_X2_rounds : GoodIn wsL_law (wsV RL 132 RX2 yX2_rounds wsX2_rounds) := goodIn_app (goodIn_of _ (by decide +kernel)) ggL_law_X2_rounds
set_option maxRecDepth 20000 in
theorem ggL_law_X1_strength : GoodIn wsL_law wsX1_strength := goodIn_r _ [290, 15, 705, 706, 707, 708, 709, 710, 711, 712, 713, 714] (by decide +kernel) (by decide +kernel)
set_option maxRecDepth 20000 in
theorem gL_law_X1_strength : GoodIn wsL_law (wsV RL 133 RX1 yX1_strength wsX1_strength) := goodIn_app (goodIn_of _ (by decide +kernel)) ggL_law_X1_strength
set_option maxRecDepth 20000 in
theorem ggL_law_X2_strength : GoodIn wsL_law wsX2_strength := goodIn_r _ [294, 36, 275, 276, 277, 5, 278, 82, 715, 716, 717, 718, 719, 720, 721, 722, 723, 724, 725] (by decide +kernel) (by decide +kernel)
set_option maxRecDepth 20000 in
theorem gL_law_X2_strength : GoodIn wsL_law (wsV RL 136 RX2 yX2_strength wsX2_strength) := goodIn_app (goodIn_of _ (by decide +kernel)) ggL_law_X2_strength
set_option maxRecDepth 20000 in
theorem ggL_law_L_villageOf : GoodIn wsL_law wsL_villageOf := goodIn_ca (goodIn_r _ [297, 48, 298, 299, 300, 2, 301, 17, 116, 117, 118, 119, 60, 61, 13, 705, 706, 707, 708, 709, 710, 711, 712, 713, 714] (by decide +kernel) (by decide +kernel)) (goodIn_sub (fun _ h => List.mem_append_left _ (List.mem_append_right _ h)) (by decide +kernel))
set_option maxRecDepth 20000 in
theorem gL_law_L_villageOf : GoodIn wsL_law (va_wsS RL 137 yL_villageOf wsL_villageOf) := goodIn_app (goodIn_of _ (by decide +kernel)) ggL_law_L_villageOf
set_option maxRecDepth 20000 in
theorem ggL_law_X2_villageOf : GoodIn wsL_law wsX2_villageOf := goodIn_r _ [305, 37, 306, 307, 308, 5, 309, 82, 128, 129, 130, 131, 83, 87, 88, 89, 93, 94, 95, 96, 715, 716, 717, 718, 719, 720, 721, 722, 723, 724, 725] (by decide +kernel) (by decide +kernel)
set_option maxRecDepth 20000 in
theorem gL_law_X2_villageOf : GoodIn wsL_law (wsV RL 139 RX2 yX2_villageOf wsX2_villageOf) := goodIn_app (goodIn_of _ (by decide +kernel)) ggL_law_X2_villageOf
set_option maxRecDepth 20000 in
theorem ggL_law_L_wishOf : GoodIn wsL_law wsL_wishOf := goodIn_ca (goodIn_r _ [312, 48, 313, 314, 315, 2, 316, 18, 116, 117, 118, 119, 60, 61, 13, 705, 706, 707, 708, 709, 710, 711, 712, 713, 714] (by decide +kernel) (by decide +kernel)) (goodIn_sub (fun _ h => List.mem_append_left _ (List.mem_append_right _ h)) (by decide +kernel))
set_option maxRecDepth 20000 in
theorem gL_law_L_wishOf : GoodIn wsL_law (va_wsS RL 140 yL_wishOf wsL_wishOf) := goodIn_app (goodIn_of _ (by decide +kernel)) ggL_law_L_wishOf
set_option maxRecDepth 20000 in
theorem ggL_law_X2_wishOf : GoodIn wsL_law wsX2_wishOf := goodIn_r _ [320, 38, 306, 307, 308, 5, 309, 82, 128, 129, 130, 131, 83, 87, 88, 89, 93, 94, 95, 96, 715, 716, 717, 718, 719, 720, 721, 722, 723, 724, 725] (by decide +kernel) (by decide +kernel)
set_option maxRecDepth 20000 in
theorem gL_law_X2_wishOf : GoodIn wsL_law (wsV RL 142 RX2 yX2_wishOf wsX2_wishOf) := goodIn_app (goodIn_of _ (by decide +kernel)) ggL_law_X2_wishOf
set_option maxRecDepth 20000 in
theorem ggL_law_L_reachOf : GoodIn wsL_law wsL_reachOf := goodIn_ca (goodIn_r _ [323, 48, 324, 325, 326, 2, 327, 19, 116, 117, 118, 119, 60, 61, 13, 705, 706, 707, 708, 709, 710, 711, 712, 713, 714] (by decide +kernel) (by decide +kernel)) (goodIn_sub (fun _ h => List.mem_append_left _ (List.mem_append_right _ h)) (by decide +kernel))
set_option maxRecDepth 20000 in
theorem gL_law_L_reachOf : GoodIn wsL_law (va_wsS RL 143 yL_reachOf wsL_reachOf) := goodIn_app (goodIn_of _ (by decide +kernel)) ggL_law_L_reachOf
set_option maxRecDepth 20000 in
theorem ggL_law_X2_reachOf : GoodIn wsL_law wsX2_reachOf := goodIn_r _ [331, 39, 306, 307, 308, 5, 309, 82, 128, 129, 130, 131, 83, 87, 88, 89, 93, 94, 95, 96, 715, 716, 717, 718, 719, 720, 721, 722, 723, 724, 725] (by decide +kernel) (by decide +kernel)
set_option maxRecDepth 20000 in
theorem gL_law_X2_reachOf : GoodIn wsL_law (wsV RL 145 RX2 yX2_reachOf wsX2_reachOf) := goodIn_app (goodIn_of _ (by decide +kernel)) ggL_law_X2_reachOf
set_option maxRecDepth 20000 in
theorem ggL_law_L_paceOf : GoodIn wsL_law wsL_paceOf := goodIn_ca (goodIn_r _ [334, 48, 335, 336, 337, 2, 338, 20, 116, 117, 118, 119, 60, 61, 13, 705, 706, 707, 708, 709, 710, 711, 712, 713, 714] (by decide +kernel) (by decide +kernel)) (goodIn_sub (fun _ h => List.mem_append_left _ (List.mem_append_right _ h)) (by decide +kernel))
set_option maxRecDepth 20000 in
theorem gL_law_L_paceOf : GoodIn wsL_law (va_wsS RL 146 yL_paceOf wsL_paceOf) := goodIn_app (goodIn_of _ (by decide +kernel)) ggL_law_L_paceOf
set_option maxRecDepth 20000 in
theorem ggL_law_X2_paceOf : GoodIn wsL_law wsX2_paceOf := goodIn_r _ [342, 40, 306, 307, 308, 5, 309, 82, 128, 129, 130, 131, 83, 87, 88, 89, 93, 94, 95, 96, 715, 716, 717, 718, 719, 720, 721, 722, 723, 724, 725] (by decide +kernel) (by decide +kernel)
set_option maxRecDepth 20000 in
theorem gL_law_X2_paceOf : GoodIn wsL_law (wsV RL 148 RX2 yX2_paceOf wsX2_paceOf) := goodIn_app (goodIn_of _ (by decide +kernel)) ggL_law_X2_paceOf
set_option maxRecDepth 20000 in
theorem ggL_law_L_plankOf : GoodIn wsL_law wsL_plankOf := goodIn_ca (goodIn_r _ [345, 48, 346, 347, 348, 2, 349, 21, 116, 117, 118, 119, 60, 61, 13, 705, 706, 707, 708, 709, 710, 711, 712, 713, 714] (by decide +kernel) (by decide +kernel)) (goodIn_sub (fun _ h => List.mem_append_left _ (List.mem_append_right _ h)) (by decide +kernel))
set_option maxRecDepth 20000 in
theorem gL_law_L_plankOf : GoodIn wsL_law (va_wsS RL 149 yL_plankOf wsL_plankOf) := goodIn_app (goodIn_of _ (by decide +kernel)) ggL_law_L_plankOf
set_option maxRecDepth 20000 in
theorem ggL_law_X2_plankOf : GoodIn wsL_law wsX2_plankOf := goodIn_r _ [353, 41, 306, 307, 308, 5, 309, 82, 128, 129, 130, 131, 83, 87, 88, 89, 93, 94, 95, 96, 715, 716, 717, 718, 719, 720, 721, 722, 723, 724, 725] (by decide +kernel) (by decide +kernel)
set_option maxRecDepth 20000 in
theorem gL_law_X2_plankOf : GoodIn wsL_law (wsV RL 151 RX2 yX2_plankOf wsX2_plankOf) := goodIn_app (goodIn_of _ (by decide +kernel)) ggL_law_X2_plankOf
set_option maxRecDepth 20000 in
theorem ggL_law_L_standingOn : GoodIn wsL_law wsL_standingOn := goodIn_ca (goodIn_r _ [356, 48, 357, 358, 359, 2, 360, 21, 62, 63, 64, 60, 61, 74, 75, 76, 77, 13, 705, 706, 707, 708, 709, 710, 711, 712, 713, 714] (by decide +kernel) (by decide +kernel)) (goodIn_sub (fun _ h => List.mem_append_left _ (List.mem_append_right _ h)) (by decide +kernel))
set_option maxRecDepth 20000 in
theorem gL_law_L_standingOn : GoodIn wsL_law (va_wsS RL 152 yL_standingOn wsL_standingOn) := goodIn_app (goodIn_of _ (by decide +kernel)) ggL_law_L_standingOn
set_option maxRecDepth 20000 in
theorem ggL_law_X2_standingOn : GoodIn wsL_law wsX2_standingOn := goodIn_r _ [364, 82, 90, 91, 5, 92, 87, 88, 89, 101, 102, 103, 104, 83, 41, 93, 94, 95, 96, 715, 716, 717, 718, 719, 720, 721, 722, 723, 724, 725] (by decide +kernel) (by decide +kernel)
set_option maxRecDepth 20000 in
theorem gL_law_X2_standingOn : GoodIn wsL_law (wsV RL 154 RX2 yX2_standingOn wsX2_standingOn) := goodIn_app (goodIn_of _ (by decide +kernel)) ggL_law_X2_standingOn
set_option maxRecDepth 20000 in
theorem ggL_law_X1_spread : GoodIn wsL_law wsX1_spread := goodIn_r _ [368, 21, 369, 370, 371, 2, 372, 13, 238, 239, 163, 240, 241, 242, 243, 705, 706, 707, 708, 709, 710, 711, 712, 713, 714] (by decide +kernel) (by decide +kernel)
set_option maxRecDepth 20000 in
theorem gL_law_X1_spread : GoodIn wsL_law (wsV RL 155 RX1 yX1_spread wsX1_spread) := goodIn_app (goodIn_of _ (by decide +kernel)) ggL_law_X1_spread
set_option maxRecDepth 20000 in
theorem ggL_law_X2_spread : GoodIn wsL_law wsX2_spread := goodIn_r _ [376, 377, 378, 379, 5, 380, 83, 41, 265, 239, 163, 240, 266, 242, 243, 275, 276, 277, 278, 82, 715, 716, 717, 718, 719, 720, 721, 722, 723, 724, 725] (by decide +kernel) (by decide +kernel)
set_option maxRecDepth 20000 in
theorem gL_law_X2_spread : GoodIn wsL_law (wsV RL 158 RX2 yX2_spread wsX2_spread) := goodIn_app (goodIn_of _ (by decide +kernel)) ggL_law_X2_spread
set_option maxRecDepth 20000 in
theorem ggL_law_X1_isTreaty : GoodIn wsL_law wsX1_isTreaty := goodIn_r _ [384, 21, 385, 386, 387, 2, 388, 389, 390, 391, 392, 13, 17, 369, 370, 371, 372, 238, 239, 163, 240, 241, 242, 243, 705, 706, 707, 708, 709, 710, 711, 712, 713, 714] (by decide +kernel) (by decide +kernel)
set_option maxRecDepth 20000 in
theorem gL_law_X1_isTreaty : GoodIn wsL_law (wsV RL 159 RX1 yX1_isTreaty wsX1_isTreaty) := goodIn_app (goodIn_of _ (by decide +kernel)) ggL_law_X1_isTreaty
set_option maxRecDepth 20000 in
theorem ggL_law_X2_isTreaty : GoodIn wsL_law wsX2_isTreaty := goodIn_r _ [396, 82, 397, 398, 399, 5, 400, 83, 37, 377, 378, 379, 380, 41, 265, 239, 163, 240, 266, 242, 243, 715, 716, 717, 718, 719, 720, 721, 722, 723, 724, 725] (by decide +kernel) (by decide +kernel)
set_option maxRecDepth 20000 in
theorem gL_law_X2_isTreaty : GoodIn wsL_law (wsV RL 163 RX2 yX2_isTreaty wsX2_isTreaty) := goodIn_app (goodIn_of _ (by decide +kernel)) ggL_law_X2_isTreaty
set_option maxRecDepth 20000 in
theorem ggL_law_L_compromise : GoodIn wsL_law wsL_compromise := goodIn_ca (goodIn_r _ [403, 50, 404, 405, 406, 2, 407, 21, 408, 409, 410, 411, 55, 56, 13, 211, 212, 213, 214, 26, 215, 216, 217, 25, 218, 31, 219, 220, 221, 222, 30, 223, 224, 225, 226, 705, 706, 707, 708, 709, 710, 711, 712, 713, 714, 726, 727] (by decide +kernel) (by decide +kernel)) (goodIn_sub (fun _ h => List.mem_append_left _ (List.mem_append_left _ (List.mem_append_right _ h))) (by decide +kernel))
set_option maxRecDepth 20000 in
theorem gL_law_L_compromise : GoodIn wsL_law (va_wsS RL 164 yL_compromise wsL_compromise) := goodIn_app (goodIn_of _ (by decide +kernel)) ggL_law_L_compromise
set_option maxRecDepth 20000 in
theorem ggL_law_X2_compromise : GoodIn wsL_law wsX2_compromise := goodIn_r _ [415, 82, 83, 93, 94, 95, 5, 96, 253, 254, 255, 256, 257, 258, 259, 260, 43, 37, 41, 715, 716, 717, 718, 719, 720, 721, 722, 723, 724, 725] (by decide +kernel) (by decide +kernel)
set_option maxRecDepth 20000 in
theorem gL_law_X2_compromise : GoodIn wsL_law (wsV RL 167 RX2 yX2_compromise wsX2_compromise) := goodIn_app (goodIn_of _ (by decide +kernel)) ggL_law_X2_compromise
set_option maxRecDepth 20000 in
theorem ggL_law_L_compromiseOf : GoodIn wsL_law wsL_compromiseOf := goodIn_ca (goodIn_ca (goodIn_r _ [418, 48, 50, 419, 420, 421, 2, 422, 55, 56, 26, 57, 58, 59, 60, 61, 423, 424, 425, 426, 13, 17, 21, 215, 216, 217, 25, 218, 31, 219, 220, 221, 222, 30, 427, 428, 429, 430, 223, 224, 225, 226, 705, 706, 707, 708, 709, 710, 711, 712, 713, 714, 726, 727] (by decide +kernel) (by decide +kernel)) (goodIn_sub (fun _ h => List.mem_append_left _ (List.mem_append_left _ (List.mem_append_right _ h))) (by decide +kernel))) (goodIn_sub (fun _ h => List.mem_append_left _ (List.mem_append_right _ h)) (by decide +kernel))
set_option maxRecDepth 20000 in
theorem gL_law_L_compromiseOf : GoodIn wsL_law (va_wsS RL 168 yL_compromiseOf wsL_compromiseOf) := goodIn_app (goodIn_of _ (by decide +kernel)) ggL_law_L_compromiseOf
set_option maxRecDepth 20000 in
theorem ggL_law_X2_compromiseOf : GoodIn wsL_law wsX2_compromiseOf := goodIn_r _ [434, 82, 84, 85, 5, 86, 87, 88, 89, 93, 94, 95, 96, 257, 258, 259, 260, 43, 83, 37, 41, 715, 716, 717, 718, 719, 720, 721, 722, 723, 724, 725] (by decide +kernel) (by decide +kernel)
set_option maxRecDepth 20000 in
theorem gL_law_X2_compromiseOf : GoodIn wsL_law (wsV RL 170 RX2 yX2_compromiseOf wsX2_compromiseOf) := goodIn_app (goodIn_of _ (by decide +kernel)) ggL_law_X2_compromiseOf
set_option maxRecDepth 20000 in
theorem ggL_law_L_compromiseWithout : GoodIn wsL_law wsL_compromiseWithout := goodIn_ca (goodIn_ca (goodIn_r _ [437, 48, 50, 438, 439, 440, 2, 441, 55, 56, 26, 116, 117, 118, 119, 60, 61, 13, 442, 443, 444, 445, 21, 215, 216, 217, 25, 218, 31, 219, 220, 221, 222, 30, 427, 428, 429, 430, 223, 224, 225, 226, 705, 706, 707, 708, 709, 710, 711, 712, 713, 714, 726, 727] (by decide +kernel) (by decide +kernel)) (goodIn_sub (fun _ h => List.mem_append_left _ (List.mem_append_left _ (List.mem_append_right _ h))) (by decide +kernel))) (goodIn_sub (fun _ h => List.mem_append_left _ (List.mem_append_right _ h)) (by decide +kernel))
set_option maxRecDepth 20000 in
theorem gL_law_L_compromiseWithout : GoodIn wsL_law (va_wsS RL 171 yL_compromiseWithout wsL_compromiseWithout) := goodIn_app (goodIn_of _ (by decide +kernel)) ggL_law_L_compromiseWithout
set_option maxRecDepth 20000 in
theorem ggL_law_X2_compromiseWithout : GoodIn wsL_law wsX2_compromiseWithout := goodIn_r _ [449, 82, 83, 128, 129, 130, 5, 131, 87, 88, 89, 93, 94, 95, 96, 257, 258, 259, 260, 43, 37, 41, 715, 716, 717, 718, 719, 720, 721, 722, 723, 724, 725] (by decide +kernel) (by decide +kernel)
set_option maxRecDepth 20000 in
theorem gL_law_X2_compromiseWithout : GoodIn wsL_law (wsV RL 173 RX2 yX2_compromiseWithout wsX2_compromiseWithout) := goodIn_app (goodIn_of _ (by decide +kernel)) ggL_law_X2_compromiseWithout
set_option maxRecDepth 20000 in
theorem ggL_law_L_decisiveOne : GoodIn wsL_law wsL_decisiveOne := goodIn_ca (goodIn_r _ [452, 50, 453, 454, 455, 2, 456, 21, 13, 408, 409, 410, 411, 55, 56, 211, 212, 213, 214, 26, 215, 216, 217, 25, 218, 31, 219, 220, 221, 222, 30, 223, 224, 225, 226, 705, 706, 707, 708, 709, 710, 711, 712, 713, 714, 726, 727] (by decide +kernel) (by decide +kernel)) (goodIn_sub (fun _ h => List.mem_append_left _ (List.mem_append_left _ (List.mem_append_right _ h))) (by decide +kernel))
set_option maxRecDepth 20000 in
theorem gL_law_L_decisiveOne : GoodIn wsL_law (va_wsS RL 174 yL_decisiveOne wsL_decisiveOne) := goodIn_app (goodIn_of _ (by decide +kernel)) ggL_law_L_decisiveOne
set_option maxRecDepth 20000 in
theorem ggL_law_X2_decisiveOne : GoodIn wsL_law wsX2_decisiveOne := goodIn_r _ [460, 82, 83, 93, 94, 95, 5, 96, 461, 462, 463, 464, 41, 253, 254, 255, 256, 257, 258, 259, 260, 43, 37, 715, 716, 717, 718, 719, 720, 721, 722, 723, 724, 725] (by decide +kernel) (by decide +kernel)
set_option maxRecDepth 20000 in
theorem gL_law_X2_decisiveOne : GoodIn wsL_law (wsV RL 176 RX2 yX2_decisiveOne wsX2_decisiveOne) := goodIn_app (goodIn_of _ (by decide +kernel)) ggL_law_X2_decisiveOne
set_option maxRecDepth 20000 in
theorem ggL_law_L_discontentOf : GoodIn wsL_law wsL_discontentOf := goodIn_ca (goodIn_r _ [467, 48, 468, 469, 470, 2, 471, 21, 116, 117, 118, 119, 60, 61, 13, 211, 212, 213, 214, 26, 215, 216, 217, 25, 218, 31, 219, 220, 221, 222, 30, 223, 224, 225, 226, 157, 158, 159, 160, 18, 161, 162, 163, 164, 705, 706, 707, 708, 709, 710, 711, 712, 713, 714, 726, 727] (by decide +kernel) (by decide +kernel)) (goodIn_sub (fun _ h => List.mem_append_left _ (List.mem_append_right _ h)) (by decide +kernel))
set_option maxRecDepth 20000 in
theorem gL_law_L_discontentOf : GoodIn wsL_law (va_wsS RL 177 yL_discontentOf wsL_discontentOf) := goodIn_app (goodIn_of _ (by decide +kernel)) ggL_law_L_discontentOf
set_option maxRecDepth 20000 in
theorem ggL_law_X2_discontentOf : GoodIn wsL_law wsX2_discontentOf := goodIn_r _ [475, 82, 128, 129, 130, 5, 131, 83, 87, 88, 89, 253, 254, 255, 256, 257, 258, 259, 260, 43, 37, 41, 476, 477, 478, 479, 38, 181, 162, 163, 164, 93, 94, 95, 96, 715, 716, 717, 718, 719, 720, 721, 722, 723, 724, 725] (by decide +kernel) (by decide +kernel)
set_option maxRecDepth 20000 in
theorem gL_law_X2_discontentOf : GoodIn wsL_law (wsV RL 179 RX2 yX2_discontentOf wsX2_discontentOf) := goodIn_app (goodIn_of _ (by decide +kernel)) ggL_law_X2_discontentOf
set_option maxRecDepth 20000 in
theorem ggL_law_X1_allDiscontent : GoodIn wsL_law wsX1_allDiscontent := goodIn_r _ [483, 21, 211, 212, 213, 2, 214, 26, 13, 215, 216, 217, 25, 218, 31, 219, 220, 221, 222, 30, 223, 224, 225, 226, 484, 485, 486, 487, 157, 158, 159, 160, 18, 161, 162, 163, 164, 705, 706, 707, 708, 709, 710, 711, 712, 713, 714, 726, 727] (by decide +kernel) (by decide +kernel)
set_option maxRecDepth 20000 in
theorem gL_law_X1_allDiscontent : GoodIn wsL_law (wsV RL 180 RX1 yX1_allDiscontent wsX1_allDiscontent) := goodIn_app (goodIn_of _ (by decide +kernel)) ggL_law_X1_allDiscontent
set_option maxRecDepth 20000 in
theorem ggL_law_X2_allDiscontent : GoodIn wsL_law wsX2_allDiscontent := goodIn_r _ [491, 253, 254, 255, 5, 256, 257, 258, 259, 260, 43, 83, 37, 41, 492, 493, 494, 495, 476, 477, 478, 479, 38, 181, 162, 163, 164, 275, 276, 277, 278, 82, 715, 716, 717, 718, 719, 720, 721, 722, 723, 724, 725] (by decide +kernel) (by decide +kernel)
set_option maxRecDepth 20000 in
theorem gL_law_X2_allDiscontent : GoodIn wsL_law (wsV RL 183 RX2 yX2_allDiscontent wsX2_allDiscontent) := goodIn_app (goodIn_of _ (by decide +kernel)) ggL_law_X2_allDiscontent
set_option maxRecDepth 20000 in
theorem ggL_law_L_bestPlank : GoodIn wsL_law wsL_bestPlank := goodIn_ca (goodIn_r _ [498, 50, 499, 500, 501, 2, 502, 408, 409, 410, 411, 55, 56, 13, 484, 485, 486, 487, 157, 158, 159, 160, 18, 161, 162, 163, 164, 705, 706, 707, 708, 709, 710, 711, 712, 713, 714] (by decide +kernel) (by decide +kernel)) (goodIn_sub (fun _ h => List.mem_append_left _ (List.mem_append_left _ (List.mem_append_right _ h))) (by decide +kernel))
set_option maxRecDepth 20000 in
theorem gL_law_L_bestPlank : GoodIn wsL_law (va_wsS RL 184 yL_bestPlank wsL_bestPlank) := goodIn_app (goodIn_of _ (by decide +kernel)) ggL_law_L_bestPlank
set_option maxRecDepth 20000 in
theorem ggL_law_X2_bestPlank : GoodIn wsL_law wsX2_bestPlank := goodIn_r _ [506, 82, 83, 93, 94, 95, 5, 96, 507, 508, 509, 510, 492, 493, 494, 495, 476, 477, 478, 479, 38, 181, 162, 163, 164, 715, 716, 717, 718, 719, 720, 721, 722, 723, 724, 725] (by decide +kernel) (by decide +kernel)
set_option maxRecDepth 20000 in
theorem gL_law_X2_bestPlank : GoodIn wsL_law (wsV RL 186 RX2 yX2_bestPlank wsX2_bestPlank) := goodIn_app (goodIn_of _ (by decide +kernel)) ggL_law_X2_bestPlank
set_option maxRecDepth 20000 in
theorem ggL_law_L_votesFor : GoodIn wsL_law wsL_votesFor := goodIn_ca (goodIn_ca (goodIn_r _ [513, 48, 49, 514, 515, 516, 2, 517, 518, 519, 520, 68, 69, 62, 63, 64, 60, 61, 521, 522, 523, 524, 13, 157, 158, 159, 160, 18, 161, 162, 163, 164, 705, 706, 707, 708, 709, 710, 711, 712, 713, 714] (by decide +kernel) (by decide +kernel)) (goodIn_sub (fun _ h => List.mem_append_right _ h) (by decide +kernel))) (goodIn_sub (fun _ h => List.mem_append_left _ (List.mem_append_right _ h)) (by decide +kernel))
set_option maxRecDepth 20000 in
theorem gL_law_L_votesFor : GoodIn wsL_law (va_wsS RL 187 yL_votesFor wsL_votesFor) := goodIn_app (goodIn_of _ (by decide +kernel)) ggL_law_L_votesFor
set_option maxRecDepth 20000 in
theorem ggL_law_X2_votesFor : GoodIn wsL_law wsX2_votesFor := goodIn_r _ [528, 529, 530, 531, 5, 532, 82, 90, 91, 92, 87, 88, 89, 533, 534, 535, 536, 83, 476, 477, 478, 479, 38, 181, 162, 163, 164, 715, 716, 717, 718, 719, 720, 721, 722, 723, 724, 725] (by decide +kernel) (by decide +kernel)
set_option maxRecDepth 20000 in
theorem gL_law_X2_votesFor : GoodIn wsL_law (wsV RL 189 RX2 yX2_votesFor wsX2_votesFor) := goodIn_app (goodIn_of _ (by decide +kernel)) ggL_law_X2_votesFor
set_option maxRecDepth 20000 in
theorem ggL_law_L_winnerOf : GoodIn wsL_law wsL_winnerOf := goodIn_ca (goodIn_ca (goodIn_r _ [539, 48, 49, 540, 541, 542, 2, 543, 238, 239, 163, 240, 518, 519, 520, 68, 69, 62, 63, 64, 60, 61, 521, 522, 523, 524, 13, 157, 158, 159, 160, 18, 161, 162, 164, 705, 706, 707, 708, 709, 710, 711, 712, 713, 714] (by decide +kernel) (by decide +kernel)) (goodIn_sub (fun _ h => List.mem_append_right _ h) (by decide +kernel))) (goodIn_sub (fun _ h => List.mem_append_left _ (List.mem_append_right _ h)) (by decide +kernel))
set_option maxRecDepth 20000 in
theorem gL_law_L_winnerOf : GoodIn wsL_law (va_wsS RL 190 yL_winnerOf wsL_winnerOf) := goodIn_app (goodIn_of _ (by decide +kernel)) ggL_law_L_winnerOf
set_option maxRecDepth 20000 in
theorem ggL_law_X2_winnerOf : GoodIn wsL_law wsX2_winnerOf := goodIn_r _ [547, 265, 239, 163, 240, 529, 530, 531, 5, 532, 82, 90, 91, 92, 87, 88, 89, 533, 534, 535, 536, 83, 476, 477, 478, 479, 38, 181, 162, 164, 715, 716, 717, 718, 719, 720, 721, 722, 723, 724, 725] (by decide +kernel) (by decide +kernel)
set_option maxRecDepth 20000 in
theorem gL_law_X2_winnerOf : GoodIn wsL_law (wsV RL 192 RX2 yX2_winnerOf wsX2_winnerOf) := goodIn_app (goodIn_of _ (by decide +kernel)) ggL_law_X2_winnerOf
set_option maxRecDepth 20000 in
theorem ggL_law_L_canLeadTo : GoodIn wsL_law wsL_canLeadTo := goodIn_ca (goodIn_r _ [550, 48, 551, 552, 553, 2, 554, 116, 117, 118, 119, 60, 61, 13, 62, 63, 64, 153, 154, 155, 156, 19, 157, 158, 159, 160, 18, 161, 162, 163, 164, 165, 166, 167, 168, 21, 70, 71, 72, 73, 15, 74, 75, 76, 77, 705, 706, 707, 708, 709, 710, 711, 712, 713, 714] (by decide +kernel) (by decide +kernel)) (goodIn_sub (fun _ h => List.mem_append_left _ (List.mem_append_right _ h)) (by decide +kernel))
set_option maxRecDepth 20000 in
theorem gL_law_L_canLeadTo : GoodIn wsL_law (va_wsS RL 193 yL_canLeadTo wsL_canLeadTo) := goodIn_app (goodIn_of _ (by decide +kernel)) ggL_law_L_canLeadTo
set_option maxRecDepth 20000 in
theorem ggL_law_X2_canLeadTo : GoodIn wsL_law wsX2_canLeadTo := goodIn_r _ [558, 82, 128, 129, 130, 5, 131, 83, 87, 88, 89, 90, 91, 92, 173, 174, 175, 176, 41, 177, 178, 179, 180, 38, 181, 162, 163, 164, 39, 97, 98, 99, 100, 36, 101, 102, 103, 104, 715, 716, 717, 718, 719, 720, 721, 722, 723, 724, 725] (by decide +kernel) (by decide +kernel)
set_option maxRecDepth 20000 in
theorem gL_law_X2_canLeadTo : GoodIn wsL_law (wsV RL 195 RX2 yX2_canLeadTo wsX2_canLeadTo) := goodIn_app (goodIn_of _ (by decide +kernel)) ggL_law_X2_canLeadTo
set_option maxRecDepth 20000 in
theorem ggL_law_L_wouldStepTo : GoodIn wsL_law wsL_wouldStepTo := goodIn_ca (goodIn_r _ [561, 48, 562, 563, 564, 2, 565, 21, 116, 117, 118, 119, 60, 61, 13, 211, 212, 213, 214, 26, 215, 216, 217, 25, 218, 31, 219, 220, 221, 222, 30, 223, 224, 225, 226, 227, 228, 229, 230, 20, 231, 232, 233, 234, 18, 19, 235, 236, 237, 238, 239, 163, 240, 241, 242, 243, 705, 706, 707, 708, 709, 710, 711, 712, 713, 714, 726, 727] (by decide +kernel) (by decide +kernel)) (goodIn_sub (fun _ h => List.mem_append_left _ (List.mem_append_right _ h)) (by decide +kernel))
set_option maxRecDepth 20000 in
theorem gL_law_L_wouldStepTo : GoodIn wsL_law (va_wsS RL 196 yL_wouldStepTo wsL_wouldStepTo) := goodIn_app (goodIn_of _ (by decide +kernel)) ggL_law_L_wouldStepTo
set_option maxRecDepth 20000 in
theorem ggL_law_X2_wouldStepTo : GoodIn wsL_law wsX2_wouldStepTo := goodIn_r _ [569, 82, 128, 129, 130, 5, 131, 83, 87, 88, 89, 253, 254, 255, 256, 257, 258, 259, 260, 43, 37, 41, 261, 262, 263, 264, 38, 39, 265, 239, 163, 240, 266, 242, 243, 40, 93, 94, 95, 96, 715, 716, 717, 718, 719, 720, 721, 722, 723, 724, 725] (by decide +kernel) (by decide +kernel)
set_option maxRecDepth 20000 in
theorem gL_law_X2_wouldStepTo : GoodIn wsL_law (wsV RL 198 RX2 yX2_wouldStepTo wsX2_wouldStepTo) := goodIn_app (goodIn_of _ (by decide +kernel)) ggL_law_X2_wouldStepTo
set_option maxRecDepth 20000 in
theorem ggL_law_X1_isStill : GoodIn wsL_law wsX1_isStill := goodIn_r _ [573, 22, 574, 575, 576, 2, 577, 13, 21, 207, 208, 209, 210, 211, 212, 213, 214, 26, 215, 216, 217, 25, 218, 31, 219, 220, 221, 222, 30, 223, 224, 225, 226, 227, 228, 229, 230, 20, 231, 232, 233, 234, 18, 19, 235, 236, 237, 238, 239, 163, 240, 241, 242, 243, 70, 71, 72, 73, 15, 74, 75, 76, 77, 705, 706, 707, 708, 709, 710, 711, 712, 713, 714, 726, 727] (by decide +kernel) (by decide +kernel)
set_option maxRecDepth 20000 in
theorem gL_law_X1_isStill : GoodIn wsL_law (wsV RL 199 RX1 yX1_isStill wsX1_isStill) := goodIn_app (goodIn_of _ (by decide +kernel)) ggL_law_X1_isStill
set_option maxRecDepth 20000 in
theorem ggL_law_X2_isStill : GoodIn wsL_law wsX2_isStill := goodIn_r _ [581, 82, 582, 583, 584, 5, 585, 16, 41, 586, 587, 588, 589, 249, 250, 251, 252, 83, 253, 254, 255, 256, 257, 258, 259, 260, 43, 37, 261, 262, 263, 264, 38, 39, 265, 239, 163, 240, 266, 242, 243, 40, 97, 98, 99, 100, 36, 101, 102, 103, 104, 715, 716, 717, 718, 719, 720, 721, 722, 723, 724, 725] (by decide +kernel) (by decide +kernel)
set_option maxRecDepth 20000 in
theorem gL_law_X2_isStill : GoodIn wsL_law (wsV RL 202 RX2 yX2_isStill wsX2_isStill) := goodIn_app (goodIn_of _ (by decide +kernel)) ggL_law_X2_isStill
set_option maxRecDepth 20000 in
theorem ggL_law_L_plankIn : GoodIn wsL_law wsL_plankIn := goodIn_ca (goodIn_ca (goodIn_r _ [592, 48, 49, 593, 594, 595, 2, 596, 22, 116, 117, 118, 119, 60, 61, 13, 200, 201, 202, 68, 69, 574, 575, 576, 577, 21, 203, 204, 205, 206, 207, 208, 209, 210, 211, 212, 213, 214, 26, 215, 216, 217, 25, 218, 31, 219, 220, 221, 222, 30, 223, 224, 225, 226, 227, 228, 229, 230, 20, 231, 232, 233, 234, 18, 19, 235, 236, 237, 238, 239, 163, 240, 241, 242, 243, 70, 71, 72, 73, 15, 74, 75, 76, 77, 705, 706, 707, 708, 709, 710, 711, 712, 713, 714, 726, 727] (by decide +kernel) (by decide +kernel)) (goodIn_sub (fun _ h => List.mem_append_left _ (List.mem_append_right _ h)) (by decide +kernel))) (goodIn_sub (fun _ h => List.mem_append_right _ h) (by decide +kernel))
set_option maxRecDepth 20000 in
theorem gL_law_L_plankIn : GoodIn wsL_law (va_wsS RL 203 yL_plankIn wsL_plankIn) := goodIn_app (goodIn_of _ (by decide +kernel)) ggL_law_L_plankIn
set_option maxRecDepth 20000 in
theorem ggL_law_X2_plankIn : GoodIn wsL_law wsX2_plankIn := goodIn_r _ [600, 82, 41, 128, 129, 130, 5, 131, 83, 87, 88, 89, 93, 94, 95, 96, 601, 602, 603, 604, 42, 586, 587, 588, 589, 249, 250, 251, 252, 253, 254, 255, 256, 257, 258, 259, 260, 43, 37, 261, 262, 263, 264, 38, 39, 265, 239, 163, 240, 266, 242, 243, 40, 97, 98, 99, 100, 36, 101, 102, 103, 104, 605, 606, 607, 608, 715, 716, 717, 718, 719, 720, 721, 722, 723, 724, 725] (by decide +kernel) (by decide +kernel)
set_option maxRecDepth 20000 in
theorem gL_law_X2_plankIn : GoodIn wsL_law (wsV RL 205 RX2 yX2_plankIn wsX2_plankIn) := goodIn_app (goodIn_of _ (by decide +kernel)) ggL_law_X2_plankIn
set_option maxRecDepth 20000 in
theorem ggL_law_L_compromiseIn : GoodIn wsL_law wsL_compromiseIn := goodIn_ca (goodIn_ca (goodIn_r _ [611, 49, 50, 612, 613, 614, 2, 615, 22, 200, 201, 202, 68, 69, 408, 409, 410, 411, 55, 56, 13, 574, 575, 576, 577, 21, 203, 204, 205, 206, 207, 208, 209, 210, 211, 212, 213, 214, 26, 215, 216, 217, 25, 218, 31, 219, 220, 221, 222, 30, 223, 224, 225, 226, 227, 228, 229, 230, 20, 231, 232, 233, 234, 18, 19, 235, 236, 237, 238, 239, 163, 240, 241, 242, 243, 70, 71, 72, 73, 15, 74, 75, 76, 77, 705, 706, 707, 708, 709, 710, 711, 712, 713, 714, 726, 727] (by decide +kernel) (by decide +kernel)) (goodIn_sub (fun _ h => List.mem_append_right _ h) (by decide +kernel))) (goodIn_sub (fun _ h => List.mem_append_left _ (List.mem_append_left _ (List.mem_append_right _ h))) (by decide +kernel))
set_option maxRecDepth 20000 in
theorem gL_law_L_compromiseIn : GoodIn wsL_law (va_wsS RL 206 yL_compromiseIn wsL_compromiseIn) := goodIn_app (goodIn_of _ (by decide +kernel)) ggL_law_L_compromiseIn
set_option maxRecDepth 20000 in
theorem ggL_law_X2_compromiseIn : GoodIn wsL_law wsX2_compromiseIn := goodIn_r _ [619, 82, 83, 87, 88, 5, 89, 93, 94, 95, 96, 601, 602, 603, 604, 41, 42, 586, 587, 588, 589, 249, 250, 251, 252, 253, 254, 255, 256, 257, 258, 259, 260, 43, 37, 261, 262, 263, 264, 38, 39, 265, 239, 163, 240, 266, 242, 243, 40, 97, 98, 99, 100, 36, 101, 102, 103, 104, 605, 606, 607, 608, 715, 716, 717, 718, 719, 720, 721, 722, 723, 724, 725] (by decide +kernel) (by decide +kernel)
set_option maxRecDepth 20000 in
theorem gL_law_X2_compromiseIn : GoodIn wsL_law (wsV RL 208 RX2 yX2_compromiseIn wsX2_compromiseIn) := goodIn_app (goodIn_of _ (by decide +kernel)) ggL_law_X2_compromiseIn
set_option maxRecDepth 20000 in
theorem ggL_law_X1_roundsUntilTreaty : GoodIn wsL_law wsX1_roundsUntilTreaty := goodIn_r _ [623, 22, 574, 575, 576, 2, 577, 13, 21, 385, 386, 387, 388, 389, 390, 391, 392, 17, 369, 370, 371, 372, 238, 239, 163, 240, 241, 242, 243, 207, 208, 209, 210, 211, 212, 213, 214, 26, 215, 216, 217, 25, 218, 31, 219, 220, 221, 222, 30, 223, 224, 225, 226, 227, 228, 229, 230, 20, 231, 232, 233, 234, 18, 19, 235, 236, 237, 70, 71, 72, 73, 15, 74, 75, 76, 77, 705, 706, 707, 708, 709, 710, 711, 712, 713, 714, 726, 727] (by decide +kernel) (by decide +kernel)
set_option maxRecDepth 20000 in
theorem gL_law_X1_roundsUntilTreaty : GoodIn wsL_law (wsV RL 209 RX1 yX1_roundsUntilTreaty wsX1_roundsUntilTreaty) := goodIn_app (goodIn_of _ (by decide +kernel)) ggL_law_X1_roundsUntilTreaty
set_option maxRecDepth 20000 in
theorem ggL_law_X2_roundsUntilTreaty : GoodIn wsL_law wsX2_roundsUntilTreaty := goodIn_r _ [627, 82, 601, 602, 603, 5, 604, 41, 42, 586, 587, 588, 589, 397, 398, 399, 400, 83, 37, 377, 378, 379, 380, 265, 239, 163, 240, 266, 242, 243, 249, 250, 251, 252, 253, 254, 255, 256, 257, 258, 259, 260, 43, 261, 262, 263, 264, 38, 39, 40, 97, 98, 99, 100, 36, 101, 102, 103, 104, 605, 606, 607, 608, 715, 716, 717, 718, 719, 720, 721, 722, 723, 724, 725] (by decide +kernel) (by decide +kernel)
set_option maxRecDepth 20000 in
theorem gL_law_X2_roundsUntilTreaty : GoodIn wsL_law (wsV RL 212 RX2 yX2_roundsUntilTreaty wsX2_roundsUntilTreaty) := goodIn_app (goodIn_of _ (by decide +kernel)) ggL_law_X2_roundsUntilTreaty
set_option maxRecDepth 20000 in
theorem ggL_law_X1_roundsUntilStill : GoodIn wsL_law wsX1_roundsUntilStill := goodIn_r _ [631, 22, 574, 575, 576, 2, 577, 13, 21, 207, 208, 209, 210, 211, 212, 213, 214, 26, 215, 216, 217, 25, 218, 31, 219, 220, 221, 222, 30, 223, 224, 225, 226, 227, 228, 229, 230, 20, 231, 232, 233, 234, 18, 19, 235, 236, 237, 238, 239, 163, 240, 241, 242, 243, 70, 71, 72, 73, 15, 74, 75, 76, 77, 705, 706, 707, 708, 709, 710, 711, 712, 713, 714, 726, 727] (by decide +kernel) (by decide +kernel)
set_option maxRecDepth 20000 in
theorem gL_law_X1_roundsUntilStill : GoodIn wsL_law (wsV RL 213 RX1 yX1_roundsUntilStill wsX1_roundsUntilStill) := goodIn_app (goodIn_of _ (by decide +kernel)) ggL_law_X1_roundsUntilStill
set_option maxRecDepth 20000 in
theorem ggL_law_X2_roundsUntilStill : GoodIn wsL_law wsX2_roundsUntilStill := goodIn_r _ [635, 636, 637, 638, 5, 639, 601, 602, 603, 604, 41, 42, 586, 587, 588, 589, 249, 250, 251, 252, 83, 253, 254, 255, 256, 257, 258, 259, 260, 43, 37, 261, 262, 263, 264, 38, 39, 265, 239, 163, 240, 266, 242, 243, 40, 97, 98, 99, 100, 36, 101, 102, 103, 104, 605, 606, 607, 608, 275, 276, 277, 278, 82, 715, 716, 717, 718, 719, 720, 721, 722, 723, 724, 725] (by decide +kernel) (by decide +kernel)
set_option maxRecDepth 20000 in
theorem gL_law_X2_roundsUntilStill : GoodIn wsL_law (wsV RL 216 RX2 yX2_roundsUntilStill wsX2_roundsUntilStill) := goodIn_app (goodIn_of _ (by decide +kernel)) ggL_law_X2_roundsUntilStill
set_option maxRecDepth 20000 in
theorem ggL_law_L_bestStand : GoodIn wsL_law wsL_bestStand := goodIn_ca (goodIn_r _ [642, 48, 643, 644, 645, 2, 646, 26, 116, 117, 118, 119, 60, 61, 13, 442, 443, 444, 445, 21, 215, 216, 217, 25, 218, 31, 219, 220, 221, 222, 30, 647, 648, 649, 650, 236, 237, 238, 239, 163, 240, 241, 242, 243, 157, 158, 159, 160, 18, 161, 162, 164, 705, 706, 707, 708, 709, 710, 711, 712, 713, 714, 726, 727] (by decide +kernel) (by decide +kernel)) (goodIn_sub (fun _ h => List.mem_append_left _ (List.mem_append_right _ h)) (by decide +kernel))
set_option maxRecDepth 20000 in
theorem gL_law_L_bestStand : GoodIn wsL_law (va_wsS RL 217 yL_bestStand wsL_bestStand) := goodIn_app (goodIn_of _ (by decide +kernel)) ggL_law_L_bestStand
set_option maxRecDepth 20000 in
theorem ggL_law_X2_bestStand : GoodIn wsL_law wsX2_bestStand := goodIn_r _ [654, 82, 128, 129, 130, 5, 131, 83, 87, 88, 89, 655, 656, 657, 658, 41, 253, 254, 255, 256, 257, 258, 259, 260, 43, 37, 476, 477, 478, 479, 38, 181, 162, 163, 164, 93, 94, 95, 96, 715, 716, 717, 718, 719, 720, 721, 722, 723, 724, 725] (by decide +kernel) (by decide +kernel)
set_option maxRecDepth 20000 in
theorem gL_law_X2_bestStand : GoodIn wsL_law (wsV RL 219 RX2 yX2_bestStand wsX2_bestStand) := goodIn_app (goodIn_of _ (by decide +kernel)) ggL_law_X2_bestStand
set_option maxRecDepth 20000 in
theorem ggL_law_X1_meanPlank : GoodIn wsL_law wsX1_meanPlank := goodIn_r _ [662, 13, 21, 705, 706, 707, 708, 709, 710, 711, 712, 713, 714] (by decide +kernel) (by decide +kernel)
set_option maxRecDepth 20000 in
theorem gL_law_X1_meanPlank : GoodIn wsL_law (wsV RL 220 RX1 yX1_meanPlank wsX1_meanPlank) := goodIn_app (goodIn_of _ (by decide +kernel)) ggL_law_X1_meanPlank
set_option maxRecDepth 20000 in
theorem ggL_law_X2_meanPlank : GoodIn wsL_law wsX2_meanPlank := goodIn_r _ [666, 82, 83, 41, 715, 716, 717, 718, 719, 720, 721, 722, 723, 724, 725] (by decide +kernel) (by decide +kernel)
set_option maxRecDepth 20000 in
theorem gL_law_X2_meanPlank : GoodIn wsL_law (wsV RL 224 RX2 yX2_meanPlank wsX2_meanPlank) := goodIn_app (goodIn_of _ (by decide +kernel)) ggL_law_X2_meanPlank
set_option maxRecDepth 20000 in
theorem ggL_law_X1_digest : GoodIn wsL_law wsX1_digest := goodIn_ca (goodIn_ca (goodIn_r _ [670, 671, 13, 672, 268, 269, 2, 270, 673, 674, 675, 676, 677, 280, 281, 282, 14, 678, 288, 289, 290, 15, 679, 366, 367, 368, 21, 369, 370, 371, 372, 238, 239, 163, 240, 241, 242, 243, 680, 382, 383, 384, 385, 386, 387, 388, 389, 390, 391, 392, 17, 681, 571, 572, 573, 22, 574, 575, 576, 577, 207, 208, 209, 210, 211, 212, 213, 214, 26, 215, 216, 217, 25, 218, 31, 219, 220, 221, 222, 30, 223, 224, 225, 226, 227, 228, 229, 230, 20, 231, 232, 233, 234, 18, 19, 235, 236, 237, 70, 71, 72, 73, 74, 75, 76, 77, 682, 405, 406, 407, 408, 409, 410, 411, 55, 56, 683, 454, 455, 456, 684, 500, 501, 502, 484, 485, 486, 487, 157, 158, 159, 160, 161, 162, 164, 685, 481, 482, 483, 686, 629, 630, 631, 687, 688, 689, 690, 691, 299, 300, 301, 116, 117, 118, 119, 60, 61, 692, 314, 315, 316, 693, 325, 326, 327, 694, 336, 337, 338, 695, 347, 348, 349, 696, 563, 564, 565, 697, 644, 645, 646, 442, 443, 444, 445, 647, 648, 649, 650, 698, 469, 470, 471, 705, 706, 707, 708, 709, 710, 711, 712, 713, 714, 726, 727] (by decide +kernel) (by decide +kernel)) (goodIn_sub (fun _ h => List.mem_append_left _ (List.mem_append_left _ (List.mem_append_right _ h))) (by decide +kernel))) (goodIn_sub (fun _ h => List.mem_append_left _ (List.mem_append_right _ h)) (by decide +kernel))
set_option maxRecDepth 20000 in
theorem gL_law_X1_digest : GoodIn wsL_law (wsV RL 225 RX1 yX1_digest wsX1_digest) := goodIn_app (goodIn_of _ (by decide +kernel)) ggL_law_X1_digest
set_option maxRecDepth 20000 in
theorem ggL_law_X2_digest : GoodIn wsL_law wsX2_digest := goodIn_r _ [702, 82, 16, 83, 248, 36, 703, 704, 37, 38, 39, 40, 41, 377, 378, 379, 5, 380, 265, 239, 163, 240, 266, 242, 243, 397, 398, 399, 400, 582, 583, 584, 585, 586, 587, 588, 589, 249, 250, 251, 252, 253, 254, 255, 256, 257, 258, 259, 260, 43, 261, 262, 263, 264, 97, 98, 99, 100, 101, 102, 103, 104, 461, 462, 463, 464, 507, 508, 509, 510, 492, 493, 494, 495, 476, 477, 478, 479, 181, 162, 164, 636, 637, 638, 639, 601, 602, 603, 604, 42, 605, 606, 607, 608, 655, 656, 657, 658, 715, 716, 717, 718, 719, 720, 721, 722, 723, 724, 725] (by decide +kernel) (by decide +kernel)
set_option maxRecDepth 20000 in
theorem gL_law_X2_digest : GoodIn wsL_law (wsV RL 229 RX2 yX2_digest wsX2_digest) := goodIn_app (goodIn_of _ (by decide +kernel)) ggL_law_X2_digest
theorem dL_law_0 : decode cL_law 0 = .ok (.new 8, 3) := by decide +kernel
theorem dL_law_3 : decode cL_law 3 = .ok (.dup, 1) := by decide +kernel
theorem dL_law_4 : decode cL_law 4 = .ok (.invokespecial 95, 3) := by decide +kernel
theorem dL_law_7 : decode cL_law 7 = .ok (.astore_n 1, 1) := by decide +kernel
theorem dL_law_8 : decode cL_law 8 = .ok (.new 96, 3) := by decide +kernel
theorem dL_law_11 : decode cL_law 11 = .ok (.dup, 1) := by decide +kernel
theorem dL_law_12 : decode cL_law 12 = .ok (.invokespecial 98, 3) := by decide +kernel
theorem dL_law_15 : decode cL_law 15 = .ok (.astore_n 2, 1) := by decide +kernel
theorem dL_law_16 : decode cL_law 16 = .ok (.iconst 1, 1) := by decide +kernel
theorem dL_law_17 : decode cL_law 17 = .ok (.newarray .long, 2) := by decide +kernel
theorem dL_law_19 : decode cL_law 19 = .ok (.astore_n 3, 1) := by decide +kernel
theorem dL_law_20 : decode cL_law 20 = .ok (.iconst 0, 1) := by decide +kernel
theorem dL_law_21 : decode cL_law 21 = .ok (.istore 4, 2) := by decide +kernel
theorem dL_law_23 : decode cL_law 23 = .ok (.iload 4, 2) := by decide +kernel
theorem dL_law_25 : decode cL_law 25 = .ok (.aload_n 0, 1) := by decide +kernel
theorem dL_law_26 : decode cL_law 26 = .ok (.arraylength, 1) := by decide +kernel
theorem dL_law_27 : decode cL_law 27 = .ok (.iconst 5, 1) := by decide +kernel
theorem dL_law_28 : decode cL_law 28 = .ok (.isub, 1) := by decide +kernel
theorem dL_law_29 : decode cL_law 29 = .ok (.if_icmp .gt 1824, 3) := by decide +kernel
theorem dL_law_32 : decode cL_law 32 = .ok (.aload_n 0, 1) := by decide +kernel
theorem dL_law_33 : decode cL_law 33 = .ok (.iload 4, 2) := by decide +kernel
theorem dL_law_35 : decode cL_law 35 = .ok (.iaload, 1) := by decide +kernel
theorem dL_law_36 : decode cL_law 36 = .ok (.bipush 63, 2) := by decide +kernel
theorem dL_law_38 : decode cL_law 38 = .ok (.iand, 1) := by decide +kernel
theorem dL_law_39 : decode cL_law 39 = .ok (.tableswitch 1808 0 35 #[157, 249, 305, 373, 441, 497, 553, 566, 579, 592, 648, 704, 760, 816, 872, 928, 941, 954, 998, 1054, 1110, 1154, 1210, 1223, 1267, 1335, 1403, 1478, 1534, 1547, 1615, 1671, 1684, 1697, 1753, 1794], 157) := by decide +kernel
theorem dL_law_196 : decode cL_law 196 = .ok (.aload_n 1, 1) := by decide +kernel
theorem dL_law_197 : decode cL_law 197 = .ok (.aload_n 0, 1) := by decide +kernel
theorem dL_law_198 : decode cL_law 198 = .ok (.iload 4, 2) := by decide +kernel
theorem dL_law_200 : decode cL_law 200 = .ok (.iconst 1, 1) := by decide +kernel
theorem dL_law_201 : decode cL_law 201 = .ok (.iadd, 1) := by decide +kernel
theorem dL_law_202 : decode cL_law 202 = .ok (.iaload, 1) := by decide +kernel
theorem dL_law_203 : decode cL_law 203 = .ok (.aload_n 0, 1) := by decide +kernel
theorem dL_law_204 : decode cL_law 204 = .ok (.iload 4, 2) := by decide +kernel
theorem dL_law_206 : decode cL_law 206 = .ok (.iconst 2, 1) := by decide +kernel
theorem dL_law_207 : decode cL_law 207 = .ok (.iadd, 1) := by decide +kernel
theorem dL_law_208 : decode cL_law 208 = .ok (.iaload, 1) := by decide +kernel
theorem dL_law_209 : decode cL_law 209 = .ok (.aload_n 0, 1) := by decide +kernel
theorem dL_law_210 : decode cL_law 210 = .ok (.iload 4, 2) := by decide +kernel
theorem dL_law_212 : decode cL_law 212 = .ok (.iconst 3, 1) := by decide +kernel
theorem dL_law_213 : decode cL_law 213 = .ok (.iadd, 1) := by decide +kernel
theorem dL_law_214 : decode cL_law 214 = .ok (.iaload, 1) := by decide +kernel
theorem dL_law_215 : decode cL_law 215 = .ok (.aload_n 0, 1) := by decide +kernel
theorem dL_law_216 : decode cL_law 216 = .ok (.iload 4, 2) := by decide +kernel
theorem dL_law_218 : decode cL_law 218 = .ok (.iconst 4, 1) := by decide +kernel
theorem dL_law_219 : decode cL_law 219 = .ok (.iadd, 1) := by decide +kernel
theorem dL_law_220 : decode cL_law 220 = .ok (.iaload, 1) := by decide +kernel
theorem dL_law_221 : decode cL_law 221 = .ok (.aload_n 3, 1) := by decide +kernel
theorem dL_law_222 : decode cL_law 222 = .ok (.invokestatic 99, 3) := by decide +kernel
theorem dL_law_225 : decode cL_law 225 = .ok (.istore 5, 2) := by decide +kernel
theorem dL_law_227 : decode cL_law 227 = .ok (.aload_n 2, 1) := by decide +kernel
theorem dL_law_228 : decode cL_law 228 = .ok (.aload_n 0, 1) := by decide +kernel
theorem dL_law_229 : decode cL_law 229 = .ok (.iload 4, 2) := by decide +kernel
theorem dL_law_231 : decode cL_law 231 = .ok (.iconst 1, 1) := by decide +kernel
theorem dL_law_232 : decode cL_law 232 = .ok (.iadd, 1) := by decide +kernel
theorem dL_law_233 : decode cL_law 233 = .ok (.iaload, 1) := by decide +kernel
theorem dL_law_234 : decode cL_law 234 = .ok (.aload_n 0, 1) := by decide +kernel
theorem dL_law_235 : decode cL_law 235 = .ok (.iload 4, 2) := by decide +kernel
theorem dL_law_237 : decode cL_law 237 = .ok (.iconst 2, 1) := by decide +kernel
theorem dL_law_238 : decode cL_law 238 = .ok (.iadd, 1) := by decide +kernel
theorem dL_law_239 : decode cL_law 239 = .ok (.iaload, 1) := by decide +kernel
theorem dL_law_240 : decode cL_law 240 = .ok (.aload_n 0, 1) := by decide +kernel
theorem dL_law_241 : decode cL_law 241 = .ok (.iload 4, 2) := by decide +kernel
theorem dL_law_243 : decode cL_law 243 = .ok (.iconst 3, 1) := by decide +kernel
theorem dL_law_244 : decode cL_law 244 = .ok (.iadd, 1) := by decide +kernel
theorem dL_law_245 : decode cL_law 245 = .ok (.iaload, 1) := by decide +kernel
theorem dL_law_246 : decode cL_law 246 = .ok (.aload_n 0, 1) := by decide +kernel
theorem dL_law_247 : decode cL_law 247 = .ok (.iload 4, 2) := by decide +kernel
theorem dL_law_249 : decode cL_law 249 = .ok (.iconst 4, 1) := by decide +kernel
theorem dL_law_250 : decode cL_law 250 = .ok (.iadd, 1) := by decide +kernel
theorem dL_law_251 : decode cL_law 251 = .ok (.iaload, 1) := by decide +kernel
theorem dL_law_252 : decode cL_law 252 = .ok (.invokevirtual 104, 3) := by decide +kernel
theorem dL_law_255 : decode cL_law 255 = .ok (.istore 6, 2) := by decide +kernel
theorem dL_law_257 : decode cL_law 257 = .ok (.aload_n 2, 1) := by decide +kernel
theorem dL_law_258 : decode cL_law 258 = .ok (.invokevirtual 105, 3) := by decide +kernel
theorem dL_law_261 : decode cL_law 261 = .ok (.iload 5, 2) := by decide +kernel
theorem dL_law_263 : decode cL_law 263 = .ok (.if_icmp .eq 5, 3) := by decide +kernel
theorem dL_law_266 : decode cL_law 266 = .ok (.iconst 0, 1) := by decide +kernel
theorem dL_law_267 : decode cL_law 267 = .ok (.ireturn, 1) := by decide +kernel
theorem dL_law_268 : decode cL_law 268 = .ok (.iload 5, 2) := by decide +kernel
theorem dL_law_270 : decode cL_law 270 = .ok (.ifCond .ne 15, 3) := by decide +kernel
theorem dL_law_273 : decode cL_law 273 = .ok (.aload_n 3, 1) := by decide +kernel
theorem dL_law_274 : decode cL_law 274 = .ok (.iconst 0, 1) := by decide +kernel
theorem dL_law_275 : decode cL_law 275 = .ok (.laload, 1) := by decide +kernel
theorem dL_law_276 : decode cL_law 276 = .ok (.iload 6, 2) := by decide +kernel
theorem dL_law_278 : decode cL_law 278 = .ok (.i2l, 1) := by decide +kernel
theorem dL_law_279 : decode cL_law 279 = .ok (.lcmp, 1) := by decide +kernel
theorem dL_law_280 : decode cL_law 280 = .ok (.ifCond .eq 5, 3) := by decide +kernel
theorem dL_law_283 : decode cL_law 283 = .ok (.iconst 0, 1) := by decide +kernel
theorem dL_law_284 : decode cL_law 284 = .ok (.ireturn, 1) := by decide +kernel
theorem dL_law_285 : decode cL_law 285 = .ok (.goto 1562, 3) := by decide +kernel
theorem dL_law_288 : decode cL_law 288 = .ok (.aload_n 1, 1) := by decide +kernel
theorem dL_law_289 : decode cL_law 289 = .ok (.aload_n 0, 1) := by decide +kernel
theorem dL_law_290 : decode cL_law 290 = .ok (.iload 4, 2) := by decide +kernel
theorem dL_law_292 : decode cL_law 292 = .ok (.iconst 1, 1) := by decide +kernel
theorem dL_law_293 : decode cL_law 293 = .ok (.iadd, 1) := by decide +kernel
theorem dL_law_294 : decode cL_law 294 = .ok (.iaload, 1) := by decide +kernel
theorem dL_law_295 : decode cL_law 295 = .ok (.aload_n 3, 1) := by decide +kernel
theorem dL_law_296 : decode cL_law 296 = .ok (.invokestatic 108, 3) := by decide +kernel
theorem dL_law_299 : decode cL_law 299 = .ok (.istore 5, 2) := by decide +kernel
theorem dL_law_301 : decode cL_law 301 = .ok (.aload_n 2, 1) := by decide +kernel
theorem dL_law_302 : decode cL_law 302 = .ok (.aload_n 0, 1) := by decide +kernel
theorem dL_law_303 : decode cL_law 303 = .ok (.iload 4, 2) := by decide +kernel
theorem dL_law_305 : decode cL_law 305 = .ok (.iconst 1, 1) := by decide +kernel
theorem dL_law_306 : decode cL_law 306 = .ok (.iadd, 1) := by decide +kernel
theorem dL_law_307 : decode cL_law 307 = .ok (.iaload, 1) := by decide +kernel
theorem dL_law_308 : decode cL_law 308 = .ok (.invokevirtual 111, 3) := by decide +kernel
theorem dL_law_311 : decode cL_law 311 = .ok (.istore 6, 2) := by decide +kernel
theorem dL_law_313 : decode cL_law 313 = .ok (.aload_n 2, 1) := by decide +kernel
theorem dL_law_314 : decode cL_law 314 = .ok (.invokevirtual 105, 3) := by decide +kernel
theorem dL_law_317 : decode cL_law 317 = .ok (.iload 5, 2) := by decide +kernel
theorem dL_law_319 : decode cL_law 319 = .ok (.if_icmp .eq 5, 3) := by decide +kernel
theorem dL_law_322 : decode cL_law 322 = .ok (.iconst 0, 1) := by decide +kernel
theorem dL_law_323 : decode cL_law 323 = .ok (.ireturn, 1) := by decide +kernel
theorem dL_law_324 : decode cL_law 324 = .ok (.iload 5, 2) := by decide +kernel
theorem dL_law_326 : decode cL_law 326 = .ok (.ifCond .ne 15, 3) := by decide +kernel
theorem dL_law_329 : decode cL_law 329 = .ok (.aload_n 3, 1) := by decide +kernel
theorem dL_law_330 : decode cL_law 330 = .ok (.iconst 0, 1) := by decide +kernel
theorem dL_law_331 : decode cL_law 331 = .ok (.laload, 1) := by decide +kernel
theorem dL_law_332 : decode cL_law 332 = .ok (.iload 6, 2) := by decide +kernel
theorem dL_law_334 : decode cL_law 334 = .ok (.i2l, 1) := by decide +kernel
theorem dL_law_335 : decode cL_law 335 = .ok (.lcmp, 1) := by decide +kernel
theorem dL_law_336 : decode cL_law 336 = .ok (.ifCond .eq 5, 3) := by decide +kernel
theorem dL_law_339 : decode cL_law 339 = .ok (.iconst 0, 1) := by decide +kernel
theorem dL_law_340 : decode cL_law 340 = .ok (.ireturn, 1) := by decide +kernel
theorem dL_law_341 : decode cL_law 341 = .ok (.goto 1506, 3) := by decide +kernel
theorem dL_law_344 : decode cL_law 344 = .ok (.aload_n 1, 1) := by decide +kernel
theorem dL_law_345 : decode cL_law 345 = .ok (.aload_n 0, 1) := by decide +kernel
theorem dL_law_346 : decode cL_law 346 = .ok (.iload 4, 2) := by decide +kernel
theorem dL_law_348 : decode cL_law 348 = .ok (.iconst 1, 1) := by decide +kernel
theorem dL_law_349 : decode cL_law 349 = .ok (.iadd, 1) := by decide +kernel
theorem dL_law_350 : decode cL_law 350 = .ok (.iaload, 1) := by decide +kernel
theorem dL_law_351 : decode cL_law 351 = .ok (.aload_n 0, 1) := by decide +kernel
theorem dL_law_352 : decode cL_law 352 = .ok (.iload 4, 2) := by decide +kernel
theorem dL_law_354 : decode cL_law 354 = .ok (.iconst 2, 1) := by decide +kernel
theorem dL_law_355 : decode cL_law 355 = .ok (.iadd, 1) := by decide +kernel
theorem dL_law_356 : decode cL_law 356 = .ok (.iaload, 1) := by decide +kernel
theorem dL_law_357 : decode cL_law 357 = .ok (.aload_n 3, 1) := by decide +kernel
theorem dL_law_358 : decode cL_law 358 = .ok (.invokestatic 112, 3) := by decide +kernel
theorem dL_law_361 : decode cL_law 361 = .ok (.istore 5, 2) := by decide +kernel
theorem dL_law_363 : decode cL_law 363 = .ok (.aload_n 2, 1) := by decide +kernel
theorem dL_law_364 : decode cL_law 364 = .ok (.aload_n 0, 1) := by decide +kernel
theorem dL_law_365 : decode cL_law 365 = .ok (.iload 4, 2) := by decide +kernel
theorem dL_law_367 : decode cL_law 367 = .ok (.iconst 1, 1) := by decide +kernel
theorem dL_law_368 : decode cL_law 368 = .ok (.iadd, 1) := by decide +kernel
theorem dL_law_369 : decode cL_law 369 = .ok (.iaload, 1) := by decide +kernel
theorem dL_law_370 : decode cL_law 370 = .ok (.aload_n 0, 1) := by decide +kernel
theorem dL_law_371 : decode cL_law 371 = .ok (.iload 4, 2) := by decide +kernel
theorem dL_law_373 : decode cL_law 373 = .ok (.iconst 2, 1) := by decide +kernel
theorem dL_law_374 : decode cL_law 374 = .ok (.iadd, 1) := by decide +kernel
theorem dL_law_375 : decode cL_law 375 = .ok (.iaload, 1) := by decide +kernel
theorem dL_law_376 : decode cL_law 376 = .ok (.invokevirtual 115, 3) := by decide +kernel
theorem dL_law_379 : decode cL_law 379 = .ok (.istore 6, 2) := by decide +kernel
theorem dL_law_381 : decode cL_law 381 = .ok (.aload_n 2, 1) := by decide +kernel
theorem dL_law_382 : decode cL_law 382 = .ok (.invokevirtual 105, 3) := by decide +kernel
theorem dL_law_385 : decode cL_law 385 = .ok (.iload 5, 2) := by decide +kernel
theorem dL_law_387 : decode cL_law 387 = .ok (.if_icmp .eq 5, 3) := by decide +kernel
theorem dL_law_390 : decode cL_law 390 = .ok (.iconst 0, 1) := by decide +kernel
theorem dL_law_391 : decode cL_law 391 = .ok (.ireturn, 1) := by decide +kernel
theorem dL_law_392 : decode cL_law 392 = .ok (.iload 5, 2) := by decide +kernel
theorem dL_law_394 : decode cL_law 394 = .ok (.ifCond .ne 15, 3) := by decide +kernel
theorem dL_law_397 : decode cL_law 397 = .ok (.aload_n 3, 1) := by decide +kernel
theorem dL_law_398 : decode cL_law 398 = .ok (.iconst 0, 1) := by decide +kernel
theorem dL_law_399 : decode cL_law 399 = .ok (.laload, 1) := by decide +kernel
theorem dL_law_400 : decode cL_law 400 = .ok (.iload 6, 2) := by decide +kernel
theorem dL_law_402 : decode cL_law 402 = .ok (.i2l, 1) := by decide +kernel
theorem dL_law_403 : decode cL_law 403 = .ok (.lcmp, 1) := by decide +kernel
theorem dL_law_404 : decode cL_law 404 = .ok (.ifCond .eq 5, 3) := by decide +kernel
theorem dL_law_407 : decode cL_law 407 = .ok (.iconst 0, 1) := by decide +kernel
theorem dL_law_408 : decode cL_law 408 = .ok (.ireturn, 1) := by decide +kernel
theorem dL_law_409 : decode cL_law 409 = .ok (.goto 1438, 3) := by decide +kernel
theorem dL_law_412 : decode cL_law 412 = .ok (.aload_n 1, 1) := by decide +kernel
theorem dL_law_413 : decode cL_law 413 = .ok (.aload_n 0, 1) := by decide +kernel
theorem dL_law_414 : decode cL_law 414 = .ok (.iload 4, 2) := by decide +kernel
theorem dL_law_416 : decode cL_law 416 = .ok (.iconst 1, 1) := by decide +kernel
theorem dL_law_417 : decode cL_law 417 = .ok (.iadd, 1) := by decide +kernel
theorem dL_law_418 : decode cL_law 418 = .ok (.iaload, 1) := by decide +kernel
theorem dL_law_419 : decode cL_law 419 = .ok (.aload_n 0, 1) := by decide +kernel
theorem dL_law_420 : decode cL_law 420 = .ok (.iload 4, 2) := by decide +kernel
theorem dL_law_422 : decode cL_law 422 = .ok (.iconst 2, 1) := by decide +kernel
theorem dL_law_423 : decode cL_law 423 = .ok (.iadd, 1) := by decide +kernel
theorem dL_law_424 : decode cL_law 424 = .ok (.iaload, 1) := by decide +kernel
theorem dL_law_425 : decode cL_law 425 = .ok (.aload_n 3, 1) := by decide +kernel
theorem dL_law_426 : decode cL_law 426 = .ok (.invokestatic 116, 3) := by decide +kernel
theorem dL_law_429 : decode cL_law 429 = .ok (.istore 5, 2) := by decide +kernel
theorem dL_law_431 : decode cL_law 431 = .ok (.aload_n 2, 1) := by decide +kernel
theorem dL_law_432 : decode cL_law 432 = .ok (.aload_n 0, 1) := by decide +kernel
theorem dL_law_433 : decode cL_law 433 = .ok (.iload 4, 2) := by decide +kernel
theorem dL_law_435 : decode cL_law 435 = .ok (.iconst 1, 1) := by decide +kernel
theorem dL_law_436 : decode cL_law 436 = .ok (.iadd, 1) := by decide +kernel
theorem dL_law_437 : decode cL_law 437 = .ok (.iaload, 1) := by decide +kernel
theorem dL_law_438 : decode cL_law 438 = .ok (.aload_n 0, 1) := by decide +kernel
theorem dL_law_439 : decode cL_law 439 = .ok (.iload 4, 2) := by decide +kernel
theorem dL_law_441 : decode cL_law 441 = .ok (.iconst 2, 1) := by decide +kernel
theorem dL_law_442 : decode cL_law 442 = .ok (.iadd, 1) := by decide +kernel
theorem dL_law_443 : decode cL_law 443 = .ok (.iaload, 1) := by decide +kernel
theorem dL_law_444 : decode cL_law 444 = .ok (.invokevirtual 118, 3) := by decide +kernel
theorem dL_law_447 : decode cL_law 447 = .ok (.istore 6, 2) := by decide +kernel
theorem dL_law_449 : decode cL_law 449 = .ok (.aload_n 2, 1) := by decide +kernel
theorem dL_law_450 : decode cL_law 450 = .ok (.invokevirtual 105, 3) := by decide +kernel
theorem dL_law_453 : decode cL_law 453 = .ok (.iload 5, 2) := by decide +kernel
theorem dL_law_455 : decode cL_law 455 = .ok (.if_icmp .eq 5, 3) := by decide +kernel
theorem dL_law_458 : decode cL_law 458 = .ok (.iconst 0, 1) := by decide +kernel
theorem dL_law_459 : decode cL_law 459 = .ok (.ireturn, 1) := by decide +kernel
theorem dL_law_460 : decode cL_law 460 = .ok (.iload 5, 2) := by decide +kernel
theorem dL_law_462 : decode cL_law 462 = .ok (.ifCond .ne 15, 3) := by decide +kernel
theorem dL_law_465 : decode cL_law 465 = .ok (.aload_n 3, 1) := by decide +kernel
theorem dL_law_466 : decode cL_law 466 = .ok (.iconst 0, 1) := by decide +kernel
theorem dL_law_467 : decode cL_law 467 = .ok (.laload, 1) := by decide +kernel
theorem dL_law_468 : decode cL_law 468 = .ok (.iload 6, 2) := by decide +kernel
theorem dL_law_470 : decode cL_law 470 = .ok (.i2l, 1) := by decide +kernel
theorem dL_law_471 : decode cL_law 471 = .ok (.lcmp, 1) := by decide +kernel
theorem dL_law_472 : decode cL_law 472 = .ok (.ifCond .eq 5, 3) := by decide +kernel
theorem dL_law_475 : decode cL_law 475 = .ok (.iconst 0, 1) := by decide +kernel
theorem dL_law_476 : decode cL_law 476 = .ok (.ireturn, 1) := by decide +kernel
theorem dL_law_477 : decode cL_law 477 = .ok (.goto 1370, 3) := by decide +kernel
theorem dL_law_480 : decode cL_law 480 = .ok (.aload_n 1, 1) := by decide +kernel
theorem dL_law_481 : decode cL_law 481 = .ok (.aload_n 0, 1) := by decide +kernel
theorem dL_law_482 : decode cL_law 482 = .ok (.iload 4, 2) := by decide +kernel
theorem dL_law_484 : decode cL_law 484 = .ok (.iconst 1, 1) := by decide +kernel
theorem dL_law_485 : decode cL_law 485 = .ok (.iadd, 1) := by decide +kernel
theorem dL_law_486 : decode cL_law 486 = .ok (.iaload, 1) := by decide +kernel
theorem dL_law_487 : decode cL_law 487 = .ok (.aload_n 3, 1) := by decide +kernel
theorem dL_law_488 : decode cL_law 488 = .ok (.invokestatic 119, 3) := by decide +kernel
theorem dL_law_491 : decode cL_law 491 = .ok (.istore 5, 2) := by decide +kernel
theorem dL_law_493 : decode cL_law 493 = .ok (.aload_n 2, 1) := by decide +kernel
theorem dL_law_494 : decode cL_law 494 = .ok (.aload_n 0, 1) := by decide +kernel
theorem dL_law_495 : decode cL_law 495 = .ok (.iload 4, 2) := by decide +kernel
theorem dL_law_497 : decode cL_law 497 = .ok (.iconst 1, 1) := by decide +kernel
theorem dL_law_498 : decode cL_law 498 = .ok (.iadd, 1) := by decide +kernel
theorem dL_law_499 : decode cL_law 499 = .ok (.iaload, 1) := by decide +kernel
theorem dL_law_500 : decode cL_law 500 = .ok (.invokevirtual 121, 3) := by decide +kernel
theorem dL_law_503 : decode cL_law 503 = .ok (.istore 6, 2) := by decide +kernel
theorem dL_law_505 : decode cL_law 505 = .ok (.aload_n 2, 1) := by decide +kernel
theorem dL_law_506 : decode cL_law 506 = .ok (.invokevirtual 105, 3) := by decide +kernel
theorem dL_law_509 : decode cL_law 509 = .ok (.iload 5, 2) := by decide +kernel
theorem dL_law_511 : decode cL_law 511 = .ok (.if_icmp .eq 5, 3) := by decide +kernel
theorem dL_law_514 : decode cL_law 514 = .ok (.iconst 0, 1) := by decide +kernel
theorem dL_law_515 : decode cL_law 515 = .ok (.ireturn, 1) := by decide +kernel
theorem dL_law_516 : decode cL_law 516 = .ok (.iload 5, 2) := by decide +kernel
theorem dL_law_518 : decode cL_law 518 = .ok (.ifCond .ne 15, 3) := by decide +kernel
theorem dL_law_521 : decode cL_law 521 = .ok (.aload_n 3, 1) := by decide +kernel
theorem dL_law_522 : decode cL_law 522 = .ok (.iconst 0, 1) := by decide +kernel
theorem dL_law_523 : decode cL_law 523 = .ok (.laload, 1) := by decide +kernel
theorem dL_law_524 : decode cL_law 524 = .ok (.iload 6, 2) := by decide +kernel
theorem dL_law_526 : decode cL_law 526 = .ok (.i2l, 1) := by decide +kernel
theorem dL_law_527 : decode cL_law 527 = .ok (.lcmp, 1) := by decide +kernel
theorem dL_law_528 : decode cL_law 528 = .ok (.ifCond .eq 5, 3) := by decide +kernel
theorem dL_law_531 : decode cL_law 531 = .ok (.iconst 0, 1) := by decide +kernel
theorem dL_law_532 : decode cL_law 532 = .ok (.ireturn, 1) := by decide +kernel
theorem dL_law_533 : decode cL_law 533 = .ok (.goto 1314, 3) := by decide +kernel
theorem dL_law_536 : decode cL_law 536 = .ok (.aload_n 1, 1) := by decide +kernel
theorem dL_law_537 : decode cL_law 537 = .ok (.aload_n 0, 1) := by decide +kernel
theorem dL_law_538 : decode cL_law 538 = .ok (.iload 4, 2) := by decide +kernel
theorem dL_law_540 : decode cL_law 540 = .ok (.iconst 1, 1) := by decide +kernel
theorem dL_law_541 : decode cL_law 541 = .ok (.iadd, 1) := by decide +kernel
theorem dL_law_542 : decode cL_law 542 = .ok (.iaload, 1) := by decide +kernel
theorem dL_law_543 : decode cL_law 543 = .ok (.aload_n 3, 1) := by decide +kernel
theorem dL_law_544 : decode cL_law 544 = .ok (.invokestatic 122, 3) := by decide +kernel
theorem dL_law_547 : decode cL_law 547 = .ok (.istore 5, 2) := by decide +kernel
theorem dL_law_549 : decode cL_law 549 = .ok (.aload_n 2, 1) := by decide +kernel
theorem dL_law_550 : decode cL_law 550 = .ok (.aload_n 0, 1) := by decide +kernel
theorem dL_law_551 : decode cL_law 551 = .ok (.iload 4, 2) := by decide +kernel
theorem dL_law_553 : decode cL_law 553 = .ok (.iconst 1, 1) := by decide +kernel
theorem dL_law_554 : decode cL_law 554 = .ok (.iadd, 1) := by decide +kernel
theorem dL_law_555 : decode cL_law 555 = .ok (.iaload, 1) := by decide +kernel
theorem dL_law_556 : decode cL_law 556 = .ok (.invokevirtual 124, 3) := by decide +kernel
theorem dL_law_559 : decode cL_law 559 = .ok (.istore 6, 2) := by decide +kernel
theorem dL_law_561 : decode cL_law 561 = .ok (.aload_n 2, 1) := by decide +kernel
theorem dL_law_562 : decode cL_law 562 = .ok (.invokevirtual 105, 3) := by decide +kernel
theorem dL_law_565 : decode cL_law 565 = .ok (.iload 5, 2) := by decide +kernel
theorem dL_law_567 : decode cL_law 567 = .ok (.if_icmp .eq 5, 3) := by decide +kernel
theorem dL_law_570 : decode cL_law 570 = .ok (.iconst 0, 1) := by decide +kernel
theorem dL_law_571 : decode cL_law 571 = .ok (.ireturn, 1) := by decide +kernel
theorem dL_law_572 : decode cL_law 572 = .ok (.iload 5, 2) := by decide +kernel
theorem dL_law_574 : decode cL_law 574 = .ok (.ifCond .ne 15, 3) := by decide +kernel
theorem dL_law_577 : decode cL_law 577 = .ok (.aload_n 3, 1) := by decide +kernel
theorem dL_law_578 : decode cL_law 578 = .ok (.iconst 0, 1) := by decide +kernel
theorem dL_law_579 : decode cL_law 579 = .ok (.laload, 1) := by decide +kernel
theorem dL_law_580 : decode cL_law 580 = .ok (.iload 6, 2) := by decide +kernel
theorem dL_law_582 : decode cL_law 582 = .ok (.i2l, 1) := by decide +kernel
theorem dL_law_583 : decode cL_law 583 = .ok (.lcmp, 1) := by decide +kernel
theorem dL_law_584 : decode cL_law 584 = .ok (.ifCond .eq 5, 3) := by decide +kernel
theorem dL_law_587 : decode cL_law 587 = .ok (.iconst 0, 1) := by decide +kernel
theorem dL_law_588 : decode cL_law 588 = .ok (.ireturn, 1) := by decide +kernel
theorem dL_law_589 : decode cL_law 589 = .ok (.goto 1258, 3) := by decide +kernel
theorem dL_law_592 : decode cL_law 592 = .ok (.aload_n 1, 1) := by decide +kernel
theorem dL_law_593 : decode cL_law 593 = .ok (.invokevirtual 125, 3) := by decide +kernel
theorem dL_law_596 : decode cL_law 596 = .ok (.aload_n 2, 1) := by decide +kernel
theorem dL_law_597 : decode cL_law 597 = .ok (.invokevirtual 128, 3) := by decide +kernel
theorem dL_law_600 : decode cL_law 600 = .ok (.if_icmp .eq 1247, 3) := by decide +kernel
theorem dL_law_603 : decode cL_law 603 = .ok (.iconst 0, 1) := by decide +kernel
theorem dL_law_604 : decode cL_law 604 = .ok (.ireturn, 1) := by decide +kernel
theorem dL_law_605 : decode cL_law 605 = .ok (.aload_n 1, 1) := by decide +kernel
theorem dL_law_606 : decode cL_law 606 = .ok (.invokevirtual 129, 3) := by decide +kernel
theorem dL_law_609 : decode cL_law 609 = .ok (.aload_n 2, 1) := by decide +kernel
theorem dL_law_610 : decode cL_law 610 = .ok (.invokevirtual 132, 3) := by decide +kernel
theorem dL_law_613 : decode cL_law 613 = .ok (.if_icmp .eq 1234, 3) := by decide +kernel
theorem dL_law_616 : decode cL_law 616 = .ok (.iconst 0, 1) := by decide +kernel
theorem dL_law_617 : decode cL_law 617 = .ok (.ireturn, 1) := by decide +kernel
theorem dL_law_618 : decode cL_law 618 = .ok (.aload_n 1, 1) := by decide +kernel
theorem dL_law_619 : decode cL_law 619 = .ok (.invokevirtual 133, 3) := by decide +kernel
theorem dL_law_622 : decode cL_law 622 = .ok (.aload_n 2, 1) := by decide +kernel
theorem dL_law_623 : decode cL_law 623 = .ok (.invokevirtual 136, 3) := by decide +kernel
theorem dL_law_626 : decode cL_law 626 = .ok (.if_icmp .eq 1221, 3) := by decide +kernel
theorem dL_law_629 : decode cL_law 629 = .ok (.iconst 0, 1) := by decide +kernel
theorem dL_law_630 : decode cL_law 630 = .ok (.ireturn, 1) := by decide +kernel
theorem dL_law_631 : decode cL_law 631 = .ok (.aload_n 1, 1) := by decide +kernel
theorem dL_law_632 : decode cL_law 632 = .ok (.aload_n 0, 1) := by decide +kernel
theorem dL_law_633 : decode cL_law 633 = .ok (.iload 4, 2) := by decide +kernel
theorem dL_law_635 : decode cL_law 635 = .ok (.iconst 1, 1) := by decide +kernel
theorem dL_law_636 : decode cL_law 636 = .ok (.iadd, 1) := by decide +kernel
theorem dL_law_637 : decode cL_law 637 = .ok (.iaload, 1) := by decide +kernel
theorem dL_law_638 : decode cL_law 638 = .ok (.aload_n 3, 1) := by decide +kernel
theorem dL_law_639 : decode cL_law 639 = .ok (.invokestatic 137, 3) := by decide +kernel
theorem dL_law_642 : decode cL_law 642 = .ok (.istore 5, 2) := by decide +kernel
theorem dL_law_644 : decode cL_law 644 = .ok (.aload_n 2, 1) := by decide +kernel
theorem dL_law_645 : decode cL_law 645 = .ok (.aload_n 0, 1) := by decide +kernel
theorem dL_law_646 : decode cL_law 646 = .ok (.iload 4, 2) := by decide +kernel
theorem dL_law_648 : decode cL_law 648 = .ok (.iconst 1, 1) := by decide +kernel
theorem dL_law_649 : decode cL_law 649 = .ok (.iadd, 1) := by decide +kernel
theorem dL_law_650 : decode cL_law 650 = .ok (.iaload, 1) := by decide +kernel
theorem dL_law_651 : decode cL_law 651 = .ok (.invokevirtual 139, 3) := by decide +kernel
theorem dL_law_654 : decode cL_law 654 = .ok (.istore 6, 2) := by decide +kernel
theorem dL_law_656 : decode cL_law 656 = .ok (.aload_n 2, 1) := by decide +kernel
theorem dL_law_657 : decode cL_law 657 = .ok (.invokevirtual 105, 3) := by decide +kernel
theorem dL_law_660 : decode cL_law 660 = .ok (.iload 5, 2) := by decide +kernel
theorem dL_law_662 : decode cL_law 662 = .ok (.if_icmp .eq 5, 3) := by decide +kernel
theorem dL_law_665 : decode cL_law 665 = .ok (.iconst 0, 1) := by decide +kernel
theorem dL_law_666 : decode cL_law 666 = .ok (.ireturn, 1) := by decide +kernel
theorem dL_law_667 : decode cL_law 667 = .ok (.iload 5, 2) := by decide +kernel
theorem dL_law_669 : decode cL_law 669 = .ok (.ifCond .ne 15, 3) := by decide +kernel
theorem dL_law_672 : decode cL_law 672 = .ok (.aload_n 3, 1) := by decide +kernel
theorem dL_law_673 : decode cL_law 673 = .ok (.iconst 0, 1) := by decide +kernel
theorem dL_law_674 : decode cL_law 674 = .ok (.laload, 1) := by decide +kernel
theorem dL_law_675 : decode cL_law 675 = .ok (.iload 6, 2) := by decide +kernel
theorem dL_law_677 : decode cL_law 677 = .ok (.i2l, 1) := by decide +kernel
theorem dL_law_678 : decode cL_law 678 = .ok (.lcmp, 1) := by decide +kernel
theorem dL_law_679 : decode cL_law 679 = .ok (.ifCond .eq 5, 3) := by decide +kernel
theorem dL_law_682 : decode cL_law 682 = .ok (.iconst 0, 1) := by decide +kernel
theorem dL_law_683 : decode cL_law 683 = .ok (.ireturn, 1) := by decide +kernel
theorem dL_law_684 : decode cL_law 684 = .ok (.goto 1163, 3) := by decide +kernel
theorem dL_law_687 : decode cL_law 687 = .ok (.aload_n 1, 1) := by decide +kernel
theorem dL_law_688 : decode cL_law 688 = .ok (.aload_n 0, 1) := by decide +kernel
theorem dL_law_689 : decode cL_law 689 = .ok (.iload 4, 2) := by decide +kernel
theorem dL_law_691 : decode cL_law 691 = .ok (.iconst 1, 1) := by decide +kernel
theorem dL_law_692 : decode cL_law 692 = .ok (.iadd, 1) := by decide +kernel
theorem dL_law_693 : decode cL_law 693 = .ok (.iaload, 1) := by decide +kernel
theorem dL_law_694 : decode cL_law 694 = .ok (.aload_n 3, 1) := by decide +kernel
theorem dL_law_695 : decode cL_law 695 = .ok (.invokestatic 140, 3) := by decide +kernel
theorem dL_law_698 : decode cL_law 698 = .ok (.istore 5, 2) := by decide +kernel
theorem dL_law_700 : decode cL_law 700 = .ok (.aload_n 2, 1) := by decide +kernel
theorem dL_law_701 : decode cL_law 701 = .ok (.aload_n 0, 1) := by decide +kernel
theorem dL_law_702 : decode cL_law 702 = .ok (.iload 4, 2) := by decide +kernel
theorem dL_law_704 : decode cL_law 704 = .ok (.iconst 1, 1) := by decide +kernel
theorem dL_law_705 : decode cL_law 705 = .ok (.iadd, 1) := by decide +kernel
theorem dL_law_706 : decode cL_law 706 = .ok (.iaload, 1) := by decide +kernel
theorem dL_law_707 : decode cL_law 707 = .ok (.invokevirtual 142, 3) := by decide +kernel
theorem dL_law_710 : decode cL_law 710 = .ok (.istore 6, 2) := by decide +kernel
theorem dL_law_712 : decode cL_law 712 = .ok (.aload_n 2, 1) := by decide +kernel
theorem dL_law_713 : decode cL_law 713 = .ok (.invokevirtual 105, 3) := by decide +kernel
theorem dL_law_716 : decode cL_law 716 = .ok (.iload 5, 2) := by decide +kernel
theorem dL_law_718 : decode cL_law 718 = .ok (.if_icmp .eq 5, 3) := by decide +kernel
theorem dL_law_721 : decode cL_law 721 = .ok (.iconst 0, 1) := by decide +kernel
theorem dL_law_722 : decode cL_law 722 = .ok (.ireturn, 1) := by decide +kernel
theorem dL_law_723 : decode cL_law 723 = .ok (.iload 5, 2) := by decide +kernel
theorem dL_law_725 : decode cL_law 725 = .ok (.ifCond .ne 15, 3) := by decide +kernel
theorem dL_law_728 : decode cL_law 728 = .ok (.aload_n 3, 1) := by decide +kernel
theorem dL_law_729 : decode cL_law 729 = .ok (.iconst 0, 1) := by decide +kernel
theorem dL_law_730 : decode cL_law 730 = .ok (.laload, 1) := by decide +kernel
theorem dL_law_731 : decode cL_law 731 = .ok (.iload 6, 2) := by decide +kernel
theorem dL_law_733 : decode cL_law 733 = .ok (.i2l, 1) := by decide +kernel
theorem dL_law_734 : decode cL_law 734 = .ok (.lcmp, 1) := by decide +kernel
theorem dL_law_735 : decode cL_law 735 = .ok (.ifCond .eq 5, 3) := by decide +kernel
theorem dL_law_738 : decode cL_law 738 = .ok (.iconst 0, 1) := by decide +kernel
theorem dL_law_739 : decode cL_law 739 = .ok (.ireturn, 1) := by decide +kernel
theorem dL_law_740 : decode cL_law 740 = .ok (.goto 1107, 3) := by decide +kernel
theorem dL_law_743 : decode cL_law 743 = .ok (.aload_n 1, 1) := by decide +kernel
theorem dL_law_744 : decode cL_law 744 = .ok (.aload_n 0, 1) := by decide +kernel
theorem dL_law_745 : decode cL_law 745 = .ok (.iload 4, 2) := by decide +kernel
theorem dL_law_747 : decode cL_law 747 = .ok (.iconst 1, 1) := by decide +kernel
theorem dL_law_748 : decode cL_law 748 = .ok (.iadd, 1) := by decide +kernel
theorem dL_law_749 : decode cL_law 749 = .ok (.iaload, 1) := by decide +kernel
theorem dL_law_750 : decode cL_law 750 = .ok (.aload_n 3, 1) := by decide +kernel
theorem dL_law_751 : decode cL_law 751 = .ok (.invokestatic 143, 3) := by decide +kernel
theorem dL_law_754 : decode cL_law 754 = .ok (.istore 5, 2) := by decide +kernel
theorem dL_law_756 : decode cL_law 756 = .ok (.aload_n 2, 1) := by decide +kernel
theorem dL_law_757 : decode cL_law 757 = .ok (.aload_n 0, 1) := by decide +kernel
theorem dL_law_758 : decode cL_law 758 = .ok (.iload 4, 2) := by decide +kernel
theorem dL_law_760 : decode cL_law 760 = .ok (.iconst 1, 1) := by decide +kernel
theorem dL_law_761 : decode cL_law 761 = .ok (.iadd, 1) := by decide +kernel
theorem dL_law_762 : decode cL_law 762 = .ok (.iaload, 1) := by decide +kernel
theorem dL_law_763 : decode cL_law 763 = .ok (.invokevirtual 145, 3) := by decide +kernel
theorem dL_law_766 : decode cL_law 766 = .ok (.istore 6, 2) := by decide +kernel
theorem dL_law_768 : decode cL_law 768 = .ok (.aload_n 2, 1) := by decide +kernel
theorem dL_law_769 : decode cL_law 769 = .ok (.invokevirtual 105, 3) := by decide +kernel
theorem dL_law_772 : decode cL_law 772 = .ok (.iload 5, 2) := by decide +kernel
theorem dL_law_774 : decode cL_law 774 = .ok (.if_icmp .eq 5, 3) := by decide +kernel
theorem dL_law_777 : decode cL_law 777 = .ok (.iconst 0, 1) := by decide +kernel
theorem dL_law_778 : decode cL_law 778 = .ok (.ireturn, 1) := by decide +kernel
theorem dL_law_779 : decode cL_law 779 = .ok (.iload 5, 2) := by decide +kernel
theorem dL_law_781 : decode cL_law 781 = .ok (.ifCond .ne 15, 3) := by decide +kernel
theorem dL_law_784 : decode cL_law 784 = .ok (.aload_n 3, 1) := by decide +kernel
theorem dL_law_785 : decode cL_law 785 = .ok (.iconst 0, 1) := by decide +kernel
theorem dL_law_786 : decode cL_law 786 = .ok (.laload, 1) := by decide +kernel
theorem dL_law_787 : decode cL_law 787 = .ok (.iload 6, 2) := by decide +kernel
theorem dL_law_789 : decode cL_law 789 = .ok (.i2l, 1) := by decide +kernel
theorem dL_law_790 : decode cL_law 790 = .ok (.lcmp, 1) := by decide +kernel
theorem dL_law_791 : decode cL_law 791 = .ok (.ifCond .eq 5, 3) := by decide +kernel
theorem dL_law_794 : decode cL_law 794 = .ok (.iconst 0, 1) := by decide +kernel
theorem dL_law_795 : decode cL_law 795 = .ok (.ireturn, 1) := by decide +kernel
theorem dL_law_796 : decode cL_law 796 = .ok (.goto 1051, 3) := by decide +kernel
theorem dL_law_799 : decode cL_law 799 = .ok (.aload_n 1, 1) := by decide +kernel
theorem dL_law_800 : decode cL_law 800 = .ok (.aload_n 0, 1) := by decide +kernel
theorem dL_law_801 : decode cL_law 801 = .ok (.iload 4, 2) := by decide +kernel
theorem dL_law_803 : decode cL_law 803 = .ok (.iconst 1, 1) := by decide +kernel
theorem dL_law_804 : decode cL_law 804 = .ok (.iadd, 1) := by decide +kernel
theorem dL_law_805 : decode cL_law 805 = .ok (.iaload, 1) := by decide +kernel
theorem dL_law_806 : decode cL_law 806 = .ok (.aload_n 3, 1) := by decide +kernel
theorem dL_law_807 : decode cL_law 807 = .ok (.invokestatic 146, 3) := by decide +kernel
theorem dL_law_810 : decode cL_law 810 = .ok (.istore 5, 2) := by decide +kernel
theorem dL_law_812 : decode cL_law 812 = .ok (.aload_n 2, 1) := by decide +kernel
theorem dL_law_813 : decode cL_law 813 = .ok (.aload_n 0, 1) := by decide +kernel
theorem dL_law_814 : decode cL_law 814 = .ok (.iload 4, 2) := by decide +kernel
theorem dL_law_816 : decode cL_law 816 = .ok (.iconst 1, 1) := by decide +kernel
theorem dL_law_817 : decode cL_law 817 = .ok (.iadd, 1) := by decide +kernel
theorem dL_law_818 : decode cL_law 818 = .ok (.iaload, 1) := by decide +kernel
theorem dL_law_819 : decode cL_law 819 = .ok (.invokevirtual 148, 3) := by decide +kernel
theorem dL_law_822 : decode cL_law 822 = .ok (.istore 6, 2) := by decide +kernel
theorem dL_law_824 : decode cL_law 824 = .ok (.aload_n 2, 1) := by decide +kernel
theorem dL_law_825 : decode cL_law 825 = .ok (.invokevirtual 105, 3) := by decide +kernel
theorem dL_law_828 : decode cL_law 828 = .ok (.iload 5, 2) := by decide +kernel
theorem dL_law_830 : decode cL_law 830 = .ok (.if_icmp .eq 5, 3) := by decide +kernel
theorem dL_law_833 : decode cL_law 833 = .ok (.iconst 0, 1) := by decide +kernel
theorem dL_law_834 : decode cL_law 834 = .ok (.ireturn, 1) := by decide +kernel
theorem dL_law_835 : decode cL_law 835 = .ok (.iload 5, 2) := by decide +kernel
theorem dL_law_837 : decode cL_law 837 = .ok (.ifCond .ne 15, 3) := by decide +kernel
theorem dL_law_840 : decode cL_law 840 = .ok (.aload_n 3, 1) := by decide +kernel
theorem dL_law_841 : decode cL_law 841 = .ok (.iconst 0, 1) := by decide +kernel
theorem dL_law_842 : decode cL_law 842 = .ok (.laload, 1) := by decide +kernel
theorem dL_law_843 : decode cL_law 843 = .ok (.iload 6, 2) := by decide +kernel
theorem dL_law_845 : decode cL_law 845 = .ok (.i2l, 1) := by decide +kernel
theorem dL_law_846 : decode cL_law 846 = .ok (.lcmp, 1) := by decide +kernel
theorem dL_law_847 : decode cL_law 847 = .ok (.ifCond .eq 5, 3) := by decide +kernel
theorem dL_law_850 : decode cL_law 850 = .ok (.iconst 0, 1) := by decide +kernel
theorem dL_law_851 : decode cL_law 851 = .ok (.ireturn, 1) := by decide +kernel
theorem dL_law_852 : decode cL_law 852 = .ok (.goto 995, 3) := by decide +kernel
theorem dL_law_855 : decode cL_law 855 = .ok (.aload_n 1, 1) := by decide +kernel
theorem dL_law_856 : decode cL_law 856 = .ok (.aload_n 0, 1) := by decide +kernel
theorem dL_law_857 : decode cL_law 857 = .ok (.iload 4, 2) := by decide +kernel
theorem dL_law_859 : decode cL_law 859 = .ok (.iconst 1, 1) := by decide +kernel
theorem dL_law_860 : decode cL_law 860 = .ok (.iadd, 1) := by decide +kernel
theorem dL_law_861 : decode cL_law 861 = .ok (.iaload, 1) := by decide +kernel
theorem dL_law_862 : decode cL_law 862 = .ok (.aload_n 3, 1) := by decide +kernel
theorem dL_law_863 : decode cL_law 863 = .ok (.invokestatic 149, 3) := by decide +kernel
theorem dL_law_866 : decode cL_law 866 = .ok (.istore 5, 2) := by decide +kernel
theorem dL_law_868 : decode cL_law 868 = .ok (.aload_n 2, 1) := by decide +kernel
theorem dL_law_869 : decode cL_law 869 = .ok (.aload_n 0, 1) := by decide +kernel
theorem dL_law_870 : decode cL_law 870 = .ok (.iload 4, 2) := by decide +kernel
theorem dL_law_872 : decode cL_law 872 = .ok (.iconst 1, 1) := by decide +kernel
theorem dL_law_873 : decode cL_law 873 = .ok (.iadd, 1) := by decide +kernel
theorem dL_law_874 : decode cL_law 874 = .ok (.iaload, 1) := by decide +kernel
theorem dL_law_875 : decode cL_law 875 = .ok (.invokevirtual 151, 3) := by decide +kernel
theorem dL_law_878 : decode cL_law 878 = .ok (.istore 6, 2) := by decide +kernel
theorem dL_law_880 : decode cL_law 880 = .ok (.aload_n 2, 1) := by decide +kernel
theorem dL_law_881 : decode cL_law 881 = .ok (.invokevirtual 105, 3) := by decide +kernel
theorem dL_law_884 : decode cL_law 884 = .ok (.iload 5, 2) := by decide +kernel
theorem dL_law_886 : decode cL_law 886 = .ok (.if_icmp .eq 5, 3) := by decide +kernel
theorem dL_law_889 : decode cL_law 889 = .ok (.iconst 0, 1) := by decide +kernel
theorem dL_law_890 : decode cL_law 890 = .ok (.ireturn, 1) := by decide +kernel
theorem dL_law_891 : decode cL_law 891 = .ok (.iload 5, 2) := by decide +kernel
theorem dL_law_893 : decode cL_law 893 = .ok (.ifCond .ne 15, 3) := by decide +kernel
theorem dL_law_896 : decode cL_law 896 = .ok (.aload_n 3, 1) := by decide +kernel
theorem dL_law_897 : decode cL_law 897 = .ok (.iconst 0, 1) := by decide +kernel
theorem dL_law_898 : decode cL_law 898 = .ok (.laload, 1) := by decide +kernel
theorem dL_law_899 : decode cL_law 899 = .ok (.iload 6, 2) := by decide +kernel
theorem dL_law_901 : decode cL_law 901 = .ok (.i2l, 1) := by decide +kernel
theorem dL_law_902 : decode cL_law 902 = .ok (.lcmp, 1) := by decide +kernel
theorem dL_law_903 : decode cL_law 903 = .ok (.ifCond .eq 5, 3) := by decide +kernel
theorem dL_law_906 : decode cL_law 906 = .ok (.iconst 0, 1) := by decide +kernel
theorem dL_law_907 : decode cL_law 907 = .ok (.ireturn, 1) := by decide +kernel
theorem dL_law_908 : decode cL_law 908 = .ok (.goto 939, 3) := by decide +kernel
theorem dL_law_911 : decode cL_law 911 = .ok (.aload_n 1, 1) := by decide +kernel
theorem dL_law_912 : decode cL_law 912 = .ok (.aload_n 0, 1) := by decide +kernel
theorem dL_law_913 : decode cL_law 913 = .ok (.iload 4, 2) := by decide +kernel
theorem dL_law_915 : decode cL_law 915 = .ok (.iconst 1, 1) := by decide +kernel
theorem dL_law_916 : decode cL_law 916 = .ok (.iadd, 1) := by decide +kernel
theorem dL_law_917 : decode cL_law 917 = .ok (.iaload, 1) := by decide +kernel
theorem dL_law_918 : decode cL_law 918 = .ok (.aload_n 3, 1) := by decide +kernel
theorem dL_law_919 : decode cL_law 919 = .ok (.invokestatic 152, 3) := by decide +kernel
theorem dL_law_922 : decode cL_law 922 = .ok (.istore 5, 2) := by decide +kernel
theorem dL_law_924 : decode cL_law 924 = .ok (.aload_n 2, 1) := by decide +kernel
theorem dL_law_925 : decode cL_law 925 = .ok (.aload_n 0, 1) := by decide +kernel
theorem dL_law_926 : decode cL_law 926 = .ok (.iload 4, 2) := by decide +kernel
theorem dL_law_928 : decode cL_law 928 = .ok (.iconst 1, 1) := by decide +kernel
theorem dL_law_929 : decode cL_law 929 = .ok (.iadd, 1) := by decide +kernel
theorem dL_law_930 : decode cL_law 930 = .ok (.iaload, 1) := by decide +kernel
theorem dL_law_931 : decode cL_law 931 = .ok (.invokevirtual 154, 3) := by decide +kernel
theorem dL_law_934 : decode cL_law 934 = .ok (.istore 6, 2) := by decide +kernel
theorem dL_law_936 : decode cL_law 936 = .ok (.aload_n 2, 1) := by decide +kernel
theorem dL_law_937 : decode cL_law 937 = .ok (.invokevirtual 105, 3) := by decide +kernel
theorem dL_law_940 : decode cL_law 940 = .ok (.iload 5, 2) := by decide +kernel
theorem dL_law_942 : decode cL_law 942 = .ok (.if_icmp .eq 5, 3) := by decide +kernel
theorem dL_law_945 : decode cL_law 945 = .ok (.iconst 0, 1) := by decide +kernel
theorem dL_law_946 : decode cL_law 946 = .ok (.ireturn, 1) := by decide +kernel
theorem dL_law_947 : decode cL_law 947 = .ok (.iload 5, 2) := by decide +kernel
theorem dL_law_949 : decode cL_law 949 = .ok (.ifCond .ne 15, 3) := by decide +kernel
theorem dL_law_952 : decode cL_law 952 = .ok (.aload_n 3, 1) := by decide +kernel
theorem dL_law_953 : decode cL_law 953 = .ok (.iconst 0, 1) := by decide +kernel
theorem dL_law_954 : decode cL_law 954 = .ok (.laload, 1) := by decide +kernel
theorem dL_law_955 : decode cL_law 955 = .ok (.iload 6, 2) := by decide +kernel
theorem dL_law_957 : decode cL_law 957 = .ok (.i2l, 1) := by decide +kernel
theorem dL_law_958 : decode cL_law 958 = .ok (.lcmp, 1) := by decide +kernel
theorem dL_law_959 : decode cL_law 959 = .ok (.ifCond .eq 5, 3) := by decide +kernel
theorem dL_law_962 : decode cL_law 962 = .ok (.iconst 0, 1) := by decide +kernel
theorem dL_law_963 : decode cL_law 963 = .ok (.ireturn, 1) := by decide +kernel
theorem dL_law_964 : decode cL_law 964 = .ok (.goto 883, 3) := by decide +kernel
theorem dL_law_967 : decode cL_law 967 = .ok (.aload_n 1, 1) := by decide +kernel
theorem dL_law_968 : decode cL_law 968 = .ok (.invokevirtual 155, 3) := by decide +kernel
theorem dL_law_971 : decode cL_law 971 = .ok (.aload_n 2, 1) := by decide +kernel
theorem dL_law_972 : decode cL_law 972 = .ok (.invokevirtual 158, 3) := by decide +kernel
theorem dL_law_975 : decode cL_law 975 = .ok (.if_icmp .eq 872, 3) := by decide +kernel
theorem dL_law_978 : decode cL_law 978 = .ok (.iconst 0, 1) := by decide +kernel
theorem dL_law_979 : decode cL_law 979 = .ok (.ireturn, 1) := by decide +kernel
theorem dL_law_980 : decode cL_law 980 = .ok (.aload_n 1, 1) := by decide +kernel
theorem dL_law_981 : decode cL_law 981 = .ok (.invokevirtual 159, 3) := by decide +kernel
theorem dL_law_984 : decode cL_law 984 = .ok (.aload_n 2, 1) := by decide +kernel
theorem dL_law_985 : decode cL_law 985 = .ok (.invokevirtual 163, 3) := by decide +kernel
theorem dL_law_988 : decode cL_law 988 = .ok (.if_icmp .eq 859, 3) := by decide +kernel
theorem dL_law_991 : decode cL_law 991 = .ok (.iconst 0, 1) := by decide +kernel
theorem dL_law_992 : decode cL_law 992 = .ok (.ireturn, 1) := by decide +kernel
theorem dL_law_993 : decode cL_law 993 = .ok (.aload_n 1, 1) := by decide +kernel
theorem dL_law_994 : decode cL_law 994 = .ok (.aload_n 3, 1) := by decide +kernel
theorem dL_law_995 : decode cL_law 995 = .ok (.invokestatic 164, 3) := by decide +kernel
theorem dL_law_998 : decode cL_law 998 = .ok (.istore 5, 2) := by decide +kernel
theorem dL_law_1000 : decode cL_law 1000 = .ok (.aload_n 2, 1) := by decide +kernel
theorem dL_law_1001 : decode cL_law 1001 = .ok (.invokevirtual 167, 3) := by decide +kernel
theorem dL_law_1004 : decode cL_law 1004 = .ok (.istore 6, 2) := by decide +kernel
theorem dL_law_1006 : decode cL_law 1006 = .ok (.aload_n 2, 1) := by decide +kernel
theorem dL_law_1007 : decode cL_law 1007 = .ok (.invokevirtual 105, 3) := by decide +kernel
theorem dL_law_1010 : decode cL_law 1010 = .ok (.iload 5, 2) := by decide +kernel
theorem dL_law_1012 : decode cL_law 1012 = .ok (.if_icmp .eq 5, 3) := by decide +kernel
theorem dL_law_1015 : decode cL_law 1015 = .ok (.iconst 0, 1) := by decide +kernel
theorem dL_law_1016 : decode cL_law 1016 = .ok (.ireturn, 1) := by decide +kernel
theorem dL_law_1017 : decode cL_law 1017 = .ok (.iload 5, 2) := by decide +kernel
theorem dL_law_1019 : decode cL_law 1019 = .ok (.ifCond .ne 15, 3) := by decide +kernel
theorem dL_law_1022 : decode cL_law 1022 = .ok (.aload_n 3, 1) := by decide +kernel
theorem dL_law_1023 : decode cL_law 1023 = .ok (.iconst 0, 1) := by decide +kernel
theorem dL_law_1024 : decode cL_law 1024 = .ok (.laload, 1) := by decide +kernel
theorem dL_law_1025 : decode cL_law 1025 = .ok (.iload 6, 2) := by decide +kernel
theorem dL_law_1027 : decode cL_law 1027 = .ok (.i2l, 1) := by decide +kernel
theorem dL_law_1028 : decode cL_law 1028 = .ok (.lcmp, 1) := by decide +kernel
theorem dL_law_1029 : decode cL_law 1029 = .ok (.ifCond .eq 5, 3) := by decide +kernel
theorem dL_law_1032 : decode cL_law 1032 = .ok (.iconst 0, 1) := by decide +kernel
theorem dL_law_1033 : decode cL_law 1033 = .ok (.ireturn, 1) := by decide +kernel
theorem dL_law_1034 : decode cL_law 1034 = .ok (.goto 813, 3) := by decide +kernel
theorem dL_law_1037 : decode cL_law 1037 = .ok (.aload_n 1, 1) := by decide +kernel
theorem dL_law_1038 : decode cL_law 1038 = .ok (.aload_n 0, 1) := by decide +kernel
theorem dL_law_1039 : decode cL_law 1039 = .ok (.iload 4, 2) := by decide +kernel
theorem dL_law_1041 : decode cL_law 1041 = .ok (.iconst 1, 1) := by decide +kernel
theorem dL_law_1042 : decode cL_law 1042 = .ok (.iadd, 1) := by decide +kernel
theorem dL_law_1043 : decode cL_law 1043 = .ok (.iaload, 1) := by decide +kernel
theorem dL_law_1044 : decode cL_law 1044 = .ok (.aload_n 3, 1) := by decide +kernel
theorem dL_law_1045 : decode cL_law 1045 = .ok (.invokestatic 168, 3) := by decide +kernel
theorem dL_law_1048 : decode cL_law 1048 = .ok (.istore 5, 2) := by decide +kernel
theorem dL_law_1050 : decode cL_law 1050 = .ok (.aload_n 2, 1) := by decide +kernel
theorem dL_law_1051 : decode cL_law 1051 = .ok (.aload_n 0, 1) := by decide +kernel
theorem dL_law_1052 : decode cL_law 1052 = .ok (.iload 4, 2) := by decide +kernel
theorem dL_law_1054 : decode cL_law 1054 = .ok (.iconst 1, 1) := by decide +kernel
theorem dL_law_1055 : decode cL_law 1055 = .ok (.iadd, 1) := by decide +kernel
theorem dL_law_1056 : decode cL_law 1056 = .ok (.iaload, 1) := by decide +kernel
theorem dL_law_1057 : decode cL_law 1057 = .ok (.invokevirtual 170, 3) := by decide +kernel
theorem dL_law_1060 : decode cL_law 1060 = .ok (.istore 6, 2) := by decide +kernel
theorem dL_law_1062 : decode cL_law 1062 = .ok (.aload_n 2, 1) := by decide +kernel
theorem dL_law_1063 : decode cL_law 1063 = .ok (.invokevirtual 105, 3) := by decide +kernel
theorem dL_law_1066 : decode cL_law 1066 = .ok (.iload 5, 2) := by decide +kernel
theorem dL_law_1068 : decode cL_law 1068 = .ok (.if_icmp .eq 5, 3) := by decide +kernel
theorem dL_law_1071 : decode cL_law 1071 = .ok (.iconst 0, 1) := by decide +kernel
theorem dL_law_1072 : decode cL_law 1072 = .ok (.ireturn, 1) := by decide +kernel
theorem dL_law_1073 : decode cL_law 1073 = .ok (.iload 5, 2) := by decide +kernel
theorem dL_law_1075 : decode cL_law 1075 = .ok (.ifCond .ne 15, 3) := by decide +kernel
theorem dL_law_1078 : decode cL_law 1078 = .ok (.aload_n 3, 1) := by decide +kernel
theorem dL_law_1079 : decode cL_law 1079 = .ok (.iconst 0, 1) := by decide +kernel
theorem dL_law_1080 : decode cL_law 1080 = .ok (.laload, 1) := by decide +kernel
theorem dL_law_1081 : decode cL_law 1081 = .ok (.iload 6, 2) := by decide +kernel
theorem dL_law_1083 : decode cL_law 1083 = .ok (.i2l, 1) := by decide +kernel
theorem dL_law_1084 : decode cL_law 1084 = .ok (.lcmp, 1) := by decide +kernel
theorem dL_law_1085 : decode cL_law 1085 = .ok (.ifCond .eq 5, 3) := by decide +kernel
theorem dL_law_1088 : decode cL_law 1088 = .ok (.iconst 0, 1) := by decide +kernel
theorem dL_law_1089 : decode cL_law 1089 = .ok (.ireturn, 1) := by decide +kernel
theorem dL_law_1090 : decode cL_law 1090 = .ok (.goto 757, 3) := by decide +kernel
theorem dL_law_1093 : decode cL_law 1093 = .ok (.aload_n 1, 1) := by decide +kernel
theorem dL_law_1094 : decode cL_law 1094 = .ok (.aload_n 0, 1) := by decide +kernel
theorem dL_law_1095 : decode cL_law 1095 = .ok (.iload 4, 2) := by decide +kernel
theorem dL_law_1097 : decode cL_law 1097 = .ok (.iconst 1, 1) := by decide +kernel
theorem dL_law_1098 : decode cL_law 1098 = .ok (.iadd, 1) := by decide +kernel
theorem dL_law_1099 : decode cL_law 1099 = .ok (.iaload, 1) := by decide +kernel
theorem dL_law_1100 : decode cL_law 1100 = .ok (.aload_n 3, 1) := by decide +kernel
theorem dL_law_1101 : decode cL_law 1101 = .ok (.invokestatic 171, 3) := by decide +kernel
theorem dL_law_1104 : decode cL_law 1104 = .ok (.istore 5, 2) := by decide +kernel
theorem dL_law_1106 : decode cL_law 1106 = .ok (.aload_n 2, 1) := by decide +kernel
theorem dL_law_1107 : decode cL_law 1107 = .ok (.aload_n 0, 1) := by decide +kernel
theorem dL_law_1108 : decode cL_law 1108 = .ok (.iload 4, 2) := by decide +kernel
theorem dL_law_1110 : decode cL_law 1110 = .ok (.iconst 1, 1) := by decide +kernel
theorem dL_law_1111 : decode cL_law 1111 = .ok (.iadd, 1) := by decide +kernel
theorem dL_law_1112 : decode cL_law 1112 = .ok (.iaload, 1) := by decide +kernel
theorem dL_law_1113 : decode cL_law 1113 = .ok (.invokevirtual 173, 3) := by decide +kernel
theorem dL_law_1116 : decode cL_law 1116 = .ok (.istore 6, 2) := by decide +kernel
theorem dL_law_1118 : decode cL_law 1118 = .ok (.aload_n 2, 1) := by decide +kernel
theorem dL_law_1119 : decode cL_law 1119 = .ok (.invokevirtual 105, 3) := by decide +kernel
theorem dL_law_1122 : decode cL_law 1122 = .ok (.iload 5, 2) := by decide +kernel
theorem dL_law_1124 : decode cL_law 1124 = .ok (.if_icmp .eq 5, 3) := by decide +kernel
theorem dL_law_1127 : decode cL_law 1127 = .ok (.iconst 0, 1) := by decide +kernel
theorem dL_law_1128 : decode cL_law 1128 = .ok (.ireturn, 1) := by decide +kernel
theorem dL_law_1129 : decode cL_law 1129 = .ok (.iload 5, 2) := by decide +kernel
theorem dL_law_1131 : decode cL_law 1131 = .ok (.ifCond .ne 15, 3) := by decide +kernel
theorem dL_law_1134 : decode cL_law 1134 = .ok (.aload_n 3, 1) := by decide +kernel
theorem dL_law_1135 : decode cL_law 1135 = .ok (.iconst 0, 1) := by decide +kernel
theorem dL_law_1136 : decode cL_law 1136 = .ok (.laload, 1) := by decide +kernel
theorem dL_law_1137 : decode cL_law 1137 = .ok (.iload 6, 2) := by decide +kernel
theorem dL_law_1139 : decode cL_law 1139 = .ok (.i2l, 1) := by decide +kernel
theorem dL_law_1140 : decode cL_law 1140 = .ok (.lcmp, 1) := by decide +kernel
theorem dL_law_1141 : decode cL_law 1141 = .ok (.ifCond .eq 5, 3) := by decide +kernel
theorem dL_law_1144 : decode cL_law 1144 = .ok (.iconst 0, 1) := by decide +kernel
theorem dL_law_1145 : decode cL_law 1145 = .ok (.ireturn, 1) := by decide +kernel
theorem dL_law_1146 : decode cL_law 1146 = .ok (.goto 701, 3) := by decide +kernel
theorem dL_law_1149 : decode cL_law 1149 = .ok (.aload_n 1, 1) := by decide +kernel
theorem dL_law_1150 : decode cL_law 1150 = .ok (.aload_n 3, 1) := by decide +kernel
theorem dL_law_1151 : decode cL_law 1151 = .ok (.invokestatic 174, 3) := by decide +kernel
theorem dL_law_1154 : decode cL_law 1154 = .ok (.istore 5, 2) := by decide +kernel
theorem dL_law_1156 : decode cL_law 1156 = .ok (.aload_n 2, 1) := by decide +kernel
theorem dL_law_1157 : decode cL_law 1157 = .ok (.invokevirtual 176, 3) := by decide +kernel
theorem dL_law_1160 : decode cL_law 1160 = .ok (.istore 6, 2) := by decide +kernel
theorem dL_law_1162 : decode cL_law 1162 = .ok (.aload_n 2, 1) := by decide +kernel
theorem dL_law_1163 : decode cL_law 1163 = .ok (.invokevirtual 105, 3) := by decide +kernel
theorem dL_law_1166 : decode cL_law 1166 = .ok (.iload 5, 2) := by decide +kernel
theorem dL_law_1168 : decode cL_law 1168 = .ok (.if_icmp .eq 5, 3) := by decide +kernel
theorem dL_law_1171 : decode cL_law 1171 = .ok (.iconst 0, 1) := by decide +kernel
theorem dL_law_1172 : decode cL_law 1172 = .ok (.ireturn, 1) := by decide +kernel
theorem dL_law_1173 : decode cL_law 1173 = .ok (.iload 5, 2) := by decide +kernel
theorem dL_law_1175 : decode cL_law 1175 = .ok (.ifCond .ne 15, 3) := by decide +kernel
theorem dL_law_1178 : decode cL_law 1178 = .ok (.aload_n 3, 1) := by decide +kernel
theorem dL_law_1179 : decode cL_law 1179 = .ok (.iconst 0, 1) := by decide +kernel
theorem dL_law_1180 : decode cL_law 1180 = .ok (.laload, 1) := by decide +kernel
theorem dL_law_1181 : decode cL_law 1181 = .ok (.iload 6, 2) := by decide +kernel
theorem dL_law_1183 : decode cL_law 1183 = .ok (.i2l, 1) := by decide +kernel
theorem dL_law_1184 : decode cL_law 1184 = .ok (.lcmp, 1) := by decide +kernel
theorem dL_law_1185 : decode cL_law 1185 = .ok (.ifCond .eq 5, 3) := by decide +kernel
theorem dL_law_1188 : decode cL_law 1188 = .ok (.iconst 0, 1) := by decide +kernel
theorem dL_law_1189 : decode cL_law 1189 = .ok (.ireturn, 1) := by decide +kernel
theorem dL_law_1190 : decode cL_law 1190 = .ok (.goto 657, 3) := by decide +kernel
theorem dL_law_1193 : decode cL_law 1193 = .ok (.aload_n 1, 1) := by decide +kernel
theorem dL_law_1194 : decode cL_law 1194 = .ok (.aload_n 0, 1) := by decide +kernel
theorem dL_law_1195 : decode cL_law 1195 = .ok (.iload 4, 2) := by decide +kernel
theorem dL_law_1197 : decode cL_law 1197 = .ok (.iconst 1, 1) := by decide +kernel
theorem dL_law_1198 : decode cL_law 1198 = .ok (.iadd, 1) := by decide +kernel
theorem dL_law_1199 : decode cL_law 1199 = .ok (.iaload, 1) := by decide +kernel
theorem dL_law_1200 : decode cL_law 1200 = .ok (.aload_n 3, 1) := by decide +kernel
theorem dL_law_1201 : decode cL_law 1201 = .ok (.invokestatic 177, 3) := by decide +kernel
theorem dL_law_1204 : decode cL_law 1204 = .ok (.istore 5, 2) := by decide +kernel
theorem dL_law_1206 : decode cL_law 1206 = .ok (.aload_n 2, 1) := by decide +kernel
theorem dL_law_1207 : decode cL_law 1207 = .ok (.aload_n 0, 1) := by decide +kernel
theorem dL_law_1208 : decode cL_law 1208 = .ok (.iload 4, 2) := by decide +kernel
theorem dL_law_1210 : decode cL_law 1210 = .ok (.iconst 1, 1) := by decide +kernel
theorem dL_law_1211 : decode cL_law 1211 = .ok (.iadd, 1) := by decide +kernel
theorem dL_law_1212 : decode cL_law 1212 = .ok (.iaload, 1) := by decide +kernel
theorem dL_law_1213 : decode cL_law 1213 = .ok (.invokevirtual 179, 3) := by decide +kernel
theorem dL_law_1216 : decode cL_law 1216 = .ok (.istore 6, 2) := by decide +kernel
theorem dL_law_1218 : decode cL_law 1218 = .ok (.aload_n 2, 1) := by decide +kernel
theorem dL_law_1219 : decode cL_law 1219 = .ok (.invokevirtual 105, 3) := by decide +kernel
theorem dL_law_1222 : decode cL_law 1222 = .ok (.iload 5, 2) := by decide +kernel
theorem dL_law_1224 : decode cL_law 1224 = .ok (.if_icmp .eq 5, 3) := by decide +kernel
theorem dL_law_1227 : decode cL_law 1227 = .ok (.iconst 0, 1) := by decide +kernel
theorem dL_law_1228 : decode cL_law 1228 = .ok (.ireturn, 1) := by decide +kernel
theorem dL_law_1229 : decode cL_law 1229 = .ok (.iload 5, 2) := by decide +kernel
theorem dL_law_1231 : decode cL_law 1231 = .ok (.ifCond .ne 15, 3) := by decide +kernel
theorem dL_law_1234 : decode cL_law 1234 = .ok (.aload_n 3, 1) := by decide +kernel
theorem dL_law_1235 : decode cL_law 1235 = .ok (.iconst 0, 1) := by decide +kernel
theorem dL_law_1236 : decode cL_law 1236 = .ok (.laload, 1) := by decide +kernel
theorem dL_law_1237 : decode cL_law 1237 = .ok (.iload 6, 2) := by decide +kernel
theorem dL_law_1239 : decode cL_law 1239 = .ok (.i2l, 1) := by decide +kernel
theorem dL_law_1240 : decode cL_law 1240 = .ok (.lcmp, 1) := by decide +kernel
theorem dL_law_1241 : decode cL_law 1241 = .ok (.ifCond .eq 5, 3) := by decide +kernel
theorem dL_law_1244 : decode cL_law 1244 = .ok (.iconst 0, 1) := by decide +kernel
theorem dL_law_1245 : decode cL_law 1245 = .ok (.ireturn, 1) := by decide +kernel
theorem dL_law_1246 : decode cL_law 1246 = .ok (.goto 601, 3) := by decide +kernel
theorem dL_law_1249 : decode cL_law 1249 = .ok (.aload_n 1, 1) := by decide +kernel
theorem dL_law_1250 : decode cL_law 1250 = .ok (.invokevirtual 180, 3) := by decide +kernel
theorem dL_law_1253 : decode cL_law 1253 = .ok (.aload_n 2, 1) := by decide +kernel
theorem dL_law_1254 : decode cL_law 1254 = .ok (.invokevirtual 183, 3) := by decide +kernel
theorem dL_law_1257 : decode cL_law 1257 = .ok (.if_icmp .eq 590, 3) := by decide +kernel
theorem dL_law_1260 : decode cL_law 1260 = .ok (.iconst 0, 1) := by decide +kernel
theorem dL_law_1261 : decode cL_law 1261 = .ok (.ireturn, 1) := by decide +kernel
theorem dL_law_1262 : decode cL_law 1262 = .ok (.aload_n 1, 1) := by decide +kernel
theorem dL_law_1263 : decode cL_law 1263 = .ok (.aload_n 3, 1) := by decide +kernel
theorem dL_law_1264 : decode cL_law 1264 = .ok (.invokestatic 184, 3) := by decide +kernel
theorem dL_law_1267 : decode cL_law 1267 = .ok (.istore 5, 2) := by decide +kernel
theorem dL_law_1269 : decode cL_law 1269 = .ok (.aload_n 2, 1) := by decide +kernel
theorem dL_law_1270 : decode cL_law 1270 = .ok (.invokevirtual 186, 3) := by decide +kernel
theorem dL_law_1273 : decode cL_law 1273 = .ok (.istore 6, 2) := by decide +kernel
theorem dL_law_1275 : decode cL_law 1275 = .ok (.aload_n 2, 1) := by decide +kernel
theorem dL_law_1276 : decode cL_law 1276 = .ok (.invokevirtual 105, 3) := by decide +kernel
theorem dL_law_1279 : decode cL_law 1279 = .ok (.iload 5, 2) := by decide +kernel
theorem dL_law_1281 : decode cL_law 1281 = .ok (.if_icmp .eq 5, 3) := by decide +kernel
theorem dL_law_1284 : decode cL_law 1284 = .ok (.iconst 0, 1) := by decide +kernel
theorem dL_law_1285 : decode cL_law 1285 = .ok (.ireturn, 1) := by decide +kernel
theorem dL_law_1286 : decode cL_law 1286 = .ok (.iload 5, 2) := by decide +kernel
theorem dL_law_1288 : decode cL_law 1288 = .ok (.ifCond .ne 15, 3) := by decide +kernel
theorem dL_law_1291 : decode cL_law 1291 = .ok (.aload_n 3, 1) := by decide +kernel
theorem dL_law_1292 : decode cL_law 1292 = .ok (.iconst 0, 1) := by decide +kernel
theorem dL_law_1293 : decode cL_law 1293 = .ok (.laload, 1) := by decide +kernel
theorem dL_law_1294 : decode cL_law 1294 = .ok (.iload 6, 2) := by decide +kernel
theorem dL_law_1296 : decode cL_law 1296 = .ok (.i2l, 1) := by decide +kernel
theorem dL_law_1297 : decode cL_law 1297 = .ok (.lcmp, 1) := by decide +kernel
theorem dL_law_1298 : decode cL_law 1298 = .ok (.ifCond .eq 5, 3) := by decide +kernel
theorem dL_law_1301 : decode cL_law 1301 = .ok (.iconst 0, 1) := by decide +kernel
theorem dL_law_1302 : decode cL_law 1302 = .ok (.ireturn, 1) := by decide +kernel
theorem dL_law_1303 : decode cL_law 1303 = .ok (.goto 544, 3) := by decide +kernel
theorem dL_law_1306 : decode cL_law 1306 = .ok (.aload_n 1, 1) := by decide +kernel
theorem dL_law_1307 : decode cL_law 1307 = .ok (.aload_n 0, 1) := by decide +kernel
theorem dL_law_1308 : decode cL_law 1308 = .ok (.iload 4, 2) := by decide +kernel
theorem dL_law_1310 : decode cL_law 1310 = .ok (.iconst 1, 1) := by decide +kernel
theorem dL_law_1311 : decode cL_law 1311 = .ok (.iadd, 1) := by decide +kernel
theorem dL_law_1312 : decode cL_law 1312 = .ok (.iaload, 1) := by decide +kernel
theorem dL_law_1313 : decode cL_law 1313 = .ok (.aload_n 0, 1) := by decide +kernel
theorem dL_law_1314 : decode cL_law 1314 = .ok (.iload 4, 2) := by decide +kernel
theorem dL_law_1316 : decode cL_law 1316 = .ok (.iconst 2, 1) := by decide +kernel
theorem dL_law_1317 : decode cL_law 1317 = .ok (.iadd, 1) := by decide +kernel
theorem dL_law_1318 : decode cL_law 1318 = .ok (.iaload, 1) := by decide +kernel
theorem dL_law_1319 : decode cL_law 1319 = .ok (.aload_n 3, 1) := by decide +kernel
theorem dL_law_1320 : decode cL_law 1320 = .ok (.invokestatic 187, 3) := by decide +kernel
theorem dL_law_1323 : decode cL_law 1323 = .ok (.istore 5, 2) := by decide +kernel
theorem dL_law_1325 : decode cL_law 1325 = .ok (.aload_n 2, 1) := by decide +kernel
theorem dL_law_1326 : decode cL_law 1326 = .ok (.aload_n 0, 1) := by decide +kernel
theorem dL_law_1327 : decode cL_law 1327 = .ok (.iload 4, 2) := by decide +kernel
theorem dL_law_1329 : decode cL_law 1329 = .ok (.iconst 1, 1) := by decide +kernel
theorem dL_law_1330 : decode cL_law 1330 = .ok (.iadd, 1) := by decide +kernel
theorem dL_law_1331 : decode cL_law 1331 = .ok (.iaload, 1) := by decide +kernel
theorem dL_law_1332 : decode cL_law 1332 = .ok (.aload_n 0, 1) := by decide +kernel
theorem dL_law_1333 : decode cL_law 1333 = .ok (.iload 4, 2) := by decide +kernel
theorem dL_law_1335 : decode cL_law 1335 = .ok (.iconst 2, 1) := by decide +kernel
theorem dL_law_1336 : decode cL_law 1336 = .ok (.iadd, 1) := by decide +kernel
theorem dL_law_1337 : decode cL_law 1337 = .ok (.iaload, 1) := by decide +kernel
theorem dL_law_1338 : decode cL_law 1338 = .ok (.invokevirtual 189, 3) := by decide +kernel
theorem dL_law_1341 : decode cL_law 1341 = .ok (.istore 6, 2) := by decide +kernel
theorem dL_law_1343 : decode cL_law 1343 = .ok (.aload_n 2, 1) := by decide +kernel
theorem dL_law_1344 : decode cL_law 1344 = .ok (.invokevirtual 105, 3) := by decide +kernel
theorem dL_law_1347 : decode cL_law 1347 = .ok (.iload 5, 2) := by decide +kernel
theorem dL_law_1349 : decode cL_law 1349 = .ok (.if_icmp .eq 5, 3) := by decide +kernel
theorem dL_law_1352 : decode cL_law 1352 = .ok (.iconst 0, 1) := by decide +kernel
theorem dL_law_1353 : decode cL_law 1353 = .ok (.ireturn, 1) := by decide +kernel
theorem dL_law_1354 : decode cL_law 1354 = .ok (.iload 5, 2) := by decide +kernel
theorem dL_law_1356 : decode cL_law 1356 = .ok (.ifCond .ne 15, 3) := by decide +kernel
theorem dL_law_1359 : decode cL_law 1359 = .ok (.aload_n 3, 1) := by decide +kernel
theorem dL_law_1360 : decode cL_law 1360 = .ok (.iconst 0, 1) := by decide +kernel
theorem dL_law_1361 : decode cL_law 1361 = .ok (.laload, 1) := by decide +kernel
theorem dL_law_1362 : decode cL_law 1362 = .ok (.iload 6, 2) := by decide +kernel
theorem dL_law_1364 : decode cL_law 1364 = .ok (.i2l, 1) := by decide +kernel
theorem dL_law_1365 : decode cL_law 1365 = .ok (.lcmp, 1) := by decide +kernel
theorem dL_law_1366 : decode cL_law 1366 = .ok (.ifCond .eq 5, 3) := by decide +kernel
theorem dL_law_1369 : decode cL_law 1369 = .ok (.iconst 0, 1) := by decide +kernel
theorem dL_law_1370 : decode cL_law 1370 = .ok (.ireturn, 1) := by decide +kernel
theorem dL_law_1371 : decode cL_law 1371 = .ok (.goto 476, 3) := by decide +kernel
theorem dL_law_1374 : decode cL_law 1374 = .ok (.aload_n 1, 1) := by decide +kernel
theorem dL_law_1375 : decode cL_law 1375 = .ok (.aload_n 0, 1) := by decide +kernel
theorem dL_law_1376 : decode cL_law 1376 = .ok (.iload 4, 2) := by decide +kernel
theorem dL_law_1378 : decode cL_law 1378 = .ok (.iconst 1, 1) := by decide +kernel
theorem dL_law_1379 : decode cL_law 1379 = .ok (.iadd, 1) := by decide +kernel
theorem dL_law_1380 : decode cL_law 1380 = .ok (.iaload, 1) := by decide +kernel
theorem dL_law_1381 : decode cL_law 1381 = .ok (.aload_n 0, 1) := by decide +kernel
theorem dL_law_1382 : decode cL_law 1382 = .ok (.iload 4, 2) := by decide +kernel
theorem dL_law_1384 : decode cL_law 1384 = .ok (.iconst 2, 1) := by decide +kernel
theorem dL_law_1385 : decode cL_law 1385 = .ok (.iadd, 1) := by decide +kernel
theorem dL_law_1386 : decode cL_law 1386 = .ok (.iaload, 1) := by decide +kernel
theorem dL_law_1387 : decode cL_law 1387 = .ok (.aload_n 3, 1) := by decide +kernel
theorem dL_law_1388 : decode cL_law 1388 = .ok (.invokestatic 190, 3) := by decide +kernel
theorem dL_law_1391 : decode cL_law 1391 = .ok (.istore 5, 2) := by decide +kernel
theorem dL_law_1393 : decode cL_law 1393 = .ok (.aload_n 2, 1) := by decide +kernel
theorem dL_law_1394 : decode cL_law 1394 = .ok (.aload_n 0, 1) := by decide +kernel
theorem dL_law_1395 : decode cL_law 1395 = .ok (.iload 4, 2) := by decide +kernel
theorem dL_law_1397 : decode cL_law 1397 = .ok (.iconst 1, 1) := by decide +kernel
theorem dL_law_1398 : decode cL_law 1398 = .ok (.iadd, 1) := by decide +kernel
theorem dL_law_1399 : decode cL_law 1399 = .ok (.iaload, 1) := by decide +kernel
theorem dL_law_1400 : decode cL_law 1400 = .ok (.aload_n 0, 1) := by decide +kernel
theorem dL_law_1401 : decode cL_law 1401 = .ok (.iload 4, 2) := by decide +kernel
theorem dL_law_1403 : decode cL_law 1403 = .ok (.iconst 2, 1) := by decide +kernel
theorem dL_law_1404 : decode cL_law 1404 = .ok (.iadd, 1) := by decide +kernel
theorem dL_law_1405 : decode cL_law 1405 = .ok (.iaload, 1) := by decide +kernel
theorem dL_law_1406 : decode cL_law 1406 = .ok (.invokevirtual 192, 3) := by decide +kernel
theorem dL_law_1409 : decode cL_law 1409 = .ok (.istore 6, 2) := by decide +kernel
theorem dL_law_1411 : decode cL_law 1411 = .ok (.aload_n 2, 1) := by decide +kernel
theorem dL_law_1412 : decode cL_law 1412 = .ok (.invokevirtual 105, 3) := by decide +kernel
theorem dL_law_1415 : decode cL_law 1415 = .ok (.iload 5, 2) := by decide +kernel
theorem dL_law_1417 : decode cL_law 1417 = .ok (.if_icmp .eq 5, 3) := by decide +kernel
theorem dL_law_1420 : decode cL_law 1420 = .ok (.iconst 0, 1) := by decide +kernel
theorem dL_law_1421 : decode cL_law 1421 = .ok (.ireturn, 1) := by decide +kernel
theorem dL_law_1422 : decode cL_law 1422 = .ok (.iload 5, 2) := by decide +kernel
theorem dL_law_1424 : decode cL_law 1424 = .ok (.ifCond .ne 15, 3) := by decide +kernel
theorem dL_law_1427 : decode cL_law 1427 = .ok (.aload_n 3, 1) := by decide +kernel
theorem dL_law_1428 : decode cL_law 1428 = .ok (.iconst 0, 1) := by decide +kernel
theorem dL_law_1429 : decode cL_law 1429 = .ok (.laload, 1) := by decide +kernel
theorem dL_law_1430 : decode cL_law 1430 = .ok (.iload 6, 2) := by decide +kernel
theorem dL_law_1432 : decode cL_law 1432 = .ok (.i2l, 1) := by decide +kernel
theorem dL_law_1433 : decode cL_law 1433 = .ok (.lcmp, 1) := by decide +kernel
theorem dL_law_1434 : decode cL_law 1434 = .ok (.ifCond .eq 5, 3) := by decide +kernel
theorem dL_law_1437 : decode cL_law 1437 = .ok (.iconst 0, 1) := by decide +kernel
theorem dL_law_1438 : decode cL_law 1438 = .ok (.ireturn, 1) := by decide +kernel
theorem dL_law_1439 : decode cL_law 1439 = .ok (.goto 408, 3) := by decide +kernel
theorem dL_law_1442 : decode cL_law 1442 = .ok (.aload_n 1, 1) := by decide +kernel
theorem dL_law_1443 : decode cL_law 1443 = .ok (.aload_n 0, 1) := by decide +kernel
theorem dL_law_1444 : decode cL_law 1444 = .ok (.iload 4, 2) := by decide +kernel
theorem dL_law_1446 : decode cL_law 1446 = .ok (.iconst 1, 1) := by decide +kernel
theorem dL_law_1447 : decode cL_law 1447 = .ok (.iadd, 1) := by decide +kernel
theorem dL_law_1448 : decode cL_law 1448 = .ok (.iaload, 1) := by decide +kernel
theorem dL_law_1449 : decode cL_law 1449 = .ok (.aload_n 0, 1) := by decide +kernel
theorem dL_law_1450 : decode cL_law 1450 = .ok (.iload 4, 2) := by decide +kernel
theorem dL_law_1452 : decode cL_law 1452 = .ok (.iconst 2, 1) := by decide +kernel
theorem dL_law_1453 : decode cL_law 1453 = .ok (.iadd, 1) := by decide +kernel
theorem dL_law_1454 : decode cL_law 1454 = .ok (.iaload, 1) := by decide +kernel
theorem dL_law_1455 : decode cL_law 1455 = .ok (.aload_n 3, 1) := by decide +kernel
theorem dL_law_1456 : decode cL_law 1456 = .ok (.invokestatic 193, 3) := by decide +kernel
theorem dL_law_1459 : decode cL_law 1459 = .ok (.istore 5, 2) := by decide +kernel
theorem dL_law_1461 : decode cL_law 1461 = .ok (.aload_n 2, 1) := by decide +kernel
theorem dL_law_1462 : decode cL_law 1462 = .ok (.aload_n 0, 1) := by decide +kernel
theorem dL_law_1463 : decode cL_law 1463 = .ok (.iload 4, 2) := by decide +kernel
theorem dL_law_1465 : decode cL_law 1465 = .ok (.iconst 1, 1) := by decide +kernel
theorem dL_law_1466 : decode cL_law 1466 = .ok (.iadd, 1) := by decide +kernel
theorem dL_law_1467 : decode cL_law 1467 = .ok (.iaload, 1) := by decide +kernel
theorem dL_law_1468 : decode cL_law 1468 = .ok (.aload_n 0, 1) := by decide +kernel
theorem dL_law_1469 : decode cL_law 1469 = .ok (.iload 4, 2) := by decide +kernel
theorem dL_law_1471 : decode cL_law 1471 = .ok (.iconst 2, 1) := by decide +kernel
theorem dL_law_1472 : decode cL_law 1472 = .ok (.iadd, 1) := by decide +kernel
theorem dL_law_1473 : decode cL_law 1473 = .ok (.iaload, 1) := by decide +kernel
theorem dL_law_1474 : decode cL_law 1474 = .ok (.invokevirtual 195, 3) := by decide +kernel
theorem dL_law_1477 : decode cL_law 1477 = .ok (.istore 6, 2) := by decide +kernel
theorem dL_law_1479 : decode cL_law 1479 = .ok (.aload_n 2, 1) := by decide +kernel
theorem dL_law_1480 : decode cL_law 1480 = .ok (.invokevirtual 105, 3) := by decide +kernel
theorem dL_law_1483 : decode cL_law 1483 = .ok (.iload 5, 2) := by decide +kernel
theorem dL_law_1485 : decode cL_law 1485 = .ok (.if_icmp .eq 5, 3) := by decide +kernel
theorem dL_law_1488 : decode cL_law 1488 = .ok (.iconst 0, 1) := by decide +kernel
theorem dL_law_1489 : decode cL_law 1489 = .ok (.ireturn, 1) := by decide +kernel
theorem dL_law_1490 : decode cL_law 1490 = .ok (.iload 5, 2) := by decide +kernel
theorem dL_law_1492 : decode cL_law 1492 = .ok (.ifCond .ne 22, 3) := by decide +kernel
theorem dL_law_1495 : decode cL_law 1495 = .ok (.aload_n 3, 1) := by decide +kernel
theorem dL_law_1496 : decode cL_law 1496 = .ok (.iconst 0, 1) := by decide +kernel
theorem dL_law_1497 : decode cL_law 1497 = .ok (.laload, 1) := by decide +kernel
theorem dL_law_1498 : decode cL_law 1498 = .ok (.iload 6, 2) := by decide +kernel
theorem dL_law_1500 : decode cL_law 1500 = .ok (.ifCond .eq 7, 3) := by decide +kernel
theorem dL_law_1503 : decode cL_law 1503 = .ok (.lconst 1, 1) := by decide +kernel
theorem dL_law_1504 : decode cL_law 1504 = .ok (.goto 4, 3) := by decide +kernel
theorem dL_law_1507 : decode cL_law 1507 = .ok (.lconst 0, 1) := by decide +kernel
theorem dL_law_1508 : decode cL_law 1508 = .ok (.lcmp, 1) := by decide +kernel
theorem dL_law_1509 : decode cL_law 1509 = .ok (.ifCond .eq 5, 3) := by decide +kernel
theorem dL_law_1512 : decode cL_law 1512 = .ok (.iconst 0, 1) := by decide +kernel
theorem dL_law_1513 : decode cL_law 1513 = .ok (.ireturn, 1) := by decide +kernel
theorem dL_law_1514 : decode cL_law 1514 = .ok (.goto 333, 3) := by decide +kernel
theorem dL_law_1517 : decode cL_law 1517 = .ok (.aload_n 1, 1) := by decide +kernel
theorem dL_law_1518 : decode cL_law 1518 = .ok (.aload_n 0, 1) := by decide +kernel
theorem dL_law_1519 : decode cL_law 1519 = .ok (.iload 4, 2) := by decide +kernel
theorem dL_law_1521 : decode cL_law 1521 = .ok (.iconst 1, 1) := by decide +kernel
theorem dL_law_1522 : decode cL_law 1522 = .ok (.iadd, 1) := by decide +kernel
theorem dL_law_1523 : decode cL_law 1523 = .ok (.iaload, 1) := by decide +kernel
theorem dL_law_1524 : decode cL_law 1524 = .ok (.aload_n 3, 1) := by decide +kernel
theorem dL_law_1525 : decode cL_law 1525 = .ok (.invokestatic 196, 3) := by decide +kernel
theorem dL_law_1528 : decode cL_law 1528 = .ok (.istore 5, 2) := by decide +kernel
theorem dL_law_1530 : decode cL_law 1530 = .ok (.aload_n 2, 1) := by decide +kernel
theorem dL_law_1531 : decode cL_law 1531 = .ok (.aload_n 0, 1) := by decide +kernel
theorem dL_law_1532 : decode cL_law 1532 = .ok (.iload 4, 2) := by decide +kernel
theorem dL_law_1534 : decode cL_law 1534 = .ok (.iconst 1, 1) := by decide +kernel
theorem dL_law_1535 : decode cL_law 1535 = .ok (.iadd, 1) := by decide +kernel
theorem dL_law_1536 : decode cL_law 1536 = .ok (.iaload, 1) := by decide +kernel
theorem dL_law_1537 : decode cL_law 1537 = .ok (.invokevirtual 198, 3) := by decide +kernel
theorem dL_law_1540 : decode cL_law 1540 = .ok (.istore 6, 2) := by decide +kernel
theorem dL_law_1542 : decode cL_law 1542 = .ok (.aload_n 2, 1) := by decide +kernel
theorem dL_law_1543 : decode cL_law 1543 = .ok (.invokevirtual 105, 3) := by decide +kernel
theorem dL_law_1546 : decode cL_law 1546 = .ok (.iload 5, 2) := by decide +kernel
theorem dL_law_1548 : decode cL_law 1548 = .ok (.if_icmp .eq 5, 3) := by decide +kernel
theorem dL_law_1551 : decode cL_law 1551 = .ok (.iconst 0, 1) := by decide +kernel
theorem dL_law_1552 : decode cL_law 1552 = .ok (.ireturn, 1) := by decide +kernel
theorem dL_law_1553 : decode cL_law 1553 = .ok (.iload 5, 2) := by decide +kernel
theorem dL_law_1555 : decode cL_law 1555 = .ok (.ifCond .ne 15, 3) := by decide +kernel
theorem dL_law_1558 : decode cL_law 1558 = .ok (.aload_n 3, 1) := by decide +kernel
theorem dL_law_1559 : decode cL_law 1559 = .ok (.iconst 0, 1) := by decide +kernel
theorem dL_law_1560 : decode cL_law 1560 = .ok (.laload, 1) := by decide +kernel
theorem dL_law_1561 : decode cL_law 1561 = .ok (.iload 6, 2) := by decide +kernel
theorem dL_law_1563 : decode cL_law 1563 = .ok (.i2l, 1) := by decide +kernel
theorem dL_law_1564 : decode cL_law 1564 = .ok (.lcmp, 1) := by decide +kernel
theorem dL_law_1565 : decode cL_law 1565 = .ok (.ifCond .eq 5, 3) := by decide +kernel
theorem dL_law_1568 : decode cL_law 1568 = .ok (.iconst 0, 1) := by decide +kernel
theorem dL_law_1569 : decode cL_law 1569 = .ok (.ireturn, 1) := by decide +kernel
theorem dL_law_1570 : decode cL_law 1570 = .ok (.goto 277, 3) := by decide +kernel
theorem dL_law_1573 : decode cL_law 1573 = .ok (.aload_n 1, 1) := by decide +kernel
theorem dL_law_1574 : decode cL_law 1574 = .ok (.invokevirtual 199, 3) := by decide +kernel
theorem dL_law_1577 : decode cL_law 1577 = .ok (.aload_n 2, 1) := by decide +kernel
theorem dL_law_1578 : decode cL_law 1578 = .ok (.invokevirtual 202, 3) := by decide +kernel
theorem dL_law_1581 : decode cL_law 1581 = .ok (.if_icmp .eq 266, 3) := by decide +kernel
theorem dL_law_1584 : decode cL_law 1584 = .ok (.iconst 0, 1) := by decide +kernel
theorem dL_law_1585 : decode cL_law 1585 = .ok (.ireturn, 1) := by decide +kernel
theorem dL_law_1586 : decode cL_law 1586 = .ok (.aload_n 1, 1) := by decide +kernel
theorem dL_law_1587 : decode cL_law 1587 = .ok (.aload_n 0, 1) := by decide +kernel
theorem dL_law_1588 : decode cL_law 1588 = .ok (.iload 4, 2) := by decide +kernel
theorem dL_law_1590 : decode cL_law 1590 = .ok (.iconst 1, 1) := by decide +kernel
theorem dL_law_1591 : decode cL_law 1591 = .ok (.iadd, 1) := by decide +kernel
theorem dL_law_1592 : decode cL_law 1592 = .ok (.iaload, 1) := by decide +kernel
theorem dL_law_1593 : decode cL_law 1593 = .ok (.aload_n 0, 1) := by decide +kernel
theorem dL_law_1594 : decode cL_law 1594 = .ok (.iload 4, 2) := by decide +kernel
theorem dL_law_1596 : decode cL_law 1596 = .ok (.iconst 2, 1) := by decide +kernel
theorem dL_law_1597 : decode cL_law 1597 = .ok (.iadd, 1) := by decide +kernel
theorem dL_law_1598 : decode cL_law 1598 = .ok (.iaload, 1) := by decide +kernel
theorem dL_law_1599 : decode cL_law 1599 = .ok (.aload_n 3, 1) := by decide +kernel
theorem dL_law_1600 : decode cL_law 1600 = .ok (.invokestatic 203, 3) := by decide +kernel
theorem dL_law_1603 : decode cL_law 1603 = .ok (.istore 5, 2) := by decide +kernel
theorem dL_law_1605 : decode cL_law 1605 = .ok (.aload_n 2, 1) := by decide +kernel
theorem dL_law_1606 : decode cL_law 1606 = .ok (.aload_n 0, 1) := by decide +kernel
theorem dL_law_1607 : decode cL_law 1607 = .ok (.iload 4, 2) := by decide +kernel
theorem dL_law_1609 : decode cL_law 1609 = .ok (.iconst 1, 1) := by decide +kernel
theorem dL_law_1610 : decode cL_law 1610 = .ok (.iadd, 1) := by decide +kernel
theorem dL_law_1611 : decode cL_law 1611 = .ok (.iaload, 1) := by decide +kernel
theorem dL_law_1612 : decode cL_law 1612 = .ok (.aload_n 0, 1) := by decide +kernel
theorem dL_law_1613 : decode cL_law 1613 = .ok (.iload 4, 2) := by decide +kernel
theorem dL_law_1615 : decode cL_law 1615 = .ok (.iconst 2, 1) := by decide +kernel
theorem dL_law_1616 : decode cL_law 1616 = .ok (.iadd, 1) := by decide +kernel
theorem dL_law_1617 : decode cL_law 1617 = .ok (.iaload, 1) := by decide +kernel
theorem dL_law_1618 : decode cL_law 1618 = .ok (.invokevirtual 205, 3) := by decide +kernel
theorem dL_law_1621 : decode cL_law 1621 = .ok (.istore 6, 2) := by decide +kernel
theorem dL_law_1623 : decode cL_law 1623 = .ok (.aload_n 2, 1) := by decide +kernel
theorem dL_law_1624 : decode cL_law 1624 = .ok (.invokevirtual 105, 3) := by decide +kernel
theorem dL_law_1627 : decode cL_law 1627 = .ok (.iload 5, 2) := by decide +kernel
theorem dL_law_1629 : decode cL_law 1629 = .ok (.if_icmp .eq 5, 3) := by decide +kernel
theorem dL_law_1632 : decode cL_law 1632 = .ok (.iconst 0, 1) := by decide +kernel
theorem dL_law_1633 : decode cL_law 1633 = .ok (.ireturn, 1) := by decide +kernel
theorem dL_law_1634 : decode cL_law 1634 = .ok (.iload 5, 2) := by decide +kernel
theorem dL_law_1636 : decode cL_law 1636 = .ok (.ifCond .ne 15, 3) := by decide +kernel
theorem dL_law_1639 : decode cL_law 1639 = .ok (.aload_n 3, 1) := by decide +kernel
theorem dL_law_1640 : decode cL_law 1640 = .ok (.iconst 0, 1) := by decide +kernel
theorem dL_law_1641 : decode cL_law 1641 = .ok (.laload, 1) := by decide +kernel
theorem dL_law_1642 : decode cL_law 1642 = .ok (.iload 6, 2) := by decide +kernel
theorem dL_law_1644 : decode cL_law 1644 = .ok (.i2l, 1) := by decide +kernel
theorem dL_law_1645 : decode cL_law 1645 = .ok (.lcmp, 1) := by decide +kernel
theorem dL_law_1646 : decode cL_law 1646 = .ok (.ifCond .eq 5, 3) := by decide +kernel
theorem dL_law_1649 : decode cL_law 1649 = .ok (.iconst 0, 1) := by decide +kernel
theorem dL_law_1650 : decode cL_law 1650 = .ok (.ireturn, 1) := by decide +kernel
theorem dL_law_1651 : decode cL_law 1651 = .ok (.goto 196, 3) := by decide +kernel
theorem dL_law_1654 : decode cL_law 1654 = .ok (.aload_n 1, 1) := by decide +kernel
theorem dL_law_1655 : decode cL_law 1655 = .ok (.aload_n 0, 1) := by decide +kernel
theorem dL_law_1656 : decode cL_law 1656 = .ok (.iload 4, 2) := by decide +kernel
theorem dL_law_1658 : decode cL_law 1658 = .ok (.iconst 1, 1) := by decide +kernel
theorem dL_law_1659 : decode cL_law 1659 = .ok (.iadd, 1) := by decide +kernel
theorem dL_law_1660 : decode cL_law 1660 = .ok (.iaload, 1) := by decide +kernel
theorem dL_law_1661 : decode cL_law 1661 = .ok (.aload_n 3, 1) := by decide +kernel
theorem dL_law_1662 : decode cL_law 1662 = .ok (.invokestatic 206, 3) := by decide +kernel
theorem dL_law_1665 : decode cL_law 1665 = .ok (.istore 5, 2) := by decide +kernel
theorem dL_law_1667 : decode cL_law 1667 = .ok (.aload_n 2, 1) := by decide +kernel
theorem dL_law_1668 : decode cL_law 1668 = .ok (.aload_n 0, 1) := by decide +kernel
theorem dL_law_1669 : decode cL_law 1669 = .ok (.iload 4, 2) := by decide +kernel
theorem dL_law_1671 : decode cL_law 1671 = .ok (.iconst 1, 1) := by decide +kernel
theorem dL_law_1672 : decode cL_law 1672 = .ok (.iadd, 1) := by decide +kernel
theorem dL_law_1673 : decode cL_law 1673 = .ok (.iaload, 1) := by decide +kernel
theorem dL_law_1674 : decode cL_law 1674 = .ok (.invokevirtual 208, 3) := by decide +kernel
theorem dL_law_1677 : decode cL_law 1677 = .ok (.istore 6, 2) := by decide +kernel
theorem dL_law_1679 : decode cL_law 1679 = .ok (.aload_n 2, 1) := by decide +kernel
theorem dL_law_1680 : decode cL_law 1680 = .ok (.invokevirtual 105, 3) := by decide +kernel
theorem dL_law_1683 : decode cL_law 1683 = .ok (.iload 5, 2) := by decide +kernel
theorem dL_law_1685 : decode cL_law 1685 = .ok (.if_icmp .eq 5, 3) := by decide +kernel
theorem dL_law_1688 : decode cL_law 1688 = .ok (.iconst 0, 1) := by decide +kernel
theorem dL_law_1689 : decode cL_law 1689 = .ok (.ireturn, 1) := by decide +kernel
theorem dL_law_1690 : decode cL_law 1690 = .ok (.iload 5, 2) := by decide +kernel
theorem dL_law_1692 : decode cL_law 1692 = .ok (.ifCond .ne 15, 3) := by decide +kernel
theorem dL_law_1695 : decode cL_law 1695 = .ok (.aload_n 3, 1) := by decide +kernel
theorem dL_law_1696 : decode cL_law 1696 = .ok (.iconst 0, 1) := by decide +kernel
theorem dL_law_1697 : decode cL_law 1697 = .ok (.laload, 1) := by decide +kernel
theorem dL_law_1698 : decode cL_law 1698 = .ok (.iload 6, 2) := by decide +kernel
theorem dL_law_1700 : decode cL_law 1700 = .ok (.i2l, 1) := by decide +kernel
theorem dL_law_1701 : decode cL_law 1701 = .ok (.lcmp, 1) := by decide +kernel
theorem dL_law_1702 : decode cL_law 1702 = .ok (.ifCond .eq 5, 3) := by decide +kernel
theorem dL_law_1705 : decode cL_law 1705 = .ok (.iconst 0, 1) := by decide +kernel
theorem dL_law_1706 : decode cL_law 1706 = .ok (.ireturn, 1) := by decide +kernel
theorem dL_law_1707 : decode cL_law 1707 = .ok (.goto 140, 3) := by decide +kernel
theorem dL_law_1710 : decode cL_law 1710 = .ok (.aload_n 1, 1) := by decide +kernel
theorem dL_law_1711 : decode cL_law 1711 = .ok (.invokevirtual 209, 3) := by decide +kernel
theorem dL_law_1714 : decode cL_law 1714 = .ok (.aload_n 2, 1) := by decide +kernel
theorem dL_law_1715 : decode cL_law 1715 = .ok (.invokevirtual 212, 3) := by decide +kernel
theorem dL_law_1718 : decode cL_law 1718 = .ok (.if_icmp .eq 129, 3) := by decide +kernel
theorem dL_law_1721 : decode cL_law 1721 = .ok (.iconst 0, 1) := by decide +kernel
theorem dL_law_1722 : decode cL_law 1722 = .ok (.ireturn, 1) := by decide +kernel
theorem dL_law_1723 : decode cL_law 1723 = .ok (.aload_n 1, 1) := by decide +kernel
theorem dL_law_1724 : decode cL_law 1724 = .ok (.invokevirtual 213, 3) := by decide +kernel
theorem dL_law_1727 : decode cL_law 1727 = .ok (.aload_n 2, 1) := by decide +kernel
theorem dL_law_1728 : decode cL_law 1728 = .ok (.invokevirtual 216, 3) := by decide +kernel
theorem dL_law_1731 : decode cL_law 1731 = .ok (.if_icmp .eq 116, 3) := by decide +kernel
theorem dL_law_1734 : decode cL_law 1734 = .ok (.iconst 0, 1) := by decide +kernel
theorem dL_law_1735 : decode cL_law 1735 = .ok (.ireturn, 1) := by decide +kernel
theorem dL_law_1736 : decode cL_law 1736 = .ok (.aload_n 1, 1) := by decide +kernel
theorem dL_law_1737 : decode cL_law 1737 = .ok (.aload_n 0, 1) := by decide +kernel
theorem dL_law_1738 : decode cL_law 1738 = .ok (.iload 4, 2) := by decide +kernel
theorem dL_law_1740 : decode cL_law 1740 = .ok (.iconst 1, 1) := by decide +kernel
theorem dL_law_1741 : decode cL_law 1741 = .ok (.iadd, 1) := by decide +kernel
theorem dL_law_1742 : decode cL_law 1742 = .ok (.iaload, 1) := by decide +kernel
theorem dL_law_1743 : decode cL_law 1743 = .ok (.aload_n 3, 1) := by decide +kernel
theorem dL_law_1744 : decode cL_law 1744 = .ok (.invokestatic 217, 3) := by decide +kernel
theorem dL_law_1747 : decode cL_law 1747 = .ok (.istore 5, 2) := by decide +kernel
theorem dL_law_1749 : decode cL_law 1749 = .ok (.aload_n 2, 1) := by decide +kernel
theorem dL_law_1750 : decode cL_law 1750 = .ok (.aload_n 0, 1) := by decide +kernel
theorem dL_law_1751 : decode cL_law 1751 = .ok (.iload 4, 2) := by decide +kernel
theorem dL_law_1753 : decode cL_law 1753 = .ok (.iconst 1, 1) := by decide +kernel
theorem dL_law_1754 : decode cL_law 1754 = .ok (.iadd, 1) := by decide +kernel
theorem dL_law_1755 : decode cL_law 1755 = .ok (.iaload, 1) := by decide +kernel
theorem dL_law_1756 : decode cL_law 1756 = .ok (.invokevirtual 219, 3) := by decide +kernel
theorem dL_law_1759 : decode cL_law 1759 = .ok (.istore 6, 2) := by decide +kernel
theorem dL_law_1761 : decode cL_law 1761 = .ok (.aload_n 2, 1) := by decide +kernel
theorem dL_law_1762 : decode cL_law 1762 = .ok (.invokevirtual 105, 3) := by decide +kernel
theorem dL_law_1765 : decode cL_law 1765 = .ok (.iload 5, 2) := by decide +kernel
theorem dL_law_1767 : decode cL_law 1767 = .ok (.if_icmp .eq 5, 3) := by decide +kernel
theorem dL_law_1770 : decode cL_law 1770 = .ok (.iconst 0, 1) := by decide +kernel
theorem dL_law_1771 : decode cL_law 1771 = .ok (.ireturn, 1) := by decide +kernel
theorem dL_law_1772 : decode cL_law 1772 = .ok (.iload 5, 2) := by decide +kernel
theorem dL_law_1774 : decode cL_law 1774 = .ok (.ifCond .ne 15, 3) := by decide +kernel
theorem dL_law_1777 : decode cL_law 1777 = .ok (.aload_n 3, 1) := by decide +kernel
theorem dL_law_1778 : decode cL_law 1778 = .ok (.iconst 0, 1) := by decide +kernel
theorem dL_law_1779 : decode cL_law 1779 = .ok (.laload, 1) := by decide +kernel
theorem dL_law_1780 : decode cL_law 1780 = .ok (.iload 6, 2) := by decide +kernel
theorem dL_law_1782 : decode cL_law 1782 = .ok (.i2l, 1) := by decide +kernel
theorem dL_law_1783 : decode cL_law 1783 = .ok (.lcmp, 1) := by decide +kernel
theorem dL_law_1784 : decode cL_law 1784 = .ok (.ifCond .eq 5, 3) := by decide +kernel
theorem dL_law_1787 : decode cL_law 1787 = .ok (.iconst 0, 1) := by decide +kernel
theorem dL_law_1788 : decode cL_law 1788 = .ok (.ireturn, 1) := by decide +kernel
theorem dL_law_1789 : decode cL_law 1789 = .ok (.goto 58, 3) := by decide +kernel
theorem dL_law_1792 : decode cL_law 1792 = .ok (.aload_n 1, 1) := by decide +kernel
theorem dL_law_1793 : decode cL_law 1793 = .ok (.invokevirtual 220, 3) := by decide +kernel
theorem dL_law_1796 : decode cL_law 1796 = .ok (.dstore 5, 2) := by decide +kernel
theorem dL_law_1798 : decode cL_law 1798 = .ok (.aload_n 2, 1) := by decide +kernel
theorem dL_law_1799 : decode cL_law 1799 = .ok (.invokevirtual 224, 3) := by decide +kernel
theorem dL_law_1802 : decode cL_law 1802 = .ok (.dstore 7, 2) := by decide +kernel
theorem dL_law_1804 : decode cL_law 1804 = .ok (.dload 5, 2) := by decide +kernel
theorem dL_law_1806 : decode cL_law 1806 = .ok (.dload 7, 2) := by decide +kernel
theorem dL_law_1808 : decode cL_law 1808 = .ok (.dcmp .l, 1) := by decide +kernel
theorem dL_law_1809 : decode cL_law 1809 = .ok (.ifCond .eq 21, 3) := by decide +kernel
theorem dL_law_1812 : decode cL_law 1812 = .ok (.dload 5, 2) := by decide +kernel
theorem dL_law_1814 : decode cL_law 1814 = .ok (.dload 5, 2) := by decide +kernel
theorem dL_law_1816 : decode cL_law 1816 = .ok (.dcmp .l, 1) := by decide +kernel
theorem dL_law_1817 : decode cL_law 1817 = .ok (.ifCond .eq 11, 3) := by decide +kernel
theorem dL_law_1820 : decode cL_law 1820 = .ok (.dload 7, 2) := by decide +kernel
theorem dL_law_1822 : decode cL_law 1822 = .ok (.dload 7, 2) := by decide +kernel
theorem dL_law_1824 : decode cL_law 1824 = .ok (.dcmp .l, 1) := by decide +kernel
theorem dL_law_1825 : decode cL_law 1825 = .ok (.ifCond .ne 5, 3) := by decide +kernel
theorem dL_law_1828 : decode cL_law 1828 = .ok (.iconst 0, 1) := by decide +kernel
theorem dL_law_1829 : decode cL_law 1829 = .ok (.ireturn, 1) := by decide +kernel
theorem dL_law_1830 : decode cL_law 1830 = .ok (.goto 17, 3) := by decide +kernel
theorem dL_law_1833 : decode cL_law 1833 = .ok (.aload_n 1, 1) := by decide +kernel
theorem dL_law_1834 : decode cL_law 1834 = .ok (.invokevirtual 225, 3) := by decide +kernel
theorem dL_law_1837 : decode cL_law 1837 = .ok (.aload_n 2, 1) := by decide +kernel
theorem dL_law_1838 : decode cL_law 1838 = .ok (.invokevirtual 229, 3) := by decide +kernel
theorem dL_law_1841 : decode cL_law 1841 = .ok (.lcmp, 1) := by decide +kernel
theorem dL_law_1842 : decode cL_law 1842 = .ok (.ifCond .eq 5, 3) := by decide +kernel
theorem dL_law_1845 : decode cL_law 1845 = .ok (.iconst 0, 1) := by decide +kernel
theorem dL_law_1846 : decode cL_law 1846 = .ok (.ireturn, 1) := by decide +kernel
theorem dL_law_1847 : decode cL_law 1847 = .ok (.iinc 4 5, 3) := by decide +kernel
theorem dL_law_1850 : decode cL_law 1850 = .ok (.goto (-1827), 3) := by decide +kernel
theorem dL_law_1853 : decode cL_law 1853 = .ok (.iconst 1, 1) := by decide +kernel
theorem dL_law_1854 : decode cL_law 1854 = .ok (.ireturn, 1) := by decide +kernel
