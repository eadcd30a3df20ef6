set_option maxRecDepth 20000 in
theorem ggL_act_L_below : GoodIn wsL_act wsL_below := goodIn_r _ [17, 18] (by decide +kernel) (by decide +kernel)
set_option maxRecDepth 20000 in
theorem gL_act_L_below : GoodIn wsL_act (va_wsS RL 15 yL_below wsL_below) := goodIn_app (goodIn_of _ (by decide +kernel)) ggL_act_L_below
set_option maxRecDepth 20000 in
theorem ggL_act_X2_on : GoodIn wsL_act wsX2_on := goodIn_r _ [23, 24, 179, 180, 181] (by decide +kernel) (by decide +kernel)
set_option maxRecDepth 20000 in
theorem gL_act_X2_on : GoodIn wsL_act (wsV RL 21 RX2 yX2_on wsX2_on) := goodIn_app (goodIn_of _ (by decide +kernel)) ggL_act_X2_on
set_option maxRecDepth 20000 in
theorem ggL_act_X2_add : GoodIn wsL_act wsX2_add := goodIn_r _ [28, 24, 29, 179, 180, 181] (by decide +kernel) (by decide +kernel)
set_option maxRecDepth 20000 in
theorem gL_act_X2_add : GoodIn wsL_act (wsV RL 29 RX2 yX2_add wsX2_add) := goodIn_app (goodIn_of _ (by decide +kernel)) ggL_act_X2_add
set_option maxRecDepth 20000 in
theorem ggL_act_X1_send : GoodIn wsL_act wsX1_send := goodIn_ca (goodIn_ca (goodIn_ca (goodIn_r _ [34, 35, 36, 37, 38, 39, 40, 41, 42, 43, 44, 33, 45, 46, 47, 48, 49, 50, 51, 52, 53, 54, 55, 56, 57, 58, 59, 60, 61, 62, 63, 64, 182, 183, 184, 185, 186, 187, 188, 189, 190, 191] (by decide +kernel) (by decide +kernel)) (goodIn_sub (fun _ h => List.mem_cons_of_mem _ (List.mem_append_left _ (List.mem_append_left _ (List.mem_append_right _ h)))) (by decide +kernel))) (goodIn_sub (fun _ h => List.mem_cons_of_mem _ (List.mem_append_left _ (List.mem_append_right _ h))) (by decide +kernel))) (goodIn_sub (fun _ h => List.mem_cons_of_mem _ (List.mem_append_right _ h)) (by decide +kernel))
set_option maxRecDepth 20000 in
theorem gL_act_X1_send : GoodIn wsL_act (wsV RL 33 RX1 yX1_send wsX1_send) := goodIn_app (goodIn_of _ (by decide +kernel)) ggL_act_X1_send
set_option maxRecDepth 20000 in
theorem ggL_act_X2_remove : GoodIn wsL_act wsX2_remove := goodIn_r _ [68, 24, 29, 179, 180, 181] (by decide +kernel) (by decide +kernel)
set_option maxRecDepth 20000 in
theorem gL_act_X2_remove : GoodIn wsL_act (wsV RL 39 RX2 yX2_remove wsX2_remove) := goodIn_app (goodIn_of _ (by decide +kernel)) ggL_act_X2_remove
set_option maxRecDepth 20000 in
theorem ggL_act_X1_recall : GoodIn wsL_act wsX1_recall := goodIn_ca (goodIn_r _ [72, 38, 39, 40, 41, 42, 37, 73, 74, 75, 33, 76, 46, 47, 77, 78, 79, 80, 182, 183, 184, 185, 186, 187, 188, 189, 190, 191] (by decide +kernel) (by decide +kernel)) (goodIn_sub (fun _ h => List.mem_cons_of_mem _ (List.mem_append_left _ (List.mem_append_right _ h))) (by decide +kernel))
set_option maxRecDepth 20000 in
theorem gL_act_X1_recall : GoodIn wsL_act (wsV RL 43 RX1 yX1_recall wsX1_recall) := goodIn_app (goodIn_of _ (by decide +kernel)) ggL_act_X1_recall
set_option maxRecDepth 20000 in
theorem ggL_act_X1_persuade : GoodIn wsL_act wsX1_persuade := goodIn_ca (goodIn_r _ [84, 40, 73, 74, 75, 33, 76, 46, 47, 37, 48, 49, 50, 182, 183, 184, 185, 186, 187, 188, 189, 190, 191] (by decide +kernel) (by decide +kernel)) (goodIn_sub (fun _ h => List.mem_cons_of_mem _ (List.mem_append_left _ (List.mem_append_right _ h))) (by decide +kernel))
set_option maxRecDepth 20000 in
theorem gL_act_X1_persuade : GoodIn wsL_act (wsV RL 46 RX1 yX1_persuade wsX1_persuade) := goodIn_app (goodIn_of _ (by decide +kernel)) ggL_act_X1_persuade
set_option maxRecDepth 20000 in
theorem ggL_act_X1_canLeadTo : GoodIn wsL_act wsX1_canLeadTo := goodIn_ca (goodIn_r _ [88, 73, 74, 75, 33, 76, 46, 47, 37, 48, 49, 50, 89, 90, 91, 92, 41, 93, 94, 95, 96, 40, 97, 12, 6, 13, 98, 99, 100, 101, 38, 56, 57, 58, 59, 60, 61, 62, 63, 64, 182, 183, 184, 185, 186, 187, 188, 189, 190, 191] (by decide +kernel) (by decide +kernel)) (goodIn_sub (fun _ h => List.mem_cons_of_mem _ (List.mem_append_left _ (List.mem_append_right _ h))) (by decide +kernel))
set_option maxRecDepth 20000 in
theorem gL_act_X1_canLeadTo : GoodIn wsL_act (wsV RL 60 RX1 yX1_canLeadTo wsX1_canLeadTo) := goodIn_app (goodIn_of _ (by decide +kernel)) ggL_act_X1_canLeadTo
set_option maxRecDepth 20000 in
theorem ggL_act_X1_lead : GoodIn wsL_act wsX1_lead := goodIn_ca (goodIn_ca (goodIn_r _ [105, 35, 36, 38, 73, 74, 75, 33, 76, 46, 47, 37, 48, 49, 50, 89, 90, 91, 92, 41, 93, 94, 95, 96, 40, 97, 12, 6, 13, 98, 99, 100, 101, 56, 57, 58, 59, 60, 61, 62, 63, 64, 182, 183, 184, 185, 186, 187, 188, 189, 190, 191] (by decide +kernel) (by decide +kernel)) (goodIn_sub (fun _ h => List.mem_cons_of_mem _ (List.mem_append_left _ (List.mem_append_left _ (List.mem_append_right _ h)))) (by decide +kernel))) (goodIn_sub (fun _ h => List.mem_cons_of_mem _ (List.mem_append_left _ (List.mem_append_right _ h))) (by decide +kernel))
set_option maxRecDepth 20000 in
theorem gL_act_X1_lead : GoodIn wsL_act (wsV RL 64 RX1 yX1_lead wsX1_lead) := goodIn_app (goodIn_of _ (by decide +kernel)) ggL_act_X1_lead
set_option maxRecDepth 20000 in
theorem ggL_act_X1_setStrength : GoodIn wsL_act wsX1_setStrength := goodIn_ca (goodIn_r _ [109, 54, 55, 60, 182, 183, 184, 185, 186, 187, 188, 189, 190, 191] (by decide +kernel) (by decide +kernel)) (goodIn_sub (fun _ h => List.mem_cons_of_mem _ (List.mem_append_right _ h)) (by decide +kernel))
set_option maxRecDepth 20000 in
theorem gL_act_X1_setStrength : GoodIn wsL_act (wsV RL 67 RX1 yX1_setStrength wsX1_setStrength) := goodIn_app (goodIn_of _ (by decide +kernel)) ggL_act_X1_setStrength
set_option maxRecDepth 20000 in
theorem ggL_act_X1_passRounds : GoodIn wsL_act wsX1_passRounds := goodIn_ca (goodIn_r _ [113, 114, 38, 115, 116, 33, 117, 54, 55, 118, 119, 120, 121, 122, 123, 124, 125, 37, 126, 127, 128, 129, 130, 131, 132, 133, 134, 135, 136, 137, 138, 139, 140, 141, 142, 143, 144, 145, 146, 147, 148, 149, 42, 150, 151, 152, 153, 40, 41, 154, 155, 156, 157, 5, 6, 7, 158, 9, 10, 56, 57, 58, 59, 60, 61, 62, 63, 64, 182, 183, 184, 185, 186, 187, 188, 189, 190, 191, 192, 193] (by decide +kernel) (by decide +kernel)) (goodIn_sub (fun _ h => List.mem_cons_of_mem _ (List.mem_append_right _ h)) (by decide +kernel))
set_option maxRecDepth 20000 in
theorem gL_act_X1_passRounds : GoodIn wsL_act (wsV RL 70 RX1 yX1_passRounds wsX1_passRounds) := goodIn_app (goodIn_of _ (by decide +kernel)) ggL_act_X1_passRounds
set_option maxRecDepth 20000 in
theorem ggL_act_X2_behind : GoodIn wsL_act wsX2_behind := goodIn_r _ [162, 163, 164, 165, 22, 166, 24, 167, 168, 169, 170, 171, 172, 2, 173, 174, 175, 176, 177, 12, 6, 13, 178, 20, 21, 23, 179, 180, 181] (by decide +kernel) (by decide +kernel)
set_option maxRecDepth 20000 in
theorem gL_act_X2_behind : GoodIn wsL_act (wsV RL 73 RX2 yX2_behind wsX2_behind) := goodIn_app (goodIn_of _ (by decide +kernel)) ggL_act_X2_behind
set_option maxRecDepth 20000 in
theorem ggL_build_X2_init : GoodIn wsL_build wsX2_init := goodIn_r _ [5, 6, 7, 8, 9, 10, 11, 193, 194, 195] (by decide +kernel) (by decide +kernel)
set_option maxRecDepth 20000 in
theorem gL_build_X2_init_n76 : GoodIn wsL_build (wsX2_init) := ggL_build_X2_init
set_option maxRecDepth 20000 in
theorem ggL_build_L_cell : GoodIn wsL_build wsL_cell := goodIn_r _ [15, 16] (by decide +kernel) (by decide +kernel)
set_option maxRecDepth 20000 in
theorem gL_build_L_cell : GoodIn wsL_build (va_wsS RL 77 yL_cell wsL_cell) := goodIn_app (goodIn_of _ (by decide +kernel)) ggL_build_L_cell
set_option maxRecDepth 20000 in
theorem ggL_build_L_below : GoodIn wsL_build wsL_below := goodIn_r _ [19, 20] (by decide +kernel) (by decide +kernel)
set_option maxRecDepth 20000 in
theorem gL_build_L_below : GoodIn wsL_build (va_wsS RL 15 yL_below wsL_below) := goodIn_app (goodIn_of _ (by decide +kernel)) ggL_build_L_below
set_option maxRecDepth 20000 in
theorem ggL_build_L_act_1 : GoodIn wsL_build (.code yL_act cL_act 14 (some .boolean) :: wsL_act_r1) := goodIn_r _ [23, 24, 25, 26, 27, 28, 29, 30, 31, 32, 33, 34, 35, 36, 17, 18, 14, 19, 20, 37, 38, 39, 3, 40, 11] (by decide +kernel) (by decide +kernel)
set_option maxRecDepth 20000 in
theorem ggL_build_L_act_2 : GoodIn wsL_build wsL_act_r2 := goodIn_r _ [41, 42, 43, 44, 10, 45, 46, 47, 48, 49, 50, 51, 52, 53, 54, 55, 56, 57, 58, 59, 60, 61, 62, 63] (by decide +kernel) (by decide +kernel)
set_option maxRecDepth 20000 in
theorem ggL_build_L_act_3 : GoodIn wsL_build wsL_act_r3 := goodIn_r _ [64, 65, 66, 67, 68, 69, 70, 71, 72, 73, 74, 75, 76, 77, 78, 79, 80, 81, 82, 83, 84, 85, 86, 87] (by decide +kernel) (by decide +kernel)
set_option maxRecDepth 20000 in
theorem ggL_build_L_act_4 : GoodIn wsL_build wsL_act_r4 := goodIn_r _ [88, 89, 90, 91, 92, 93, 94, 95, 96, 97, 98, 99, 100, 101, 102, 103, 104, 105, 106, 107, 108, 109, 110, 111] (by decide +kernel) (by decide +kernel)
set_option maxRecDepth 20000 in
theorem ggL_build_L_act_5 : GoodIn wsL_build wsL_act_r5 := goodIn_r _ [112, 113, 114, 115, 116, 117, 118, 119, 120, 121, 122, 123, 124, 125, 126, 127, 128, 129, 130, 131, 132, 133, 134, 135] (by decide +kernel) (by decide +kernel)
set_option maxRecDepth 20000 in
theorem ggL_build_L_act_6 : GoodIn wsL_build wsL_act_r6 := goodIn_r _ [136, 137, 138, 139, 140, 141, 142, 143, 144, 145, 146, 147, 148, 149, 150, 151, 152, 153, 154, 155, 156, 157, 158, 159] (by decide +kernel) (by decide +kernel)
set_option maxRecDepth 20000 in
theorem ggL_build_L_act_7 : GoodIn wsL_build wsL_act_r7 := goodIn_r _ [160, 161, 162, 163, 164, 165, 166, 167, 168, 169, 170, 171, 172, 173, 174, 175, 176, 177, 178, 179, 180, 181, 9, 182] (by decide +kernel) (by decide +kernel)
set_option maxRecDepth 20000 in
theorem ggL_build_L_act_8 : GoodIn wsL_build wsL_act_r8 := goodIn_r _ [183, 184, 185, 186, 187, 188, 189, 190, 191, 192] (by decide +kernel) (by decide +kernel)
set_option maxRecDepth 20000 in
theorem ggL_build_L_act_wsX20 : GoodIn wsL_build wsX20 := goodIn_r _ [193, 194, 195] (by decide +kernel) (by decide +kernel)
set_option maxRecDepth 20000 in
theorem ggL_build_L_act_wsX10 : GoodIn wsL_build wsX10 := goodIn_r _ [196, 197, 198, 199, 200, 201, 202, 203, 204, 205] (by decide +kernel) (by decide +kernel)
set_option maxRecDepth 20000 in
theorem ggL_build_L_act_wsX00 : GoodIn wsL_build wsX00 := goodIn_r _ [206, 207] (by decide +kernel) (by decide +kernel)
set_option maxRecDepth 20000 in
theorem ggL_build_L_act : GoodIn wsL_build wsL_act := goodIn_ca (goodIn_ca (goodIn_ca (goodIn_ca (goodIn_ca (goodIn_ca (goodIn_ca ggL_build_L_act_1 (goodIn_app ggL_build_L_act_2 (goodIn_app ggL_build_L_act_3 (goodIn_app ggL_build_L_act_4 (goodIn_app ggL_build_L_act_5 (goodIn_app ggL_build_L_act_6 (goodIn_app ggL_build_L_act_7 ggL_build_L_act_8))))))) ggL_build_L_act_wsX20) ggL_build_L_act_wsX10) ggL_build_L_act_wsX00) (goodIn_sub (fun _ h => List.mem_cons_of_mem _ (List.mem_append_left _ (List.mem_append_left _ (List.mem_append_right _ h)))) (by decide +kernel))) (goodIn_sub (fun _ h => List.mem_cons_of_mem _ (List.mem_append_left _ (List.mem_append_right _ h))) (by decide +kernel))) (goodIn_sub (fun _ h => List.mem_cons_of_mem _ (List.mem_append_right _ h)) (by decide +kernel))
set_option maxRecDepth 20000 in
theorem gL_build_L_act : GoodIn wsL_build (va_wsS RL 81 yL_act wsL_act) := goodIn_app (goodIn_of _ (by decide +kernel)) ggL_build_L_act
