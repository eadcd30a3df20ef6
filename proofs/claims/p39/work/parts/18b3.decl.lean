set_option maxRecDepth 20000 in
theorem ggL_law_X1_init : GoodIn wsL_law wsX1_init := goodIn_r _ [16, 17, 18, 19, 20, 21, 22, 3, 23, 24, 25, 26, 27, 28, 29, 30, 31, 32, 33, 34, 35, 36, 37, 384, 385, 386, 387, 388, 389, 390, 391, 392, 393, 394, 395] (by decide +kernel) (by decide +kernel)
set_option maxRecDepth 20000 in
theorem gL_law_X1_init : GoodIn wsL_law (wsX1_init) := ggL_law_X1_init
set_option maxRecDepth 20000 in
theorem ggL_law_L_build_1 : GoodIn wsL_law (.code yL_build cL_build 5 (some (.object "RopeChoicesLaw$Sim")) :: wsL_build_r1) := goodIn_r _ [41, 42, 43, 44, 45, 46, 47, 18, 19, 48, 49, 50, 51, 52, 40, 53, 54, 55, 56, 57, 58, 59, 60, 61, 62] (by decide +kernel) (by decide +kernel)
set_option maxRecDepth 20000 in
theorem ggL_law_L_build_2 : GoodIn wsL_law wsL_build_r2 := goodIn_r _ [3, 63, 4, 5, 6, 7, 8, 9, 10, 11, 12, 13, 64, 65, 66, 67, 68, 69, 70, 71, 72, 73, 74, 2] (by decide +kernel) (by decide +kernel)
set_option maxRecDepth 20000 in
theorem ggL_law_L_build_3 : GoodIn wsL_law wsL_build_r3 := goodIn_r _ [75, 76, 77, 20, 27, 23, 24, 25, 26, 78, 79, 80, 81, 82, 83, 84, 85, 86, 87, 88, 89, 90, 91, 92] (by decide +kernel) (by decide +kernel)
set_option maxRecDepth 20000 in
theorem ggL_law_L_build_4 : GoodIn wsL_law wsL_build_r4 := goodIn_r _ [93, 94, 22, 95, 96, 97, 98, 99, 100, 101, 102, 103, 104, 105, 106, 107, 108, 109, 110, 111, 112, 113, 114, 115] (by decide +kernel) (by decide +kernel)
set_option maxRecDepth 20000 in
theorem ggL_law_L_build_5 : GoodIn wsL_law wsL_build_r5 := goodIn_r _ [116, 117, 118, 119, 120, 121, 122, 123, 124, 125, 126, 127, 128, 129, 130, 131, 132, 133, 134, 135, 136, 137, 138, 139] (by decide +kernel) (by decide +kernel)
set_option maxRecDepth 20000 in
theorem ggL_law_L_build_6 : GoodIn wsL_law wsL_build_r6 := goodIn_r _ [140, 141, 142, 143, 144, 145, 146, 147, 21, 148, 149, 150, 151, 152, 153, 154, 155, 156, 157, 158, 159, 160, 161, 162] (by decide +kernel) (by decide +kernel)
set_option maxRecDepth 20000 in
theorem ggL_law_L_build_7 : GoodIn wsL_law wsL_build_r7 := goodIn_r _ [32, 163, 164, 165, 31, 166, 37, 167, 168, 169, 170, 36, 171, 172, 173, 174, 175, 176, 177, 178, 179, 180, 181, 182] (by decide +kernel) (by decide +kernel)
set_option maxRecDepth 20000 in
theorem ggL_law_L_build_8 : GoodIn wsL_law wsL_build_r8 := goodIn_r _ [183, 184, 185, 186, 187, 188, 189, 190, 191, 192, 193, 194, 195, 196, 197, 198, 199, 200, 201, 202, 203, 204, 205, 206] (by decide +kernel) (by decide +kernel)
set_option maxRecDepth 20000 in
theorem ggL_law_L_build_wsX20 : GoodIn wsL_law wsX20 := goodIn_r _ [396, 397, 398] (by decide +kernel) (by decide +kernel)
set_option maxRecDepth 20000 in
theorem ggL_law_L_build_wsX10 : GoodIn wsL_law wsX10 := goodIn_r _ [384, 385, 386, 387, 388, 389, 390, 391, 392, 393] (by decide +kernel) (by decide +kernel)
set_option maxRecDepth 20000 in
theorem ggL_law_L_build_wsX00 : GoodIn wsL_law wsX00 := goodIn_r _ [394, 395] (by decide +kernel) (by decide +kernel)
set_option maxRecDepth 20000 in
theorem ggL_law_L_build : GoodIn wsL_law wsL_build := goodIn_ca (goodIn_ca (goodIn_ca (goodIn_ca (goodIn_ca (goodIn_ca (goodIn_ca ggL_law_L_build_1 (goodIn_app ggL_law_L_build_2 (goodIn_app ggL_law_L_build_3 (goodIn_app ggL_law_L_build_4 (goodIn_app ggL_law_L_build_5 (goodIn_app ggL_law_L_build_6 (goodIn_app ggL_law_L_build_7 ggL_law_L_build_8))))))) ggL_law_L_build_wsX20) ggL_law_L_build_wsX10) ggL_law_L_build_wsX00) (goodIn_sub (fun _ h => List.mem_append_left _ (List.mem_append_left _ (List.mem_append_right _ h))) (by decide +kernel))) (goodIn_sub (fun _ h => List.mem_append_left _ (List.mem_append_right _ h)) (by decide +kernel))) (goodIn_sub (fun _ h => List.mem_append_right _ h) (by decide +kernel))
set_option maxRecDepth 20000 in
theorem gL_law_L_build : GoodIn wsL_law (va_wsS RL 86 yL_build wsL_build) := goodIn_app (goodIn_of _ (by decide +kernel)) ggL_law_L_build
set_option maxRecDepth 20000 in
theorem ggL_law_L_cell : GoodIn wsL_law wsL_cell := goodIn_r _ [53, 54] (by decide +kernel) (by decide +kernel)
set_option maxRecDepth 20000 in
theorem gL_law_L_cell : GoodIn wsL_law (va_wsS RL 77 yL_cell wsL_cell) := goodIn_app (goodIn_of _ (by decide +kernel)) ggL_law_L_cell
set_option maxRecDepth 20000 in
theorem ggL_law_L_act_1 : GoodIn wsL_law (.code yL_act cL_act 14 (some .boolean) :: wsL_act_r1) := goodIn_r _ [61, 62, 3, 63, 4, 5, 6, 7, 8, 9, 10, 11, 12, 13, 55, 56, 40, 57, 58, 64, 65, 66, 44, 67, 50] (by decide +kernel) (by decide +kernel)
set_option maxRecDepth 20000 in
theorem ggL_law_L_act_2 : GoodIn wsL_law wsL_act_r2 := goodIn_r _ [68, 69, 70, 71, 49, 72, 73, 74, 2, 75, 76, 77, 20, 27, 23, 24, 25, 26, 78, 79, 80, 81, 82, 83] (by decide +kernel) (by decide +kernel)
set_option maxRecDepth 20000 in
theorem ggL_law_L_act_3 : GoodIn wsL_law wsL_act_r3 := goodIn_r _ [84, 85, 86, 87, 88, 89, 90, 91, 92, 93, 94, 22, 95, 96, 97, 98, 99, 100, 101, 102, 103, 104, 105, 106] (by decide +kernel) (by decide +kernel)
set_option maxRecDepth 20000 in
theorem ggL_law_L_act_4 : GoodIn wsL_law wsL_act_r4 := goodIn_r _ [107, 108, 109, 110, 111, 112, 113, 114, 115, 116, 117, 118, 119, 120, 121, 122, 123, 124, 125, 126, 127, 128, 129, 130] (by decide +kernel) (by decide +kernel)
set_option maxRecDepth 20000 in
theorem ggL_law_L_act_5 : GoodIn wsL_law wsL_act_r5 := goodIn_r _ [131, 132, 133, 134, 135, 136, 137, 138, 139, 140, 141, 142, 143, 144, 145, 146, 147, 21, 148, 149, 150, 151, 152, 153] (by decide +kernel) (by decide +kernel)
set_option maxRecDepth 20000 in
theorem ggL_law_L_act_6 : GoodIn wsL_law wsL_act_r6 := goodIn_r _ [154, 155, 156, 157, 158, 159, 160, 161, 162, 32, 163, 164, 165, 31, 166, 37, 167, 168, 169, 170, 36, 171, 172, 173] (by decide +kernel) (by decide +kernel)
set_option maxRecDepth 20000 in
theorem ggL_law_L_act_7 : GoodIn wsL_law wsL_act_r7 := goodIn_r _ [174, 175, 176, 177, 178, 179, 180, 181, 182, 183, 184, 185, 186, 187, 188, 189, 190, 191, 192, 193, 194, 195, 48, 196] (by decide +kernel) (by decide +kernel)
set_option maxRecDepth 20000 in
theorem ggL_law_L_act_8 : GoodIn wsL_law wsL_act_r8 := goodIn_r _ [197, 198, 199, 200, 201, 202, 203, 204, 205, 206] (by decide +kernel) (by decide +kernel)
set_option maxRecDepth 20000 in
theorem ggL_law_L_act_wsX20 : GoodIn wsL_law wsX20 := goodIn_r _ [396, 397, 398] (by decide +kernel) (by decide +kernel)
set_option maxRecDepth 20000 in
theorem ggL_law_L_act_wsX10 : GoodIn wsL_law wsX10 := goodIn_r _ [384, 385, 386, 387, 388, 389, 390, 391, 392, 393] (by decide +kernel) (by decide +kernel)
set_option maxRecDepth 20000 in
theorem ggL_law_L_act_wsX00 : GoodIn wsL_law wsX00 := goodIn_r _ [394, 395] (by decide +kernel) (by decide +kernel)
set_option maxRecDepth 20000 in
theorem ggL_law_L_act : GoodIn wsL_law wsL_act := goodIn_ca (goodIn_ca (goodIn_ca (goodIn_ca (goodIn_ca (goodIn_ca (goodIn_ca ggL_law_L_act_1 (goodIn_app ggL_law_L_act_2 (goodIn_app ggL_law_L_act_3 (goodIn_app ggL_law_L_act_4 (goodIn_app ggL_law_L_act_5 (goodIn_app ggL_law_L_act_6 (goodIn_app ggL_law_L_act_7 ggL_law_L_act_8))))))) ggL_law_L_act_wsX20) ggL_law_L_act_wsX10) ggL_law_L_act_wsX00) (goodIn_sub (fun _ h => List.mem_append_left _ (List.mem_append_left _ (List.mem_append_right _ h))) (by decide +kernel))) (goodIn_sub (fun _ h => List.mem_append_left _ (List.mem_append_right _ h)) (by decide +kernel))) (goodIn_sub (fun _ h => List.mem_append_right _ h) (by decide +kernel))
set_option maxRecDepth 20000 in
theorem gL_law_L_act : GoodIn wsL_law (va_wsS RL 81 yL_act wsL_act) := goodIn_app (goodIn_of _ (by decide +kernel)) ggL_law_L_act
set_option maxRecDepth 20000 in
theorem ggL_law_X1_delegates : GoodIn wsL_law wsX1_delegates := goodIn_r _ [210, 20, 384, 385, 386, 387, 388, 389, 390, 391, 392, 393] (by decide +kernel) (by decide +kernel)
set_option maxRecDepth 20000 in
theorem gL_law_X1_delegates : GoodIn wsL_law (wsV RL 90 RX1 yX1_delegates wsX1_delegates) := goodIn_app (goodIn_of _ (by decide +kernel)) ggL_law_X1_delegates
set_option maxRecDepth 20000 in
theorem ggL_law_X1_standingOn : GoodIn wsL_law wsX1_standingOn := goodIn_ca (goodIn_r _ [214, 27, 83, 84, 2, 85, 81, 82, 95, 96, 97, 98, 20, 384, 385, 386, 387, 388, 389, 390, 391, 392, 393] (by decide +kernel) (by decide +kernel)) (goodIn_sub (fun _ h => List.mem_append_left _ (List.mem_append_right _ h)) (by decide +kernel))
set_option maxRecDepth 20000 in
theorem gL_law_X1_standingOn : GoodIn wsL_law (wsV RL 93 RX1 yX1_standingOn wsX1_standingOn) := goodIn_app (goodIn_of _ (by decide +kernel)) ggL_law_X1_standingOn
set_option maxRecDepth 20000 in
theorem ggL_law_X1_strength : GoodIn wsL_law wsX1_strength := goodIn_r _ [218, 22, 384, 385, 386, 387, 388, 389, 390, 391, 392, 393] (by decide +kernel) (by decide +kernel)
set_option maxRecDepth 20000 in
theorem gL_law_X1_strength : GoodIn wsL_law (wsV RL 96 RX1 yX1_strength wsX1_strength) := goodIn_app (goodIn_of _ (by decide +kernel)) ggL_law_X1_strength
set_option maxRecDepth 20000 in
theorem ggL_law_X1_compromise : GoodIn wsL_law wsX1_compromise := goodIn_ca (goodIn_r _ [222, 27, 223, 224, 225, 2, 226, 76, 77, 20, 159, 160, 161, 162, 32, 163, 164, 165, 31, 166, 37, 167, 168, 169, 170, 36, 171, 172, 173, 174, 384, 385, 386, 387, 388, 389, 390, 391, 392, 393, 394, 395] (by decide +kernel) (by decide +kernel)) (goodIn_sub (fun _ h => List.mem_append_left _ (List.mem_append_left _ (List.mem_append_right _ h))) (by decide +kernel))
set_option maxRecDepth 20000 in
theorem gL_law_X1_compromise : GoodIn wsL_law (wsV RL 98 RX1 yX1_compromise wsX1_compromise) := goodIn_app (goodIn_of _ (by decide +kernel)) ggL_law_X1_compromise
set_option maxRecDepth 20000 in
theorem ggL_law_X1_plankOf : GoodIn wsL_law wsX1_plankOf := goodIn_ca (goodIn_r _ [230, 27, 107, 108, 109, 2, 110, 81, 82, 20, 384, 385, 386, 387, 388, 389, 390, 391, 392, 393] (by decide +kernel) (by decide +kernel)) (goodIn_sub (fun _ h => List.mem_append_left _ (List.mem_append_right _ h)) (by decide +kernel))
set_option maxRecDepth 20000 in
theorem gL_law_X1_plankOf : GoodIn wsL_law (wsV RL 101 RX1 yX1_plankOf wsX1_plankOf) := goodIn_app (goodIn_of _ (by decide +kernel)) ggL_law_X1_plankOf
set_option maxRecDepth 20000 in
theorem ggL_law_X1_discontentOf : GoodIn wsL_law wsX1_discontentOf := goodIn_ca (goodIn_r _ [234, 27, 107, 108, 109, 2, 110, 81, 82, 20, 159, 160, 161, 162, 32, 163, 164, 165, 31, 166, 37, 167, 168, 169, 170, 36, 171, 172, 173, 174, 127, 128, 129, 130, 24, 131, 12, 6, 13, 384, 385, 386, 387, 388, 389, 390, 391, 392, 393, 394, 395] (by decide +kernel) (by decide +kernel)) (goodIn_sub (fun _ h => List.mem_append_left _ (List.mem_append_right _ h)) (by decide +kernel))
set_option maxRecDepth 20000 in
theorem gL_law_X1_discontentOf : GoodIn wsL_law (wsV RL 104 RX1 yX1_discontentOf wsX1_discontentOf) := goodIn_app (goodIn_of _ (by decide +kernel)) ggL_law_X1_discontentOf
set_option maxRecDepth 20000 in
theorem ggL_law_X1_wishOf : GoodIn wsL_law wsX1_wishOf := goodIn_ca (goodIn_r _ [238, 24, 107, 108, 109, 2, 110, 81, 82, 20, 384, 385, 386, 387, 388, 389, 390, 391, 392, 393] (by decide +kernel) (by decide +kernel)) (goodIn_sub (fun _ h => List.mem_append_left _ (List.mem_append_right _ h)) (by decide +kernel))
set_option maxRecDepth 20000 in
theorem gL_law_X1_wishOf : GoodIn wsL_law (wsV RL 107 RX1 yX1_wishOf wsX1_wishOf) := goodIn_app (goodIn_of _ (by decide +kernel)) ggL_law_X1_wishOf
set_option maxRecDepth 20000 in
theorem ggL_law_X1_decisiveOne : GoodIn wsL_law wsX1_decisiveOne := goodIn_ca (goodIn_r _ [242, 27, 20, 223, 224, 225, 2, 226, 76, 77, 159, 160, 161, 162, 32, 163, 164, 165, 31, 166, 37, 167, 168, 169, 170, 36, 171, 172, 173, 174, 384, 385, 386, 387, 388, 389, 390, 391, 392, 393, 394, 395] (by decide +kernel) (by decide +kernel)) (goodIn_sub (fun _ h => List.mem_append_left _ (List.mem_append_left _ (List.mem_append_right _ h))) (by decide +kernel))
set_option maxRecDepth 20000 in
theorem gL_law_X1_decisiveOne : GoodIn wsL_law (wsV RL 110 RX1 yX1_decisiveOne wsX1_decisiveOne) := goodIn_app (goodIn_of _ (by decide +kernel)) ggL_law_X1_decisiveOne
set_option maxRecDepth 20000 in
theorem ggL_law_X1_spread : GoodIn wsL_law wsX1_spread := goodIn_r _ [246, 27, 247, 248, 249, 2, 250, 20, 186, 5, 6, 7, 187, 9, 10, 384, 385, 386, 387, 388, 389, 390, 391, 392, 393] (by decide +kernel) (by decide +kernel)
set_option maxRecDepth 20000 in
theorem gL_law_X1_spread : GoodIn wsL_law (wsV RL 113 RX1 yX1_spread wsX1_spread) := goodIn_app (goodIn_of _ (by decide +kernel)) ggL_law_X1_spread
set_option maxRecDepth 20000 in
theorem ggL_law_X1_allDiscontent : GoodIn wsL_law wsX1_allDiscontent := goodIn_r _ [254, 27, 159, 160, 161, 2, 162, 32, 20, 163, 164, 165, 31, 166, 37, 167, 168, 169, 170, 36, 171, 172, 173, 174, 255, 256, 257, 258, 127, 128, 129, 130, 24, 131, 12, 6, 13, 384, 385, 386, 387, 388, 389, 390, 391, 392, 393, 394, 395] (by decide +kernel) (by decide +kernel)
set_option maxRecDepth 20000 in
theorem gL_law_X1_allDiscontent : GoodIn wsL_law (wsV RL 116 RX1 yX1_allDiscontent wsX1_allDiscontent) := goodIn_app (goodIn_of _ (by decide +kernel)) ggL_law_X1_allDiscontent
set_option maxRecDepth 20000 in
theorem ggL_law_X1_bestPlank : GoodIn wsL_law wsX1_bestPlank := goodIn_ca (goodIn_r _ [262, 223, 224, 225, 2, 226, 76, 77, 20, 255, 256, 257, 258, 127, 128, 129, 130, 24, 131, 12, 6, 13, 384, 385, 386, 387, 388, 389, 390, 391, 392, 393] (by decide +kernel) (by decide +kernel)) (goodIn_sub (fun _ h => List.mem_append_left _ (List.mem_append_left _ (List.mem_append_right _ h))) (by decide +kernel))
set_option maxRecDepth 20000 in
theorem gL_law_X1_bestPlank : GoodIn wsL_law (wsV RL 119 RX1 yX1_bestPlank wsX1_bestPlank) := goodIn_app (goodIn_of _ (by decide +kernel)) ggL_law_X1_bestPlank
set_option maxRecDepth 20000 in
theorem ggL_law_L_below : GoodIn wsL_law wsL_below := goodIn_r _ [57, 58] (by decide +kernel) (by decide +kernel)
set_option maxRecDepth 20000 in
theorem gL_law_L_below : GoodIn wsL_law (va_wsS RL 15 yL_below wsL_below) := goodIn_app (goodIn_of _ (by decide +kernel)) ggL_law_L_below
set_option maxRecDepth 20000 in
theorem ggL_law_X1_votesFor : GoodIn wsL_law wsX1_votesFor := goodIn_ca (goodIn_ca (goodIn_r _ [266, 267, 268, 2, 269, 89, 90, 83, 84, 85, 81, 82, 270, 271, 272, 273, 20, 127, 128, 129, 130, 24, 131, 12, 6, 13, 384, 385, 386, 387, 388, 389, 390, 391, 392, 393] (by decide +kernel) (by decide +kernel)) (goodIn_sub (fun _ h => List.mem_append_right _ h) (by decide +kernel))) (goodIn_sub (fun _ h => List.mem_append_left _ (List.mem_append_right _ h)) (by decide +kernel))
set_option maxRecDepth 20000 in
theorem gL_law_X1_votesFor : GoodIn wsL_law (wsV RL 122 RX1 yX1_votesFor wsX1_votesFor) := goodIn_app (goodIn_of _ (by decide +kernel)) ggL_law_X1_votesFor
set_option maxRecDepth 20000 in
theorem ggL_law_X1_winnerOf : GoodIn wsL_law wsX1_winnerOf := goodIn_ca (goodIn_ca (goodIn_r _ [277, 186, 5, 6, 7, 267, 268, 2, 269, 89, 90, 83, 84, 85, 81, 82, 270, 271, 272, 273, 20, 127, 128, 129, 130, 24, 131, 12, 13, 384, 385, 386, 387, 388, 389, 390, 391, 392, 393] (by decide +kernel) (by decide +kernel)) (goodIn_sub (fun _ h => List.mem_append_right _ h) (by decide +kernel))) (goodIn_sub (fun _ h => List.mem_append_left _ (List.mem_append_right _ h)) (by decide +kernel))
set_option maxRecDepth 20000 in
theorem gL_law_X1_winnerOf : GoodIn wsL_law (wsV RL 125 RX1 yX1_winnerOf wsX1_winnerOf) := goodIn_app (goodIn_of _ (by decide +kernel)) ggL_law_X1_winnerOf
set_option maxRecDepth 20000 in
theorem ggL_law_X1_wouldStepTo : GoodIn wsL_law wsX1_wouldStepTo := goodIn_ca (goodIn_r _ [281, 27, 107, 108, 109, 2, 110, 81, 82, 20, 159, 160, 161, 162, 32, 163, 164, 165, 31, 166, 37, 167, 168, 169, 170, 36, 171, 172, 173, 174, 175, 176, 177, 178, 26, 179, 180, 181, 182, 24, 25, 183, 184, 185, 186, 5, 6, 7, 187, 9, 10, 384, 385, 386, 387, 388, 389, 390, 391, 392, 393, 394, 395] (by decide +kernel) (by decide +kernel)) (goodIn_sub (fun _ h => List.mem_append_left _ (List.mem_append_right _ h)) (by decide +kernel))
set_option maxRecDepth 20000 in
theorem gL_law_X1_wouldStepTo : GoodIn wsL_law (wsV RL 128 RX1 yX1_wouldStepTo wsX1_wouldStepTo) := goodIn_app (goodIn_of _ (by decide +kernel)) ggL_law_X1_wouldStepTo
set_option maxRecDepth 20000 in
theorem ggL_law_X1_passRounds : GoodIn wsL_law wsX1_passRounds := goodIn_ca (goodIn_r _ [147, 21, 27, 148, 149, 2, 150, 89, 90, 151, 152, 153, 154, 155, 156, 157, 158, 20, 159, 160, 161, 162, 32, 163, 164, 165, 31, 166, 37, 167, 168, 169, 170, 36, 171, 172, 173, 174, 175, 176, 177, 178, 26, 179, 180, 181, 182, 24, 25, 183, 184, 185, 186, 5, 6, 7, 187, 9, 10, 91, 92, 93, 94, 22, 95, 96, 97, 98, 384, 385, 386, 387, 388, 389, 390, 391, 392, 393, 394, 395] (by decide +kernel) (by decide +kernel)) (goodIn_sub (fun _ h => List.mem_append_right _ h) (by decide +kernel))
set_option maxRecDepth 20000 in
theorem gL_law_X1_passRounds : GoodIn wsL_law (wsV RL 70 RX1 yX1_passRounds wsX1_passRounds) := goodIn_app (goodIn_of _ (by decide +kernel)) ggL_law_X1_passRounds
set_option maxRecDepth 20000 in
theorem ggL_law_X2_pass : GoodIn wsL_law wsX2_pass := goodIn_r _ [195, 50, 48, 196, 197, 198, 199, 44, 200, 3, 201, 202, 203, 204, 205, 12, 6, 13, 206, 65, 66, 67, 396, 397, 398] (by decide +kernel) (by decide +kernel)
set_option maxRecDepth 20000 in
theorem gL_law_X2_pass : GoodIn wsL_law (wsV RL 131 RX2 yX2_pass wsX2_pass) := goodIn_app (goodIn_of _ (by decide +kernel)) ggL_law_X2_pass
set_option maxRecDepth 20000 in
theorem ggL_law_X1_reachOf : GoodIn wsL_law wsX1_reachOf := goodIn_ca (goodIn_r _ [286, 25, 107, 108, 109, 2, 110, 81, 82, 20, 384, 385, 386, 387, 388, 389, 390, 391, 392, 393] (by decide +kernel) (by decide +kernel)) (goodIn_sub (fun _ h => List.mem_append_left _ (List.mem_append_right _ h)) (by decide +kernel))
set_option maxRecDepth 20000 in
theorem gL_law_X1_reachOf : GoodIn wsL_law (wsV RL 134 RX1 yX1_reachOf wsX1_reachOf) := goodIn_app (goodIn_of _ (by decide +kernel)) ggL_law_X1_reachOf
set_option maxRecDepth 20000 in
theorem ggL_law_X1_paceOf : GoodIn wsL_law wsX1_paceOf := goodIn_ca (goodIn_r _ [290, 26, 107, 108, 109, 2, 110, 81, 82, 20, 384, 385, 386, 387, 388, 389, 390, 391, 392, 393] (by decide +kernel) (by decide +kernel)) (goodIn_sub (fun _ h => List.mem_append_left _ (List.mem_append_right _ h)) (by decide +kernel))
set_option maxRecDepth 20000 in
theorem gL_law_X1_paceOf : GoodIn wsL_law (wsV RL 137 RX1 yX1_paceOf wsX1_paceOf) := goodIn_app (goodIn_of _ (by decide +kernel)) ggL_law_X1_paceOf
set_option maxRecDepth 20000 in
theorem ggL_law_X2_isSame : GoodIn wsL_law wsX2_isSame := goodIn_ca (goodIn_ca (goodIn_r _ [294, 50, 196, 48, 205, 12, 6, 13, 295, 208, 209, 2, 210, 20, 296, 297, 298, 299, 21, 300, 216, 217, 218, 22, 301, 244, 245, 246, 27, 247, 248, 249, 250, 186, 5, 7, 187, 9, 10, 302, 303, 304, 44, 305, 306, 307, 308, 309, 310, 311, 312, 313, 314, 315, 316, 317, 318, 23, 319, 320, 321, 322, 323, 324, 325, 326, 28, 327, 328, 329, 330, 155, 156, 157, 158, 159, 160, 161, 162, 32, 163, 164, 165, 31, 166, 37, 167, 168, 169, 170, 36, 171, 172, 173, 174, 175, 176, 177, 178, 26, 179, 180, 181, 182, 24, 25, 183, 184, 185, 91, 92, 93, 94, 95, 96, 97, 98, 331, 332, 333, 334, 335, 43, 49, 336, 337, 338, 339, 340, 341, 45, 46, 47, 18, 19, 192, 193, 194, 195, 197, 198, 199, 200, 3, 201, 202, 203, 204, 206, 65, 66, 67, 342, 343, 344, 345, 107, 108, 109, 110, 81, 82, 346, 236, 237, 238, 347, 284, 285, 286, 348, 288, 289, 290, 349, 228, 229, 230, 350, 279, 280, 281, 351, 232, 233, 234, 127, 128, 129, 130, 131, 352, 353, 354, 355, 76, 77, 356, 357, 358, 359, 360, 361, 362, 363, 364, 365, 366, 367, 78, 79, 80, 368, 369, 370, 371, 372, 252, 253, 254, 255, 256, 257, 258, 373, 374, 375, 376, 377, 378, 379, 380, 381, 220, 221, 222, 223, 224, 225, 226, 382, 240, 241, 242, 383, 260, 261, 262, 396, 397, 398, 384, 385, 386, 387, 388, 389, 390, 391, 392, 393, 394, 395] (by decide +kernel) (by decide +kernel)) (goodIn_sub (fun _ h => List.mem_append_left _ (List.mem_append_right _ h)) (by decide +kernel))) (goodIn_sub (fun _ h => List.mem_append_left _ (List.mem_append_left _ (List.mem_append_right _ h))) (by decide +kernel))
set_option maxRecDepth 20000 in
theorem gL_law_X2_isSame : GoodIn wsL_law (wsV RL 140 RX2 yX2_isSame wsX2_isSame) := goodIn_app (goodIn_of _ (by decide +kernel)) ggL_law_X2_isSame
