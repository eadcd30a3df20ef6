theorem dX0_init_0 : decode cX0_init 0 = .ok (.aload_n 0, 1) := by decide +kernel
theorem dX0_init_1 : decode cX0_init 1 = .ok (.invokespecial 3, 3) := by decide +kernel
theorem dX0_init_4 : decode cX0_init 4 = .ok (.aload_n 0, 1) := by decide +kernel
theorem dX0_init_5 : decode cX0_init 5 = .ok (.bipush 12, 2) := by decide +kernel
theorem dX0_init_7 : decode cX0_init 7 = .ok (.newarray .int, 2) := by decide +kernel
theorem dX0_init_9 : decode cX0_init 9 = .ok (.putfield 9, 3) := by decide +kernel
theorem dX0_init_12 : decode cX0_init 12 = .ok (.aload_n 0, 1) := by decide +kernel
theorem dX0_init_13 : decode cX0_init 13 = .ok (.iconst 0, 1) := by decide +kernel
theorem dX0_init_14 : decode cX0_init 14 = .ok (.putfield 15, 3) := by decide +kernel
theorem dX0_init_17 : decode cX0_init 17 = .ok (.return_, 1) := by decide +kernel
theorem dX0_empty_0 : decode cX0_empty 0 = .ok (.aload_n 0, 1) := by decide +kernel
theorem dX0_empty_1 : decode cX0_empty 1 = .ok (.iconst 0, 1) := by decide +kernel
theorem dX0_empty_2 : decode cX0_empty 2 = .ok (.putfield 15, 3) := by decide +kernel
theorem dX0_empty_5 : decode cX0_empty 5 = .ok (.return_, 1) := by decide +kernel
theorem dX0_isBare_0 : decode cX0_isBare 0 = .ok (.aload_n 0, 1) := by decide +kernel
theorem dX0_isBare_1 : decode cX0_isBare 1 = .ok (.getfield 15, 3) := by decide +kernel
theorem dX0_isBare_4 : decode cX0_isBare 4 = .ok (.ifCond .ne 7, 3) := by decide +kernel
theorem dX0_isBare_7 : decode cX0_isBare 7 = .ok (.iconst 1, 1) := by decide +kernel
theorem dX0_isBare_8 : decode cX0_isBare 8 = .ok (.goto 4, 3) := by decide +kernel
theorem dX0_isBare_11 : decode cX0_isBare 11 = .ok (.iconst 0, 1) := by decide +kernel
theorem dX0_isBare_12 : decode cX0_isBare 12 = .ok (.ireturn, 1) := by decide +kernel
theorem dX0_put_0 : decode cX0_put 0 = .ok (.aload_n 0, 1) := by decide +kernel
theorem dX0_put_1 : decode cX0_put 1 = .ok (.getfield 15, 3) := by decide +kernel
theorem dX0_put_4 : decode cX0_put 4 = .ok (.bipush 12, 2) := by decide +kernel
theorem dX0_put_6 : decode cX0_put 6 = .ok (.if_icmp .lt 4, 3) := by decide +kernel
theorem dX0_put_9 : decode cX0_put 9 = .ok (.return_, 1) := by decide +kernel
theorem dX0_put_10 : decode cX0_put 10 = .ok (.aload_n 0, 1) := by decide +kernel
theorem dX0_put_11 : decode cX0_put 11 = .ok (.getfield 15, 3) := by decide +kernel
theorem dX0_put_14 : decode cX0_put 14 = .ok (.istore_n 2, 1) := by decide +kernel
theorem dX0_put_15 : decode cX0_put 15 = .ok (.iload_n 2, 1) := by decide +kernel
theorem dX0_put_16 : decode cX0_put 16 = .ok (.ifCond .le 35, 3) := by decide +kernel
theorem dX0_put_19 : decode cX0_put 19 = .ok (.aload_n 0, 1) := by decide +kernel
theorem dX0_put_20 : decode cX0_put 20 = .ok (.getfield 9, 3) := by decide +kernel
theorem dX0_put_23 : decode cX0_put 23 = .ok (.iload_n 2, 1) := by decide +kernel
theorem dX0_put_24 : decode cX0_put 24 = .ok (.iconst 1, 1) := by decide +kernel
theorem dX0_put_25 : decode cX0_put 25 = .ok (.isub, 1) := by decide +kernel
theorem dX0_put_26 : decode cX0_put 26 = .ok (.iaload, 1) := by decide +kernel
theorem dX0_put_27 : decode cX0_put 27 = .ok (.iload_n 1, 1) := by decide +kernel
theorem dX0_put_28 : decode cX0_put 28 = .ok (.if_icmp .le 23, 3) := by decide +kernel
theorem dX0_put_31 : decode cX0_put 31 = .ok (.aload_n 0, 1) := by decide +kernel
theorem dX0_put_32 : decode cX0_put 32 = .ok (.getfield 9, 3) := by decide +kernel
theorem dX0_put_35 : decode cX0_put 35 = .ok (.iload_n 2, 1) := by decide +kernel
theorem dX0_put_36 : decode cX0_put 36 = .ok (.aload_n 0, 1) := by decide +kernel
theorem dX0_put_37 : decode cX0_put 37 = .ok (.getfield 9, 3) := by decide +kernel
theorem dX0_put_40 : decode cX0_put 40 = .ok (.iload_n 2, 1) := by decide +kernel
theorem dX0_put_41 : decode cX0_put 41 = .ok (.iconst 1, 1) := by decide +kernel
theorem dX0_put_42 : decode cX0_put 42 = .ok (.isub, 1) := by decide +kernel
theorem dX0_put_43 : decode cX0_put 43 = .ok (.iaload, 1) := by decide +kernel
theorem dX0_put_44 : decode cX0_put 44 = .ok (.iastore, 1) := by decide +kernel
theorem dX0_put_45 : decode cX0_put 45 = .ok (.iinc 2 (-1), 3) := by decide +kernel
theorem dX0_put_48 : decode cX0_put 48 = .ok (.goto (-33), 3) := by decide +kernel
theorem dX0_put_51 : decode cX0_put 51 = .ok (.aload_n 0, 1) := by decide +kernel
theorem dX0_put_52 : decode cX0_put 52 = .ok (.getfield 9, 3) := by decide +kernel
theorem dX0_put_55 : decode cX0_put 55 = .ok (.iload_n 2, 1) := by decide +kernel
theorem dX0_put_56 : decode cX0_put 56 = .ok (.iload_n 1, 1) := by decide +kernel
theorem dX0_put_57 : decode cX0_put 57 = .ok (.iastore, 1) := by decide +kernel
theorem dX0_put_58 : decode cX0_put 58 = .ok (.aload_n 0, 1) := by decide +kernel
theorem dX0_put_59 : decode cX0_put 59 = .ok (.dup, 1) := by decide +kernel
theorem dX0_put_60 : decode cX0_put 60 = .ok (.getfield 15, 3) := by decide +kernel
theorem dX0_put_63 : decode cX0_put 63 = .ok (.iconst 1, 1) := by decide +kernel
theorem dX0_put_64 : decode cX0_put 64 = .ok (.iadd, 1) := by decide +kernel
theorem dX0_put_65 : decode cX0_put 65 = .ok (.putfield 15, 3) := by decide +kernel
theorem dX0_put_68 : decode cX0_put 68 = .ok (.return_, 1) := by decide +kernel
theorem dX0_middle_0 : decode cX0_middle 0 = .ok (.aload_n 0, 1) := by decide +kernel
theorem dX0_middle_1 : decode cX0_middle 1 = .ok (.getfield 15, 3) := by decide +kernel
theorem dX0_middle_4 : decode cX0_middle 4 = .ok (.ifCond .ne 7, 3) := by decide +kernel
theorem dX0_middle_7 : decode cX0_middle 7 = .ok (.iconst 0, 1) := by decide +kernel
theorem dX0_middle_8 : decode cX0_middle 8 = .ok (.goto 16, 3) := by decide +kernel
theorem dX0_middle_11 : decode cX0_middle 11 = .ok (.aload_n 0, 1) := by decide +kernel
theorem dX0_middle_12 : decode cX0_middle 12 = .ok (.getfield 9, 3) := by decide +kernel
theorem dX0_middle_15 : decode cX0_middle 15 = .ok (.aload_n 0, 1) := by decide +kernel
theorem dX0_middle_16 : decode cX0_middle 16 = .ok (.getfield 15, 3) := by decide +kernel
theorem dX0_middle_19 : decode cX0_middle 19 = .ok (.iconst 1, 1) := by decide +kernel
theorem dX0_middle_20 : decode cX0_middle 20 = .ok (.isub, 1) := by decide +kernel
theorem dX0_middle_21 : decode cX0_middle 21 = .ok (.iconst 2, 1) := by decide +kernel
theorem dX0_middle_22 : decode cX0_middle 22 = .ok (.idiv, 1) := by decide +kernel
theorem dX0_middle_23 : decode cX0_middle 23 = .ok (.iaload, 1) := by decide +kernel
theorem dX0_middle_24 : decode cX0_middle 24 = .ok (.ireturn, 1) := by decide +kernel
set_option maxRecDepth 20000 in
theorem ggX0_middleWith_X1_cutTo : GoodIn wsX0_middleWith wsX1_cutTo := goodIn_r _ [5, 6, 7, 8, 9, 10, 11, 12] (by decide +kernel) (by decide +kernel)
set_option maxRecDepth 20000 in
theorem gX0_middleWith_X1_cutTo_n19 : GoodIn wsX0_middleWith (wsX1_cutTo) := ggX0_middleWith_X1_cutTo
theorem dX0_middleWith_0 : decode cX0_middleWith 0 = .ok (.aload_n 0, 1) := by decide +kernel
theorem dX0_middleWith_1 : decode cX0_middleWith 1 = .ok (.getfield 15, 3) := by decide +kernel
theorem dX0_middleWith_4 : decode cX0_middleWith 4 = .ok (.iconst 2, 1) := by decide +kernel
theorem dX0_middleWith_5 : decode cX0_middleWith 5 = .ok (.idiv, 1) := by decide +kernel
theorem dX0_middleWith_6 : decode cX0_middleWith 6 = .ok (.istore_n 2, 1) := by decide +kernel
theorem dX0_middleWith_7 : decode cX0_middleWith 7 = .ok (.iload_n 2, 1) := by decide +kernel
theorem dX0_middleWith_8 : decode cX0_middleWith 8 = .ok (.ifCond .le 14, 3) := by decide +kernel
theorem dX0_middleWith_11 : decode cX0_middleWith 11 = .ok (.aload_n 0, 1) := by decide +kernel
theorem dX0_middleWith_12 : decode cX0_middleWith 12 = .ok (.getfield 9, 3) := by decide +kernel
theorem dX0_middleWith_15 : decode cX0_middleWith 15 = .ok (.iload_n 2, 1) := by decide +kernel
theorem dX0_middleWith_16 : decode cX0_middleWith 16 = .ok (.iconst 1, 1) := by decide +kernel
theorem dX0_middleWith_17 : decode cX0_middleWith 17 = .ok (.isub, 1) := by decide +kernel
theorem dX0_middleWith_18 : decode cX0_middleWith 18 = .ok (.iaload, 1) := by decide +kernel
theorem dX0_middleWith_19 : decode cX0_middleWith 19 = .ok (.goto 4, 3) := by decide +kernel
theorem dX0_middleWith_22 : decode cX0_middleWith 22 = .ok (.iconst 0, 1) := by decide +kernel
theorem dX0_middleWith_23 : decode cX0_middleWith 23 = .ok (.istore_n 3, 1) := by decide +kernel
theorem dX0_middleWith_24 : decode cX0_middleWith 24 = .ok (.iload_n 2, 1) := by decide +kernel
theorem dX0_middleWith_25 : decode cX0_middleWith 25 = .ok (.aload_n 0, 1) := by decide +kernel
theorem dX0_middleWith_26 : decode cX0_middleWith 26 = .ok (.getfield 15, 3) := by decide +kernel
theorem dX0_middleWith_29 : decode cX0_middleWith 29 = .ok (.if_icmp .ge 12, 3) := by decide +kernel
theorem dX0_middleWith_32 : decode cX0_middleWith 32 = .ok (.aload_n 0, 1) := by decide +kernel
theorem dX0_middleWith_33 : decode cX0_middleWith 33 = .ok (.getfield 9, 3) := by decide +kernel
theorem dX0_middleWith_36 : decode cX0_middleWith 36 = .ok (.iload_n 2, 1) := by decide +kernel
theorem dX0_middleWith_37 : decode cX0_middleWith 37 = .ok (.iaload, 1) := by decide +kernel
theorem dX0_middleWith_38 : decode cX0_middleWith 38 = .ok (.goto 5, 3) := by decide +kernel
theorem dX0_middleWith_41 : decode cX0_middleWith 41 = .ok (.bipush 40, 2) := by decide +kernel
theorem dX0_middleWith_43 : decode cX0_middleWith 43 = .ok (.istore 4, 2) := by decide +kernel
theorem dX0_middleWith_45 : decode cX0_middleWith 45 = .ok (.iload_n 1, 1) := by decide +kernel
theorem dX0_middleWith_46 : decode cX0_middleWith 46 = .ok (.iload_n 3, 1) := by decide +kernel
theorem dX0_middleWith_47 : decode cX0_middleWith 47 = .ok (.iload 4, 2) := by decide +kernel
theorem dX0_middleWith_49 : decode cX0_middleWith 49 = .ok (.invokestatic 19, 3) := by decide +kernel
theorem dX0_middleWith_52 : decode cX0_middleWith 52 = .ok (.ireturn, 1) := by decide +kernel
set_option maxRecDepth 20000 in
theorem ggX1_init_X0_init : GoodIn wsX1_init wsX0_init := goodIn_r _ [19, 20, 2, 3, 7, 21, 22, 33, 34] (by decide +kernel) (by decide +kernel)
set_option maxRecDepth 20000 in
theorem gX1_init_X0_init_n40 : GoodIn wsX1_init (wsX0_init) := ggX1_init_X0_init
theorem dX1_init_0 : decode cX1_init 0 = .ok (.aload_n 0, 1) := by decide +kernel
theorem dX1_init_1 : decode cX1_init 1 = .ok (.invokespecial 1, 3) := by decide +kernel
theorem dX1_init_4 : decode cX1_init 4 = .ok (.aload_n 0, 1) := by decide +kernel
theorem dX1_init_5 : decode cX1_init 5 = .ok (.iconst 0, 1) := by decide +kernel
theorem dX1_init_6 : decode cX1_init 6 = .ok (.putfield 7, 3) := by decide +kernel
theorem dX1_init_9 : decode cX1_init 9 = .ok (.aload_n 0, 1) := by decide +kernel
theorem dX1_init_10 : decode cX1_init 10 = .ok (.iconst 0, 1) := by decide +kernel
theorem dX1_init_11 : decode cX1_init 11 = .ok (.putfield 13, 3) := by decide +kernel
theorem dX1_init_14 : decode cX1_init 14 = .ok (.aload_n 0, 1) := by decide +kernel
theorem dX1_init_15 : decode cX1_init 15 = .ok (.bipush 12, 2) := by decide +kernel
theorem dX1_init_17 : decode cX1_init 17 = .ok (.putfield 16, 3) := by decide +kernel
theorem dX1_init_20 : decode cX1_init 20 = .ok (.aload_n 0, 1) := by decide +kernel
theorem dX1_init_21 : decode cX1_init 21 = .ok (.bipush 12, 2) := by decide +kernel
theorem dX1_init_23 : decode cX1_init 23 = .ok (.newarray .int, 2) := by decide +kernel
theorem dX1_init_25 : decode cX1_init 25 = .ok (.putfield 19, 3) := by decide +kernel
theorem dX1_init_28 : decode cX1_init 28 = .ok (.aload_n 0, 1) := by decide +kernel
theorem dX1_init_29 : decode cX1_init 29 = .ok (.bipush 12, 2) := by decide +kernel
theorem dX1_init_31 : decode cX1_init 31 = .ok (.newarray .int, 2) := by decide +kernel
theorem dX1_init_33 : decode cX1_init 33 = .ok (.putfield 23, 3) := by decide +kernel
theorem dX1_init_36 : decode cX1_init 36 = .ok (.aload_n 0, 1) := by decide +kernel
theorem dX1_init_37 : decode cX1_init 37 = .ok (.bipush 12, 2) := by decide +kernel
theorem dX1_init_39 : decode cX1_init 39 = .ok (.newarray .int, 2) := by decide +kernel
theorem dX1_init_41 : decode cX1_init 41 = .ok (.putfield 26, 3) := by decide +kernel
theorem dX1_init_44 : decode cX1_init 44 = .ok (.aload_n 0, 1) := by decide +kernel
theorem dX1_init_45 : decode cX1_init 45 = .ok (.bipush 12, 2) := by decide +kernel
theorem dX1_init_47 : decode cX1_init 47 = .ok (.newarray .int, 2) := by decide +kernel
theorem dX1_init_49 : decode cX1_init 49 = .ok (.putfield 29, 3) := by decide +kernel
theorem dX1_init_52 : decode cX1_init 52 = .ok (.aload_n 0, 1) := by decide +kernel
theorem dX1_init_53 : decode cX1_init 53 = .ok (.bipush 12, 2) := by decide +kernel
theorem dX1_init_55 : decode cX1_init 55 = .ok (.newarray .int, 2) := by decide +kernel
theorem dX1_init_57 : decode cX1_init 57 = .ok (.putfield 32, 3) := by decide +kernel
theorem dX1_init_60 : decode cX1_init 60 = .ok (.aload_n 0, 1) := by decide +kernel
theorem dX1_init_61 : decode cX1_init 61 = .ok (.bipush 12, 2) := by decide +kernel
theorem dX1_init_63 : decode cX1_init 63 = .ok (.newarray .int, 2) := by decide +kernel
theorem dX1_init_65 : decode cX1_init 65 = .ok (.putfield 35, 3) := by decide +kernel
theorem dX1_init_68 : decode cX1_init 68 = .ok (.aload_n 0, 1) := by decide +kernel
theorem dX1_init_69 : decode cX1_init 69 = .ok (.new 38, 3) := by decide +kernel
theorem dX1_init_72 : decode cX1_init 72 = .ok (.dup, 1) := by decide +kernel
theorem dX1_init_73 : decode cX1_init 73 = .ok (.invokespecial 40, 3) := by decide +kernel
theorem dX1_init_76 : decode cX1_init 76 = .ok (.putfield 41, 3) := by decide +kernel
theorem dX1_init_79 : decode cX1_init 79 = .ok (.return_, 1) := by decide +kernel
set_option maxRecDepth 20000 in
theorem ggX1_send_X1_checkVillage : GoodIn wsX1_send wsX1_checkVillage := goodIn_ca (goodIn_r _ [12, 13, 14] (by decide +kernel) (by decide +kernel)) (goodIn_sub (fun _ h => List.mem_cons_of_mem _ (List.mem_append_left _ (List.mem_append_right _ h))) (by decide +kernel))
set_option maxRecDepth 20000 in
theorem gX1_send_X1_checkVillage : GoodIn wsX1_send (va_wsS RX1 45 yX1_checkVillage wsX1_checkVillage) := goodIn_app (goodIn_of _ (by decide +kernel)) ggX1_send_X1_checkVillage
set_option maxRecDepth 20000 in
theorem ggX1_send_X1_checkPlank : GoodIn wsX1_send wsX1_checkPlank := goodIn_ca (goodIn_r _ [17, 13, 14] (by decide +kernel) (by decide +kernel)) (goodIn_sub (fun _ h => List.mem_cons_of_mem _ (List.mem_append_left _ (List.mem_append_right _ h))) (by decide +kernel))
set_option maxRecDepth 20000 in
theorem gX1_send_X1_checkPlank : GoodIn wsX1_send (va_wsS RX1 49 yX1_checkPlank wsX1_checkPlank) := goodIn_app (goodIn_of _ (by decide +kernel)) ggX1_send_X1_checkPlank
set_option maxRecDepth 20000 in
theorem ggX1_send_X1_checkReachAndPace : GoodIn wsX1_send wsX1_checkReachAndPace := goodIn_ca (goodIn_r _ [20, 21, 22] (by decide +kernel) (by decide +kernel)) (goodIn_sub (fun _ h => List.mem_cons_of_mem _ (List.mem_append_right _ h)) (by decide +kernel))
set_option maxRecDepth 20000 in
theorem gX1_send_X1_checkReachAndPace : GoodIn wsX1_send (va_wsS RX1 52 yX1_checkReachAndPace wsX1_checkReachAndPace) := goodIn_app (goodIn_of _ (by decide +kernel)) ggX1_send_X1_checkReachAndPace
set_option maxRecDepth 20000 in
theorem ggX1_send_X1_hasRoom : GoodIn wsX1_send wsX1_hasRoom := goodIn_r _ [26, 27, 28, 29, 30, 11, 31, 3, 32, 33, 34, 35, 36, 37, 38, 39, 40, 41] (by decide +kernel) (by decide +kernel)
set_option maxRecDepth 20000 in
theorem gX1_send_X1_hasRoom : GoodIn wsX1_send (wsV RX1 63 RX1 yX1_hasRoom wsX1_hasRoom) := goodIn_app (goodIn_of _ (by decide +kernel)) ggX1_send_X1_hasRoom
theorem dX1_send_0 : decode cX1_send 0 = .ok (.iload_n 1, 1) := by decide +kernel
theorem dX1_send_1 : decode cX1_send 1 = .ok (.invokestatic 45, 3) := by decide +kernel
theorem dX1_send_4 : decode cX1_send 4 = .ok (.iload_n 2, 1) := by decide +kernel
theorem dX1_send_5 : decode cX1_send 5 = .ok (.invokestatic 49, 3) := by decide +kernel
theorem dX1_send_8 : decode cX1_send 8 = .ok (.iload_n 3, 1) := by decide +kernel
theorem dX1_send_9 : decode cX1_send 9 = .ok (.iload 4, 2) := by decide +kernel
theorem dX1_send_11 : decode cX1_send 11 = .ok (.invokestatic 52, 3) := by decide +kernel
theorem dX1_send_14 : decode cX1_send 14 = .ok (.aload_n 0, 1) := by decide +kernel
theorem dX1_send_15 : decode cX1_send 15 = .ok (.getfield 7, 3) := by decide +kernel
theorem dX1_send_18 : decode cX1_send 18 = .ok (.bipush 12, 2) := by decide +kernel
theorem dX1_send_20 : decode cX1_send 20 = .ok (.if_icmp .lt 13, 3) := by decide +kernel
theorem dX1_send_23 : decode cX1_send 23 = .ok (.new 56, 3) := by decide +kernel
theorem dX1_send_26 : decode cX1_send 26 = .ok (.dup, 1) := by decide +kernel
theorem dX1_send_27 : decode cX1_send 27 = .ok (.ldc 58, 2) := by decide +kernel
theorem dX1_send_29 : decode cX1_send 29 = .ok (.invokespecial 60, 3) := by decide +kernel
theorem dX1_send_32 : decode cX1_send 32 = .ok (.athrow, 1) := by decide +kernel
theorem dX1_send_33 : decode cX1_send 33 = .ok (.aload_n 0, 1) := by decide +kernel
theorem dX1_send_34 : decode cX1_send 34 = .ok (.aload_n 0, 1) := by decide +kernel
theorem dX1_send_35 : decode cX1_send 35 = .ok (.getfield 32, 3) := by decide +kernel
theorem dX1_send_38 : decode cX1_send 38 = .ok (.iload_n 2, 1) := by decide +kernel
theorem dX1_send_39 : decode cX1_send 39 = .ok (.invokevirtual 63, 3) := by decide +kernel
theorem dX1_send_42 : decode cX1_send 42 = .ok (.ifCond .ne 13, 3) := by decide +kernel
theorem dX1_send_45 : decode cX1_send 45 = .ok (.new 56, 3) := by decide +kernel
theorem dX1_send_48 : decode cX1_send 48 = .ok (.dup, 1) := by decide +kernel
theorem dX1_send_49 : decode cX1_send 49 = .ok (.ldc 67, 2) := by decide +kernel
theorem dX1_send_51 : decode cX1_send 51 = .ok (.invokespecial 60, 3) := by decide +kernel
theorem dX1_send_54 : decode cX1_send 54 = .ok (.athrow, 1) := by decide +kernel
theorem dX1_send_55 : decode cX1_send 55 = .ok (.aload_n 0, 1) := by decide +kernel
theorem dX1_send_56 : decode cX1_send 56 = .ok (.getfield 7, 3) := by decide +kernel
theorem dX1_send_59 : decode cX1_send 59 = .ok (.istore 5, 2) := by decide +kernel
theorem dX1_send_61 : decode cX1_send 61 = .ok (.aload_n 0, 1) := by decide +kernel
theorem dX1_send_62 : decode cX1_send 62 = .ok (.getfield 19, 3) := by decide +kernel
theorem dX1_send_65 : decode cX1_send 65 = .ok (.iload 5, 2) := by decide +kernel
theorem dX1_send_67 : decode cX1_send 67 = .ok (.iload_n 1, 1) := by decide +kernel
theorem dX1_send_68 : decode cX1_send 68 = .ok (.iastore, 1) := by decide +kernel
theorem dX1_send_69 : decode cX1_send 69 = .ok (.aload_n 0, 1) := by decide +kernel
theorem dX1_send_70 : decode cX1_send 70 = .ok (.getfield 23, 3) := by decide +kernel
theorem dX1_send_73 : decode cX1_send 73 = .ok (.iload 5, 2) := by decide +kernel
theorem dX1_send_75 : decode cX1_send 75 = .ok (.iload_n 2, 1) := by decide +kernel
theorem dX1_send_76 : decode cX1_send 76 = .ok (.iastore, 1) := by decide +kernel
theorem dX1_send_77 : decode cX1_send 77 = .ok (.aload_n 0, 1) := by decide +kernel
theorem dX1_send_78 : decode cX1_send 78 = .ok (.getfield 26, 3) := by decide +kernel
theorem dX1_send_81 : decode cX1_send 81 = .ok (.iload 5, 2) := by decide +kernel
theorem dX1_send_83 : decode cX1_send 83 = .ok (.iload_n 3, 1) := by decide +kernel
theorem dX1_send_84 : decode cX1_send 84 = .ok (.iastore, 1) := by decide +kernel
theorem dX1_send_85 : decode cX1_send 85 = .ok (.aload_n 0, 1) := by decide +kernel
theorem dX1_send_86 : decode cX1_send 86 = .ok (.getfield 29, 3) := by decide +kernel
theorem dX1_send_89 : decode cX1_send 89 = .ok (.iload 5, 2) := by decide +kernel
theorem dX1_send_91 : decode cX1_send 91 = .ok (.iload 4, 2) := by decide +kernel
theorem dX1_send_93 : decode cX1_send 93 = .ok (.iastore, 1) := by decide +kernel
theorem dX1_send_94 : decode cX1_send 94 = .ok (.aload_n 0, 1) := by decide +kernel
theorem dX1_send_95 : decode cX1_send 95 = .ok (.getfield 32, 3) := by decide +kernel
theorem dX1_send_98 : decode cX1_send 98 = .ok (.iload 5, 2) := by decide +kernel
theorem dX1_send_100 : decode cX1_send 100 = .ok (.iload_n 2, 1) := by decide +kernel
theorem dX1_send_101 : decode cX1_send 101 = .ok (.iastore, 1) := by decide +kernel
theorem dX1_send_102 : decode cX1_send 102 = .ok (.aload_n 0, 1) := by decide +kernel
theorem dX1_send_103 : decode cX1_send 103 = .ok (.iload 5, 2) := by decide +kernel
theorem dX1_send_105 : decode cX1_send 105 = .ok (.iconst 1, 1) := by decide +kernel
theorem dX1_send_106 : decode cX1_send 106 = .ok (.iadd, 1) := by decide +kernel
theorem dX1_send_107 : decode cX1_send 107 = .ok (.putfield 7, 3) := by decide +kernel
theorem dX1_send_110 : decode cX1_send 110 = .ok (.iload 5, 2) := by decide +kernel
theorem dX1_send_112 : decode cX1_send 112 = .ok (.ireturn, 1) := by decide +kernel
set_option maxRecDepth 20000 in
theorem ggX1_recall_X1_checkDelegate : GoodIn wsX1_recall wsX1_checkDelegate := goodIn_ca (goodIn_r _ [11, 12, 13, 6, 18, 19, 20, 21, 22, 23, 24, 25, 26, 27] (by decide +kernel) (by decide +kernel)) (goodIn_sub (fun _ h => List.mem_cons_of_mem _ (List.mem_append_right _ h)) (by decide +kernel))
set_option maxRecDepth 20000 in
theorem gX1_recall_X1_checkDelegate : GoodIn wsX1_recall (wsV RX1 69 RX1 yX1_checkDelegate wsX1_checkDelegate) := goodIn_app (goodIn_of _ (by decide +kernel)) ggX1_recall_X1_checkDelegate
set_option maxRecDepth 20000 in
theorem ggX1_recall_X1_closeGap : GoodIn wsX1_recall wsX1_closeGap := goodIn_r _ [17, 6, 18, 19, 20, 21, 22, 23, 24, 25, 26, 27] (by decide +kernel) (by decide +kernel)
set_option maxRecDepth 20000 in
theorem gX1_recall_X1_closeGap : GoodIn wsX1_recall (wsV RX1 72 RX1 yX1_closeGap wsX1_closeGap) := goodIn_app (goodIn_of _ (by decide +kernel)) ggX1_recall_X1_closeGap
theorem dX1_recall_0 : decode cX1_recall 0 = .ok (.aload_n 0, 1) := by decide +kernel
theorem dX1_recall_1 : decode cX1_recall 1 = .ok (.iload_n 1, 1) := by decide +kernel
theorem dX1_recall_2 : decode cX1_recall 2 = .ok (.invokevirtual 69, 3) := by decide +kernel
theorem dX1_recall_5 : decode cX1_recall 5 = .ok (.aload_n 0, 1) := by decide +kernel
theorem dX1_recall_6 : decode cX1_recall 6 = .ok (.getfield 32, 3) := by decide +kernel
theorem dX1_recall_9 : decode cX1_recall 9 = .ok (.iload_n 1, 1) := by decide +kernel
theorem dX1_recall_10 : decode cX1_recall 10 = .ok (.iaload, 1) := by decide +kernel
theorem dX1_recall_11 : decode cX1_recall 11 = .ok (.istore_n 2, 1) := by decide +kernel
theorem dX1_recall_12 : decode cX1_recall 12 = .ok (.aload_n 0, 1) := by decide +kernel
theorem dX1_recall_13 : decode cX1_recall 13 = .ok (.aload_n 0, 1) := by decide +kernel
theorem dX1_recall_14 : decode cX1_recall 14 = .ok (.getfield 19, 3) := by decide +kernel
theorem dX1_recall_17 : decode cX1_recall 17 = .ok (.iload_n 1, 1) := by decide +kernel
theorem dX1_recall_18 : decode cX1_recall 18 = .ok (.invokevirtual 72, 3) := by decide +kernel
theorem dX1_recall_21 : decode cX1_recall 21 = .ok (.aload_n 0, 1) := by decide +kernel
theorem dX1_recall_22 : decode cX1_recall 22 = .ok (.aload_n 0, 1) := by decide +kernel
theorem dX1_recall_23 : decode cX1_recall 23 = .ok (.getfield 23, 3) := by decide +kernel
theorem dX1_recall_26 : decode cX1_recall 26 = .ok (.iload_n 1, 1) := by decide +kernel
theorem dX1_recall_27 : decode cX1_recall 27 = .ok (.invokevirtual 72, 3) := by decide +kernel
theorem dX1_recall_30 : decode cX1_recall 30 = .ok (.aload_n 0, 1) := by decide +kernel
theorem dX1_recall_31 : decode cX1_recall 31 = .ok (.aload_n 0, 1) := by decide +kernel
theorem dX1_recall_32 : decode cX1_recall 32 = .ok (.getfield 26, 3) := by decide +kernel
theorem dX1_recall_35 : decode cX1_recall 35 = .ok (.iload_n 1, 1) := by decide +kernel
theorem dX1_recall_36 : decode cX1_recall 36 = .ok (.invokevirtual 72, 3) := by decide +kernel
theorem dX1_recall_39 : decode cX1_recall 39 = .ok (.aload_n 0, 1) := by decide +kernel
theorem dX1_recall_40 : decode cX1_recall 40 = .ok (.aload_n 0, 1) := by decide +kernel
theorem dX1_recall_41 : decode cX1_recall 41 = .ok (.getfield 29, 3) := by decide +kernel
theorem dX1_recall_44 : decode cX1_recall 44 = .ok (.iload_n 1, 1) := by decide +kernel
theorem dX1_recall_45 : decode cX1_recall 45 = .ok (.invokevirtual 72, 3) := by decide +kernel
theorem dX1_recall_48 : decode cX1_recall 48 = .ok (.aload_n 0, 1) := by decide +kernel
theorem dX1_recall_49 : decode cX1_recall 49 = .ok (.aload_n 0, 1) := by decide +kernel
theorem dX1_recall_50 : decode cX1_recall 50 = .ok (.getfield 32, 3) := by decide +kernel
theorem dX1_recall_53 : decode cX1_recall 53 = .ok (.iload_n 1, 1) := by decide +kernel
theorem dX1_recall_54 : decode cX1_recall 54 = .ok (.invokevirtual 72, 3) := by decide +kernel
theorem dX1_recall_57 : decode cX1_recall 57 = .ok (.aload_n 0, 1) := by decide +kernel
theorem dX1_recall_58 : decode cX1_recall 58 = .ok (.dup, 1) := by decide +kernel
theorem dX1_recall_59 : decode cX1_recall 59 = .ok (.getfield 7, 3) := by decide +kernel
theorem dX1_recall_62 : decode cX1_recall 62 = .ok (.iconst 1, 1) := by decide +kernel
theorem dX1_recall_63 : decode cX1_recall 63 = .ok (.isub, 1) := by decide +kernel
theorem dX1_recall_64 : decode cX1_recall 64 = .ok (.putfield 7, 3) := by decide +kernel
theorem dX1_recall_67 : decode cX1_recall 67 = .ok (.iload_n 2, 1) := by decide +kernel
theorem dX1_recall_68 : decode cX1_recall 68 = .ok (.ireturn, 1) := by decide +kernel
set_option maxRecDepth 20000 in
theorem ggX1_persuade_X1_checkDelegate : GoodIn wsX1_persuade wsX1_checkDelegate := goodIn_ca (goodIn_r _ [6, 7, 8, 9, 13, 14, 15, 16, 17, 18, 19, 20, 21, 22] (by decide +kernel) (by decide +kernel)) (goodIn_sub (fun _ h => List.mem_cons_of_mem _ (List.mem_append_right _ h)) (by decide +kernel))
set_option maxRecDepth 20000 in
theorem gX1_persuade_X1_checkDelegate : GoodIn wsX1_persuade (wsV RX1 69 RX1 yX1_checkDelegate wsX1_checkDelegate) := goodIn_app (goodIn_of _ (by decide +kernel)) ggX1_persuade_X1_checkDelegate
set_option maxRecDepth 20000 in
theorem ggX1_persuade_X1_checkPlank : GoodIn wsX1_persuade wsX1_checkPlank := goodIn_ca (goodIn_r _ [12, 7, 8] (by decide +kernel) (by decide +kernel)) (goodIn_sub (fun _ h => List.mem_cons_of_mem _ (List.mem_append_right _ h)) (by decide +kernel))
set_option maxRecDepth 20000 in
theorem gX1_persuade_X1_checkPlank : GoodIn wsX1_persuade (va_wsS RX1 49 yX1_checkPlank wsX1_checkPlank) := goodIn_app (goodIn_of _ (by decide +kernel)) ggX1_persuade_X1_checkPlank
theorem dX1_persuade_0 : decode cX1_persuade 0 = .ok (.aload_n 0, 1) := by decide +kernel
theorem dX1_persuade_1 : decode cX1_persuade 1 = .ok (.iload_n 1, 1) := by decide +kernel
theorem dX1_persuade_2 : decode cX1_persuade 2 = .ok (.invokevirtual 69, 3) := by decide +kernel
theorem dX1_persuade_5 : decode cX1_persuade 5 = .ok (.iload_n 2, 1) := by decide +kernel
theorem dX1_persuade_6 : decode cX1_persuade 6 = .ok (.invokestatic 49, 3) := by decide +kernel
theorem dX1_persuade_9 : decode cX1_persuade 9 = .ok (.aload_n 0, 1) := by decide +kernel
theorem dX1_persuade_10 : decode cX1_persuade 10 = .ok (.getfield 23, 3) := by decide +kernel
theorem dX1_persuade_13 : decode cX1_persuade 13 = .ok (.iload_n 1, 1) := by decide +kernel
theorem dX1_persuade_14 : decode cX1_persuade 14 = .ok (.iaload, 1) := by decide +kernel
theorem dX1_persuade_15 : decode cX1_persuade 15 = .ok (.istore_n 3, 1) := by decide +kernel
theorem dX1_persuade_16 : decode cX1_persuade 16 = .ok (.aload_n 0, 1) := by decide +kernel
theorem dX1_persuade_17 : decode cX1_persuade 17 = .ok (.getfield 23, 3) := by decide +kernel
theorem dX1_persuade_20 : decode cX1_persuade 20 = .ok (.iload_n 1, 1) := by decide +kernel
theorem dX1_persuade_21 : decode cX1_persuade 21 = .ok (.iload_n 2, 1) := by decide +kernel
theorem dX1_persuade_22 : decode cX1_persuade 22 = .ok (.iastore, 1) := by decide +kernel
theorem dX1_persuade_23 : decode cX1_persuade 23 = .ok (.iload_n 3, 1) := by decide +kernel
theorem dX1_persuade_24 : decode cX1_persuade 24 = .ok (.ireturn, 1) := by decide +kernel
set_option maxRecDepth 20000 in
theorem ggX1_lead_X1_checkDelegate : GoodIn wsX1_lead wsX1_checkDelegate := goodIn_ca (goodIn_r _ [8, 9, 10, 11, 42, 43, 44, 45, 46, 47, 48, 49, 50, 51] (by decide +kernel) (by decide +kernel)) (goodIn_sub (fun _ h => List.mem_cons_of_mem _ (List.mem_append_right _ h)) (by decide +kernel))
set_option maxRecDepth 20000 in
theorem gX1_lead_X1_checkDelegate : GoodIn wsX1_lead (wsV RX1 69 RX1 yX1_checkDelegate wsX1_checkDelegate) := goodIn_app (goodIn_of _ (by decide +kernel)) ggX1_lead_X1_checkDelegate
set_option maxRecDepth 20000 in
theorem ggX1_lead_X1_checkPlank : GoodIn wsX1_lead wsX1_checkPlank := goodIn_ca (goodIn_r _ [14, 9, 10] (by decide +kernel) (by decide +kernel)) (goodIn_sub (fun _ h => List.mem_cons_of_mem _ (List.mem_append_right _ h)) (by decide +kernel))
set_option maxRecDepth 20000 in
theorem gX1_lead_X1_checkPlank : GoodIn wsX1_lead (va_wsS RX1 49 yX1_checkPlank wsX1_checkPlank) := goodIn_app (goodIn_of _ (by decide +kernel)) ggX1_lead_X1_checkPlank
set_option maxRecDepth 20000 in
theorem ggX1_lead_X1_isWilling : GoodIn wsX1_lead wsX1_isWilling := goodIn_r _ [18, 19, 20, 21, 22, 7, 23, 24, 25, 26, 27, 28, 42, 43, 44, 45, 46, 47, 48, 49, 50, 51] (by decide +kernel) (by decide +kernel)
set_option maxRecDepth 20000 in
theorem gX1_lead_X1_isWilling : GoodIn wsX1_lead (wsV RX1 76 RX1 yX1_isWilling wsX1_isWilling) := goodIn_app (goodIn_of _ (by decide +kernel)) ggX1_lead_X1_isWilling
set_option maxRecDepth 20000 in
theorem ggX1_lead_X1_hasPlaceFor : GoodIn wsX1_lead wsX1_hasPlaceFor := goodIn_r _ [32, 3, 33, 34, 35, 7, 36, 37, 38, 39, 40, 41, 11, 42, 43, 44, 45, 46, 47, 48, 49, 50, 51] (by decide +kernel) (by decide +kernel)
set_option maxRecDepth 20000 in
theorem gX1_lead_X1_hasPlaceFor : GoodIn wsX1_lead (wsV RX1 82 RX1 yX1_hasPlaceFor wsX1_hasPlaceFor) := goodIn_app (goodIn_of _ (by decide +kernel)) ggX1_lead_X1_hasPlaceFor
theorem dX1_lead_0 : decode cX1_lead 0 = .ok (.aload_n 0, 1) := by decide +kernel
theorem dX1_lead_1 : decode cX1_lead 1 = .ok (.iload_n 1, 1) := by decide +kernel
theorem dX1_lead_2 : decode cX1_lead 2 = .ok (.invokevirtual 69, 3) := by decide +kernel
theorem dX1_lead_5 : decode cX1_lead 5 = .ok (.iload_n 2, 1) := by decide +kernel
theorem dX1_lead_6 : decode cX1_lead 6 = .ok (.invokestatic 49, 3) := by decide +kernel
theorem dX1_lead_9 : decode cX1_lead 9 = .ok (.aload_n 0, 1) := by decide +kernel
theorem dX1_lead_10 : decode cX1_lead 10 = .ok (.iload_n 1, 1) := by decide +kernel
theorem dX1_lead_11 : decode cX1_lead 11 = .ok (.iload_n 2, 1) := by decide +kernel
theorem dX1_lead_12 : decode cX1_lead 12 = .ok (.invokevirtual 76, 3) := by decide +kernel
theorem dX1_lead_15 : decode cX1_lead 15 = .ok (.ifCond .ne 13, 3) := by decide +kernel
theorem dX1_lead_18 : decode cX1_lead 18 = .ok (.new 56, 3) := by decide +kernel
theorem dX1_lead_21 : decode cX1_lead 21 = .ok (.dup, 1) := by decide +kernel
theorem dX1_lead_22 : decode cX1_lead 22 = .ok (.ldc 80, 2) := by decide +kernel
theorem dX1_lead_24 : decode cX1_lead 24 = .ok (.invokespecial 60, 3) := by decide +kernel
theorem dX1_lead_27 : decode cX1_lead 27 = .ok (.athrow, 1) := by decide +kernel
theorem dX1_lead_28 : decode cX1_lead 28 = .ok (.aload_n 0, 1) := by decide +kernel
theorem dX1_lead_29 : decode cX1_lead 29 = .ok (.iload_n 1, 1) := by decide +kernel
theorem dX1_lead_30 : decode cX1_lead 30 = .ok (.iload_n 2, 1) := by decide +kernel
theorem dX1_lead_31 : decode cX1_lead 31 = .ok (.invokevirtual 82, 3) := by decide +kernel
theorem dX1_lead_34 : decode cX1_lead 34 = .ok (.ifCond .ne 13, 3) := by decide +kernel
theorem dX1_lead_37 : decode cX1_lead 37 = .ok (.new 56, 3) := by decide +kernel
theorem dX1_lead_40 : decode cX1_lead 40 = .ok (.dup, 1) := by decide +kernel
theorem dX1_lead_41 : decode cX1_lead 41 = .ok (.ldc 67, 2) := by decide +kernel
theorem dX1_lead_43 : decode cX1_lead 43 = .ok (.invokespecial 60, 3) := by decide +kernel
theorem dX1_lead_46 : decode cX1_lead 46 = .ok (.athrow, 1) := by decide +kernel
theorem dX1_lead_47 : decode cX1_lead 47 = .ok (.aload_n 0, 1) := by decide +kernel
theorem dX1_lead_48 : decode cX1_lead 48 = .ok (.getfield 32, 3) := by decide +kernel
theorem dX1_lead_51 : decode cX1_lead 51 = .ok (.iload_n 1, 1) := by decide +kernel
theorem dX1_lead_52 : decode cX1_lead 52 = .ok (.iaload, 1) := by decide +kernel
theorem dX1_lead_53 : decode cX1_lead 53 = .ok (.istore_n 3, 1) := by decide +kernel
theorem dX1_lead_54 : decode cX1_lead 54 = .ok (.aload_n 0, 1) := by decide +kernel
theorem dX1_lead_55 : decode cX1_lead 55 = .ok (.getfield 32, 3) := by decide +kernel
theorem dX1_lead_58 : decode cX1_lead 58 = .ok (.iload_n 1, 1) := by decide +kernel
theorem dX1_lead_59 : decode cX1_lead 59 = .ok (.iload_n 2, 1) := by decide +kernel
theorem dX1_lead_60 : decode cX1_lead 60 = .ok (.iastore, 1) := by decide +kernel
theorem dX1_lead_61 : decode cX1_lead 61 = .ok (.iload_n 3, 1) := by decide +kernel
theorem dX1_lead_62 : decode cX1_lead 62 = .ok (.ireturn, 1) := by decide +kernel
theorem dX1_setStrength_0 : decode cX1_setStrength 0 = .ok (.iload_n 1, 1) := by decide +kernel
theorem dX1_setStrength_1 : decode cX1_setStrength 1 = .ok (.iconst 1, 1) := by decide +kernel
theorem dX1_setStrength_2 : decode cX1_setStrength 2 = .ok (.if_icmp .lt 9, 3) := by decide +kernel
theorem dX1_setStrength_5 : decode cX1_setStrength 5 = .ok (.iload_n 1, 1) := by decide +kernel
theorem dX1_setStrength_6 : decode cX1_setStrength 6 = .ok (.bipush 12, 2) := by decide +kernel
theorem dX1_setStrength_8 : decode cX1_setStrength 8 = .ok (.if_icmp .le 13, 3) := by decide +kernel
theorem dX1_setStrength_11 : decode cX1_setStrength 11 = .ok (.new 85, 3) := by decide +kernel
theorem dX1_setStrength_14 : decode cX1_setStrength 14 = .ok (.dup, 1) := by decide +kernel
theorem dX1_setStrength_15 : decode cX1_setStrength 15 = .ok (.ldc 87, 2) := by decide +kernel
theorem dX1_setStrength_17 : decode cX1_setStrength 17 = .ok (.invokespecial 89, 3) := by decide +kernel
theorem dX1_setStrength_20 : decode cX1_setStrength 20 = .ok (.athrow, 1) := by decide +kernel
theorem dX1_setStrength_21 : decode cX1_setStrength 21 = .ok (.aload_n 0, 1) := by decide +kernel
theorem dX1_setStrength_22 : decode cX1_setStrength 22 = .ok (.getfield 16, 3) := by decide +kernel
theorem dX1_setStrength_25 : decode cX1_setStrength 25 = .ok (.istore_n 2, 1) := by decide +kernel
theorem dX1_setStrength_26 : decode cX1_setStrength 26 = .ok (.aload_n 0, 1) := by decide +kernel
theorem dX1_setStrength_27 : decode cX1_setStrength 27 = .ok (.iload_n 1, 1) := by decide +kernel
theorem dX1_setStrength_28 : decode cX1_setStrength 28 = .ok (.putfield 16, 3) := by decide +kernel
theorem dX1_setStrength_31 : decode cX1_setStrength 31 = .ok (.iload_n 2, 1) := by decide +kernel
theorem dX1_setStrength_32 : decode cX1_setStrength 32 = .ok (.ireturn, 1) := by decide +kernel
set_option maxRecDepth 20000 in
theorem ggX1_passRounds_X1_checkRounds : GoodIn wsX1_passRounds wsX1_checkRounds := goodIn_ca (goodIn_r _ [6, 7, 8] (by decide +kernel) (by decide +kernel)) (goodIn_sub (fun _ h => List.mem_cons_of_mem _ (List.mem_append_right _ h)) (by decide +kernel))
set_option maxRecDepth 20000 in
theorem gX1_passRounds_X1_checkRounds : GoodIn wsX1_passRounds (va_wsS RX1 90 yX1_checkRounds wsX1_checkRounds) := goodIn_app (goodIn_of _ (by decide +kernel)) ggX1_passRounds_X1_checkRounds
set_option maxRecDepth 20000 in
theorem ggX1_passRounds_X1_goRounds : GoodIn wsX1_passRounds wsX1_goRounds := goodIn_r _ [12, 13, 14, 15, 5, 16, 17, 18, 19, 20, 21, 22, 23, 24, 25, 26, 27, 28, 29, 30, 31, 32, 33, 34, 35, 36, 37, 38, 39, 40, 41, 42, 43, 44, 45, 46, 47, 48, 49, 50, 51, 52, 53, 54, 55, 56, 57, 58, 59, 60, 61, 62, 63, 64, 65, 66, 67, 68, 69, 70, 71, 72, 73, 74, 75, 76, 77, 78, 79] (by decide +kernel) (by decide +kernel)
set_option maxRecDepth 20000 in
theorem gX1_passRounds_X1_goRounds : GoodIn wsX1_passRounds (wsV RX1 93 RX1 yX1_goRounds wsX1_goRounds) := goodIn_app (goodIn_of _ (by decide +kernel)) ggX1_passRounds_X1_goRounds
theorem dX1_passRounds_0 : decode cX1_passRounds 0 = .ok (.iload_n 1, 1) := by decide +kernel
theorem dX1_passRounds_1 : decode cX1_passRounds 1 = .ok (.invokestatic 90, 3) := by decide +kernel
theorem dX1_passRounds_4 : decode cX1_passRounds 4 = .ok (.aload_n 0, 1) := by decide +kernel
theorem dX1_passRounds_5 : decode cX1_passRounds 5 = .ok (.dup, 1) := by decide +kernel
theorem dX1_passRounds_6 : decode cX1_passRounds 6 = .ok (.getfield 13, 3) := by decide +kernel
theorem dX1_passRounds_9 : decode cX1_passRounds 9 = .ok (.iload_n 1, 1) := by decide +kernel
theorem dX1_passRounds_10 : decode cX1_passRounds 10 = .ok (.iadd, 1) := by decide +kernel
theorem dX1_passRounds_11 : decode cX1_passRounds 11 = .ok (.putfield 13, 3) := by decide +kernel
theorem dX1_passRounds_14 : decode cX1_passRounds 14 = .ok (.aload_n 0, 1) := by decide +kernel
theorem dX1_passRounds_15 : decode cX1_passRounds 15 = .ok (.aload_n 0, 1) := by decide +kernel
theorem dX1_passRounds_16 : decode cX1_passRounds 16 = .ok (.getfield 32, 3) := by decide +kernel
theorem dX1_passRounds_19 : decode cX1_passRounds 19 = .ok (.iload_n 1, 1) := by decide +kernel
theorem dX1_passRounds_20 : decode cX1_passRounds 20 = .ok (.invokevirtual 93, 3) := by decide +kernel
theorem dX1_passRounds_23 : decode cX1_passRounds 23 = .ok (.ireturn, 1) := by decide +kernel
theorem dX1_delegates_0 : decode cX1_delegates 0 = .ok (.aload_n 0, 1) := by decide +kernel
theorem dX1_delegates_1 : decode cX1_delegates 1 = .ok (.getfield 7, 3) := by decide +kernel
theorem dX1_delegates_4 : decode cX1_delegates 4 = .ok (.ireturn, 1) := by decide +kernel
theorem dX1_rounds_0 : decode cX1_rounds 0 = .ok (.aload_n 0, 1) := by decide +kernel
theorem dX1_rounds_1 : decode cX1_rounds 1 = .ok (.getfield 13, 3) := by decide +kernel
theorem dX1_rounds_4 : decode cX1_rounds 4 = .ok (.ireturn, 1) := by decide +kernel
theorem dX1_strength_0 : decode cX1_strength 0 = .ok (.aload_n 0, 1) := by decide +kernel
theorem dX1_strength_1 : decode cX1_strength 1 = .ok (.getfield 16, 3) := by decide +kernel
theorem dX1_strength_4 : decode cX1_strength 4 = .ok (.ireturn, 1) := by decide +kernel
set_option maxRecDepth 20000 in
theorem ggX1_villageOf_X1_checkDelegate : GoodIn wsX1_villageOf wsX1_checkDelegate := goodIn_ca (goodIn_r _ [6, 7, 8, 9, 10, 11, 12, 13, 14, 15, 16, 17, 18, 19] (by decide +kernel) (by decide +kernel)) (goodIn_sub (fun _ h => List.mem_cons_of_mem _ (List.mem_append_right _ h)) (by decide +kernel))
set_option maxRecDepth 20000 in
theorem gX1_villageOf_X1_checkDelegate : GoodIn wsX1_villageOf (wsV RX1 69 RX1 yX1_checkDelegate wsX1_checkDelegate) := goodIn_app (goodIn_of _ (by decide +kernel)) ggX1_villageOf_X1_checkDelegate
theorem dX1_villageOf_0 : decode cX1_villageOf 0 = .ok (.aload_n 0, 1) := by decide +kernel
theorem dX1_villageOf_1 : decode cX1_villageOf 1 = .ok (.iload_n 1, 1) := by decide +kernel
theorem dX1_villageOf_2 : decode cX1_villageOf 2 = .ok (.invokevirtual 69, 3) := by decide +kernel
theorem dX1_villageOf_5 : decode cX1_villageOf 5 = .ok (.aload_n 0, 1) := by decide +kernel
theorem dX1_villageOf_6 : decode cX1_villageOf 6 = .ok (.getfield 19, 3) := by decide +kernel
theorem dX1_villageOf_9 : decode cX1_villageOf 9 = .ok (.iload_n 1, 1) := by decide +kernel
theorem dX1_villageOf_10 : decode cX1_villageOf 10 = .ok (.iaload, 1) := by decide +kernel
theorem dX1_villageOf_11 : decode cX1_villageOf 11 = .ok (.ireturn, 1) := by decide +kernel
set_option maxRecDepth 20000 in
theorem ggX1_wishOf_X1_checkDelegate : GoodIn wsX1_wishOf wsX1_checkDelegate := goodIn_ca (goodIn_r _ [6, 7, 8, 9, 10, 11, 12, 13, 14, 15, 16, 17, 18, 19] (by decide +kernel) (by decide +kernel)) (goodIn_sub (fun _ h => List.mem_cons_of_mem _ (List.mem_append_right _ h)) (by decide +kernel))
set_option maxRecDepth 20000 in
theorem gX1_wishOf_X1_checkDelegate : GoodIn wsX1_wishOf (wsV RX1 69 RX1 yX1_checkDelegate wsX1_checkDelegate) := goodIn_app (goodIn_of _ (by decide +kernel)) ggX1_wishOf_X1_checkDelegate
theorem dX1_wishOf_0 : decode cX1_wishOf 0 = .ok (.aload_n 0, 1) := by decide +kernel
theorem dX1_wishOf_1 : decode cX1_wishOf 1 = .ok (.iload_n 1, 1) := by decide +kernel
theorem dX1_wishOf_2 : decode cX1_wishOf 2 = .ok (.invokevirtual 69, 3) := by decide +kernel
theorem dX1_wishOf_5 : decode cX1_wishOf 5 = .ok (.aload_n 0, 1) := by decide +kernel
theorem dX1_wishOf_6 : decode cX1_wishOf 6 = .ok (.getfield 23, 3) := by decide +kernel
theorem dX1_wishOf_9 : decode cX1_wishOf 9 = .ok (.iload_n 1, 1) := by decide +kernel
theorem dX1_wishOf_10 : decode cX1_wishOf 10 = .ok (.iaload, 1) := by decide +kernel
theorem dX1_wishOf_11 : decode cX1_wishOf 11 = .ok (.ireturn, 1) := by decide +kernel
set_option maxRecDepth 20000 in
theorem ggX1_reachOf_X1_checkDelegate : GoodIn wsX1_reachOf wsX1_checkDelegate := goodIn_ca (goodIn_r _ [6, 7, 8, 9, 10, 11, 12, 13, 14, 15, 16, 17, 18, 19] (by decide +kernel) (by decide +kernel)) (goodIn_sub (fun _ h => List.mem_cons_of_mem _ (List.mem_append_right _ h)) (by decide +kernel))
set_option maxRecDepth 20000 in
theorem gX1_reachOf_X1_checkDelegate : GoodIn wsX1_reachOf (wsV RX1 69 RX1 yX1_checkDelegate wsX1_checkDelegate) := goodIn_app (goodIn_of _ (by decide +kernel)) ggX1_reachOf_X1_checkDelegate
theorem dX1_reachOf_0 : decode cX1_reachOf 0 = .ok (.aload_n 0, 1) := by decide +kernel
theorem dX1_reachOf_1 : decode cX1_reachOf 1 = .ok (.iload_n 1, 1) := by decide +kernel
theorem dX1_reachOf_2 : decode cX1_reachOf 2 = .ok (.invokevirtual 69, 3) := by decide +kernel
theorem dX1_reachOf_5 : decode cX1_reachOf 5 = .ok (.aload_n 0, 1) := by decide +kernel
theorem dX1_reachOf_6 : decode cX1_reachOf 6 = .ok (.getfield 26, 3) := by decide +kernel
theorem dX1_reachOf_9 : decode cX1_reachOf 9 = .ok (.iload_n 1, 1) := by decide +kernel
theorem dX1_reachOf_10 : decode cX1_reachOf 10 = .ok (.iaload, 1) := by decide +kernel
theorem dX1_reachOf_11 : decode cX1_reachOf 11 = .ok (.ireturn, 1) := by decide +kernel
set_option maxRecDepth 20000 in
theorem ggX1_paceOf_X1_checkDelegate : GoodIn wsX1_paceOf wsX1_checkDelegate := goodIn_ca (goodIn_r _ [6, 7, 8, 9, 10, 11, 12, 13, 14, 15, 16, 17, 18, 19] (by decide +kernel) (by decide +kernel)) (goodIn_sub (fun _ h => List.mem_cons_of_mem _ (List.mem_append_right _ h)) (by decide +kernel))
set_option maxRecDepth 20000 in
theorem gX1_paceOf_X1_checkDelegate : GoodIn wsX1_paceOf (wsV RX1 69 RX1 yX1_checkDelegate wsX1_checkDelegate) := goodIn_app (goodIn_of _ (by decide +kernel)) ggX1_paceOf_X1_checkDelegate
theorem dX1_paceOf_0 : decode cX1_paceOf 0 = .ok (.aload_n 0, 1) := by decide +kernel
theorem dX1_paceOf_1 : decode cX1_paceOf 1 = .ok (.iload_n 1, 1) := by decide +kernel
theorem dX1_paceOf_2 : decode cX1_paceOf 2 = .ok (.invokevirtual 69, 3) := by decide +kernel
theorem dX1_paceOf_5 : decode cX1_paceOf 5 = .ok (.aload_n 0, 1) := by decide +kernel
theorem dX1_paceOf_6 : decode cX1_paceOf 6 = .ok (.getfield 29, 3) := by decide +kernel
theorem dX1_paceOf_9 : decode cX1_paceOf 9 = .ok (.iload_n 1, 1) := by decide +kernel
theorem dX1_paceOf_10 : decode cX1_paceOf 10 = .ok (.iaload, 1) := by decide +kernel
theorem dX1_paceOf_11 : decode cX1_paceOf 11 = .ok (.ireturn, 1) := by decide +kernel
set_option maxRecDepth 20000 in
theorem ggX1_plankOf_X1_checkDelegate : GoodIn wsX1_plankOf wsX1_checkDelegate := goodIn_ca (goodIn_r _ [6, 7, 8, 9, 10, 11, 12, 13, 14, 15, 16, 17, 18, 19] (by decide +kernel) (by decide +kernel)) (goodIn_sub (fun _ h => List.mem_cons_of_mem _ (List.mem_append_right _ h)) (by decide +kernel))
set_option maxRecDepth 20000 in
theorem gX1_plankOf_X1_checkDelegate : GoodIn wsX1_plankOf (wsV RX1 69 RX1 yX1_checkDelegate wsX1_checkDelegate) := goodIn_app (goodIn_of _ (by decide +kernel)) ggX1_plankOf_X1_checkDelegate
theorem dX1_plankOf_0 : decode cX1_plankOf 0 = .ok (.aload_n 0, 1) := by decide +kernel
theorem dX1_plankOf_1 : decode cX1_plankOf 1 = .ok (.iload_n 1, 1) := by decide +kernel
theorem dX1_plankOf_2 : decode cX1_plankOf 2 = .ok (.invokevirtual 69, 3) := by decide +kernel
theorem dX1_plankOf_5 : decode cX1_plankOf 5 = .ok (.aload_n 0, 1) := by decide +kernel
theorem dX1_plankOf_6 : decode cX1_plankOf 6 = .ok (.getfield 32, 3) := by decide +kernel
theorem dX1_plankOf_9 : decode cX1_plankOf 9 = .ok (.iload_n 1, 1) := by decide +kernel
theorem dX1_plankOf_10 : decode cX1_plankOf 10 = .ok (.iaload, 1) := by decide +kernel
theorem dX1_plankOf_11 : decode cX1_plankOf 11 = .ok (.ireturn, 1) := by decide +kernel
set_option maxRecDepth 20000 in
theorem ggX1_standingOn_X1_checkPlank : GoodIn wsX1_standingOn wsX1_checkPlank := goodIn_ca (goodIn_r _ [5, 6, 7] (by decide +kernel) (by decide +kernel)) (goodIn_sub (fun _ h => List.mem_cons_of_mem _ (List.mem_append_right _ h)) (by decide +kernel))
set_option maxRecDepth 20000 in
theorem gX1_standingOn_X1_checkPlank : GoodIn wsX1_standingOn (va_wsS RX1 49 yX1_checkPlank wsX1_checkPlank) := goodIn_app (goodIn_of _ (by decide +kernel)) ggX1_standingOn_X1_checkPlank
set_option maxRecDepth 20000 in
theorem ggX1_standingOn_X1_crowdOn : GoodIn wsX1_standingOn wsX1_crowdOn := goodIn_r _ [11, 12, 13, 14, 15, 16, 17, 18, 19, 20, 21, 22] (by decide +kernel) (by decide +kernel)
set_option maxRecDepth 20000 in
theorem gX1_standingOn_X1_crowdOn : GoodIn wsX1_standingOn (wsV RX1 97 RX1 yX1_crowdOn wsX1_crowdOn) := goodIn_app (goodIn_of _ (by decide +kernel)) ggX1_standingOn_X1_crowdOn
theorem dX1_standingOn_0 : decode cX1_standingOn 0 = .ok (.iload_n 1, 1) := by decide +kernel
theorem dX1_standingOn_1 : decode cX1_standingOn 1 = .ok (.invokestatic 49, 3) := by decide +kernel
theorem dX1_standingOn_4 : decode cX1_standingOn 4 = .ok (.aload_n 0, 1) := by decide +kernel
theorem dX1_standingOn_5 : decode cX1_standingOn 5 = .ok (.aload_n 0, 1) := by decide +kernel
theorem dX1_standingOn_6 : decode cX1_standingOn 6 = .ok (.getfield 32, 3) := by decide +kernel
theorem dX1_standingOn_9 : decode cX1_standingOn 9 = .ok (.iload_n 1, 1) := by decide +kernel
theorem dX1_standingOn_10 : decode cX1_standingOn 10 = .ok (.invokevirtual 97, 3) := by decide +kernel
theorem dX1_standingOn_13 : decode cX1_standingOn 13 = .ok (.ireturn, 1) := by decide +kernel
set_option maxRecDepth 20000 in
theorem ggX1_spread_X1_distanceOfEnds : GoodIn wsX1_spread wsX1_distanceOfEnds := goodIn_r _ [6, 7, 8, 9, 10, 11, 12, 13, 14, 15, 16, 17, 18, 19, 20, 21, 22, 23, 24] (by decide +kernel) (by decide +kernel)
set_option maxRecDepth 20000 in
theorem gX1_spread_X1_distanceOfEnds : GoodIn wsX1_spread (wsV RX1 100 RX1 yX1_distanceOfEnds wsX1_distanceOfEnds) := goodIn_app (goodIn_of _ (by decide +kernel)) ggX1_spread_X1_distanceOfEnds
theorem dX1_spread_0 : decode cX1_spread 0 = .ok (.aload_n 0, 1) := by decide +kernel
theorem dX1_spread_1 : decode cX1_spread 1 = .ok (.aload_n 0, 1) := by decide +kernel
theorem dX1_spread_2 : decode cX1_spread 2 = .ok (.getfield 32, 3) := by decide +kernel
theorem dX1_spread_5 : decode cX1_spread 5 = .ok (.invokevirtual 100, 3) := by decide +kernel
theorem dX1_spread_8 : decode cX1_spread 8 = .ok (.ireturn, 1) := by decide +kernel
set_option maxRecDepth 20000 in
theorem ggX1_isTreaty_X1_agreesAt : GoodIn wsX1_isTreaty wsX1_agreesAt := goodIn_r _ [6, 7, 8, 9, 5, 10, 11, 12, 13, 14, 15, 16, 17, 18, 19, 20, 21, 22, 23, 24, 25, 26, 27, 28, 29, 30, 31, 32, 33] (by decide +kernel) (by decide +kernel)
set_option maxRecDepth 20000 in
theorem gX1_isTreaty_X1_agreesAt : GoodIn wsX1_isTreaty (wsV RX1 104 RX1 yX1_agreesAt wsX1_agreesAt) := goodIn_app (goodIn_of _ (by decide +kernel)) ggX1_isTreaty_X1_agreesAt
theorem dX1_isTreaty_0 : decode cX1_isTreaty 0 = .ok (.aload_n 0, 1) := by decide +kernel
theorem dX1_isTreaty_1 : decode cX1_isTreaty 1 = .ok (.aload_n 0, 1) := by decide +kernel
theorem dX1_isTreaty_2 : decode cX1_isTreaty 2 = .ok (.getfield 32, 3) := by decide +kernel
theorem dX1_isTreaty_5 : decode cX1_isTreaty 5 = .ok (.invokevirtual 104, 3) := by decide +kernel
theorem dX1_isTreaty_8 : decode cX1_isTreaty 8 = .ok (.ireturn, 1) := by decide +kernel
set_option maxRecDepth 20000 in
theorem ggX1_compromise_X1_checkSomeoneThere : GoodIn wsX1_compromise wsX1_checkSomeoneThere := goodIn_ca (goodIn_r _ [6, 7, 8, 9, 30, 31, 32, 33, 34, 35, 36, 37, 38, 39] (by decide +kernel) (by decide +kernel)) (goodIn_sub (fun _ h => List.mem_cons_of_mem _ (List.mem_append_right _ h)) (by decide +kernel))
set_option maxRecDepth 20000 in
theorem gX1_compromise_X1_checkSomeoneThere : GoodIn wsX1_compromise (wsV RX1 108 RX1 yX1_checkSomeoneThere wsX1_checkSomeoneThere) := goodIn_app (goodIn_of _ (by decide +kernel)) ggX1_compromise_X1_checkSomeoneThere
set_option maxRecDepth 20000 in
theorem ggX1_compromise_X1_middleOfAll : GoodIn wsX1_compromise wsX1_middleOfAll := goodIn_r _ [13, 14, 9, 15, 16, 17, 18, 19, 20, 21, 22, 23, 24, 25, 26, 27, 28, 29, 30, 31, 32, 33, 34, 35, 36, 37, 38, 39, 40, 41] (by decide +kernel) (by decide +kernel)
set_option maxRecDepth 20000 in
theorem gX1_compromise_X1_middleOfAll : GoodIn wsX1_compromise (wsV RX1 111 RX1 yX1_middleOfAll wsX1_middleOfAll) := goodIn_app (goodIn_of _ (by decide +kernel)) ggX1_compromise_X1_middleOfAll
theorem dX1_compromise_0 : decode cX1_compromise 0 = .ok (.aload_n 0, 1) := by decide +kernel
theorem dX1_compromise_1 : decode cX1_compromise 1 = .ok (.invokevirtual 108, 3) := by decide +kernel
theorem dX1_compromise_4 : decode cX1_compromise 4 = .ok (.aload_n 0, 1) := by decide +kernel
theorem dX1_compromise_5 : decode cX1_compromise 5 = .ok (.aload_n 0, 1) := by decide +kernel
theorem dX1_compromise_6 : decode cX1_compromise 6 = .ok (.getfield 32, 3) := by decide +kernel
theorem dX1_compromise_9 : decode cX1_compromise 9 = .ok (.invokevirtual 111, 3) := by decide +kernel
theorem dX1_compromise_12 : decode cX1_compromise 12 = .ok (.ireturn, 1) := by decide +kernel
set_option maxRecDepth 20000 in
theorem ggX1_compromiseOf_X1_checkVillage : GoodIn wsX1_compromiseOf wsX1_checkVillage := goodIn_ca (goodIn_r _ [7, 8, 9] (by decide +kernel) (by decide +kernel)) (goodIn_sub (fun _ h => List.mem_cons_of_mem _ (List.mem_append_right _ h)) (by decide +kernel))
set_option maxRecDepth 20000 in
theorem gX1_compromiseOf_X1_checkVillage : GoodIn wsX1_compromiseOf (va_wsS RX1 45 yX1_checkVillage wsX1_checkVillage) := goodIn_app (goodIn_of _ (by decide +kernel)) ggX1_compromiseOf_X1_checkVillage
set_option maxRecDepth 20000 in
theorem ggX1_compromiseOf_X1_gatherVillage : GoodIn wsX1_compromiseOf wsX1_gatherVillage := goodIn_r _ [13, 3, 14, 15, 16, 17, 18, 19, 20, 21, 22, 23, 24, 25, 26, 27, 36, 37, 38, 39, 40, 41, 42, 43, 44, 45, 46, 47] (by decide +kernel) (by decide +kernel)
set_option maxRecDepth 20000 in
theorem gX1_compromiseOf_X1_gatherVillage : GoodIn wsX1_compromiseOf (wsV RX1 114 RX1 yX1_gatherVillage wsX1_gatherVillage) := goodIn_app (goodIn_of _ (by decide +kernel)) ggX1_compromiseOf_X1_gatherVillage
set_option maxRecDepth 20000 in
theorem ggX1_compromiseOf_X0_isBare : GoodIn wsX1_compromiseOf wsX0_isBare := goodIn_r _ [31, 22, 46, 47] (by decide +kernel) (by decide +kernel)
set_option maxRecDepth 20000 in
theorem gX1_compromiseOf_X0_isBare : GoodIn wsX1_compromiseOf (wsV RX1 117 RX0 yX0_isBare wsX0_isBare) := goodIn_app (goodIn_of _ (by decide +kernel)) ggX1_compromiseOf_X0_isBare
set_option maxRecDepth 20000 in
theorem ggX1_compromiseOf_X0_middle : GoodIn wsX1_compromiseOf wsX0_middle := goodIn_r _ [35, 22, 27, 46, 47] (by decide +kernel) (by decide +kernel)
set_option maxRecDepth 20000 in
theorem gX1_compromiseOf_X0_middle : GoodIn wsX1_compromiseOf (wsV RX1 123 RX0 yX0_middle wsX0_middle) := goodIn_app (goodIn_of _ (by decide +kernel)) ggX1_compromiseOf_X0_middle
theorem dX1_compromiseOf_0 : decode cX1_compromiseOf 0 = .ok (.iload_n 1, 1) := by decide +kernel
theorem dX1_compromiseOf_1 : decode cX1_compromiseOf 1 = .ok (.invokestatic 45, 3) := by decide +kernel
theorem dX1_compromiseOf_4 : decode cX1_compromiseOf 4 = .ok (.aload_n 0, 1) := by decide +kernel
theorem dX1_compromiseOf_5 : decode cX1_compromiseOf 5 = .ok (.iload_n 1, 1) := by decide +kernel
theorem dX1_compromiseOf_6 : decode cX1_compromiseOf 6 = .ok (.invokevirtual 114, 3) := by decide +kernel
theorem dX1_compromiseOf_9 : decode cX1_compromiseOf 9 = .ok (.aload_n 0, 1) := by decide +kernel
theorem dX1_compromiseOf_10 : decode cX1_compromiseOf 10 = .ok (.getfield 41, 3) := by decide +kernel
theorem dX1_compromiseOf_13 : decode cX1_compromiseOf 13 = .ok (.invokevirtual 117, 3) := by decide +kernel
theorem dX1_compromiseOf_16 : decode cX1_compromiseOf 16 = .ok (.ifCond .eq 13, 3) := by decide +kernel
theorem dX1_compromiseOf_19 : decode cX1_compromiseOf 19 = .ok (.new 56, 3) := by decide +kernel
theorem dX1_compromiseOf_22 : decode cX1_compromiseOf 22 = .ok (.dup, 1) := by decide +kernel
theorem dX1_compromiseOf_23 : decode cX1_compromiseOf 23 = .ok (.ldc 121, 2) := by decide +kernel
theorem dX1_compromiseOf_25 : decode cX1_compromiseOf 25 = .ok (.invokespecial 60, 3) := by decide +kernel
theorem dX1_compromiseOf_28 : decode cX1_compromiseOf 28 = .ok (.athrow, 1) := by decide +kernel
theorem dX1_compromiseOf_29 : decode cX1_compromiseOf 29 = .ok (.aload_n 0, 1) := by decide +kernel
theorem dX1_compromiseOf_30 : decode cX1_compromiseOf 30 = .ok (.getfield 41, 3) := by decide +kernel
theorem dX1_compromiseOf_33 : decode cX1_compromiseOf 33 = .ok (.invokevirtual 123, 3) := by decide +kernel
theorem dX1_compromiseOf_36 : decode cX1_compromiseOf 36 = .ok (.ireturn, 1) := by decide +kernel
set_option maxRecDepth 20000 in
theorem ggX1_compromiseWithout_X1_checkDelegate : GoodIn wsX1_compromiseWithout wsX1_checkDelegate := goodIn_ca (goodIn_r _ [8, 9, 10, 11, 36, 37, 38, 39, 40, 41, 42, 43, 44, 45] (by decide +kernel) (by decide +kernel)) (goodIn_sub (fun _ h => List.mem_cons_of_mem _ (List.mem_append_right _ h)) (by decide +kernel))
set_option maxRecDepth 20000 in
theorem gX1_compromiseWithout_X1_checkDelegate : GoodIn wsX1_compromiseWithout (wsV RX1 69 RX1 yX1_checkDelegate wsX1_checkDelegate) := goodIn_app (goodIn_of _ (by decide +kernel)) ggX1_compromiseWithout_X1_checkDelegate
set_option maxRecDepth 20000 in
theorem ggX1_compromiseWithout_X1_gatherOthers : GoodIn wsX1_compromiseWithout wsX1_gatherOthers := goodIn_r _ [15, 3, 11, 16, 17, 18, 19, 20, 21, 22, 23, 24, 25, 26, 27, 36, 37, 38, 39, 40, 41, 42, 43, 44, 45, 46, 47] (by decide +kernel) (by decide +kernel)
set_option maxRecDepth 20000 in
theorem gX1_compromiseWithout_X1_gatherOthers : GoodIn wsX1_compromiseWithout (wsV RX1 127 RX1 yX1_gatherOthers wsX1_gatherOthers) := goodIn_app (goodIn_of _ (by decide +kernel)) ggX1_compromiseWithout_X1_gatherOthers
set_option maxRecDepth 20000 in
theorem ggX1_compromiseWithout_X0_isBare : GoodIn wsX1_compromiseWithout wsX0_isBare := goodIn_r _ [31, 22, 46, 47] (by decide +kernel) (by decide +kernel)
set_option maxRecDepth 20000 in
theorem gX1_compromiseWithout_X0_isBare : GoodIn wsX1_compromiseWithout (wsV RX1 117 RX0 yX0_isBare wsX0_isBare) := goodIn_app (goodIn_of _ (by decide +kernel)) ggX1_compromiseWithout_X0_isBare
set_option maxRecDepth 20000 in
theorem ggX1_compromiseWithout_X0_middle : GoodIn wsX1_compromiseWithout wsX0_middle := goodIn_r _ [35, 22, 27, 46, 47] (by decide +kernel) (by decide +kernel)
set_option maxRecDepth 20000 in
theorem gX1_compromiseWithout_X0_middle : GoodIn wsX1_compromiseWithout (wsV RX1 123 RX0 yX0_middle wsX0_middle) := goodIn_app (goodIn_of _ (by decide +kernel)) ggX1_compromiseWithout_X0_middle
theorem dX1_compromiseWithout_0 : decode cX1_compromiseWithout 0 = .ok (.aload_n 0, 1) := by decide +kernel
theorem dX1_compromiseWithout_1 : decode cX1_compromiseWithout 1 = .ok (.iload_n 1, 1) := by decide +kernel
theorem dX1_compromiseWithout_2 : decode cX1_compromiseWithout 2 = .ok (.invokevirtual 69, 3) := by decide +kernel
theorem dX1_compromiseWithout_5 : decode cX1_compromiseWithout 5 = .ok (.aload_n 0, 1) := by decide +kernel
theorem dX1_compromiseWithout_6 : decode cX1_compromiseWithout 6 = .ok (.iload_n 1, 1) := by decide +kernel
theorem dX1_compromiseWithout_7 : decode cX1_compromiseWithout 7 = .ok (.invokevirtual 127, 3) := by decide +kernel
theorem dX1_compromiseWithout_10 : decode cX1_compromiseWithout 10 = .ok (.aload_n 0, 1) := by decide +kernel
theorem dX1_compromiseWithout_11 : decode cX1_compromiseWithout 11 = .ok (.getfield 41, 3) := by decide +kernel
theorem dX1_compromiseWithout_14 : decode cX1_compromiseWithout 14 = .ok (.invokevirtual 117, 3) := by decide +kernel
theorem dX1_compromiseWithout_17 : decode cX1_compromiseWithout 17 = .ok (.ifCond .eq 13, 3) := by decide +kernel
theorem dX1_compromiseWithout_20 : decode cX1_compromiseWithout 20 = .ok (.new 56, 3) := by decide +kernel
theorem dX1_compromiseWithout_23 : decode cX1_compromiseWithout 23 = .ok (.dup, 1) := by decide +kernel
theorem dX1_compromiseWithout_24 : decode cX1_compromiseWithout 24 = .ok (.ldc 130, 2) := by decide +kernel
theorem dX1_compromiseWithout_26 : decode cX1_compromiseWithout 26 = .ok (.invokespecial 60, 3) := by decide +kernel
theorem dX1_compromiseWithout_29 : decode cX1_compromiseWithout 29 = .ok (.athrow, 1) := by decide +kernel
theorem dX1_compromiseWithout_30 : decode cX1_compromiseWithout 30 = .ok (.aload_n 0, 1) := by decide +kernel
theorem dX1_compromiseWithout_31 : decode cX1_compromiseWithout 31 = .ok (.getfield 41, 3) := by decide +kernel
theorem dX1_compromiseWithout_34 : decode cX1_compromiseWithout 34 = .ok (.invokevirtual 123, 3) := by decide +kernel
theorem dX1_compromiseWithout_37 : decode cX1_compromiseWithout 37 = .ok (.ireturn, 1) := by decide +kernel
set_option maxRecDepth 20000 in
theorem ggX1_decisiveOne_X1_checkSomeoneThere : GoodIn wsX1_decisiveOne wsX1_checkSomeoneThere := goodIn_ca (goodIn_r _ [7, 8, 9, 2, 30, 31, 32, 33, 34, 35, 36, 37, 38, 39] (by decide +kernel) (by decide +kernel)) (goodIn_sub (fun _ h => List.mem_cons_of_mem _ (List.mem_append_right _ h)) (by decide +kernel))
set_option maxRecDepth 20000 in
theorem gX1_decisiveOne_X1_checkSomeoneThere : GoodIn wsX1_decisiveOne (wsV RX1 108 RX1 yX1_checkSomeoneThere wsX1_checkSomeoneThere) := goodIn_app (goodIn_of _ (by decide +kernel)) ggX1_decisiveOne_X1_checkSomeoneThere
set_option maxRecDepth 20000 in
theorem ggX1_decisiveOne_X1_middleOfAll : GoodIn wsX1_decisiveOne wsX1_middleOfAll := goodIn_r _ [13, 14, 2, 15, 16, 17, 18, 19, 20, 21, 22, 23, 24, 25, 26, 27, 28, 29, 30, 31, 32, 33, 34, 35, 36, 37, 38, 39, 40, 41] (by decide +kernel) (by decide +kernel)
set_option maxRecDepth 20000 in
theorem gX1_decisiveOne_X1_middleOfAll : GoodIn wsX1_decisiveOne (wsV RX1 111 RX1 yX1_middleOfAll wsX1_middleOfAll) := goodIn_app (goodIn_of _ (by decide +kernel)) ggX1_decisiveOne_X1_middleOfAll
theorem dX1_decisiveOne_0 : decode cX1_decisiveOne 0 = .ok (.aload_n 0, 1) := by decide +kernel
theorem dX1_decisiveOne_1 : decode cX1_decisiveOne 1 = .ok (.invokevirtual 108, 3) := by decide +kernel
theorem dX1_decisiveOne_4 : decode cX1_decisiveOne 4 = .ok (.aload_n 0, 1) := by decide +kernel
theorem dX1_decisiveOne_5 : decode cX1_decisiveOne 5 = .ok (.aload_n 0, 1) := by decide +kernel
theorem dX1_decisiveOne_6 : decode cX1_decisiveOne 6 = .ok (.getfield 32, 3) := by decide +kernel
theorem dX1_decisiveOne_9 : decode cX1_decisiveOne 9 = .ok (.invokevirtual 111, 3) := by decide +kernel
theorem dX1_decisiveOne_12 : decode cX1_decisiveOne 12 = .ok (.istore_n 1, 1) := by decide +kernel
theorem dX1_decisiveOne_13 : decode cX1_decisiveOne 13 = .ok (.iconst 0, 1) := by decide +kernel
theorem dX1_decisiveOne_14 : decode cX1_decisiveOne 14 = .ok (.istore_n 2, 1) := by decide +kernel
theorem dX1_decisiveOne_15 : decode cX1_decisiveOne 15 = .ok (.iload_n 2, 1) := by decide +kernel
theorem dX1_decisiveOne_16 : decode cX1_decisiveOne 16 = .ok (.aload_n 0, 1) := by decide +kernel
theorem dX1_decisiveOne_17 : decode cX1_decisiveOne 17 = .ok (.getfield 7, 3) := by decide +kernel
theorem dX1_decisiveOne_20 : decode cX1_decisiveOne 20 = .ok (.iconst 1, 1) := by decide +kernel
theorem dX1_decisiveOne_21 : decode cX1_decisiveOne 21 = .ok (.isub, 1) := by decide +kernel
theorem dX1_decisiveOne_22 : decode cX1_decisiveOne 22 = .ok (.if_icmp .ge 19, 3) := by decide +kernel
theorem dX1_decisiveOne_25 : decode cX1_decisiveOne 25 = .ok (.aload_n 0, 1) := by decide +kernel
theorem dX1_decisiveOne_26 : decode cX1_decisiveOne 26 = .ok (.getfield 32, 3) := by decide +kernel
theorem dX1_decisiveOne_29 : decode cX1_decisiveOne 29 = .ok (.iload_n 2, 1) := by decide +kernel
theorem dX1_decisiveOne_30 : decode cX1_decisiveOne 30 = .ok (.iaload, 1) := by decide +kernel
theorem dX1_decisiveOne_31 : decode cX1_decisiveOne 31 = .ok (.iload_n 1, 1) := by decide +kernel
theorem dX1_decisiveOne_32 : decode cX1_decisiveOne 32 = .ok (.if_icmp .eq 9, 3) := by decide +kernel
theorem dX1_decisiveOne_35 : decode cX1_decisiveOne 35 = .ok (.iinc 2 1, 3) := by decide +kernel
theorem dX1_decisiveOne_38 : decode cX1_decisiveOne 38 = .ok (.goto (-23), 3) := by decide +kernel
theorem dX1_decisiveOne_41 : decode cX1_decisiveOne 41 = .ok (.iload_n 2, 1) := by decide +kernel
theorem dX1_decisiveOne_42 : decode cX1_decisiveOne 42 = .ok (.ireturn, 1) := by decide +kernel
set_option maxRecDepth 20000 in
theorem ggX1_discontentOf_X1_checkDelegate : GoodIn wsX1_discontentOf wsX1_checkDelegate := goodIn_ca (goodIn_r _ [6, 7, 8, 9, 39, 40, 41, 42, 43, 44, 45, 46, 47, 48] (by decide +kernel) (by decide +kernel)) (goodIn_sub (fun _ h => List.mem_cons_of_mem _ (List.mem_append_right _ h)) (by decide +kernel))
set_option maxRecDepth 20000 in
theorem gX1_discontentOf_X1_checkDelegate : GoodIn wsX1_discontentOf (wsV RX1 69 RX1 yX1_checkDelegate wsX1_checkDelegate) := goodIn_app (goodIn_of _ (by decide +kernel)) ggX1_discontentOf_X1_checkDelegate
set_option maxRecDepth 20000 in
theorem ggX1_discontentOf_X1_middleOfAll : GoodIn wsX1_discontentOf wsX1_middleOfAll := goodIn_r _ [13, 14, 9, 15, 16, 17, 18, 19, 20, 21, 22, 23, 24, 25, 26, 27, 28, 29, 39, 40, 41, 42, 43, 44, 45, 46, 47, 48, 49, 50] (by decide +kernel) (by decide +kernel)
set_option maxRecDepth 20000 in
theorem gX1_discontentOf_X1_middleOfAll : GoodIn wsX1_discontentOf (wsV RX1 111 RX1 yX1_middleOfAll wsX1_middleOfAll) := goodIn_app (goodIn_of _ (by decide +kernel)) ggX1_discontentOf_X1_middleOfAll
set_option maxRecDepth 20000 in
theorem ggX1_discontentOf_X1_discontent : GoodIn wsX1_discontentOf wsX1_discontent := goodIn_r _ [33, 34, 35, 36, 37, 38, 39, 40, 41, 42, 43, 44, 45, 46, 47, 48] (by decide +kernel) (by decide +kernel)
set_option maxRecDepth 20000 in
theorem gX1_discontentOf_X1_discontent : GoodIn wsX1_discontentOf (wsV RX1 132 RX1 yX1_discontent wsX1_discontent) := goodIn_app (goodIn_of _ (by decide +kernel)) ggX1_discontentOf_X1_discontent
theorem dX1_discontentOf_0 : decode cX1_discontentOf 0 = .ok (.aload_n 0, 1) := by decide +kernel
theorem dX1_discontentOf_1 : decode cX1_discontentOf 1 = .ok (.iload_n 1, 1) := by decide +kernel
theorem dX1_discontentOf_2 : decode cX1_discontentOf 2 = .ok (.invokevirtual 69, 3) := by decide +kernel
theorem dX1_discontentOf_5 : decode cX1_discontentOf 5 = .ok (.aload_n 0, 1) := by decide +kernel
theorem dX1_discontentOf_6 : decode cX1_discontentOf 6 = .ok (.iload_n 1, 1) := by decide +kernel
theorem dX1_discontentOf_7 : decode cX1_discontentOf 7 = .ok (.aload_n 0, 1) := by decide +kernel
theorem dX1_discontentOf_8 : decode cX1_discontentOf 8 = .ok (.aload_n 0, 1) := by decide +kernel
theorem dX1_discontentOf_9 : decode cX1_discontentOf 9 = .ok (.getfield 32, 3) := by decide +kernel
theorem dX1_discontentOf_12 : decode cX1_discontentOf 12 = .ok (.invokevirtual 111, 3) := by decide +kernel
theorem dX1_discontentOf_15 : decode cX1_discontentOf 15 = .ok (.invokevirtual 132, 3) := by decide +kernel
theorem dX1_discontentOf_18 : decode cX1_discontentOf 18 = .ok (.ireturn, 1) := by decide +kernel
set_option maxRecDepth 20000 in
theorem ggX1_allDiscontent_X1_middleOfAll : GoodIn wsX1_allDiscontent wsX1_middleOfAll := goodIn_r _ [6, 7, 8, 9, 10, 11, 12, 13, 14, 15, 16, 17, 18, 19, 20, 21, 22, 23, 37, 38, 39, 40, 41, 42, 43, 44, 45, 46, 47, 48] (by decide +kernel) (by decide +kernel)
set_option maxRecDepth 20000 in
theorem gX1_allDiscontent_X1_middleOfAll : GoodIn wsX1_allDiscontent (wsV RX1 111 RX1 yX1_middleOfAll wsX1_middleOfAll) := goodIn_app (goodIn_of _ (by decide +kernel)) ggX1_allDiscontent_X1_middleOfAll
set_option maxRecDepth 20000 in
theorem ggX1_allDiscontent_X1_discontentOfAll : GoodIn wsX1_allDiscontent wsX1_discontentOfAll := goodIn_r _ [27, 8, 28, 29, 30, 5, 31, 32, 33, 34, 35, 36, 37, 38, 39, 40, 41, 42, 43, 44, 45, 46] (by decide +kernel) (by decide +kernel)
set_option maxRecDepth 20000 in
theorem gX1_allDiscontent_X1_discontentOfAll : GoodIn wsX1_allDiscontent (wsV RX1 136 RX1 yX1_discontentOfAll wsX1_discontentOfAll) := goodIn_app (goodIn_of _ (by decide +kernel)) ggX1_allDiscontent_X1_discontentOfAll
theorem dX1_allDiscontent_0 : decode cX1_allDiscontent 0 = .ok (.aload_n 0, 1) := by decide +kernel
theorem dX1_allDiscontent_1 : decode cX1_allDiscontent 1 = .ok (.aload_n 0, 1) := by decide +kernel
theorem dX1_allDiscontent_2 : decode cX1_allDiscontent 2 = .ok (.aload_n 0, 1) := by decide +kernel
theorem dX1_allDiscontent_3 : decode cX1_allDiscontent 3 = .ok (.getfield 32, 3) := by decide +kernel
theorem dX1_allDiscontent_6 : decode cX1_allDiscontent 6 = .ok (.invokevirtual 111, 3) := by decide +kernel
theorem dX1_allDiscontent_9 : decode cX1_allDiscontent 9 = .ok (.invokevirtual 136, 3) := by decide +kernel
theorem dX1_allDiscontent_12 : decode cX1_allDiscontent 12 = .ok (.ireturn, 1) := by decide +kernel
set_option maxRecDepth 20000 in
theorem ggX1_bestPlank_X1_checkSomeoneThere : GoodIn wsX1_bestPlank wsX1_checkSomeoneThere := goodIn_ca (goodIn_r _ [5, 6, 7, 8, 22, 23, 24, 25, 26, 27, 28, 29, 30, 31] (by decide +kernel) (by decide +kernel)) (goodIn_sub (fun _ h => List.mem_cons_of_mem _ (List.mem_append_right _ h)) (by decide +kernel))
set_option maxRecDepth 20000 in
theorem gX1_bestPlank_X1_checkSomeoneThere : GoodIn wsX1_bestPlank (wsV RX1 108 RX1 yX1_checkSomeoneThere wsX1_checkSomeoneThere) := goodIn_app (goodIn_of _ (by decide +kernel)) ggX1_bestPlank_X1_checkSomeoneThere
set_option maxRecDepth 20000 in
theorem ggX1_bestPlank_X1_discontentOfAll : GoodIn wsX1_bestPlank wsX1_discontentOfAll := goodIn_r _ [12, 8, 13, 14, 15, 4, 16, 17, 18, 19, 20, 21, 22, 23, 24, 25, 26, 27, 28, 29, 30, 31] (by decide +kernel) (by decide +kernel)
set_option maxRecDepth 20000 in
theorem gX1_bestPlank_X1_discontentOfAll : GoodIn wsX1_bestPlank (wsV RX1 136 RX1 yX1_discontentOfAll wsX1_discontentOfAll) := goodIn_app (goodIn_of _ (by decide +kernel)) ggX1_bestPlank_X1_discontentOfAll
theorem dX1_bestPlank_0 : decode cX1_bestPlank 0 = .ok (.aload_n 0, 1) := by decide +kernel
theorem dX1_bestPlank_1 : decode cX1_bestPlank 1 = .ok (.invokevirtual 108, 3) := by decide +kernel
theorem dX1_bestPlank_4 : decode cX1_bestPlank 4 = .ok (.iconst 0, 1) := by decide +kernel
theorem dX1_bestPlank_5 : decode cX1_bestPlank 5 = .ok (.istore_n 1, 1) := by decide +kernel
theorem dX1_bestPlank_6 : decode cX1_bestPlank 6 = .ok (.aload_n 0, 1) := by decide +kernel
theorem dX1_bestPlank_7 : decode cX1_bestPlank 7 = .ok (.iconst 0, 1) := by decide +kernel
theorem dX1_bestPlank_8 : decode cX1_bestPlank 8 = .ok (.invokevirtual 136, 3) := by decide +kernel
theorem dX1_bestPlank_11 : decode cX1_bestPlank 11 = .ok (.istore_n 2, 1) := by decide +kernel
theorem dX1_bestPlank_12 : decode cX1_bestPlank 12 = .ok (.iconst 1, 1) := by decide +kernel
theorem dX1_bestPlank_13 : decode cX1_bestPlank 13 = .ok (.istore_n 3, 1) := by decide +kernel
theorem dX1_bestPlank_14 : decode cX1_bestPlank 14 = .ok (.iload_n 3, 1) := by decide +kernel
theorem dX1_bestPlank_15 : decode cX1_bestPlank 15 = .ok (.bipush 41, 2) := by decide +kernel
theorem dX1_bestPlank_17 : decode cX1_bestPlank 17 = .ok (.if_icmp .ge 27, 3) := by decide +kernel
theorem dX1_bestPlank_20 : decode cX1_bestPlank 20 = .ok (.aload_n 0, 1) := by decide +kernel
theorem dX1_bestPlank_21 : decode cX1_bestPlank 21 = .ok (.iload_n 3, 1) := by decide +kernel
theorem dX1_bestPlank_22 : decode cX1_bestPlank 22 = .ok (.invokevirtual 136, 3) := by decide +kernel
theorem dX1_bestPlank_25 : decode cX1_bestPlank 25 = .ok (.istore 4, 2) := by decide +kernel
theorem dX1_bestPlank_27 : decode cX1_bestPlank 27 = .ok (.iload 4, 2) := by decide +kernel
theorem dX1_bestPlank_29 : decode cX1_bestPlank 29 = .ok (.iload_n 2, 1) := by decide +kernel
theorem dX1_bestPlank_30 : decode cX1_bestPlank 30 = .ok (.if_icmp .ge 8, 3) := by decide +kernel
theorem dX1_bestPlank_33 : decode cX1_bestPlank 33 = .ok (.iload 4, 2) := by decide +kernel
theorem dX1_bestPlank_35 : decode cX1_bestPlank 35 = .ok (.istore_n 2, 1) := by decide +kernel
theorem dX1_bestPlank_36 : decode cX1_bestPlank 36 = .ok (.iload_n 3, 1) := by decide +kernel
theorem dX1_bestPlank_37 : decode cX1_bestPlank 37 = .ok (.istore_n 1, 1) := by decide +kernel
theorem dX1_bestPlank_38 : decode cX1_bestPlank 38 = .ok (.iinc 3 1, 3) := by decide +kernel
theorem dX1_bestPlank_41 : decode cX1_bestPlank 41 = .ok (.goto (-27), 3) := by decide +kernel
theorem dX1_bestPlank_44 : decode cX1_bestPlank 44 = .ok (.iload_n 1, 1) := by decide +kernel
theorem dX1_bestPlank_45 : decode cX1_bestPlank 45 = .ok (.ireturn, 1) := by decide +kernel
set_option maxRecDepth 20000 in
theorem ggX1_votesFor_X1_checkTwoPlanks : GoodIn wsX1_votesFor wsX1_checkTwoPlanks := goodIn_ca (goodIn_ca (goodIn_r _ [4, 5, 6, 7, 8, 3, 9, 10, 11] (by decide +kernel) (by decide +kernel)) (goodIn_sub (fun _ h => List.mem_cons_of_mem _ (List.mem_append_left _ (List.mem_append_right _ h))) (by decide +kernel))) (goodIn_sub (fun _ h => List.mem_cons_of_mem _ (List.mem_append_right _ h)) (by decide +kernel))
set_option maxRecDepth 20000 in
theorem gX1_votesFor_X1_checkTwoPlanks : GoodIn wsX1_votesFor (va_wsS RX1 140 yX1_checkTwoPlanks wsX1_checkTwoPlanks) := goodIn_app (goodIn_of _ (by decide +kernel)) ggX1_votesFor_X1_checkTwoPlanks
set_option maxRecDepth 20000 in
theorem ggX1_votesFor_X1_countVotes : GoodIn wsX1_votesFor wsX1_countVotes := goodIn_r _ [15, 16, 17, 18, 19, 3, 20, 21, 22, 23, 24, 25, 26, 27, 28, 29, 30, 31, 32, 33, 34, 35] (by decide +kernel) (by decide +kernel)
set_option maxRecDepth 20000 in
theorem gX1_votesFor_X1_countVotes : GoodIn wsX1_votesFor (wsV RX1 143 RX1 yX1_countVotes wsX1_countVotes) := goodIn_app (goodIn_of _ (by decide +kernel)) ggX1_votesFor_X1_countVotes
theorem dX1_votesFor_0 : decode cX1_votesFor 0 = .ok (.iload_n 1, 1) := by decide +kernel
theorem dX1_votesFor_1 : decode cX1_votesFor 1 = .ok (.iload_n 2, 1) := by decide +kernel
theorem dX1_votesFor_2 : decode cX1_votesFor 2 = .ok (.invokestatic 140, 3) := by decide +kernel
theorem dX1_votesFor_5 : decode cX1_votesFor 5 = .ok (.aload_n 0, 1) := by decide +kernel
theorem dX1_votesFor_6 : decode cX1_votesFor 6 = .ok (.iload_n 1, 1) := by decide +kernel
theorem dX1_votesFor_7 : decode cX1_votesFor 7 = .ok (.iload_n 2, 1) := by decide +kernel
theorem dX1_votesFor_8 : decode cX1_votesFor 8 = .ok (.invokevirtual 143, 3) := by decide +kernel
theorem dX1_votesFor_11 : decode cX1_votesFor 11 = .ok (.ireturn, 1) := by decide +kernel
set_option maxRecDepth 20000 in
theorem ggX1_winnerOf_X1_checkTwoPlanks : GoodIn wsX1_winnerOf wsX1_checkTwoPlanks := goodIn_ca (goodIn_ca (goodIn_r _ [8, 9, 10, 11, 12, 7, 13, 14, 15] (by decide +kernel) (by decide +kernel)) (goodIn_sub (fun _ h => List.mem_cons_of_mem _ (List.mem_append_left _ (List.mem_append_right _ h))) (by decide +kernel))) (goodIn_sub (fun _ h => List.mem_cons_of_mem _ (List.mem_append_right _ h)) (by decide +kernel))
set_option maxRecDepth 20000 in
theorem gX1_winnerOf_X1_checkTwoPlanks : GoodIn wsX1_winnerOf (va_wsS RX1 140 yX1_checkTwoPlanks wsX1_checkTwoPlanks) := goodIn_app (goodIn_of _ (by decide +kernel)) ggX1_winnerOf_X1_checkTwoPlanks
set_option maxRecDepth 20000 in
theorem ggX1_winnerOf_X1_countVotes : GoodIn wsX1_winnerOf wsX1_countVotes := goodIn_r _ [19, 20, 21, 22, 23, 7, 24, 25, 26, 27, 3, 28, 29, 30, 31, 32, 33, 34, 35, 36, 37, 38] (by decide +kernel) (by decide +kernel)
set_option maxRecDepth 20000 in
theorem gX1_winnerOf_X1_countVotes : GoodIn wsX1_winnerOf (wsV RX1 143 RX1 yX1_countVotes wsX1_countVotes) := goodIn_app (goodIn_of _ (by decide +kernel)) ggX1_winnerOf_X1_countVotes
theorem dX1_winnerOf_0 : decode cX1_winnerOf 0 = .ok (.iload_n 1, 1) := by decide +kernel
theorem dX1_winnerOf_1 : decode cX1_winnerOf 1 = .ok (.iload_n 2, 1) := by decide +kernel
theorem dX1_winnerOf_2 : decode cX1_winnerOf 2 = .ok (.invokestatic 140, 3) := by decide +kernel
theorem dX1_winnerOf_5 : decode cX1_winnerOf 5 = .ok (.aload_n 0, 1) := by decide +kernel
theorem dX1_winnerOf_6 : decode cX1_winnerOf 6 = .ok (.iload_n 1, 1) := by decide +kernel
theorem dX1_winnerOf_7 : decode cX1_winnerOf 7 = .ok (.iload_n 2, 1) := by decide +kernel
theorem dX1_winnerOf_8 : decode cX1_winnerOf 8 = .ok (.invokevirtual 143, 3) := by decide +kernel
theorem dX1_winnerOf_11 : decode cX1_winnerOf 11 = .ok (.istore_n 3, 1) := by decide +kernel
theorem dX1_winnerOf_12 : decode cX1_winnerOf 12 = .ok (.aload_n 0, 1) := by decide +kernel
theorem dX1_winnerOf_13 : decode cX1_winnerOf 13 = .ok (.iload_n 2, 1) := by decide +kernel
theorem dX1_winnerOf_14 : decode cX1_winnerOf 14 = .ok (.iload_n 1, 1) := by decide +kernel
theorem dX1_winnerOf_15 : decode cX1_winnerOf 15 = .ok (.invokevirtual 143, 3) := by decide +kernel
theorem dX1_winnerOf_18 : decode cX1_winnerOf 18 = .ok (.istore 4, 2) := by decide +kernel
theorem dX1_winnerOf_20 : decode cX1_winnerOf 20 = .ok (.iload_n 3, 1) := by decide +kernel
theorem dX1_winnerOf_21 : decode cX1_winnerOf 21 = .ok (.iload 4, 2) := by decide +kernel
theorem dX1_winnerOf_23 : decode cX1_winnerOf 23 = .ok (.if_icmp .ne 9, 3) := by decide +kernel
theorem dX1_winnerOf_26 : decode cX1_winnerOf 26 = .ok (.iload_n 1, 1) := by decide +kernel
theorem dX1_winnerOf_27 : decode cX1_winnerOf 27 = .ok (.iload_n 2, 1) := by decide +kernel
theorem dX1_winnerOf_28 : decode cX1_winnerOf 28 = .ok (.invokestatic 146, 3) := by decide +kernel
theorem dX1_winnerOf_31 : decode cX1_winnerOf 31 = .ok (.ireturn, 1) := by decide +kernel
theorem dX1_winnerOf_32 : decode cX1_winnerOf 32 = .ok (.iload_n 3, 1) := by decide +kernel
theorem dX1_winnerOf_33 : decode cX1_winnerOf 33 = .ok (.iload 4, 2) := by decide +kernel
theorem dX1_winnerOf_35 : decode cX1_winnerOf 35 = .ok (.if_icmp .le 7, 3) := by decide +kernel
theorem dX1_winnerOf_38 : decode cX1_winnerOf 38 = .ok (.iload_n 1, 1) := by decide +kernel
theorem dX1_winnerOf_39 : decode cX1_winnerOf 39 = .ok (.goto 4, 3) := by decide +kernel
theorem dX1_winnerOf_42 : decode cX1_winnerOf 42 = .ok (.iload_n 2, 1) := by decide +kernel
theorem dX1_winnerOf_43 : decode cX1_winnerOf 43 = .ok (.ireturn, 1) := by decide +kernel
set_option maxRecDepth 20000 in
theorem ggX1_canLeadTo_X1_checkDelegate : GoodIn wsX1_canLeadTo wsX1_checkDelegate := goodIn_ca (goodIn_r _ [5, 6, 7, 8, 40, 41, 42, 43, 44, 45, 46, 47, 48, 49] (by decide +kernel) (by decide +kernel)) (goodIn_sub (fun _ h => List.mem_cons_of_mem _ (List.mem_append_right _ h)) (by decide +kernel))
set_option maxRecDepth 20000 in
theorem gX1_canLeadTo_X1_checkDelegate : GoodIn wsX1_canLeadTo (wsV RX1 69 RX1 yX1_checkDelegate wsX1_checkDelegate) := goodIn_app (goodIn_of _ (by decide +kernel)) ggX1_canLeadTo_X1_checkDelegate
set_option maxRecDepth 20000 in
theorem ggX1_canLeadTo_X1_checkPlank : GoodIn wsX1_canLeadTo wsX1_checkPlank := goodIn_ca (goodIn_r _ [11, 6, 7] (by decide +kernel) (by decide +kernel)) (goodIn_sub (fun _ h => List.mem_cons_of_mem _ (List.mem_append_right _ h)) (by decide +kernel))
set_option maxRecDepth 20000 in
theorem gX1_canLeadTo_X1_checkPlank : GoodIn wsX1_canLeadTo (va_wsS RX1 49 yX1_checkPlank wsX1_checkPlank) := goodIn_app (goodIn_of _ (by decide +kernel)) ggX1_canLeadTo_X1_checkPlank
set_option maxRecDepth 20000 in
theorem ggX1_canLeadTo_X1_isWilling : GoodIn wsX1_canLeadTo wsX1_isWilling := goodIn_r _ [15, 16, 17, 18, 19, 4, 20, 21, 22, 23, 24, 25, 40, 41, 42, 43, 44, 45, 46, 47, 48, 49] (by decide +kernel) (by decide +kernel)
set_option maxRecDepth 20000 in
theorem gX1_canLeadTo_X1_isWilling : GoodIn wsX1_canLeadTo (wsV RX1 76 RX1 yX1_isWilling wsX1_isWilling) := goodIn_app (goodIn_of _ (by decide +kernel)) ggX1_canLeadTo_X1_isWilling
set_option maxRecDepth 20000 in
theorem ggX1_canLeadTo_X1_hasPlaceFor : GoodIn wsX1_canLeadTo wsX1_hasPlaceFor := goodIn_r _ [29, 30, 31, 32, 33, 4, 34, 35, 36, 37, 38, 39, 8, 40, 41, 42, 43, 44, 45, 46, 47, 48, 49] (by decide +kernel) (by decide +kernel)
set_option maxRecDepth 20000 in
theorem gX1_canLeadTo_X1_hasPlaceFor : GoodIn wsX1_canLeadTo (wsV RX1 82 RX1 yX1_hasPlaceFor wsX1_hasPlaceFor) := goodIn_app (goodIn_of _ (by decide +kernel)) ggX1_canLeadTo_X1_hasPlaceFor
theorem dX1_canLeadTo_0 : decode cX1_canLeadTo 0 = .ok (.aload_n 0, 1) := by decide +kernel
theorem dX1_canLeadTo_1 : decode cX1_canLeadTo 1 = .ok (.iload_n 1, 1) := by decide +kernel
theorem dX1_canLeadTo_2 : decode cX1_canLeadTo 2 = .ok (.invokevirtual 69, 3) := by decide +kernel
theorem dX1_canLeadTo_5 : decode cX1_canLeadTo 5 = .ok (.iload_n 2, 1) := by decide +kernel
theorem dX1_canLeadTo_6 : decode cX1_canLeadTo 6 = .ok (.invokestatic 49, 3) := by decide +kernel
theorem dX1_canLeadTo_9 : decode cX1_canLeadTo 9 = .ok (.aload_n 0, 1) := by decide +kernel
theorem dX1_canLeadTo_10 : decode cX1_canLeadTo 10 = .ok (.iload_n 1, 1) := by decide +kernel
theorem dX1_canLeadTo_11 : decode cX1_canLeadTo 11 = .ok (.iload_n 2, 1) := by decide +kernel
theorem dX1_canLeadTo_12 : decode cX1_canLeadTo 12 = .ok (.invokevirtual 76, 3) := by decide +kernel
theorem dX1_canLeadTo_15 : decode cX1_canLeadTo 15 = .ok (.ifCond .eq 16, 3) := by decide +kernel
theorem dX1_canLeadTo_18 : decode cX1_canLeadTo 18 = .ok (.aload_n 0, 1) := by decide +kernel
theorem dX1_canLeadTo_19 : decode cX1_canLeadTo 19 = .ok (.iload_n 1, 1) := by decide +kernel
theorem dX1_canLeadTo_20 : decode cX1_canLeadTo 20 = .ok (.iload_n 2, 1) := by decide +kernel
theorem dX1_canLeadTo_21 : decode cX1_canLeadTo 21 = .ok (.invokevirtual 82, 3) := by decide +kernel
theorem dX1_canLeadTo_24 : decode cX1_canLeadTo 24 = .ok (.ifCond .eq 7, 3) := by decide +kernel
theorem dX1_canLeadTo_27 : decode cX1_canLeadTo 27 = .ok (.iconst 1, 1) := by decide +kernel
theorem dX1_canLeadTo_28 : decode cX1_canLeadTo 28 = .ok (.goto 4, 3) := by decide +kernel
theorem dX1_canLeadTo_31 : decode cX1_canLeadTo 31 = .ok (.iconst 0, 1) := by decide +kernel
theorem dX1_canLeadTo_32 : decode cX1_canLeadTo 32 = .ok (.ireturn, 1) := by decide +kernel
set_option maxRecDepth 20000 in
theorem ggX1_wouldStepTo_X1_checkDelegate : GoodIn wsX1_wouldStepTo wsX1_checkDelegate := goodIn_ca (goodIn_r _ [6, 7, 8, 9, 51, 52, 53, 54, 55, 56, 57, 58, 59, 60] (by decide +kernel) (by decide +kernel)) (goodIn_sub (fun _ h => List.mem_cons_of_mem _ (List.mem_append_right _ h)) (by decide +kernel))
set_option maxRecDepth 20000 in
theorem gX1_wouldStepTo_X1_checkDelegate : GoodIn wsX1_wouldStepTo (wsV RX1 69 RX1 yX1_checkDelegate wsX1_checkDelegate) := goodIn_app (goodIn_of _ (by decide +kernel)) ggX1_wouldStepTo_X1_checkDelegate
set_option maxRecDepth 20000 in
theorem ggX1_wouldStepTo_X1_middleOfAll : GoodIn wsX1_wouldStepTo wsX1_middleOfAll := goodIn_r _ [13, 14, 9, 15, 16, 17, 18, 19, 20, 21, 22, 23, 24, 25, 26, 27, 28, 29, 51, 52, 53, 54, 55, 56, 57, 58, 59, 60, 61, 62] (by decide +kernel) (by decide +kernel)
set_option maxRecDepth 20000 in
theorem gX1_wouldStepTo_X1_middleOfAll : GoodIn wsX1_wouldStepTo (wsV RX1 111 RX1 yX1_middleOfAll wsX1_middleOfAll) := goodIn_app (goodIn_of _ (by decide +kernel)) ggX1_wouldStepTo_X1_middleOfAll
set_option maxRecDepth 20000 in
theorem ggX1_wouldStepTo_X1_stepFrom : GoodIn wsX1_wouldStepTo wsX1_stepFrom := goodIn_r _ [33, 34, 35, 36, 37, 5, 38, 39, 40, 41, 42, 43, 44, 45, 46, 47, 48, 49, 50, 51, 52, 53, 54, 55, 56, 57, 58, 59, 60] (by decide +kernel) (by decide +kernel)
set_option maxRecDepth 20000 in
theorem gX1_wouldStepTo_X1_stepFrom : GoodIn wsX1_wouldStepTo (wsV RX1 151 RX1 yX1_stepFrom wsX1_stepFrom) := goodIn_app (goodIn_of _ (by decide +kernel)) ggX1_wouldStepTo_X1_stepFrom
theorem dX1_wouldStepTo_0 : decode cX1_wouldStepTo 0 = .ok (.aload_n 0, 1) := by decide +kernel
theorem dX1_wouldStepTo_1 : decode cX1_wouldStepTo 1 = .ok (.iload_n 1, 1) := by decide +kernel
theorem dX1_wouldStepTo_2 : decode cX1_wouldStepTo 2 = .ok (.invokevirtual 69, 3) := by decide +kernel
theorem dX1_wouldStepTo_5 : decode cX1_wouldStepTo 5 = .ok (.aload_n 0, 1) := by decide +kernel
theorem dX1_wouldStepTo_6 : decode cX1_wouldStepTo 6 = .ok (.iload_n 1, 1) := by decide +kernel
theorem dX1_wouldStepTo_7 : decode cX1_wouldStepTo 7 = .ok (.aload_n 0, 1) := by decide +kernel
theorem dX1_wouldStepTo_8 : decode cX1_wouldStepTo 8 = .ok (.getfield 32, 3) := by decide +kernel
theorem dX1_wouldStepTo_11 : decode cX1_wouldStepTo 11 = .ok (.iload_n 1, 1) := by decide +kernel
theorem dX1_wouldStepTo_12 : decode cX1_wouldStepTo 12 = .ok (.iaload, 1) := by decide +kernel
theorem dX1_wouldStepTo_13 : decode cX1_wouldStepTo 13 = .ok (.aload_n 0, 1) := by decide +kernel
theorem dX1_wouldStepTo_14 : decode cX1_wouldStepTo 14 = .ok (.aload_n 0, 1) := by decide +kernel
theorem dX1_wouldStepTo_15 : decode cX1_wouldStepTo 15 = .ok (.getfield 32, 3) := by decide +kernel
theorem dX1_wouldStepTo_18 : decode cX1_wouldStepTo 18 = .ok (.invokevirtual 111, 3) := by decide +kernel
theorem dX1_wouldStepTo_21 : decode cX1_wouldStepTo 21 = .ok (.invokevirtual 151, 3) := by decide +kernel
theorem dX1_wouldStepTo_24 : decode cX1_wouldStepTo 24 = .ok (.ireturn, 1) := by decide +kernel
set_option maxRecDepth 20000 in
theorem ggX1_isStill_X1_copyPlanksToLater : GoodIn wsX1_isStill wsX1_copyPlanksToLater := goodIn_r _ [6, 7, 1, 8, 63, 64, 65, 66, 67, 68, 69, 70, 71, 72] (by decide +kernel) (by decide +kernel)
set_option maxRecDepth 20000 in
theorem gX1_isStill_X1_copyPlanksToLater : GoodIn wsX1_isStill (wsV RX1 155 RX1 yX1_copyPlanksToLater wsX1_copyPlanksToLater) := goodIn_app (goodIn_of _ (by decide +kernel)) ggX1_isStill_X1_copyPlanksToLater
set_option maxRecDepth 20000 in
theorem ggX1_isStill_X1_goRound : GoodIn wsX1_isStill wsX1_goRound := goodIn_r _ [12, 7, 13, 14, 15, 5, 16, 17, 18, 19, 20, 21, 22, 23, 24, 25, 26, 27, 28, 29, 30, 31, 32, 33, 34, 35, 36, 37, 38, 39, 40, 41, 42, 43, 44, 45, 46, 47, 48, 49, 50, 51, 52, 53, 54, 55, 56, 57, 58, 59, 60, 61, 62, 63, 64, 65, 66, 67, 68, 69, 70, 71, 72, 73, 74] (by decide +kernel) (by decide +kernel)
set_option maxRecDepth 20000 in
theorem gX1_isStill_X1_goRound : GoodIn wsX1_isStill (wsV RX1 158 RX1 yX1_goRound wsX1_goRound) := goodIn_app (goodIn_of _ (by decide +kernel)) ggX1_isStill_X1_goRound
theorem dX1_isStill_0 : decode cX1_isStill 0 = .ok (.aload_n 0, 1) := by decide +kernel
theorem dX1_isStill_1 : decode cX1_isStill 1 = .ok (.invokevirtual 155, 3) := by decide +kernel
theorem dX1_isStill_4 : decode cX1_isStill 4 = .ok (.aload_n 0, 1) := by decide +kernel
theorem dX1_isStill_5 : decode cX1_isStill 5 = .ok (.aload_n 0, 1) := by decide +kernel
theorem dX1_isStill_6 : decode cX1_isStill 6 = .ok (.getfield 35, 3) := by decide +kernel
theorem dX1_isStill_9 : decode cX1_isStill 9 = .ok (.invokevirtual 158, 3) := by decide +kernel
theorem dX1_isStill_12 : decode cX1_isStill 12 = .ok (.ifCond .ne 7, 3) := by decide +kernel
theorem dX1_isStill_15 : decode cX1_isStill 15 = .ok (.iconst 1, 1) := by decide +kernel
theorem dX1_isStill_16 : decode cX1_isStill 16 = .ok (.goto 4, 3) := by decide +kernel
theorem dX1_isStill_19 : decode cX1_isStill 19 = .ok (.iconst 0, 1) := by decide +kernel
theorem dX1_isStill_20 : decode cX1_isStill 20 = .ok (.ireturn, 1) := by decide +kernel
set_option maxRecDepth 20000 in
theorem ggX1_plankIn_X1_checkDelegate : GoodIn wsX1_plankIn wsX1_checkDelegate := goodIn_ca (goodIn_r _ [6, 7, 8, 9, 78, 79, 80, 81, 82, 83, 84, 85, 86, 87] (by decide +kernel) (by decide +kernel)) (goodIn_sub (fun _ h => List.mem_cons_of_mem _ (List.mem_append_left _ (List.mem_append_right _ h))) (by decide +kernel))
set_option maxRecDepth 20000 in
theorem gX1_plankIn_X1_checkDelegate : GoodIn wsX1_plankIn (wsV RX1 69 RX1 yX1_checkDelegate wsX1_checkDelegate) := goodIn_app (goodIn_of _ (by decide +kernel)) ggX1_plankIn_X1_checkDelegate
set_option maxRecDepth 20000 in
theorem ggX1_plankIn_X1_checkRounds : GoodIn wsX1_plankIn wsX1_checkRounds := goodIn_ca (goodIn_r _ [12, 13, 14] (by decide +kernel) (by decide +kernel)) (goodIn_sub (fun _ h => List.mem_cons_of_mem _ (List.mem_append_right _ h)) (by decide +kernel))
set_option maxRecDepth 20000 in
theorem gX1_plankIn_X1_checkRounds : GoodIn wsX1_plankIn (va_wsS RX1 90 yX1_checkRounds wsX1_checkRounds) := goodIn_app (goodIn_of _ (by decide +kernel)) ggX1_plankIn_X1_checkRounds
set_option maxRecDepth 20000 in
theorem ggX1_plankIn_X1_copyPlanksToLater : GoodIn wsX1_plankIn wsX1_copyPlanksToLater := goodIn_r _ [18, 9, 1, 19, 78, 79, 80, 81, 82, 83, 84, 85, 86, 87] (by decide +kernel) (by decide +kernel)
set_option maxRecDepth 20000 in
theorem gX1_plankIn_X1_copyPlanksToLater : GoodIn wsX1_plankIn (wsV RX1 155 RX1 yX1_copyPlanksToLater wsX1_copyPlanksToLater) := goodIn_app (goodIn_of _ (by decide +kernel)) ggX1_plankIn_X1_copyPlanksToLater
set_option maxRecDepth 20000 in
theorem ggX1_plankIn_X1_goRounds : GoodIn wsX1_plankIn wsX1_goRounds := goodIn_r _ [23, 24, 25, 26, 5, 27, 9, 28, 29, 30, 31, 32, 33, 34, 35, 36, 37, 38, 39, 40, 41, 42, 43, 44, 45, 46, 47, 48, 49, 50, 51, 52, 53, 54, 55, 56, 57, 58, 59, 60, 61, 62, 63, 64, 65, 66, 67, 68, 69, 70, 71, 72, 73, 74, 75, 76, 77, 78, 79, 80, 81, 82, 83, 84, 85, 86, 87, 88, 89] (by decide +kernel) (by decide +kernel)
set_option maxRecDepth 20000 in
theorem gX1_plankIn_X1_goRounds : GoodIn wsX1_plankIn (wsV RX1 93 RX1 yX1_goRounds wsX1_goRounds) := goodIn_app (goodIn_of _ (by decide +kernel)) ggX1_plankIn_X1_goRounds
theorem dX1_plankIn_0 : decode cX1_plankIn 0 = .ok (.aload_n 0, 1) := by decide +kernel
theorem dX1_plankIn_1 : decode cX1_plankIn 1 = .ok (.iload_n 1, 1) := by decide +kernel
theorem dX1_plankIn_2 : decode cX1_plankIn 2 = .ok (.invokevirtual 69, 3) := by decide +kernel
theorem dX1_plankIn_5 : decode cX1_plankIn 5 = .ok (.iload_n 2, 1) := by decide +kernel
theorem dX1_plankIn_6 : decode cX1_plankIn 6 = .ok (.invokestatic 90, 3) := by decide +kernel
theorem dX1_plankIn_9 : decode cX1_plankIn 9 = .ok (.aload_n 0, 1) := by decide +kernel
theorem dX1_plankIn_10 : decode cX1_plankIn 10 = .ok (.invokevirtual 155, 3) := by decide +kernel
theorem dX1_plankIn_13 : decode cX1_plankIn 13 = .ok (.aload_n 0, 1) := by decide +kernel
theorem dX1_plankIn_14 : decode cX1_plankIn 14 = .ok (.aload_n 0, 1) := by decide +kernel
theorem dX1_plankIn_15 : decode cX1_plankIn 15 = .ok (.getfield 35, 3) := by decide +kernel
theorem dX1_plankIn_18 : decode cX1_plankIn 18 = .ok (.iload_n 2, 1) := by decide +kernel
theorem dX1_plankIn_19 : decode cX1_plankIn 19 = .ok (.invokevirtual 93, 3) := by decide +kernel
theorem dX1_plankIn_22 : decode cX1_plankIn 22 = .ok (.pop, 1) := by decide +kernel
theorem dX1_plankIn_23 : decode cX1_plankIn 23 = .ok (.aload_n 0, 1) := by decide +kernel
theorem dX1_plankIn_24 : decode cX1_plankIn 24 = .ok (.getfield 35, 3) := by decide +kernel
theorem dX1_plankIn_27 : decode cX1_plankIn 27 = .ok (.iload_n 1, 1) := by decide +kernel
theorem dX1_plankIn_28 : decode cX1_plankIn 28 = .ok (.iaload, 1) := by decide +kernel
theorem dX1_plankIn_29 : decode cX1_plankIn 29 = .ok (.ireturn, 1) := by decide +kernel
set_option maxRecDepth 20000 in
theorem ggX1_compromiseIn_X1_checkRounds : GoodIn wsX1_compromiseIn wsX1_checkRounds := goodIn_ca (goodIn_r _ [5, 6, 7] (by decide +kernel) (by decide +kernel)) (goodIn_sub (fun _ h => List.mem_cons_of_mem _ (List.mem_append_left _ (List.mem_append_right _ h))) (by decide +kernel))
set_option maxRecDepth 20000 in
theorem gX1_compromiseIn_X1_checkRounds : GoodIn wsX1_compromiseIn (va_wsS RX1 90 yX1_checkRounds wsX1_checkRounds) := goodIn_app (goodIn_of _ (by decide +kernel)) ggX1_compromiseIn_X1_checkRounds
set_option maxRecDepth 20000 in
theorem ggX1_compromiseIn_X1_checkSomeoneThere : GoodIn wsX1_compromiseIn wsX1_checkSomeoneThere := goodIn_ca (goodIn_r _ [11, 12, 13, 14, 78, 79, 80, 81, 82, 83, 84, 85, 86, 87] (by decide +kernel) (by decide +kernel)) (goodIn_sub (fun _ h => List.mem_cons_of_mem _ (List.mem_append_right _ h)) (by decide +kernel))
set_option maxRecDepth 20000 in
theorem gX1_compromiseIn_X1_checkSomeoneThere : GoodIn wsX1_compromiseIn (wsV RX1 108 RX1 yX1_checkSomeoneThere wsX1_checkSomeoneThere) := goodIn_app (goodIn_of _ (by decide +kernel)) ggX1_compromiseIn_X1_checkSomeoneThere
set_option maxRecDepth 20000 in
theorem ggX1_compromiseIn_X1_copyPlanksToLater : GoodIn wsX1_compromiseIn wsX1_copyPlanksToLater := goodIn_r _ [18, 14, 1, 19, 78, 79, 80, 81, 82, 83, 84, 85, 86, 87] (by decide +kernel) (by decide +kernel)
set_option maxRecDepth 20000 in
theorem gX1_compromiseIn_X1_copyPlanksToLater : GoodIn wsX1_compromiseIn (wsV RX1 155 RX1 yX1_copyPlanksToLater wsX1_copyPlanksToLater) := goodIn_app (goodIn_of _ (by decide +kernel)) ggX1_compromiseIn_X1_copyPlanksToLater
set_option maxRecDepth 20000 in
theorem ggX1_compromiseIn_X1_goRounds : GoodIn wsX1_compromiseIn wsX1_goRounds := goodIn_r _ [23, 24, 25, 26, 4, 27, 14, 28, 29, 30, 31, 32, 33, 34, 35, 36, 37, 38, 39, 40, 41, 42, 43, 44, 45, 46, 47, 48, 49, 50, 51, 52, 53, 54, 55, 56, 57, 58, 59, 60, 61, 62, 63, 64, 65, 66, 67, 68, 69, 70, 71, 72, 73, 74, 75, 76, 77, 78, 79, 80, 81, 82, 83, 84, 85, 86, 87, 88, 89] (by decide +kernel) (by decide +kernel)
set_option maxRecDepth 20000 in
theorem gX1_compromiseIn_X1_goRounds : GoodIn wsX1_compromiseIn (wsV RX1 93 RX1 yX1_goRounds wsX1_goRounds) := goodIn_app (goodIn_of _ (by decide +kernel)) ggX1_compromiseIn_X1_goRounds
set_option maxRecDepth 20000 in
theorem ggX1_compromiseIn_X1_middleOfAll : GoodIn wsX1_compromiseIn wsX1_middleOfAll := goodIn_r _ [31, 32, 14, 33, 34, 35, 36, 37, 38, 39, 40, 41, 42, 43, 44, 45, 46, 47, 78, 79, 80, 81, 82, 83, 84, 85, 86, 87, 88, 89] (by decide +kernel) (by decide +kernel)
set_option maxRecDepth 20000 in
theorem gX1_compromiseIn_X1_middleOfAll : GoodIn wsX1_compromiseIn (wsV RX1 111 RX1 yX1_middleOfAll wsX1_middleOfAll) := goodIn_app (goodIn_of _ (by decide +kernel)) ggX1_compromiseIn_X1_middleOfAll
theorem dX1_compromiseIn_0 : decode cX1_compromiseIn 0 = .ok (.iload_n 1, 1) := by decide +kernel
theorem dX1_compromiseIn_1 : decode cX1_compromiseIn 1 = .ok (.invokestatic 90, 3) := by decide +kernel
theorem dX1_compromiseIn_4 : decode cX1_compromiseIn 4 = .ok (.aload_n 0, 1) := by decide +kernel
theorem dX1_compromiseIn_5 : decode cX1_compromiseIn 5 = .ok (.invokevirtual 108, 3) := by decide +kernel
theorem dX1_compromiseIn_8 : decode cX1_compromiseIn 8 = .ok (.aload_n 0, 1) := by decide +kernel
theorem dX1_compromiseIn_9 : decode cX1_compromiseIn 9 = .ok (.invokevirtual 155, 3) := by decide +kernel
theorem dX1_compromiseIn_12 : decode cX1_compromiseIn 12 = .ok (.aload_n 0, 1) := by decide +kernel
theorem dX1_compromiseIn_13 : decode cX1_compromiseIn 13 = .ok (.aload_n 0, 1) := by decide +kernel
theorem dX1_compromiseIn_14 : decode cX1_compromiseIn 14 = .ok (.getfield 35, 3) := by decide +kernel
theorem dX1_compromiseIn_17 : decode cX1_compromiseIn 17 = .ok (.iload_n 1, 1) := by decide +kernel
theorem dX1_compromiseIn_18 : decode cX1_compromiseIn 18 = .ok (.invokevirtual 93, 3) := by decide +kernel
theorem dX1_compromiseIn_21 : decode cX1_compromiseIn 21 = .ok (.pop, 1) := by decide +kernel
theorem dX1_compromiseIn_22 : decode cX1_compromiseIn 22 = .ok (.aload_n 0, 1) := by decide +kernel
theorem dX1_compromiseIn_23 : decode cX1_compromiseIn 23 = .ok (.aload_n 0, 1) := by decide +kernel
theorem dX1_compromiseIn_24 : decode cX1_compromiseIn 24 = .ok (.getfield 35, 3) := by decide +kernel
theorem dX1_compromiseIn_27 : decode cX1_compromiseIn 27 = .ok (.invokevirtual 111, 3) := by decide +kernel
theorem dX1_compromiseIn_30 : decode cX1_compromiseIn 30 = .ok (.ireturn, 1) := by decide +kernel
set_option maxRecDepth 20000 in
theorem ggX1_roundsUntilTreaty_X1_copyPlanksToLater : GoodIn wsX1_roundsUntilTreaty wsX1_copyPlanksToLater := goodIn_r _ [6, 7, 1, 8, 76, 77, 78, 79, 80, 81, 82, 83, 84, 85] (by decide +kernel) (by decide +kernel)
set_option maxRecDepth 20000 in
theorem gX1_roundsUntilTreaty_X1_copyPlanksToLater : GoodIn wsX1_roundsUntilTreaty (wsV RX1 155 RX1 yX1_copyPlanksToLater wsX1_copyPlanksToLater) := goodIn_app (goodIn_of _ (by decide +kernel)) ggX1_roundsUntilTreaty_X1_copyPlanksToLater
set_option maxRecDepth 20000 in
theorem ggX1_roundsUntilTreaty_X1_agreesAt : GoodIn wsX1_roundsUntilTreaty wsX1_agreesAt := goodIn_r _ [12, 13, 14, 15, 5, 16, 7, 17, 18, 19, 20, 21, 22, 23, 24, 25, 26, 27, 28, 76, 77, 78, 79, 80, 81, 82, 83, 84, 85] (by decide +kernel) (by decide +kernel)
set_option maxRecDepth 20000 in
theorem gX1_roundsUntilTreaty_X1_agreesAt : GoodIn wsX1_roundsUntilTreaty (wsV RX1 104 RX1 yX1_agreesAt wsX1_agreesAt) := goodIn_app (goodIn_of _ (by decide +kernel)) ggX1_roundsUntilTreaty_X1_agreesAt
set_option maxRecDepth 20000 in
theorem ggX1_roundsUntilTreaty_X1_goRound : GoodIn wsX1_roundsUntilTreaty wsX1_goRound := goodIn_r _ [32, 7, 33, 34, 35, 5, 36, 37, 38, 39, 40, 41, 42, 43, 44, 45, 46, 47, 48, 49, 50, 51, 52, 53, 54, 55, 56, 57, 58, 59, 60, 61, 62, 63, 64, 65, 66, 22, 23, 24, 25, 26, 27, 28, 67, 68, 69, 70, 71, 72, 73, 74, 75, 76, 77, 78, 79, 80, 81, 82, 83, 84, 85, 86, 87] (by decide +kernel) (by decide +kernel)
set_option maxRecDepth 20000 in
theorem gX1_roundsUntilTreaty_X1_goRound : GoodIn wsX1_roundsUntilTreaty (wsV RX1 158 RX1 yX1_goRound wsX1_goRound) := goodIn_app (goodIn_of _ (by decide +kernel)) ggX1_roundsUntilTreaty_X1_goRound
theorem dX1_roundsUntilTreaty_0 : decode cX1_roundsUntilTreaty 0 = .ok (.aload_n 0, 1) := by decide +kernel
theorem dX1_roundsUntilTreaty_1 : decode cX1_roundsUntilTreaty 1 = .ok (.invokevirtual 155, 3) := by decide +kernel
theorem dX1_roundsUntilTreaty_4 : decode cX1_roundsUntilTreaty 4 = .ok (.iconst 0, 1) := by decide +kernel
theorem dX1_roundsUntilTreaty_5 : decode cX1_roundsUntilTreaty 5 = .ok (.istore_n 1, 1) := by decide +kernel
theorem dX1_roundsUntilTreaty_6 : decode cX1_roundsUntilTreaty 6 = .ok (.iload_n 1, 1) := by decide +kernel
theorem dX1_roundsUntilTreaty_7 : decode cX1_roundsUntilTreaty 7 = .ok (.bipush 100, 2) := by decide +kernel
theorem dX1_roundsUntilTreaty_9 : decode cX1_roundsUntilTreaty 9 = .ok (.if_icmp .gt 31, 3) := by decide +kernel
theorem dX1_roundsUntilTreaty_12 : decode cX1_roundsUntilTreaty 12 = .ok (.aload_n 0, 1) := by decide +kernel
theorem dX1_roundsUntilTreaty_13 : decode cX1_roundsUntilTreaty 13 = .ok (.aload_n 0, 1) := by decide +kernel
theorem dX1_roundsUntilTreaty_14 : decode cX1_roundsUntilTreaty 14 = .ok (.getfield 35, 3) := by decide +kernel
theorem dX1_roundsUntilTreaty_17 : decode cX1_roundsUntilTreaty 17 = .ok (.invokevirtual 104, 3) := by decide +kernel
theorem dX1_roundsUntilTreaty_20 : decode cX1_roundsUntilTreaty 20 = .ok (.ifCond .eq 5, 3) := by decide +kernel
theorem dX1_roundsUntilTreaty_23 : decode cX1_roundsUntilTreaty 23 = .ok (.iload_n 1, 1) := by decide +kernel
theorem dX1_roundsUntilTreaty_24 : decode cX1_roundsUntilTreaty 24 = .ok (.ireturn, 1) := by decide +kernel
theorem dX1_roundsUntilTreaty_25 : decode cX1_roundsUntilTreaty 25 = .ok (.aload_n 0, 1) := by decide +kernel
theorem dX1_roundsUntilTreaty_26 : decode cX1_roundsUntilTreaty 26 = .ok (.aload_n 0, 1) := by decide +kernel
theorem dX1_roundsUntilTreaty_27 : decode cX1_roundsUntilTreaty 27 = .ok (.getfield 35, 3) := by decide +kernel
theorem dX1_roundsUntilTreaty_30 : decode cX1_roundsUntilTreaty 30 = .ok (.invokevirtual 158, 3) := by decide +kernel
theorem dX1_roundsUntilTreaty_33 : decode cX1_roundsUntilTreaty 33 = .ok (.pop, 1) := by decide +kernel
theorem dX1_roundsUntilTreaty_34 : decode cX1_roundsUntilTreaty 34 = .ok (.iinc 1 1, 3) := by decide +kernel
theorem dX1_roundsUntilTreaty_37 : decode cX1_roundsUntilTreaty 37 = .ok (.goto (-31), 3) := by decide +kernel
theorem dX1_roundsUntilTreaty_40 : decode cX1_roundsUntilTreaty 40 = .ok (.iconst (-1), 1) := by decide +kernel
theorem dX1_roundsUntilTreaty_41 : decode cX1_roundsUntilTreaty 41 = .ok (.ireturn, 1) := by decide +kernel
set_option maxRecDepth 20000 in
theorem ggX1_roundsUntilStill_X1_copyPlanksToLater : GoodIn wsX1_roundsUntilStill wsX1_copyPlanksToLater := goodIn_r _ [6, 7, 1, 8, 63, 64, 65, 66, 67, 68, 69, 70, 71, 72] (by decide +kernel) (by decide +kernel)
set_option maxRecDepth 20000 in
theorem gX1_roundsUntilStill_X1_copyPlanksToLater : GoodIn wsX1_roundsUntilStill (wsV RX1 155 RX1 yX1_copyPlanksToLater wsX1_copyPlanksToLater) := goodIn_app (goodIn_of _ (by decide +kernel)) ggX1_roundsUntilStill_X1_copyPlanksToLater
set_option maxRecDepth 20000 in
theorem ggX1_roundsUntilStill_X1_goRound : GoodIn wsX1_roundsUntilStill wsX1_goRound := goodIn_r _ [12, 7, 13, 14, 15, 5, 16, 17, 18, 19, 20, 21, 22, 23, 24, 25, 26, 27, 28, 29, 30, 31, 32, 33, 34, 35, 36, 37, 38, 39, 40, 41, 42, 43, 44, 45, 46, 47, 48, 49, 50, 51, 52, 53, 54, 55, 56, 57, 58, 59, 60, 61, 62, 63, 64, 65, 66, 67, 68, 69, 70, 71, 72, 73, 74] (by decide +kernel) (by decide +kernel)
set_option maxRecDepth 20000 in
theorem gX1_roundsUntilStill_X1_goRound : GoodIn wsX1_roundsUntilStill (wsV RX1 158 RX1 yX1_goRound wsX1_goRound) := goodIn_app (goodIn_of _ (by decide +kernel)) ggX1_roundsUntilStill_X1_goRound
theorem dX1_roundsUntilStill_0 : decode cX1_roundsUntilStill 0 = .ok (.aload_n 0, 1) := by decide +kernel
theorem dX1_roundsUntilStill_1 : decode cX1_roundsUntilStill 1 = .ok (.invokevirtual 155, 3) := by decide +kernel
theorem dX1_roundsUntilStill_4 : decode cX1_roundsUntilStill 4 = .ok (.iconst 0, 1) := by decide +kernel
theorem dX1_roundsUntilStill_5 : decode cX1_roundsUntilStill 5 = .ok (.istore_n 1, 1) := by decide +kernel
theorem dX1_roundsUntilStill_6 : decode cX1_roundsUntilStill 6 = .ok (.iload_n 1, 1) := by decide +kernel
theorem dX1_roundsUntilStill_7 : decode cX1_roundsUntilStill 7 = .ok (.bipush 100, 2) := by decide +kernel
theorem dX1_roundsUntilStill_9 : decode cX1_roundsUntilStill 9 = .ok (.if_icmp .gt 22, 3) := by decide +kernel
theorem dX1_roundsUntilStill_12 : decode cX1_roundsUntilStill 12 = .ok (.aload_n 0, 1) := by decide +kernel
theorem dX1_roundsUntilStill_13 : decode cX1_roundsUntilStill 13 = .ok (.aload_n 0, 1) := by decide +kernel
theorem dX1_roundsUntilStill_14 : decode cX1_roundsUntilStill 14 = .ok (.getfield 35, 3) := by decide +kernel
theorem dX1_roundsUntilStill_17 : decode cX1_roundsUntilStill 17 = .ok (.invokevirtual 158, 3) := by decide +kernel
theorem dX1_roundsUntilStill_20 : decode cX1_roundsUntilStill 20 = .ok (.ifCond .ne 5, 3) := by decide +kernel
theorem dX1_roundsUntilStill_23 : decode cX1_roundsUntilStill 23 = .ok (.iload_n 1, 1) := by decide +kernel
theorem dX1_roundsUntilStill_24 : decode cX1_roundsUntilStill 24 = .ok (.ireturn, 1) := by decide +kernel
theorem dX1_roundsUntilStill_25 : decode cX1_roundsUntilStill 25 = .ok (.iinc 1 1, 3) := by decide +kernel
theorem dX1_roundsUntilStill_28 : decode cX1_roundsUntilStill 28 = .ok (.goto (-22), 3) := by decide +kernel
theorem dX1_roundsUntilStill_31 : decode cX1_roundsUntilStill 31 = .ok (.iconst (-1), 1) := by decide +kernel
theorem dX1_roundsUntilStill_32 : decode cX1_roundsUntilStill 32 = .ok (.ireturn, 1) := by decide +kernel
set_option maxRecDepth 20000 in
theorem ggX1_bestStand_X1_checkDelegate : GoodIn wsX1_bestStand wsX1_checkDelegate := goodIn_ca (goodIn_r _ [6, 7, 8, 9, 47, 48, 49, 50, 51, 52, 53, 54, 55, 56] (by decide +kernel) (by decide +kernel)) (goodIn_sub (fun _ h => List.mem_cons_of_mem _ (List.mem_append_right _ h)) (by decide +kernel))
set_option maxRecDepth 20000 in
theorem gX1_bestStand_X1_checkDelegate : GoodIn wsX1_bestStand (wsV RX1 69 RX1 yX1_checkDelegate wsX1_checkDelegate) := goodIn_app (goodIn_of _ (by decide +kernel)) ggX1_bestStand_X1_checkDelegate
set_option maxRecDepth 20000 in
theorem ggX1_bestStand_X1_gatherOthers : GoodIn wsX1_bestStand wsX1_gatherOthers := goodIn_r _ [13, 1, 9, 14, 15, 16, 17, 18, 19, 20, 21, 22, 23, 24, 25, 47, 48, 49, 50, 51, 52, 53, 54, 55, 56, 57, 58] (by decide +kernel) (by decide +kernel)
set_option maxRecDepth 20000 in
theorem gX1_bestStand_X1_gatherOthers : GoodIn wsX1_bestStand (wsV RX1 127 RX1 yX1_gatherOthers wsX1_gatherOthers) := goodIn_app (goodIn_of _ (by decide +kernel)) ggX1_bestStand_X1_gatherOthers
set_option maxRecDepth 20000 in
theorem ggX1_bestStand_X0_middleWith : GoodIn wsX1_bestStand wsX0_middleWith := goodIn_r _ [29, 20, 25, 30, 5, 31, 32, 33, 34, 35, 36, 37, 38, 57, 58] (by decide +kernel) (by decide +kernel)
set_option maxRecDepth 20000 in
theorem gX1_bestStand_X0_middleWith : GoodIn wsX1_bestStand (wsV RX1 161 RX0 yX0_middleWith wsX0_middleWith) := goodIn_app (goodIn_of _ (by decide +kernel)) ggX1_bestStand_X0_middleWith
set_option maxRecDepth 20000 in
theorem ggX1_bestStand_X1_discontent : GoodIn wsX1_bestStand wsX1_discontent := goodIn_r _ [42, 43, 44, 45, 34, 46, 47, 48, 49, 50, 51, 52, 53, 54, 55, 56] (by decide +kernel) (by decide +kernel)
set_option maxRecDepth 20000 in
theorem gX1_bestStand_X1_discontent : GoodIn wsX1_bestStand (wsV RX1 132 RX1 yX1_discontent wsX1_discontent) := goodIn_app (goodIn_of _ (by decide +kernel)) ggX1_bestStand_X1_discontent
theorem dX1_bestStand_0 : decode cX1_bestStand 0 = .ok (.aload_n 0, 1) := by decide +kernel
theorem dX1_bestStand_1 : decode cX1_bestStand 1 = .ok (.iload_n 1, 1) := by decide +kernel
theorem dX1_bestStand_2 : decode cX1_bestStand 2 = .ok (.invokevirtual 69, 3) := by decide +kernel
theorem dX1_bestStand_5 : decode cX1_bestStand 5 = .ok (.aload_n 0, 1) := by decide +kernel
theorem dX1_bestStand_6 : decode cX1_bestStand 6 = .ok (.iload_n 1, 1) := by decide +kernel
theorem dX1_bestStand_7 : decode cX1_bestStand 7 = .ok (.invokevirtual 127, 3) := by decide +kernel
theorem dX1_bestStand_10 : decode cX1_bestStand 10 = .ok (.iconst 0, 1) := by decide +kernel
theorem dX1_bestStand_11 : decode cX1_bestStand 11 = .ok (.istore_n 2, 1) := by decide +kernel
theorem dX1_bestStand_12 : decode cX1_bestStand 12 = .ok (.aload_n 0, 1) := by decide +kernel
theorem dX1_bestStand_13 : decode cX1_bestStand 13 = .ok (.iload_n 1, 1) := by decide +kernel
theorem dX1_bestStand_14 : decode cX1_bestStand 14 = .ok (.aload_n 0, 1) := by decide +kernel
theorem dX1_bestStand_15 : decode cX1_bestStand 15 = .ok (.getfield 41, 3) := by decide +kernel
theorem dX1_bestStand_18 : decode cX1_bestStand 18 = .ok (.iconst 0, 1) := by decide +kernel
theorem dX1_bestStand_19 : decode cX1_bestStand 19 = .ok (.invokevirtual 161, 3) := by decide +kernel
theorem dX1_bestStand_22 : decode cX1_bestStand 22 = .ok (.invokevirtual 132, 3) := by decide +kernel
theorem dX1_bestStand_25 : decode cX1_bestStand 25 = .ok (.istore_n 3, 1) := by decide +kernel
theorem dX1_bestStand_26 : decode cX1_bestStand 26 = .ok (.iconst 1, 1) := by decide +kernel
theorem dX1_bestStand_27 : decode cX1_bestStand 27 = .ok (.istore 4, 2) := by decide +kernel
theorem dX1_bestStand_29 : decode cX1_bestStand 29 = .ok (.iload 4, 2) := by decide +kernel
theorem dX1_bestStand_31 : decode cX1_bestStand 31 = .ok (.bipush 41, 2) := by decide +kernel
theorem dX1_bestStand_33 : decode cX1_bestStand 33 = .ok (.if_icmp .ge 37, 3) := by decide +kernel
theorem dX1_bestStand_36 : decode cX1_bestStand 36 = .ok (.aload_n 0, 1) := by decide +kernel
theorem dX1_bestStand_37 : decode cX1_bestStand 37 = .ok (.iload_n 1, 1) := by decide +kernel
theorem dX1_bestStand_38 : decode cX1_bestStand 38 = .ok (.aload_n 0, 1) := by decide +kernel
theorem dX1_bestStand_39 : decode cX1_bestStand 39 = .ok (.getfield 41, 3) := by decide +kernel
theorem dX1_bestStand_42 : decode cX1_bestStand 42 = .ok (.iload 4, 2) := by decide +kernel
theorem dX1_bestStand_44 : decode cX1_bestStand 44 = .ok (.invokevirtual 161, 3) := by decide +kernel
theorem dX1_bestStand_47 : decode cX1_bestStand 47 = .ok (.invokevirtual 132, 3) := by decide +kernel
theorem dX1_bestStand_50 : decode cX1_bestStand 50 = .ok (.istore 5, 2) := by decide +kernel
theorem dX1_bestStand_52 : decode cX1_bestStand 52 = .ok (.iload 5, 2) := by decide +kernel
theorem dX1_bestStand_54 : decode cX1_bestStand 54 = .ok (.iload_n 3, 1) := by decide +kernel
theorem dX1_bestStand_55 : decode cX1_bestStand 55 = .ok (.if_icmp .ge 9, 3) := by decide +kernel
theorem dX1_bestStand_58 : decode cX1_bestStand 58 = .ok (.iload 5, 2) := by decide +kernel
theorem dX1_bestStand_60 : decode cX1_bestStand 60 = .ok (.istore_n 3, 1) := by decide +kernel
theorem dX1_bestStand_61 : decode cX1_bestStand 61 = .ok (.iload 4, 2) := by decide +kernel
theorem dX1_bestStand_63 : decode cX1_bestStand 63 = .ok (.istore_n 2, 1) := by decide +kernel
theorem dX1_bestStand_64 : decode cX1_bestStand 64 = .ok (.iinc 4 1, 3) := by decide +kernel
theorem dX1_bestStand_67 : decode cX1_bestStand 67 = .ok (.goto (-38), 3) := by decide +kernel
theorem dX1_bestStand_70 : decode cX1_bestStand 70 = .ok (.iload_n 2, 1) := by decide +kernel
theorem dX1_bestStand_71 : decode cX1_bestStand 71 = .ok (.ireturn, 1) := by decide +kernel
theorem dX1_meanPlank_0 : decode cX1_meanPlank 0 = .ok (.aload_n 0, 1) := by decide +kernel
theorem dX1_meanPlank_1 : decode cX1_meanPlank 1 = .ok (.getfield 7, 3) := by decide +kernel
theorem dX1_meanPlank_4 : decode cX1_meanPlank 4 = .ok (.ifCond .ne 5, 3) := by decide +kernel
theorem dX1_meanPlank_7 : decode cX1_meanPlank 7 = .ok (.dconst 0, 1) := by decide +kernel
theorem dX1_meanPlank_8 : decode cX1_meanPlank 8 = .ok (.dreturn, 1) := by decide +kernel
theorem dX1_meanPlank_9 : decode cX1_meanPlank 9 = .ok (.iconst 0, 1) := by decide +kernel
theorem dX1_meanPlank_10 : decode cX1_meanPlank 10 = .ok (.istore_n 1, 1) := by decide +kernel
theorem dX1_meanPlank_11 : decode cX1_meanPlank 11 = .ok (.iconst 0, 1) := by decide +kernel
theorem dX1_meanPlank_12 : decode cX1_meanPlank 12 = .ok (.istore_n 2, 1) := by decide +kernel
theorem dX1_meanPlank_13 : decode cX1_meanPlank 13 = .ok (.iload_n 2, 1) := by decide +kernel
theorem dX1_meanPlank_14 : decode cX1_meanPlank 14 = .ok (.aload_n 0, 1) := by decide +kernel
theorem dX1_meanPlank_15 : decode cX1_meanPlank 15 = .ok (.getfield 7, 3) := by decide +kernel
theorem dX1_meanPlank_18 : decode cX1_meanPlank 18 = .ok (.if_icmp .ge 18, 3) := by decide +kernel
theorem dX1_meanPlank_21 : decode cX1_meanPlank 21 = .ok (.iload_n 1, 1) := by decide +kernel
theorem dX1_meanPlank_22 : decode cX1_meanPlank 22 = .ok (.aload_n 0, 1) := by decide +kernel
theorem dX1_meanPlank_23 : decode cX1_meanPlank 23 = .ok (.getfield 32, 3) := by decide +kernel
theorem dX1_meanPlank_26 : decode cX1_meanPlank 26 = .ok (.iload_n 2, 1) := by decide +kernel
theorem dX1_meanPlank_27 : decode cX1_meanPlank 27 = .ok (.iaload, 1) := by decide +kernel
theorem dX1_meanPlank_28 : decode cX1_meanPlank 28 = .ok (.iadd, 1) := by decide +kernel
theorem dX1_meanPlank_29 : decode cX1_meanPlank 29 = .ok (.istore_n 1, 1) := by decide +kernel
theorem dX1_meanPlank_30 : decode cX1_meanPlank 30 = .ok (.iinc 2 1, 3) := by decide +kernel
theorem dX1_meanPlank_33 : decode cX1_meanPlank 33 = .ok (.goto (-20), 3) := by decide +kernel
theorem dX1_meanPlank_36 : decode cX1_meanPlank 36 = .ok (.iload_n 1, 1) := by decide +kernel
theorem dX1_meanPlank_37 : decode cX1_meanPlank 37 = .ok (.i2d, 1) := by decide +kernel
theorem dX1_meanPlank_38 : decode cX1_meanPlank 38 = .ok (.aload_n 0, 1) := by decide +kernel
theorem dX1_meanPlank_39 : decode cX1_meanPlank 39 = .ok (.getfield 7, 3) := by decide +kernel
theorem dX1_meanPlank_42 : decode cX1_meanPlank 42 = .ok (.i2d, 1) := by decide +kernel
theorem dX1_meanPlank_43 : decode cX1_meanPlank 43 = .ok (.ddiv, 1) := by decide +kernel
theorem dX1_meanPlank_44 : decode cX1_meanPlank 44 = .ok (.dreturn, 1) := by decide +kernel
set_option maxRecDepth 20000 in
theorem ggX1_digest_X1_delegates : GoodIn wsX1_digest wsX1_delegates := goodIn_r _ [7, 2, 193, 194, 195, 196, 197, 198, 199, 200, 201, 202] (by decide +kernel) (by decide +kernel)
set_option maxRecDepth 20000 in
theorem gX1_digest_X1_delegates : GoodIn wsX1_digest (wsV RX1 166 RX1 yX1_delegates wsX1_delegates) := goodIn_app (goodIn_of _ (by decide +kernel)) ggX1_digest_X1_delegates
set_option maxRecDepth 20000 in
theorem ggX1_digest_X1_fold : GoodIn wsX1_digest wsX1_fold := goodIn_r _ [10, 11] (by decide +kernel) (by decide +kernel)
set_option maxRecDepth 20000 in
theorem gX1_digest_X1_fold : GoodIn wsX1_digest (va_wsS RX1 169 yX1_fold wsX1_fold) := goodIn_app (goodIn_of _ (by decide +kernel)) ggX1_digest_X1_fold
set_option maxRecDepth 20000 in
theorem ggX1_digest_X1_rounds : GoodIn wsX1_digest wsX1_rounds := goodIn_r _ [15, 16, 193, 194, 195, 196, 197, 198, 199, 200, 201, 202] (by decide +kernel) (by decide +kernel)
set_option maxRecDepth 20000 in
theorem gX1_digest_X1_rounds : GoodIn wsX1_digest (wsV RX1 173 RX1 yX1_rounds wsX1_rounds) := goodIn_app (goodIn_of _ (by decide +kernel)) ggX1_digest_X1_rounds
set_option maxRecDepth 20000 in
theorem ggX1_digest_X1_strength : GoodIn wsX1_digest wsX1_strength := goodIn_r _ [20, 21, 193, 194, 195, 196, 197, 198, 199, 200, 201, 202] (by decide +kernel) (by decide +kernel)
set_option maxRecDepth 20000 in
theorem gX1_digest_X1_strength : GoodIn wsX1_digest (wsV RX1 176 RX1 yX1_strength wsX1_strength) := goodIn_app (goodIn_of _ (by decide +kernel)) ggX1_digest_X1_strength
set_option maxRecDepth 20000 in
theorem ggX1_digest_X1_spread : GoodIn wsX1_digest wsX1_spread := goodIn_r _ [25, 26, 27, 28, 29, 6, 30, 2, 31, 32, 33, 34, 35, 36, 37, 193, 194, 195, 196, 197, 198, 199, 200, 201, 202] (by decide +kernel) (by decide +kernel)
set_option maxRecDepth 20000 in
theorem gX1_digest_X1_spread : GoodIn wsX1_digest (wsV RX1 179 RX1 yX1_spread wsX1_spread) := goodIn_app (goodIn_of _ (by decide +kernel)) ggX1_digest_X1_spread
set_option maxRecDepth 20000 in
theorem ggX1_digest_X1_isTreaty : GoodIn wsX1_digest wsX1_isTreaty := goodIn_r _ [41, 26, 42, 43, 44, 6, 45, 46, 47, 48, 49, 2, 50, 27, 28, 29, 30, 31, 32, 33, 34, 35, 36, 37, 193, 194, 195, 196, 197, 198, 199, 200, 201, 202] (by decide +kernel) (by decide +kernel)
set_option maxRecDepth 20000 in
theorem gX1_digest_X1_isTreaty : GoodIn wsX1_digest (wsV RX1 182 RX1 yX1_isTreaty wsX1_isTreaty) := goodIn_app (goodIn_of _ (by decide +kernel)) ggX1_digest_X1_isTreaty
set_option maxRecDepth 20000 in
theorem ggX1_digest_X1_isStill : GoodIn wsX1_digest wsX1_isStill := goodIn_r _ [54, 55, 56, 57, 58, 6, 59, 2, 26, 60, 61, 62, 63, 64, 65, 66, 67, 68, 69, 70, 71, 72, 73, 74, 75, 76, 77, 78, 79, 80, 81, 82, 83, 84, 85, 86, 87, 88, 89, 90, 91, 92, 93, 94, 95, 96, 97, 31, 32, 33, 34, 35, 36, 37, 98, 99, 100, 101, 21, 102, 103, 104, 105, 193, 194, 195, 196, 197, 198, 199, 200, 201, 202, 203, 204] (by decide +kernel) (by decide +kernel)
set_option maxRecDepth 20000 in
theorem gX1_digest_X1_isStill : GoodIn wsX1_digest (wsV RX1 185 RX1 yX1_isStill wsX1_isStill) := goodIn_app (goodIn_of _ (by decide +kernel)) ggX1_digest_X1_isStill
set_option maxRecDepth 20000 in
theorem ggX1_digest_X1_compromise : GoodIn wsX1_digest wsX1_compromise := goodIn_ca (goodIn_r _ [109, 26, 110, 111, 112, 6, 113, 114, 115, 2, 64, 65, 66, 67, 68, 69, 70, 71, 72, 73, 74, 75, 76, 77, 78, 79, 80, 81, 82, 83, 193, 194, 195, 196, 197, 198, 199, 200, 201, 202, 203, 204] (by decide +kernel) (by decide +kernel)) (goodIn_sub (fun _ h => List.mem_cons_of_mem _ (List.mem_append_left _ (List.mem_append_right _ h))) (by decide +kernel))
set_option maxRecDepth 20000 in
theorem gX1_digest_X1_compromise : GoodIn wsX1_digest (wsV RX1 188 RX1 yX1_compromise wsX1_compromise) := goodIn_app (goodIn_of _ (by decide +kernel)) ggX1_digest_X1_compromise
set_option maxRecDepth 20000 in
theorem ggX1_digest_X1_decisiveOne : GoodIn wsX1_digest wsX1_decisiveOne := goodIn_ca (goodIn_r _ [119, 26, 2, 110, 111, 112, 6, 113, 114, 115, 64, 65, 66, 67, 68, 69, 70, 71, 72, 73, 74, 75, 76, 77, 78, 79, 80, 81, 82, 83, 193, 194, 195, 196, 197, 198, 199, 200, 201, 202, 203, 204] (by decide +kernel) (by decide +kernel)) (goodIn_sub (fun _ h => List.mem_cons_of_mem _ (List.mem_append_left _ (List.mem_append_right _ h))) (by decide +kernel))
set_option maxRecDepth 20000 in
theorem gX1_digest_X1_decisiveOne : GoodIn wsX1_digest (wsV RX1 191 RX1 yX1_decisiveOne wsX1_decisiveOne) := goodIn_app (goodIn_of _ (by decide +kernel)) ggX1_digest_X1_decisiveOne
set_option maxRecDepth 20000 in
theorem ggX1_digest_X1_bestPlank : GoodIn wsX1_digest wsX1_bestPlank := goodIn_ca (goodIn_r _ [123, 110, 111, 112, 6, 113, 114, 115, 2, 124, 125, 126, 127, 128, 129, 130, 131, 93, 132, 133, 33, 134, 193, 194, 195, 196, 197, 198, 199, 200, 201, 202] (by decide +kernel) (by decide +kernel)) (goodIn_sub (fun _ h => List.mem_cons_of_mem _ (List.mem_append_left _ (List.mem_append_right _ h))) (by decide +kernel))
set_option maxRecDepth 20000 in
theorem gX1_digest_X1_bestPlank : GoodIn wsX1_digest (wsV RX1 194 RX1 yX1_bestPlank wsX1_bestPlank) := goodIn_app (goodIn_of _ (by decide +kernel)) ggX1_digest_X1_bestPlank
set_option maxRecDepth 20000 in
theorem ggX1_digest_X1_allDiscontent : GoodIn wsX1_digest wsX1_allDiscontent := goodIn_r _ [138, 26, 64, 65, 66, 6, 67, 68, 2, 69, 70, 71, 72, 73, 74, 75, 76, 77, 78, 79, 80, 81, 82, 83, 124, 125, 126, 127, 128, 129, 130, 131, 93, 132, 133, 33, 134, 193, 194, 195, 196, 197, 198, 199, 200, 201, 202, 203, 204] (by decide +kernel) (by decide +kernel)
set_option maxRecDepth 20000 in
theorem gX1_digest_X1_allDiscontent : GoodIn wsX1_digest (wsV RX1 197 RX1 yX1_allDiscontent wsX1_allDiscontent) := goodIn_app (goodIn_of _ (by decide +kernel)) ggX1_digest_X1_allDiscontent
set_option maxRecDepth 20000 in
theorem ggX1_digest_X1_roundsUntilStill : GoodIn wsX1_digest wsX1_roundsUntilStill := goodIn_r _ [142, 55, 56, 57, 58, 6, 59, 2, 26, 60, 61, 62, 63, 64, 65, 66, 67, 68, 69, 70, 71, 72, 73, 74, 75, 76, 77, 78, 79, 80, 81, 82, 83, 84, 85, 86, 87, 88, 89, 90, 91, 92, 93, 94, 95, 96, 97, 31, 32, 33, 34, 35, 36, 37, 98, 99, 100, 101, 21, 102, 103, 104, 105, 193, 194, 195, 196, 197, 198, 199, 200, 201, 202, 203, 204] (by decide +kernel) (by decide +kernel)
set_option maxRecDepth 20000 in
theorem gX1_digest_X1_roundsUntilStill : GoodIn wsX1_digest (wsV RX1 200 RX1 yX1_roundsUntilStill wsX1_roundsUntilStill) := goodIn_app (goodIn_of _ (by decide +kernel)) ggX1_digest_X1_roundsUntilStill
set_option maxRecDepth 20000 in
theorem ggX1_digest_X1_foldDelegate : GoodIn wsX1_digest wsX1_foldDelegate := goodIn_ca (goodIn_r _ [146, 147, 148, 149, 6, 150, 50, 151, 152, 153, 154, 155, 156, 2, 8, 9, 10, 11, 157, 158, 159, 160, 93, 161, 162, 163, 164, 94, 165, 166, 167, 168, 88, 169, 170, 171, 172, 26, 173, 174, 175, 176, 64, 65, 66, 67, 68, 69, 70, 71, 72, 73, 74, 75, 76, 77, 78, 79, 80, 81, 82, 83, 84, 85, 86, 87, 89, 90, 91, 92, 95, 96, 97, 31, 32, 33, 34, 35, 36, 37, 177, 178, 179, 180, 181, 182, 183, 184, 185, 186, 187, 188, 128, 129, 130, 131, 132, 133, 134, 189, 190, 191, 192, 193, 194, 195, 196, 197, 198, 199, 200, 201, 202, 203, 204] (by decide +kernel) (by decide +kernel)) (goodIn_sub (fun _ h => List.mem_cons_of_mem _ (List.mem_append_right _ h)) (by decide +kernel))
set_option maxRecDepth 20000 in
theorem gX1_digest_X1_foldDelegate : GoodIn wsX1_digest (wsV RX1 203 RX1 yX1_foldDelegate wsX1_foldDelegate) := goodIn_app (goodIn_of _ (by decide +kernel)) ggX1_digest_X1_foldDelegate
theorem dX1_digest_0 : decode cX1_digest 0 = .ok (.ldc2_w 164, 3) := by decide +kernel
theorem dX1_digest_3 : decode cX1_digest 3 = .ok (.lstore_n 1, 1) := by decide +kernel
theorem dX1_digest_4 : decode cX1_digest 4 = .ok (.lload_n 1, 1) := by decide +kernel
theorem dX1_digest_5 : decode cX1_digest 5 = .ok (.aload_n 0, 1) := by decide +kernel
theorem dX1_digest_6 : decode cX1_digest 6 = .ok (.invokevirtual 166, 3) := by decide +kernel
theorem dX1_digest_9 : decode cX1_digest 9 = .ok (.invokestatic 169, 3) := by decide +kernel
theorem dX1_digest_12 : decode cX1_digest 12 = .ok (.lstore_n 1, 1) := by decide +kernel
theorem dX1_digest_13 : decode cX1_digest 13 = .ok (.lload_n 1, 1) := by decide +kernel
theorem dX1_digest_14 : decode cX1_digest 14 = .ok (.aload_n 0, 1) := by decide +kernel
theorem dX1_digest_15 : decode cX1_digest 15 = .ok (.invokevirtual 173, 3) := by decide +kernel
theorem dX1_digest_18 : decode cX1_digest 18 = .ok (.invokestatic 169, 3) := by decide +kernel
theorem dX1_digest_21 : decode cX1_digest 21 = .ok (.lstore_n 1, 1) := by decide +kernel
theorem dX1_digest_22 : decode cX1_digest 22 = .ok (.lload_n 1, 1) := by decide +kernel
theorem dX1_digest_23 : decode cX1_digest 23 = .ok (.aload_n 0, 1) := by decide +kernel
theorem dX1_digest_24 : decode cX1_digest 24 = .ok (.invokevirtual 176, 3) := by decide +kernel
theorem dX1_digest_27 : decode cX1_digest 27 = .ok (.invokestatic 169, 3) := by decide +kernel
theorem dX1_digest_30 : decode cX1_digest 30 = .ok (.lstore_n 1, 1) := by decide +kernel
theorem dX1_digest_31 : decode cX1_digest 31 = .ok (.lload_n 1, 1) := by decide +kernel
theorem dX1_digest_32 : decode cX1_digest 32 = .ok (.aload_n 0, 1) := by decide +kernel
theorem dX1_digest_33 : decode cX1_digest 33 = .ok (.invokevirtual 179, 3) := by decide +kernel
theorem dX1_digest_36 : decode cX1_digest 36 = .ok (.invokestatic 169, 3) := by decide +kernel
theorem dX1_digest_39 : decode cX1_digest 39 = .ok (.lstore_n 1, 1) := by decide +kernel
theorem dX1_digest_40 : decode cX1_digest 40 = .ok (.lload_n 1, 1) := by decide +kernel
theorem dX1_digest_41 : decode cX1_digest 41 = .ok (.aload_n 0, 1) := by decide +kernel
theorem dX1_digest_42 : decode cX1_digest 42 = .ok (.invokevirtual 182, 3) := by decide +kernel
theorem dX1_digest_45 : decode cX1_digest 45 = .ok (.ifCond .eq 7, 3) := by decide +kernel
theorem dX1_digest_48 : decode cX1_digest 48 = .ok (.iconst 1, 1) := by decide +kernel
theorem dX1_digest_49 : decode cX1_digest 49 = .ok (.goto 4, 3) := by decide +kernel
theorem dX1_digest_52 : decode cX1_digest 52 = .ok (.iconst 0, 1) := by decide +kernel
theorem dX1_digest_53 : decode cX1_digest 53 = .ok (.invokestatic 169, 3) := by decide +kernel
theorem dX1_digest_56 : decode cX1_digest 56 = .ok (.lstore_n 1, 1) := by decide +kernel
theorem dX1_digest_57 : decode cX1_digest 57 = .ok (.lload_n 1, 1) := by decide +kernel
theorem dX1_digest_58 : decode cX1_digest 58 = .ok (.aload_n 0, 1) := by decide +kernel
theorem dX1_digest_59 : decode cX1_digest 59 = .ok (.invokevirtual 185, 3) := by decide +kernel
theorem dX1_digest_62 : decode cX1_digest 62 = .ok (.ifCond .eq 7, 3) := by decide +kernel
theorem dX1_digest_65 : decode cX1_digest 65 = .ok (.iconst 1, 1) := by decide +kernel
theorem dX1_digest_66 : decode cX1_digest 66 = .ok (.goto 4, 3) := by decide +kernel
theorem dX1_digest_69 : decode cX1_digest 69 = .ok (.iconst 0, 1) := by decide +kernel
theorem dX1_digest_70 : decode cX1_digest 70 = .ok (.invokestatic 169, 3) := by decide +kernel
theorem dX1_digest_73 : decode cX1_digest 73 = .ok (.lstore_n 1, 1) := by decide +kernel
theorem dX1_digest_74 : decode cX1_digest 74 = .ok (.aload_n 0, 1) := by decide +kernel
theorem dX1_digest_75 : decode cX1_digest 75 = .ok (.getfield 7, 3) := by decide +kernel
theorem dX1_digest_78 : decode cX1_digest 78 = .ok (.ifCond .le 30, 3) := by decide +kernel
theorem dX1_digest_81 : decode cX1_digest 81 = .ok (.lload_n 1, 1) := by decide +kernel
theorem dX1_digest_82 : decode cX1_digest 82 = .ok (.aload_n 0, 1) := by decide +kernel
theorem dX1_digest_83 : decode cX1_digest 83 = .ok (.invokevirtual 188, 3) := by decide +kernel
theorem dX1_digest_86 : decode cX1_digest 86 = .ok (.invokestatic 169, 3) := by decide +kernel
theorem dX1_digest_89 : decode cX1_digest 89 = .ok (.lstore_n 1, 1) := by decide +kernel
theorem dX1_digest_90 : decode cX1_digest 90 = .ok (.lload_n 1, 1) := by decide +kernel
theorem dX1_digest_91 : decode cX1_digest 91 = .ok (.aload_n 0, 1) := by decide +kernel
theorem dX1_digest_92 : decode cX1_digest 92 = .ok (.invokevirtual 191, 3) := by decide +kernel
theorem dX1_digest_95 : decode cX1_digest 95 = .ok (.invokestatic 169, 3) := by decide +kernel
theorem dX1_digest_98 : decode cX1_digest 98 = .ok (.lstore_n 1, 1) := by decide +kernel
theorem dX1_digest_99 : decode cX1_digest 99 = .ok (.lload_n 1, 1) := by decide +kernel
theorem dX1_digest_100 : decode cX1_digest 100 = .ok (.aload_n 0, 1) := by decide +kernel
theorem dX1_digest_101 : decode cX1_digest 101 = .ok (.invokevirtual 194, 3) := by decide +kernel
theorem dX1_digest_104 : decode cX1_digest 104 = .ok (.invokestatic 169, 3) := by decide +kernel
theorem dX1_digest_107 : decode cX1_digest 107 = .ok (.lstore_n 1, 1) := by decide +kernel
theorem dX1_digest_108 : decode cX1_digest 108 = .ok (.lload_n 1, 1) := by decide +kernel
theorem dX1_digest_109 : decode cX1_digest 109 = .ok (.aload_n 0, 1) := by decide +kernel
theorem dX1_digest_110 : decode cX1_digest 110 = .ok (.invokevirtual 197, 3) := by decide +kernel
theorem dX1_digest_113 : decode cX1_digest 113 = .ok (.invokestatic 169, 3) := by decide +kernel
theorem dX1_digest_116 : decode cX1_digest 116 = .ok (.lstore_n 1, 1) := by decide +kernel
theorem dX1_digest_117 : decode cX1_digest 117 = .ok (.lload_n 1, 1) := by decide +kernel
theorem dX1_digest_118 : decode cX1_digest 118 = .ok (.aload_n 0, 1) := by decide +kernel
theorem dX1_digest_119 : decode cX1_digest 119 = .ok (.invokevirtual 200, 3) := by decide +kernel
theorem dX1_digest_122 : decode cX1_digest 122 = .ok (.invokestatic 169, 3) := by decide +kernel
theorem dX1_digest_125 : decode cX1_digest 125 = .ok (.lstore_n 1, 1) := by decide +kernel
theorem dX1_digest_126 : decode cX1_digest 126 = .ok (.iconst 0, 1) := by decide +kernel
theorem dX1_digest_127 : decode cX1_digest 127 = .ok (.istore_n 3, 1) := by decide +kernel
theorem dX1_digest_128 : decode cX1_digest 128 = .ok (.iload_n 3, 1) := by decide +kernel
theorem dX1_digest_129 : decode cX1_digest 129 = .ok (.aload_n 0, 1) := by decide +kernel
theorem dX1_digest_130 : decode cX1_digest 130 = .ok (.getfield 7, 3) := by decide +kernel
theorem dX1_digest_133 : decode cX1_digest 133 = .ok (.if_icmp .ge 16, 3) := by decide +kernel
theorem dX1_digest_136 : decode cX1_digest 136 = .ok (.aload_n 0, 1) := by decide +kernel
theorem dX1_digest_137 : decode cX1_digest 137 = .ok (.lload_n 1, 1) := by decide +kernel
theorem dX1_digest_138 : decode cX1_digest 138 = .ok (.iload_n 3, 1) := by decide +kernel
theorem dX1_digest_139 : decode cX1_digest 139 = .ok (.invokevirtual 203, 3) := by decide +kernel
theorem dX1_digest_142 : decode cX1_digest 142 = .ok (.lstore_n 1, 1) := by decide +kernel
theorem dX1_digest_143 : decode cX1_digest 143 = .ok (.iinc 3 1, 3) := by decide +kernel
theorem dX1_digest_146 : decode cX1_digest 146 = .ok (.goto (-18), 3) := by decide +kernel
theorem dX1_digest_149 : decode cX1_digest 149 = .ok (.lload_n 1, 1) := by decide +kernel
theorem dX1_digest_150 : decode cX1_digest 150 = .ok (.lreturn, 1) := by decide +kernel
set_option maxRecDepth 20000 in
theorem ggX1_foldDelegate_X1_villageOf : GoodIn wsX1_foldDelegate wsX1_villageOf := goodIn_ca (goodIn_r _ [5, 6, 7, 8, 9, 4, 10, 11, 12, 13, 103, 104, 105, 106, 107, 108, 109, 110, 111, 112] (by decide +kernel) (by decide +kernel)) (goodIn_sub (fun _ h => List.mem_cons_of_mem _ (List.mem_append_right _ h)) (by decide +kernel))
set_option maxRecDepth 20000 in
theorem gX1_foldDelegate_X1_villageOf : GoodIn wsX1_foldDelegate (wsV RX1 206 RX1 yX1_villageOf wsX1_villageOf) := goodIn_app (goodIn_of _ (by decide +kernel)) ggX1_foldDelegate_X1_villageOf
set_option maxRecDepth 20000 in
theorem ggX1_foldDelegate_X1_fold : GoodIn wsX1_foldDelegate wsX1_fold := goodIn_r _ [16, 17] (by decide +kernel) (by decide +kernel)
set_option maxRecDepth 20000 in
theorem gX1_foldDelegate_X1_fold : GoodIn wsX1_foldDelegate (va_wsS RX1 169 yX1_fold wsX1_fold) := goodIn_app (goodIn_of _ (by decide +kernel)) ggX1_foldDelegate_X1_fold
set_option maxRecDepth 20000 in
theorem ggX1_foldDelegate_X1_wishOf : GoodIn wsX1_foldDelegate wsX1_wishOf := goodIn_ca (goodIn_r _ [21, 22, 7, 8, 9, 4, 10, 11, 12, 13, 103, 104, 105, 106, 107, 108, 109, 110, 111, 112] (by decide +kernel) (by decide +kernel)) (goodIn_sub (fun _ h => List.mem_cons_of_mem _ (List.mem_append_right _ h)) (by decide +kernel))
set_option maxRecDepth 20000 in
theorem gX1_foldDelegate_X1_wishOf : GoodIn wsX1_foldDelegate (wsV RX1 209 RX1 yX1_wishOf wsX1_wishOf) := goodIn_app (goodIn_of _ (by decide +kernel)) ggX1_foldDelegate_X1_wishOf
set_option maxRecDepth 20000 in
theorem ggX1_foldDelegate_X1_reachOf : GoodIn wsX1_foldDelegate wsX1_reachOf := goodIn_ca (goodIn_r _ [26, 27, 7, 8, 9, 4, 10, 11, 12, 13, 103, 104, 105, 106, 107, 108, 109, 110, 111, 112] (by decide +kernel) (by decide +kernel)) (goodIn_sub (fun _ h => List.mem_cons_of_mem _ (List.mem_append_right _ h)) (by decide +kernel))
set_option maxRecDepth 20000 in
theorem gX1_foldDelegate_X1_reachOf : GoodIn wsX1_foldDelegate (wsV RX1 212 RX1 yX1_reachOf wsX1_reachOf) := goodIn_app (goodIn_of _ (by decide +kernel)) ggX1_foldDelegate_X1_reachOf
set_option maxRecDepth 20000 in
theorem ggX1_foldDelegate_X1_paceOf : GoodIn wsX1_foldDelegate wsX1_paceOf := goodIn_ca (goodIn_r _ [31, 32, 7, 8, 9, 4, 10, 11, 12, 13, 103, 104, 105, 106, 107, 108, 109, 110, 111, 112] (by decide +kernel) (by decide +kernel)) (goodIn_sub (fun _ h => List.mem_cons_of_mem _ (List.mem_append_right _ h)) (by decide +kernel))
set_option maxRecDepth 20000 in
theorem gX1_foldDelegate_X1_paceOf : GoodIn wsX1_foldDelegate (wsV RX1 215 RX1 yX1_paceOf wsX1_paceOf) := goodIn_app (goodIn_of _ (by decide +kernel)) ggX1_foldDelegate_X1_paceOf
set_option maxRecDepth 20000 in
theorem ggX1_foldDelegate_X1_plankOf : GoodIn wsX1_foldDelegate wsX1_plankOf := goodIn_ca (goodIn_r _ [36, 37, 7, 8, 9, 4, 10, 11, 12, 13, 103, 104, 105, 106, 107, 108, 109, 110, 111, 112] (by decide +kernel) (by decide +kernel)) (goodIn_sub (fun _ h => List.mem_cons_of_mem _ (List.mem_append_right _ h)) (by decide +kernel))
set_option maxRecDepth 20000 in
theorem gX1_foldDelegate_X1_plankOf : GoodIn wsX1_foldDelegate (wsV RX1 218 RX1 yX1_plankOf wsX1_plankOf) := goodIn_app (goodIn_of _ (by decide +kernel)) ggX1_foldDelegate_X1_plankOf
set_option maxRecDepth 20000 in
theorem ggX1_foldDelegate_X1_wouldStepTo : GoodIn wsX1_foldDelegate wsX1_wouldStepTo := goodIn_ca (goodIn_r _ [41, 37, 7, 8, 9, 4, 10, 11, 12, 13, 42, 43, 44, 45, 46, 47, 48, 49, 50, 51, 52, 53, 54, 55, 56, 57, 58, 59, 60, 61, 62, 63, 64, 65, 32, 66, 67, 68, 69, 22, 27, 70, 71, 72, 73, 74, 75, 76, 77, 78, 79, 103, 104, 105, 106, 107, 108, 109, 110, 111, 112, 113, 114] (by decide +kernel) (by decide +kernel)) (goodIn_sub (fun _ h => List.mem_cons_of_mem _ (List.mem_append_right _ h)) (by decide +kernel))
set_option maxRecDepth 20000 in
theorem gX1_foldDelegate_X1_wouldStepTo : GoodIn wsX1_foldDelegate (wsV RX1 221 RX1 yX1_wouldStepTo wsX1_wouldStepTo) := goodIn_app (goodIn_of _ (by decide +kernel)) ggX1_foldDelegate_X1_wouldStepTo
set_option maxRecDepth 20000 in
theorem ggX1_foldDelegate_X1_bestStand : GoodIn wsX1_foldDelegate wsX1_bestStand := goodIn_ca (goodIn_r _ [83, 46, 7, 8, 9, 4, 10, 11, 12, 13, 84, 85, 86, 87, 37, 47, 48, 49, 50, 51, 52, 53, 54, 55, 56, 57, 88, 89, 90, 91, 71, 72, 73, 74, 75, 76, 77, 78, 79, 92, 93, 94, 95, 22, 96, 97, 98, 103, 104, 105, 106, 107, 108, 109, 110, 111, 112, 113, 114] (by decide +kernel) (by decide +kernel)) (goodIn_sub (fun _ h => List.mem_cons_of_mem _ (List.mem_append_right _ h)) (by decide +kernel))
set_option maxRecDepth 20000 in
theorem gX1_foldDelegate_X1_bestStand : GoodIn wsX1_foldDelegate (wsV RX1 224 RX1 yX1_bestStand wsX1_bestStand) := goodIn_app (goodIn_of _ (by decide +kernel)) ggX1_foldDelegate_X1_bestStand
set_option maxRecDepth 20000 in
theorem ggX1_foldDelegate_X1_discontentOf : GoodIn wsX1_foldDelegate wsX1_discontentOf := goodIn_ca (goodIn_r _ [102, 37, 7, 8, 9, 4, 10, 11, 12, 13, 42, 43, 44, 45, 46, 47, 48, 49, 50, 51, 52, 53, 54, 55, 56, 57, 58, 59, 60, 61, 92, 93, 94, 95, 22, 96, 97, 75, 98, 103, 104, 105, 106, 107, 108, 109, 110, 111, 112, 113, 114] (by decide +kernel) (by decide +kernel)) (goodIn_sub (fun _ h => List.mem_cons_of_mem _ (List.mem_append_right _ h)) (by decide +kernel))
set_option maxRecDepth 20000 in
theorem gX1_foldDelegate_X1_discontentOf : GoodIn wsX1_foldDelegate (wsV RX1 227 RX1 yX1_discontentOf wsX1_discontentOf) := goodIn_app (goodIn_of _ (by decide +kernel)) ggX1_foldDelegate_X1_discontentOf
theorem dX1_foldDelegate_0 : decode cX1_foldDelegate 0 = .ok (.lload_n 1, 1) := by decide +kernel
theorem dX1_foldDelegate_1 : decode cX1_foldDelegate 1 = .ok (.lstore 4, 2) := by decide +kernel
theorem dX1_foldDelegate_3 : decode cX1_foldDelegate 3 = .ok (.lload 4, 2) := by decide +kernel
theorem dX1_foldDelegate_5 : decode cX1_foldDelegate 5 = .ok (.aload_n 0, 1) := by decide +kernel
theorem dX1_foldDelegate_6 : decode cX1_foldDelegate 6 = .ok (.iload_n 3, 1) := by decide +kernel
theorem dX1_foldDelegate_7 : decode cX1_foldDelegate 7 = .ok (.invokevirtual 206, 3) := by decide +kernel
theorem dX1_foldDelegate_10 : decode cX1_foldDelegate 10 = .ok (.invokestatic 169, 3) := by decide +kernel
theorem dX1_foldDelegate_13 : decode cX1_foldDelegate 13 = .ok (.lstore 4, 2) := by decide +kernel
theorem dX1_foldDelegate_15 : decode cX1_foldDelegate 15 = .ok (.lload 4, 2) := by decide +kernel
theorem dX1_foldDelegate_17 : decode cX1_foldDelegate 17 = .ok (.aload_n 0, 1) := by decide +kernel
theorem dX1_foldDelegate_18 : decode cX1_foldDelegate 18 = .ok (.iload_n 3, 1) := by decide +kernel
theorem dX1_foldDelegate_19 : decode cX1_foldDelegate 19 = .ok (.invokevirtual 209, 3) := by decide +kernel
theorem dX1_foldDelegate_22 : decode cX1_foldDelegate 22 = .ok (.invokestatic 169, 3) := by decide +kernel
theorem dX1_foldDelegate_25 : decode cX1_foldDelegate 25 = .ok (.lstore 4, 2) := by decide +kernel
theorem dX1_foldDelegate_27 : decode cX1_foldDelegate 27 = .ok (.lload 4, 2) := by decide +kernel
theorem dX1_foldDelegate_29 : decode cX1_foldDelegate 29 = .ok (.aload_n 0, 1) := by decide +kernel
theorem dX1_foldDelegate_30 : decode cX1_foldDelegate 30 = .ok (.iload_n 3, 1) := by decide +kernel
theorem dX1_foldDelegate_31 : decode cX1_foldDelegate 31 = .ok (.invokevirtual 212, 3) := by decide +kernel
theorem dX1_foldDelegate_34 : decode cX1_foldDelegate 34 = .ok (.invokestatic 169, 3) := by decide +kernel
theorem dX1_foldDelegate_37 : decode cX1_foldDelegate 37 = .ok (.lstore 4, 2) := by decide +kernel
theorem dX1_foldDelegate_39 : decode cX1_foldDelegate 39 = .ok (.lload 4, 2) := by decide +kernel
theorem dX1_foldDelegate_41 : decode cX1_foldDelegate 41 = .ok (.aload_n 0, 1) := by decide +kernel
theorem dX1_foldDelegate_42 : decode cX1_foldDelegate 42 = .ok (.iload_n 3, 1) := by decide +kernel
theorem dX1_foldDelegate_43 : decode cX1_foldDelegate 43 = .ok (.invokevirtual 215, 3) := by decide +kernel
theorem dX1_foldDelegate_46 : decode cX1_foldDelegate 46 = .ok (.invokestatic 169, 3) := by decide +kernel
theorem dX1_foldDelegate_49 : decode cX1_foldDelegate 49 = .ok (.lstore 4, 2) := by decide +kernel
theorem dX1_foldDelegate_51 : decode cX1_foldDelegate 51 = .ok (.lload 4, 2) := by decide +kernel
theorem dX1_foldDelegate_53 : decode cX1_foldDelegate 53 = .ok (.aload_n 0, 1) := by decide +kernel
theorem dX1_foldDelegate_54 : decode cX1_foldDelegate 54 = .ok (.iload_n 3, 1) := by decide +kernel
theorem dX1_foldDelegate_55 : decode cX1_foldDelegate 55 = .ok (.invokevirtual 218, 3) := by decide +kernel
theorem dX1_foldDelegate_58 : decode cX1_foldDelegate 58 = .ok (.invokestatic 169, 3) := by decide +kernel
theorem dX1_foldDelegate_61 : decode cX1_foldDelegate 61 = .ok (.lstore 4, 2) := by decide +kernel
theorem dX1_foldDelegate_63 : decode cX1_foldDelegate 63 = .ok (.lload 4, 2) := by decide +kernel
theorem dX1_foldDelegate_65 : decode cX1_foldDelegate 65 = .ok (.aload_n 0, 1) := by decide +kernel
theorem dX1_foldDelegate_66 : decode cX1_foldDelegate 66 = .ok (.iload_n 3, 1) := by decide +kernel
theorem dX1_foldDelegate_67 : decode cX1_foldDelegate 67 = .ok (.invokevirtual 221, 3) := by decide +kernel
theorem dX1_foldDelegate_70 : decode cX1_foldDelegate 70 = .ok (.invokestatic 169, 3) := by decide +kernel
theorem dX1_foldDelegate_73 : decode cX1_foldDelegate 73 = .ok (.lstore 4, 2) := by decide +kernel
theorem dX1_foldDelegate_75 : decode cX1_foldDelegate 75 = .ok (.lload 4, 2) := by decide +kernel
theorem dX1_foldDelegate_77 : decode cX1_foldDelegate 77 = .ok (.aload_n 0, 1) := by decide +kernel
theorem dX1_foldDelegate_78 : decode cX1_foldDelegate 78 = .ok (.iload_n 3, 1) := by decide +kernel
theorem dX1_foldDelegate_79 : decode cX1_foldDelegate 79 = .ok (.invokevirtual 224, 3) := by decide +kernel
theorem dX1_foldDelegate_82 : decode cX1_foldDelegate 82 = .ok (.invokestatic 169, 3) := by decide +kernel
theorem dX1_foldDelegate_85 : decode cX1_foldDelegate 85 = .ok (.lstore 4, 2) := by decide +kernel
theorem dX1_foldDelegate_87 : decode cX1_foldDelegate 87 = .ok (.lload 4, 2) := by decide +kernel
theorem dX1_foldDelegate_89 : decode cX1_foldDelegate 89 = .ok (.aload_n 0, 1) := by decide +kernel
theorem dX1_foldDelegate_90 : decode cX1_foldDelegate 90 = .ok (.iload_n 3, 1) := by decide +kernel
theorem dX1_foldDelegate_91 : decode cX1_foldDelegate 91 = .ok (.invokevirtual 227, 3) := by decide +kernel
theorem dX1_foldDelegate_94 : decode cX1_foldDelegate 94 = .ok (.invokestatic 169, 3) := by decide +kernel
theorem dX1_foldDelegate_97 : decode cX1_foldDelegate 97 = .ok (.lstore 4, 2) := by decide +kernel
theorem dX1_foldDelegate_99 : decode cX1_foldDelegate 99 = .ok (.lload 4, 2) := by decide +kernel
theorem dX1_foldDelegate_101 : decode cX1_foldDelegate 101 = .ok (.lreturn, 1) := by decide +kernel
theorem dX1_fold_0 : decode cX1_fold 0 = .ok (.lload_n 0, 1) := by decide +kernel
theorem dX1_fold_1 : decode cX1_fold 1 = .ok (.ldc2_w 230, 3) := by decide +kernel
theorem dX1_fold_4 : decode cX1_fold 4 = .ok (.lmul, 1) := by decide +kernel
theorem dX1_fold_5 : decode cX1_fold 5 = .ok (.iload_n 2, 1) := by decide +kernel
theorem dX1_fold_6 : decode cX1_fold 6 = .ok (.i2l, 1) := by decide +kernel
theorem dX1_fold_7 : decode cX1_fold 7 = .ok (.ladd, 1) := by decide +kernel
theorem dX1_fold_8 : decode cX1_fold 8 = .ok (.lreturn, 1) := by decide +kernel
theorem dX1_checkDelegate_0 : decode cX1_checkDelegate 0 = .ok (.iload_n 1, 1) := by decide +kernel
theorem dX1_checkDelegate_1 : decode cX1_checkDelegate 1 = .ok (.ifCond .lt 11, 3) := by decide +kernel
theorem dX1_checkDelegate_4 : decode cX1_checkDelegate 4 = .ok (.iload_n 1, 1) := by decide +kernel
theorem dX1_checkDelegate_5 : decode cX1_checkDelegate 5 = .ok (.aload_n 0, 1) := by decide +kernel
theorem dX1_checkDelegate_6 : decode cX1_checkDelegate 6 = .ok (.getfield 7, 3) := by decide +kernel
theorem dX1_checkDelegate_9 : decode cX1_checkDelegate 9 = .ok (.if_icmp .lt 13, 3) := by decide +kernel
theorem dX1_checkDelegate_12 : decode cX1_checkDelegate 12 = .ok (.new 232, 3) := by decide +kernel
theorem dX1_checkDelegate_15 : decode cX1_checkDelegate 15 = .ok (.dup, 1) := by decide +kernel
theorem dX1_checkDelegate_16 : decode cX1_checkDelegate 16 = .ok (.ldc 234, 2) := by decide +kernel
theorem dX1_checkDelegate_18 : decode cX1_checkDelegate 18 = .ok (.invokespecial 236, 3) := by decide +kernel
theorem dX1_checkDelegate_21 : decode cX1_checkDelegate 21 = .ok (.athrow, 1) := by decide +kernel
theorem dX1_checkDelegate_22 : decode cX1_checkDelegate 22 = .ok (.return_, 1) := by decide +kernel
theorem dX1_checkVillage_0 : decode cX1_checkVillage 0 = .ok (.iload_n 0, 1) := by decide +kernel
theorem dX1_checkVillage_1 : decode cX1_checkVillage 1 = .ok (.ifCond .lt 8, 3) := by decide +kernel
theorem dX1_checkVillage_4 : decode cX1_checkVillage 4 = .ok (.iload_n 0, 1) := by decide +kernel
theorem dX1_checkVillage_5 : decode cX1_checkVillage 5 = .ok (.iconst 5, 1) := by decide +kernel
theorem dX1_checkVillage_6 : decode cX1_checkVillage 6 = .ok (.if_icmp .lt 13, 3) := by decide +kernel
theorem dX1_checkVillage_9 : decode cX1_checkVillage 9 = .ok (.new 232, 3) := by decide +kernel
theorem dX1_checkVillage_12 : decode cX1_checkVillage 12 = .ok (.dup, 1) := by decide +kernel
theorem dX1_checkVillage_13 : decode cX1_checkVillage 13 = .ok (.ldc 237, 2) := by decide +kernel
theorem dX1_checkVillage_15 : decode cX1_checkVillage 15 = .ok (.invokespecial 236, 3) := by decide +kernel
theorem dX1_checkVillage_18 : decode cX1_checkVillage 18 = .ok (.athrow, 1) := by decide +kernel
theorem dX1_checkVillage_19 : decode cX1_checkVillage 19 = .ok (.return_, 1) := by decide +kernel
theorem dX1_checkPlank_0 : decode cX1_checkPlank 0 = .ok (.iload_n 0, 1) := by decide +kernel
theorem dX1_checkPlank_1 : decode cX1_checkPlank 1 = .ok (.ifCond .lt 9, 3) := by decide +kernel
theorem dX1_checkPlank_4 : decode cX1_checkPlank 4 = .ok (.iload_n 0, 1) := by decide +kernel
theorem dX1_checkPlank_5 : decode cX1_checkPlank 5 = .ok (.bipush 41, 2) := by decide +kernel
theorem dX1_checkPlank_7 : decode cX1_checkPlank 7 = .ok (.if_icmp .lt 13, 3) := by decide +kernel
theorem dX1_checkPlank_10 : decode cX1_checkPlank 10 = .ok (.new 232, 3) := by decide +kernel
theorem dX1_checkPlank_13 : decode cX1_checkPlank 13 = .ok (.dup, 1) := by decide +kernel
theorem dX1_checkPlank_14 : decode cX1_checkPlank 14 = .ok (.ldc 239, 2) := by decide +kernel
theorem dX1_checkPlank_16 : decode cX1_checkPlank 16 = .ok (.invokespecial 236, 3) := by decide +kernel
theorem dX1_checkPlank_19 : decode cX1_checkPlank 19 = .ok (.athrow, 1) := by decide +kernel
theorem dX1_checkPlank_20 : decode cX1_checkPlank 20 = .ok (.return_, 1) := by decide +kernel
set_option maxRecDepth 20000 in
theorem ggX1_checkTwoPlanks_X1_checkPlank : GoodIn wsX1_checkTwoPlanks wsX1_checkPlank := goodIn_ca (goodIn_r _ [6, 7, 8] (by decide +kernel) (by decide +kernel)) (goodIn_sub (fun _ h => List.mem_cons_of_mem _ (List.mem_append_right _ h)) (by decide +kernel))
set_option maxRecDepth 20000 in
theorem gX1_checkTwoPlanks_X1_checkPlank : GoodIn wsX1_checkTwoPlanks (va_wsS RX1 49 yX1_checkPlank wsX1_checkPlank) := goodIn_app (goodIn_of _ (by decide +kernel)) ggX1_checkTwoPlanks_X1_checkPlank
theorem dX1_checkTwoPlanks_0 : decode cX1_checkTwoPlanks 0 = .ok (.iload_n 0, 1) := by decide +kernel
theorem dX1_checkTwoPlanks_1 : decode cX1_checkTwoPlanks 1 = .ok (.invokestatic 49, 3) := by decide +kernel
theorem dX1_checkTwoPlanks_4 : decode cX1_checkTwoPlanks 4 = .ok (.iload_n 1, 1) := by decide +kernel
theorem dX1_checkTwoPlanks_5 : decode cX1_checkTwoPlanks 5 = .ok (.invokestatic 49, 3) := by decide +kernel
theorem dX1_checkTwoPlanks_8 : decode cX1_checkTwoPlanks 8 = .ok (.iload_n 0, 1) := by decide +kernel
theorem dX1_checkTwoPlanks_9 : decode cX1_checkTwoPlanks 9 = .ok (.iload_n 1, 1) := by decide +kernel
theorem dX1_checkTwoPlanks_10 : decode cX1_checkTwoPlanks 10 = .ok (.if_icmp .ne 13, 3) := by decide +kernel
theorem dX1_checkTwoPlanks_13 : decode cX1_checkTwoPlanks 13 = .ok (.new 85, 3) := by decide +kernel
theorem dX1_checkTwoPlanks_16 : decode cX1_checkTwoPlanks 16 = .ok (.dup, 1) := by decide +kernel
theorem dX1_checkTwoPlanks_17 : decode cX1_checkTwoPlanks 17 = .ok (.ldc 241, 2) := by decide +kernel
theorem dX1_checkTwoPlanks_19 : decode cX1_checkTwoPlanks 19 = .ok (.invokespecial 89, 3) := by decide +kernel
theorem dX1_checkTwoPlanks_22 : decode cX1_checkTwoPlanks 22 = .ok (.athrow, 1) := by decide +kernel
theorem dX1_checkTwoPlanks_23 : decode cX1_checkTwoPlanks 23 = .ok (.return_, 1) := by decide +kernel
theorem dX1_checkReachAndPace_0 : decode cX1_checkReachAndPace 0 = .ok (.iload_n 0, 1) := by decide +kernel
theorem dX1_checkReachAndPace_1 : decode cX1_checkReachAndPace 1 = .ok (.ifCond .lt 9, 3) := by decide +kernel
theorem dX1_checkReachAndPace_4 : decode cX1_checkReachAndPace 4 = .ok (.iload_n 0, 1) := by decide +kernel
theorem dX1_checkReachAndPace_5 : decode cX1_checkReachAndPace 5 = .ok (.bipush 20, 2) := by decide +kernel
theorem dX1_checkReachAndPace_7 : decode cX1_checkReachAndPace 7 = .ok (.if_icmp .le 13, 3) := by decide +kernel
theorem dX1_checkReachAndPace_10 : decode cX1_checkReachAndPace 10 = .ok (.new 85, 3) := by decide +kernel
theorem dX1_checkReachAndPace_13 : decode cX1_checkReachAndPace 13 = .ok (.dup, 1) := by decide +kernel
theorem dX1_checkReachAndPace_14 : decode cX1_checkReachAndPace 14 = .ok (.ldc 243, 2) := by decide +kernel
theorem dX1_checkReachAndPace_16 : decode cX1_checkReachAndPace 16 = .ok (.invokespecial 89, 3) := by decide +kernel
theorem dX1_checkReachAndPace_19 : decode cX1_checkReachAndPace 19 = .ok (.athrow, 1) := by decide +kernel
theorem dX1_checkReachAndPace_20 : decode cX1_checkReachAndPace 20 = .ok (.iload_n 1, 1) := by decide +kernel
theorem dX1_checkReachAndPace_21 : decode cX1_checkReachAndPace 21 = .ok (.iconst 1, 1) := by decide +kernel
theorem dX1_checkReachAndPace_22 : decode cX1_checkReachAndPace 22 = .ok (.if_icmp .lt 8, 3) := by decide +kernel
theorem dX1_checkReachAndPace_25 : decode cX1_checkReachAndPace 25 = .ok (.iload_n 1, 1) := by decide +kernel
theorem dX1_checkReachAndPace_26 : decode cX1_checkReachAndPace 26 = .ok (.iconst 5, 1) := by decide +kernel
theorem dX1_checkReachAndPace_27 : decode cX1_checkReachAndPace 27 = .ok (.if_icmp .le 13, 3) := by decide +kernel
theorem dX1_checkReachAndPace_30 : decode cX1_checkReachAndPace 30 = .ok (.new 85, 3) := by decide +kernel
theorem dX1_checkReachAndPace_33 : decode cX1_checkReachAndPace 33 = .ok (.dup, 1) := by decide +kernel
theorem dX1_checkReachAndPace_34 : decode cX1_checkReachAndPace 34 = .ok (.ldc 245, 2) := by decide +kernel
theorem dX1_checkReachAndPace_36 : decode cX1_checkReachAndPace 36 = .ok (.invokespecial 89, 3) := by decide +kernel
theorem dX1_checkReachAndPace_39 : decode cX1_checkReachAndPace 39 = .ok (.athrow, 1) := by decide +kernel
theorem dX1_checkReachAndPace_40 : decode cX1_checkReachAndPace 40 = .ok (.return_, 1) := by decide +kernel
theorem dX1_checkRounds_0 : decode cX1_checkRounds 0 = .ok (.iload_n 0, 1) := by decide +kernel
theorem dX1_checkRounds_1 : decode cX1_checkRounds 1 = .ok (.iconst 1, 1) := by decide +kernel
theorem dX1_checkRounds_2 : decode cX1_checkRounds 2 = .ok (.if_icmp .lt 9, 3) := by decide +kernel
theorem dX1_checkRounds_5 : decode cX1_checkRounds 5 = .ok (.iload_n 0, 1) := by decide +kernel
theorem dX1_checkRounds_6 : decode cX1_checkRounds 6 = .ok (.bipush 50, 2) := by decide +kernel
theorem dX1_checkRounds_8 : decode cX1_checkRounds 8 = .ok (.if_icmp .le 13, 3) := by decide +kernel
theorem dX1_checkRounds_11 : decode cX1_checkRounds 11 = .ok (.new 85, 3) := by decide +kernel
theorem dX1_checkRounds_14 : decode cX1_checkRounds 14 = .ok (.dup, 1) := by decide +kernel
theorem dX1_checkRounds_15 : decode cX1_checkRounds 15 = .ok (.ldc 247, 2) := by decide +kernel
theorem dX1_checkRounds_17 : decode cX1_checkRounds 17 = .ok (.invokespecial 89, 3) := by decide +kernel
theorem dX1_checkRounds_20 : decode cX1_checkRounds 20 = .ok (.athrow, 1) := by decide +kernel
theorem dX1_checkRounds_21 : decode cX1_checkRounds 21 = .ok (.return_, 1) := by decide +kernel
theorem dX1_checkSomeoneThere_0 : decode cX1_checkSomeoneThere 0 = .ok (.aload_n 0, 1) := by decide +kernel
theorem dX1_checkSomeoneThere_1 : decode cX1_checkSomeoneThere 1 = .ok (.getfield 7, 3) := by decide +kernel
theorem dX1_checkSomeoneThere_4 : decode cX1_checkSomeoneThere 4 = .ok (.ifCond .ne 13, 3) := by decide +kernel
theorem dX1_checkSomeoneThere_7 : decode cX1_checkSomeoneThere 7 = .ok (.new 56, 3) := by decide +kernel
theorem dX1_checkSomeoneThere_10 : decode cX1_checkSomeoneThere 10 = .ok (.dup, 1) := by decide +kernel
theorem dX1_checkSomeoneThere_11 : decode cX1_checkSomeoneThere 11 = .ok (.ldc 249, 2) := by decide +kernel
theorem dX1_checkSomeoneThere_13 : decode cX1_checkSomeoneThere 13 = .ok (.invokespecial 60, 3) := by decide +kernel
theorem dX1_checkSomeoneThere_16 : decode cX1_checkSomeoneThere 16 = .ok (.athrow, 1) := by decide +kernel
theorem dX1_checkSomeoneThere_17 : decode cX1_checkSomeoneThere 17 = .ok (.return_, 1) := by decide +kernel
set_option maxRecDepth 20000 in
theorem ggX1_isWilling_X1_discontent : GoodIn wsX1_isWilling wsX1_discontent := goodIn_r _ [6, 7, 8, 9, 10, 11, 12, 13, 14, 15, 16, 17, 18, 19, 20, 21] (by decide +kernel) (by decide +kernel)
set_option maxRecDepth 20000 in
theorem gX1_isWilling_X1_discontent : GoodIn wsX1_isWilling (wsV RX1 132 RX1 yX1_discontent wsX1_discontent) := goodIn_app (goodIn_of _ (by decide +kernel)) ggX1_isWilling_X1_discontent
theorem dX1_isWilling_0 : decode cX1_isWilling 0 = .ok (.aload_n 0, 1) := by decide +kernel
theorem dX1_isWilling_1 : decode cX1_isWilling 1 = .ok (.iload_n 1, 1) := by decide +kernel
theorem dX1_isWilling_2 : decode cX1_isWilling 2 = .ok (.iload_n 2, 1) := by decide +kernel
theorem dX1_isWilling_3 : decode cX1_isWilling 3 = .ok (.invokevirtual 132, 3) := by decide +kernel
theorem dX1_isWilling_6 : decode cX1_isWilling 6 = .ok (.aload_n 0, 1) := by decide +kernel
theorem dX1_isWilling_7 : decode cX1_isWilling 7 = .ok (.getfield 26, 3) := by decide +kernel
theorem dX1_isWilling_10 : decode cX1_isWilling 10 = .ok (.iload_n 1, 1) := by decide +kernel
theorem dX1_isWilling_11 : decode cX1_isWilling 11 = .ok (.iaload, 1) := by decide +kernel
theorem dX1_isWilling_12 : decode cX1_isWilling 12 = .ok (.if_icmp .gt 7, 3) := by decide +kernel
theorem dX1_isWilling_15 : decode cX1_isWilling 15 = .ok (.iconst 1, 1) := by decide +kernel
theorem dX1_isWilling_16 : decode cX1_isWilling 16 = .ok (.goto 4, 3) := by decide +kernel
theorem dX1_isWilling_19 : decode cX1_isWilling 19 = .ok (.iconst 0, 1) := by decide +kernel
theorem dX1_isWilling_20 : decode cX1_isWilling 20 = .ok (.ireturn, 1) := by decide +kernel
theorem dX1_discontent_0 : decode cX1_discontent 0 = .ok (.iload_n 2, 1) := by decide +kernel
theorem dX1_discontent_1 : decode cX1_discontent 1 = .ok (.aload_n 0, 1) := by decide +kernel
theorem dX1_discontent_2 : decode cX1_discontent 2 = .ok (.getfield 23, 3) := by decide +kernel
theorem dX1_discontent_5 : decode cX1_discontent 5 = .ok (.iload_n 1, 1) := by decide +kernel
theorem dX1_discontent_6 : decode cX1_discontent 6 = .ok (.iaload, 1) := by decide +kernel
theorem dX1_discontent_7 : decode cX1_discontent 7 = .ok (.isub, 1) := by decide +kernel
theorem dX1_discontent_8 : decode cX1_discontent 8 = .ok (.invokestatic 251, 3) := by decide +kernel
theorem dX1_discontent_11 : decode cX1_discontent 11 = .ok (.ireturn, 1) := by decide +kernel
set_option maxRecDepth 20000 in
theorem ggX1_hasPlaceFor_X1_hasRoom : GoodIn wsX1_hasPlaceFor wsX1_hasRoom := goodIn_r _ [6, 7, 8, 9, 10, 5, 11, 12, 13, 14, 15, 16, 17, 18, 19, 20, 21, 22] (by decide +kernel) (by decide +kernel)
set_option maxRecDepth 20000 in
theorem gX1_hasPlaceFor_X1_hasRoom : GoodIn wsX1_hasPlaceFor (wsV RX1 63 RX1 yX1_hasRoom wsX1_hasRoom) := goodIn_app (goodIn_of _ (by decide +kernel)) ggX1_hasPlaceFor_X1_hasRoom
theorem dX1_hasPlaceFor_0 : decode cX1_hasPlaceFor 0 = .ok (.aload_n 0, 1) := by decide +kernel
theorem dX1_hasPlaceFor_1 : decode cX1_hasPlaceFor 1 = .ok (.getfield 32, 3) := by decide +kernel
theorem dX1_hasPlaceFor_4 : decode cX1_hasPlaceFor 4 = .ok (.iload_n 1, 1) := by decide +kernel
theorem dX1_hasPlaceFor_5 : decode cX1_hasPlaceFor 5 = .ok (.iaload, 1) := by decide +kernel
theorem dX1_hasPlaceFor_6 : decode cX1_hasPlaceFor 6 = .ok (.iload_n 2, 1) := by decide +kernel
theorem dX1_hasPlaceFor_7 : decode cX1_hasPlaceFor 7 = .ok (.if_icmp .eq 15, 3) := by decide +kernel
theorem dX1_hasPlaceFor_10 : decode cX1_hasPlaceFor 10 = .ok (.aload_n 0, 1) := by decide +kernel
theorem dX1_hasPlaceFor_11 : decode cX1_hasPlaceFor 11 = .ok (.aload_n 0, 1) := by decide +kernel
theorem dX1_hasPlaceFor_12 : decode cX1_hasPlaceFor 12 = .ok (.getfield 32, 3) := by decide +kernel
theorem dX1_hasPlaceFor_15 : decode cX1_hasPlaceFor 15 = .ok (.iload_n 2, 1) := by decide +kernel
theorem dX1_hasPlaceFor_16 : decode cX1_hasPlaceFor 16 = .ok (.invokevirtual 63, 3) := by decide +kernel
theorem dX1_hasPlaceFor_19 : decode cX1_hasPlaceFor 19 = .ok (.ifCond .eq 7, 3) := by decide +kernel
theorem dX1_hasPlaceFor_22 : decode cX1_hasPlaceFor 22 = .ok (.iconst 1, 1) := by decide +kernel
theorem dX1_hasPlaceFor_23 : decode cX1_hasPlaceFor 23 = .ok (.goto 4, 3) := by decide +kernel
theorem dX1_hasPlaceFor_26 : decode cX1_hasPlaceFor 26 = .ok (.iconst 0, 1) := by decide +kernel
theorem dX1_hasPlaceFor_27 : decode cX1_hasPlaceFor 27 = .ok (.ireturn, 1) := by decide +kernel
set_option maxRecDepth 20000 in
theorem ggX1_stepFrom_X1_nearestWillingPlank : GoodIn wsX1_stepFrom wsX1_nearestWillingPlank := goodIn_r _ [6, 7, 8, 9, 10, 5, 11, 12, 13, 14, 15, 16, 17, 18, 19, 20, 21, 22, 23, 24, 25, 26, 27, 28] (by decide +kernel) (by decide +kernel)
set_option maxRecDepth 20000 in
theorem gX1_stepFrom_X1_nearestWillingPlank : GoodIn wsX1_stepFrom (wsV RX1 254 RX1 yX1_nearestWillingPlank wsX1_nearestWillingPlank) := goodIn_app (goodIn_of _ (by decide +kernel)) ggX1_stepFrom_X1_nearestWillingPlank
set_option maxRecDepth 20000 in
theorem ggX1_stepFrom_X1_cutTo : GoodIn wsX1_stepFrom wsX1_cutTo := goodIn_r _ [11, 12, 13, 14, 15, 16, 17, 18] (by decide +kernel) (by decide +kernel)
set_option maxRecDepth 20000 in
theorem gX1_stepFrom_X1_cutTo : GoodIn wsX1_stepFrom (va_wsS RX1 257 yX1_cutTo wsX1_cutTo) := goodIn_app (goodIn_of _ (by decide +kernel)) ggX1_stepFrom_X1_cutTo
theorem dX1_stepFrom_0 : decode cX1_stepFrom 0 = .ok (.aload_n 0, 1) := by decide +kernel
theorem dX1_stepFrom_1 : decode cX1_stepFrom 1 = .ok (.iload_n 1, 1) := by decide +kernel
theorem dX1_stepFrom_2 : decode cX1_stepFrom 2 = .ok (.iload_n 3, 1) := by decide +kernel
theorem dX1_stepFrom_3 : decode cX1_stepFrom 3 = .ok (.invokevirtual 254, 3) := by decide +kernel
theorem dX1_stepFrom_6 : decode cX1_stepFrom 6 = .ok (.istore 4, 2) := by decide +kernel
theorem dX1_stepFrom_8 : decode cX1_stepFrom 8 = .ok (.iload 4, 2) := by decide +kernel
theorem dX1_stepFrom_10 : decode cX1_stepFrom 10 = .ok (.iload_n 2, 1) := by decide +kernel
theorem dX1_stepFrom_11 : decode cX1_stepFrom 11 = .ok (.aload_n 0, 1) := by decide +kernel
theorem dX1_stepFrom_12 : decode cX1_stepFrom 12 = .ok (.getfield 29, 3) := by decide +kernel
theorem dX1_stepFrom_15 : decode cX1_stepFrom 15 = .ok (.iload_n 1, 1) := by decide +kernel
theorem dX1_stepFrom_16 : decode cX1_stepFrom 16 = .ok (.iaload, 1) := by decide +kernel
theorem dX1_stepFrom_17 : decode cX1_stepFrom 17 = .ok (.isub, 1) := by decide +kernel
theorem dX1_stepFrom_18 : decode cX1_stepFrom 18 = .ok (.iload_n 2, 1) := by decide +kernel
theorem dX1_stepFrom_19 : decode cX1_stepFrom 19 = .ok (.aload_n 0, 1) := by decide +kernel
theorem dX1_stepFrom_20 : decode cX1_stepFrom 20 = .ok (.getfield 29, 3) := by decide +kernel
theorem dX1_stepFrom_23 : decode cX1_stepFrom 23 = .ok (.iload_n 1, 1) := by decide +kernel
theorem dX1_stepFrom_24 : decode cX1_stepFrom 24 = .ok (.iaload, 1) := by decide +kernel
theorem dX1_stepFrom_25 : decode cX1_stepFrom 25 = .ok (.iadd, 1) := by decide +kernel
theorem dX1_stepFrom_26 : decode cX1_stepFrom 26 = .ok (.invokestatic 257, 3) := by decide +kernel
theorem dX1_stepFrom_29 : decode cX1_stepFrom 29 = .ok (.ireturn, 1) := by decide +kernel
set_option maxRecDepth 20000 in
theorem ggX1_nearestWillingPlank_X1_cutTo : GoodIn wsX1_nearestWillingPlank wsX1_cutTo := goodIn_r _ [6, 7, 8, 9, 10, 11, 12, 13] (by decide +kernel) (by decide +kernel)
set_option maxRecDepth 20000 in
theorem gX1_nearestWillingPlank_X1_cutTo : GoodIn wsX1_nearestWillingPlank (va_wsS RX1 257 yX1_cutTo wsX1_cutTo) := goodIn_app (goodIn_of _ (by decide +kernel)) ggX1_nearestWillingPlank_X1_cutTo
theorem dX1_nearestWillingPlank_0 : decode cX1_nearestWillingPlank 0 = .ok (.aload_n 0, 1) := by decide +kernel
theorem dX1_nearestWillingPlank_1 : decode cX1_nearestWillingPlank 1 = .ok (.getfield 23, 3) := by decide +kernel
theorem dX1_nearestWillingPlank_4 : decode cX1_nearestWillingPlank 4 = .ok (.iload_n 1, 1) := by decide +kernel
theorem dX1_nearestWillingPlank_5 : decode cX1_nearestWillingPlank 5 = .ok (.iaload, 1) := by decide +kernel
theorem dX1_nearestWillingPlank_6 : decode cX1_nearestWillingPlank 6 = .ok (.istore_n 3, 1) := by decide +kernel
theorem dX1_nearestWillingPlank_7 : decode cX1_nearestWillingPlank 7 = .ok (.iload_n 2, 1) := by decide +kernel
theorem dX1_nearestWillingPlank_8 : decode cX1_nearestWillingPlank 8 = .ok (.iload_n 3, 1) := by decide +kernel
theorem dX1_nearestWillingPlank_9 : decode cX1_nearestWillingPlank 9 = .ok (.aload_n 0, 1) := by decide +kernel
theorem dX1_nearestWillingPlank_10 : decode cX1_nearestWillingPlank 10 = .ok (.getfield 26, 3) := by decide +kernel
theorem dX1_nearestWillingPlank_13 : decode cX1_nearestWillingPlank 13 = .ok (.iload_n 1, 1) := by decide +kernel
theorem dX1_nearestWillingPlank_14 : decode cX1_nearestWillingPlank 14 = .ok (.iaload, 1) := by decide +kernel
theorem dX1_nearestWillingPlank_15 : decode cX1_nearestWillingPlank 15 = .ok (.isub, 1) := by decide +kernel
theorem dX1_nearestWillingPlank_16 : decode cX1_nearestWillingPlank 16 = .ok (.iload_n 3, 1) := by decide +kernel
theorem dX1_nearestWillingPlank_17 : decode cX1_nearestWillingPlank 17 = .ok (.aload_n 0, 1) := by decide +kernel
theorem dX1_nearestWillingPlank_18 : decode cX1_nearestWillingPlank 18 = .ok (.getfield 26, 3) := by decide +kernel
theorem dX1_nearestWillingPlank_21 : decode cX1_nearestWillingPlank 21 = .ok (.iload_n 1, 1) := by decide +kernel
theorem dX1_nearestWillingPlank_22 : decode cX1_nearestWillingPlank 22 = .ok (.iaload, 1) := by decide +kernel
theorem dX1_nearestWillingPlank_23 : decode cX1_nearestWillingPlank 23 = .ok (.iadd, 1) := by decide +kernel
theorem dX1_nearestWillingPlank_24 : decode cX1_nearestWillingPlank 24 = .ok (.invokestatic 257, 3) := by decide +kernel
theorem dX1_nearestWillingPlank_27 : decode cX1_nearestWillingPlank 27 = .ok (.ireturn, 1) := by decide +kernel
theorem dX1_cutTo_0 : decode cX1_cutTo 0 = .ok (.iload_n 1, 1) := by decide +kernel
theorem dX1_cutTo_1 : decode cX1_cutTo 1 = .ok (.iload_n 0, 1) := by decide +kernel
theorem dX1_cutTo_2 : decode cX1_cutTo 2 = .ok (.iload_n 2, 1) := by decide +kernel
theorem dX1_cutTo_3 : decode cX1_cutTo 3 = .ok (.invokestatic 146, 3) := by decide +kernel
theorem dX1_cutTo_6 : decode cX1_cutTo 6 = .ok (.invokestatic 260, 3) := by decide +kernel
theorem dX1_cutTo_9 : decode cX1_cutTo 9 = .ok (.ireturn, 1) := by decide +kernel
theorem dX1_closeGap_0 : decode cX1_closeGap 0 = .ok (.iload_n 2, 1) := by decide +kernel
theorem dX1_closeGap_1 : decode cX1_closeGap 1 = .ok (.istore_n 3, 1) := by decide +kernel
theorem dX1_closeGap_2 : decode cX1_closeGap 2 = .ok (.iload_n 3, 1) := by decide +kernel
theorem dX1_closeGap_3 : decode cX1_closeGap 3 = .ok (.aload_n 0, 1) := by decide +kernel
theorem dX1_closeGap_4 : decode cX1_closeGap 4 = .ok (.getfield 7, 3) := by decide +kernel
theorem dX1_closeGap_7 : decode cX1_closeGap 7 = .ok (.iconst 1, 1) := by decide +kernel
theorem dX1_closeGap_8 : decode cX1_closeGap 8 = .ok (.isub, 1) := by decide +kernel
theorem dX1_closeGap_9 : decode cX1_closeGap 9 = .ok (.if_icmp .ge 17, 3) := by decide +kernel
theorem dX1_closeGap_12 : decode cX1_closeGap 12 = .ok (.aload_n 1, 1) := by decide +kernel
theorem dX1_closeGap_13 : decode cX1_closeGap 13 = .ok (.iload_n 3, 1) := by decide +kernel
theorem dX1_closeGap_14 : decode cX1_closeGap 14 = .ok (.aload_n 1, 1) := by decide +kernel
theorem dX1_closeGap_15 : decode cX1_closeGap 15 = .ok (.iload_n 3, 1) := by decide +kernel
theorem dX1_closeGap_16 : decode cX1_closeGap 16 = .ok (.iconst 1, 1) := by decide +kernel
theorem dX1_closeGap_17 : decode cX1_closeGap 17 = .ok (.iadd, 1) := by decide +kernel
theorem dX1_closeGap_18 : decode cX1_closeGap 18 = .ok (.iaload, 1) := by decide +kernel
theorem dX1_closeGap_19 : decode cX1_closeGap 19 = .ok (.iastore, 1) := by decide +kernel
theorem dX1_closeGap_20 : decode cX1_closeGap 20 = .ok (.iinc 3 1, 3) := by decide +kernel
theorem dX1_closeGap_23 : decode cX1_closeGap 23 = .ok (.goto (-21), 3) := by decide +kernel
theorem dX1_closeGap_26 : decode cX1_closeGap 26 = .ok (.return_, 1) := by decide +kernel
set_option maxRecDepth 20000 in
theorem ggX1_hasRoom_X1_crowdOn : GoodIn wsX1_hasRoom wsX1_crowdOn := goodIn_r _ [6, 7, 8, 9, 10, 11, 12, 13, 14, 15, 16, 17] (by decide +kernel) (by decide +kernel)
set_option maxRecDepth 20000 in
theorem gX1_hasRoom_X1_crowdOn : GoodIn wsX1_hasRoom (wsV RX1 97 RX1 yX1_crowdOn wsX1_crowdOn) := goodIn_app (goodIn_of _ (by decide +kernel)) ggX1_hasRoom_X1_crowdOn
theorem dX1_hasRoom_0 : decode cX1_hasRoom 0 = .ok (.aload_n 0, 1) := by decide +kernel
theorem dX1_hasRoom_1 : decode cX1_hasRoom 1 = .ok (.aload_n 1, 1) := by decide +kernel
theorem dX1_hasRoom_2 : decode cX1_hasRoom 2 = .ok (.iload_n 2, 1) := by decide +kernel
theorem dX1_hasRoom_3 : decode cX1_hasRoom 3 = .ok (.invokevirtual 97, 3) := by decide +kernel
theorem dX1_hasRoom_6 : decode cX1_hasRoom 6 = .ok (.aload_n 0, 1) := by decide +kernel
theorem dX1_hasRoom_7 : decode cX1_hasRoom 7 = .ok (.getfield 16, 3) := by decide +kernel
theorem dX1_hasRoom_10 : decode cX1_hasRoom 10 = .ok (.if_icmp .ge 7, 3) := by decide +kernel
theorem dX1_hasRoom_13 : decode cX1_hasRoom 13 = .ok (.iconst 1, 1) := by decide +kernel
theorem dX1_hasRoom_14 : decode cX1_hasRoom 14 = .ok (.goto 4, 3) := by decide +kernel
theorem dX1_hasRoom_17 : decode cX1_hasRoom 17 = .ok (.iconst 0, 1) := by decide +kernel
theorem dX1_hasRoom_18 : decode cX1_hasRoom 18 = .ok (.ireturn, 1) := by decide +kernel
theorem dX1_crowdOn_0 : decode cX1_crowdOn 0 = .ok (.iconst 0, 1) := by decide +kernel
theorem dX1_crowdOn_1 : decode cX1_crowdOn 1 = .ok (.istore_n 3, 1) := by decide +kernel
theorem dX1_crowdOn_2 : decode cX1_crowdOn 2 = .ok (.iconst 0, 1) := by decide +kernel
theorem dX1_crowdOn_3 : decode cX1_crowdOn 3 = .ok (.istore 4, 2) := by decide +kernel
theorem dX1_crowdOn_5 : decode cX1_crowdOn 5 = .ok (.iload 4, 2) := by decide +kernel
theorem dX1_crowdOn_7 : decode cX1_crowdOn 7 = .ok (.aload_n 0, 1) := by decide +kernel
theorem dX1_crowdOn_8 : decode cX1_crowdOn 8 = .ok (.getfield 7, 3) := by decide +kernel
theorem dX1_crowdOn_11 : decode cX1_crowdOn 11 = .ok (.if_icmp .ge 20, 3) := by decide +kernel
theorem dX1_crowdOn_14 : decode cX1_crowdOn 14 = .ok (.aload_n 1, 1) := by decide +kernel
theorem dX1_crowdOn_15 : decode cX1_crowdOn 15 = .ok (.iload 4, 2) := by decide +kernel
theorem dX1_crowdOn_17 : decode cX1_crowdOn 17 = .ok (.iaload, 1) := by decide +kernel
theorem dX1_crowdOn_18 : decode cX1_crowdOn 18 = .ok (.iload_n 2, 1) := by decide +kernel
theorem dX1_crowdOn_19 : decode cX1_crowdOn 19 = .ok (.if_icmp .ne 6, 3) := by decide +kernel
theorem dX1_crowdOn_22 : decode cX1_crowdOn 22 = .ok (.iinc 3 1, 3) := by decide +kernel
theorem dX1_crowdOn_25 : decode cX1_crowdOn 25 = .ok (.iinc 4 1, 3) := by decide +kernel
theorem dX1_crowdOn_28 : decode cX1_crowdOn 28 = .ok (.goto (-23), 3) := by decide +kernel
theorem dX1_crowdOn_31 : decode cX1_crowdOn 31 = .ok (.iload_n 3, 1) := by decide +kernel
theorem dX1_crowdOn_32 : decode cX1_crowdOn 32 = .ok (.ireturn, 1) := by decide +kernel
theorem dX1_distanceOfEnds_0 : decode cX1_distanceOfEnds 0 = .ok (.bipush 40, 2) := by decide +kernel
theorem dX1_distanceOfEnds_2 : decode cX1_distanceOfEnds 2 = .ok (.istore_n 2, 1) := by decide +kernel
theorem dX1_distanceOfEnds_3 : decode cX1_distanceOfEnds 3 = .ok (.iconst 0, 1) := by decide +kernel
theorem dX1_distanceOfEnds_4 : decode cX1_distanceOfEnds 4 = .ok (.istore_n 3, 1) := by decide +kernel
theorem dX1_distanceOfEnds_5 : decode cX1_distanceOfEnds 5 = .ok (.iconst 0, 1) := by decide +kernel
theorem dX1_distanceOfEnds_6 : decode cX1_distanceOfEnds 6 = .ok (.istore 4, 2) := by decide +kernel
theorem dX1_distanceOfEnds_8 : decode cX1_distanceOfEnds 8 = .ok (.iload 4, 2) := by decide +kernel
theorem dX1_distanceOfEnds_10 : decode cX1_distanceOfEnds 10 = .ok (.aload_n 0, 1) := by decide +kernel
theorem dX1_distanceOfEnds_11 : decode cX1_distanceOfEnds 11 = .ok (.getfield 7, 3) := by decide +kernel
theorem dX1_distanceOfEnds_14 : decode cX1_distanceOfEnds 14 = .ok (.if_icmp .ge 27, 3) := by decide +kernel
theorem dX1_distanceOfEnds_17 : decode cX1_distanceOfEnds 17 = .ok (.iload_n 2, 1) := by decide +kernel
theorem dX1_distanceOfEnds_18 : decode cX1_distanceOfEnds 18 = .ok (.aload_n 1, 1) := by decide +kernel
theorem dX1_distanceOfEnds_19 : decode cX1_distanceOfEnds 19 = .ok (.iload 4, 2) := by decide +kernel
theorem dX1_distanceOfEnds_21 : decode cX1_distanceOfEnds 21 = .ok (.iaload, 1) := by decide +kernel
theorem dX1_distanceOfEnds_22 : decode cX1_distanceOfEnds 22 = .ok (.invokestatic 146, 3) := by decide +kernel
theorem dX1_distanceOfEnds_25 : decode cX1_distanceOfEnds 25 = .ok (.istore_n 2, 1) := by decide +kernel
theorem dX1_distanceOfEnds_26 : decode cX1_distanceOfEnds 26 = .ok (.iload_n 3, 1) := by decide +kernel
theorem dX1_distanceOfEnds_27 : decode cX1_distanceOfEnds 27 = .ok (.aload_n 1, 1) := by decide +kernel
theorem dX1_distanceOfEnds_28 : decode cX1_distanceOfEnds 28 = .ok (.iload 4, 2) := by decide +kernel
theorem dX1_distanceOfEnds_30 : decode cX1_distanceOfEnds 30 = .ok (.iaload, 1) := by decide +kernel
theorem dX1_distanceOfEnds_31 : decode cX1_distanceOfEnds 31 = .ok (.invokestatic 260, 3) := by decide +kernel
theorem dX1_distanceOfEnds_34 : decode cX1_distanceOfEnds 34 = .ok (.istore_n 3, 1) := by decide +kernel
theorem dX1_distanceOfEnds_35 : decode cX1_distanceOfEnds 35 = .ok (.iinc 4 1, 3) := by decide +kernel
theorem dX1_distanceOfEnds_38 : decode cX1_distanceOfEnds 38 = .ok (.goto (-30), 3) := by decide +kernel
theorem dX1_distanceOfEnds_41 : decode cX1_distanceOfEnds 41 = .ok (.iconst 0, 1) := by decide +kernel
theorem dX1_distanceOfEnds_42 : decode cX1_distanceOfEnds 42 = .ok (.iload_n 3, 1) := by decide +kernel
theorem dX1_distanceOfEnds_43 : decode cX1_distanceOfEnds 43 = .ok (.iload_n 2, 1) := by decide +kernel
theorem dX1_distanceOfEnds_44 : decode cX1_distanceOfEnds 44 = .ok (.isub, 1) := by decide +kernel
theorem dX1_distanceOfEnds_45 : decode cX1_distanceOfEnds 45 = .ok (.invokestatic 260, 3) := by decide +kernel
theorem dX1_distanceOfEnds_48 : decode cX1_distanceOfEnds 48 = .ok (.ireturn, 1) := by decide +kernel
set_option maxRecDepth 20000 in
theorem ggX1_agreesAt_X1_hasTwoVillages : GoodIn wsX1_agreesAt wsX1_hasTwoVillages := goodIn_r _ [5, 6, 7, 19, 20, 21, 22, 23, 24, 25, 26, 27, 28] (by decide +kernel) (by decide +kernel)
set_option maxRecDepth 20000 in
theorem gX1_agreesAt_X1_hasTwoVillages : GoodIn wsX1_agreesAt (wsV RX1 263 RX1 yX1_hasTwoVillages wsX1_hasTwoVillages) := goodIn_app (goodIn_of _ (by decide +kernel)) ggX1_agreesAt_X1_hasTwoVillages
set_option maxRecDepth 20000 in
theorem ggX1_agreesAt_X1_distanceOfEnds : GoodIn wsX1_agreesAt wsX1_distanceOfEnds := goodIn_r _ [11, 6, 12, 13, 14, 15, 16, 17, 18, 19, 20, 21, 22, 23, 24, 25, 26, 27, 28] (by decide +kernel) (by decide +kernel)
set_option maxRecDepth 20000 in
theorem gX1_agreesAt_X1_distanceOfEnds : GoodIn wsX1_agreesAt (wsV RX1 100 RX1 yX1_distanceOfEnds wsX1_distanceOfEnds) := goodIn_app (goodIn_of _ (by decide +kernel)) ggX1_agreesAt_X1_distanceOfEnds
theorem dX1_agreesAt_0 : decode cX1_agreesAt 0 = .ok (.aload_n 0, 1) := by decide +kernel
theorem dX1_agreesAt_1 : decode cX1_agreesAt 1 = .ok (.invokevirtual 263, 3) := by decide +kernel
theorem dX1_agreesAt_4 : decode cX1_agreesAt 4 = .ok (.ifCond .eq 16, 3) := by decide +kernel
theorem dX1_agreesAt_7 : decode cX1_agreesAt 7 = .ok (.aload_n 0, 1) := by decide +kernel
theorem dX1_agreesAt_8 : decode cX1_agreesAt 8 = .ok (.aload_n 1, 1) := by decide +kernel
theorem dX1_agreesAt_9 : decode cX1_agreesAt 9 = .ok (.invokevirtual 100, 3) := by decide +kernel
theorem dX1_agreesAt_12 : decode cX1_agreesAt 12 = .ok (.iconst 2, 1) := by decide +kernel
theorem dX1_agreesAt_13 : decode cX1_agreesAt 13 = .ok (.if_icmp .gt 7, 3) := by decide +kernel
theorem dX1_agreesAt_16 : decode cX1_agreesAt 16 = .ok (.iconst 1, 1) := by decide +kernel
theorem dX1_agreesAt_17 : decode cX1_agreesAt 17 = .ok (.goto 4, 3) := by decide +kernel
theorem dX1_agreesAt_20 : decode cX1_agreesAt 20 = .ok (.iconst 0, 1) := by decide +kernel
theorem dX1_agreesAt_21 : decode cX1_agreesAt 21 = .ok (.ireturn, 1) := by decide +kernel
theorem dX1_hasTwoVillages_0 : decode cX1_hasTwoVillages 0 = .ok (.iconst 1, 1) := by decide +kernel
theorem dX1_hasTwoVillages_1 : decode cX1_hasTwoVillages 1 = .ok (.istore_n 1, 1) := by decide +kernel
theorem dX1_hasTwoVillages_2 : decode cX1_hasTwoVillages 2 = .ok (.iload_n 1, 1) := by decide +kernel
theorem dX1_hasTwoVillages_3 : decode cX1_hasTwoVillages 3 = .ok (.aload_n 0, 1) := by decide +kernel
theorem dX1_hasTwoVillages_4 : decode cX1_hasTwoVillages 4 = .ok (.getfield 7, 3) := by decide +kernel
theorem dX1_hasTwoVillages_7 : decode cX1_hasTwoVillages 7 = .ok (.if_icmp .ge 28, 3) := by decide +kernel
theorem dX1_hasTwoVillages_10 : decode cX1_hasTwoVillages 10 = .ok (.aload_n 0, 1) := by decide +kernel
theorem dX1_hasTwoVillages_11 : decode cX1_hasTwoVillages 11 = .ok (.getfield 19, 3) := by decide +kernel
theorem dX1_hasTwoVillages_14 : decode cX1_hasTwoVillages 14 = .ok (.iload_n 1, 1) := by decide +kernel
theorem dX1_hasTwoVillages_15 : decode cX1_hasTwoVillages 15 = .ok (.iaload, 1) := by decide +kernel
theorem dX1_hasTwoVillages_16 : decode cX1_hasTwoVillages 16 = .ok (.aload_n 0, 1) := by decide +kernel
theorem dX1_hasTwoVillages_17 : decode cX1_hasTwoVillages 17 = .ok (.getfield 19, 3) := by decide +kernel
theorem dX1_hasTwoVillages_20 : decode cX1_hasTwoVillages 20 = .ok (.iload_n 1, 1) := by decide +kernel
theorem dX1_hasTwoVillages_21 : decode cX1_hasTwoVillages 21 = .ok (.iconst 1, 1) := by decide +kernel
theorem dX1_hasTwoVillages_22 : decode cX1_hasTwoVillages 22 = .ok (.isub, 1) := by decide +kernel
theorem dX1_hasTwoVillages_23 : decode cX1_hasTwoVillages 23 = .ok (.iaload, 1) := by decide +kernel
theorem dX1_hasTwoVillages_24 : decode cX1_hasTwoVillages 24 = .ok (.if_icmp .eq 5, 3) := by decide +kernel
theorem dX1_hasTwoVillages_27 : decode cX1_hasTwoVillages 27 = .ok (.iconst 1, 1) := by decide +kernel
theorem dX1_hasTwoVillages_28 : decode cX1_hasTwoVillages 28 = .ok (.ireturn, 1) := by decide +kernel
theorem dX1_hasTwoVillages_29 : decode cX1_hasTwoVillages 29 = .ok (.iinc 1 1, 3) := by decide +kernel
theorem dX1_hasTwoVillages_32 : decode cX1_hasTwoVillages 32 = .ok (.goto (-30), 3) := by decide +kernel
theorem dX1_hasTwoVillages_35 : decode cX1_hasTwoVillages 35 = .ok (.iconst 0, 1) := by decide +kernel
theorem dX1_hasTwoVillages_36 : decode cX1_hasTwoVillages 36 = .ok (.ireturn, 1) := by decide +kernel
set_option maxRecDepth 20000 in
theorem ggX1_discontentOfAll_X1_discontent : GoodIn wsX1_discontentOfAll wsX1_discontent := goodIn_r _ [6, 7, 8, 9, 10, 11, 12, 13, 14, 15, 16, 17, 18, 19, 20, 21] (by decide +kernel) (by decide +kernel)
set_option maxRecDepth 20000 in
theorem gX1_discontentOfAll_X1_discontent : GoodIn wsX1_discontentOfAll (wsV RX1 132 RX1 yX1_discontent wsX1_discontent) := goodIn_app (goodIn_of _ (by decide +kernel)) ggX1_discontentOfAll_X1_discontent
theorem dX1_discontentOfAll_0 : decode cX1_discontentOfAll 0 = .ok (.iconst 0, 1) := by decide +kernel
theorem dX1_discontentOfAll_1 : decode cX1_discontentOfAll 1 = .ok (.istore_n 2, 1) := by decide +kernel
theorem dX1_discontentOfAll_2 : decode cX1_discontentOfAll 2 = .ok (.iconst 0, 1) := by decide +kernel
theorem dX1_discontentOfAll_3 : decode cX1_discontentOfAll 3 = .ok (.istore_n 3, 1) := by decide +kernel
theorem dX1_discontentOfAll_4 : decode cX1_discontentOfAll 4 = .ok (.iload_n 3, 1) := by decide +kernel
theorem dX1_discontentOfAll_5 : decode cX1_discontentOfAll 5 = .ok (.aload_n 0, 1) := by decide +kernel
theorem dX1_discontentOfAll_6 : decode cX1_discontentOfAll 6 = .ok (.getfield 7, 3) := by decide +kernel
theorem dX1_discontentOfAll_9 : decode cX1_discontentOfAll 9 = .ok (.if_icmp .ge 18, 3) := by decide +kernel
theorem dX1_discontentOfAll_12 : decode cX1_discontentOfAll 12 = .ok (.iload_n 2, 1) := by decide +kernel
theorem dX1_discontentOfAll_13 : decode cX1_discontentOfAll 13 = .ok (.aload_n 0, 1) := by decide +kernel
theorem dX1_discontentOfAll_14 : decode cX1_discontentOfAll 14 = .ok (.iload_n 3, 1) := by decide +kernel
theorem dX1_discontentOfAll_15 : decode cX1_discontentOfAll 15 = .ok (.iload_n 1, 1) := by decide +kernel
theorem dX1_discontentOfAll_16 : decode cX1_discontentOfAll 16 = .ok (.invokevirtual 132, 3) := by decide +kernel
theorem dX1_discontentOfAll_19 : decode cX1_discontentOfAll 19 = .ok (.iadd, 1) := by decide +kernel
theorem dX1_discontentOfAll_20 : decode cX1_discontentOfAll 20 = .ok (.istore_n 2, 1) := by decide +kernel
theorem dX1_discontentOfAll_21 : decode cX1_discontentOfAll 21 = .ok (.iinc 3 1, 3) := by decide +kernel
theorem dX1_discontentOfAll_24 : decode cX1_discontentOfAll 24 = .ok (.goto (-20), 3) := by decide +kernel
theorem dX1_discontentOfAll_27 : decode cX1_discontentOfAll 27 = .ok (.iload_n 2, 1) := by decide +kernel
theorem dX1_discontentOfAll_28 : decode cX1_discontentOfAll 28 = .ok (.ireturn, 1) := by decide +kernel
set_option maxRecDepth 20000 in
theorem ggX1_countVotes_X1_discontent : GoodIn wsX1_countVotes wsX1_discontent := goodIn_r _ [6, 7, 8, 9, 10, 11, 12, 13, 14, 15, 16, 17, 18, 19, 20, 21] (by decide +kernel) (by decide +kernel)
set_option maxRecDepth 20000 in
theorem gX1_countVotes_X1_discontent : GoodIn wsX1_countVotes (wsV RX1 132 RX1 yX1_discontent wsX1_discontent) := goodIn_app (goodIn_of _ (by decide +kernel)) ggX1_countVotes_X1_discontent
theorem dX1_countVotes_0 : decode cX1_countVotes 0 = .ok (.iconst 0, 1) := by decide +kernel
theorem dX1_countVotes_1 : decode cX1_countVotes 1 = .ok (.istore_n 3, 1) := by decide +kernel
theorem dX1_countVotes_2 : decode cX1_countVotes 2 = .ok (.iconst 0, 1) := by decide +kernel
theorem dX1_countVotes_3 : decode cX1_countVotes 3 = .ok (.istore 4, 2) := by decide +kernel
theorem dX1_countVotes_5 : decode cX1_countVotes 5 = .ok (.iload 4, 2) := by decide +kernel
theorem dX1_countVotes_7 : decode cX1_countVotes 7 = .ok (.aload_n 0, 1) := by decide +kernel
theorem dX1_countVotes_8 : decode cX1_countVotes 8 = .ok (.getfield 7, 3) := by decide +kernel
theorem dX1_countVotes_11 : decode cX1_countVotes 11 = .ok (.if_icmp .ge 29, 3) := by decide +kernel
theorem dX1_countVotes_14 : decode cX1_countVotes 14 = .ok (.aload_n 0, 1) := by decide +kernel
theorem dX1_countVotes_15 : decode cX1_countVotes 15 = .ok (.iload 4, 2) := by decide +kernel
theorem dX1_countVotes_17 : decode cX1_countVotes 17 = .ok (.iload_n 1, 1) := by decide +kernel
theorem dX1_countVotes_18 : decode cX1_countVotes 18 = .ok (.invokevirtual 132, 3) := by decide +kernel
theorem dX1_countVotes_21 : decode cX1_countVotes 21 = .ok (.aload_n 0, 1) := by decide +kernel
theorem dX1_countVotes_22 : decode cX1_countVotes 22 = .ok (.iload 4, 2) := by decide +kernel
theorem dX1_countVotes_24 : decode cX1_countVotes 24 = .ok (.iload_n 2, 1) := by decide +kernel
theorem dX1_countVotes_25 : decode cX1_countVotes 25 = .ok (.invokevirtual 132, 3) := by decide +kernel
theorem dX1_countVotes_28 : decode cX1_countVotes 28 = .ok (.if_icmp .ge 6, 3) := by decide +kernel
theorem dX1_countVotes_31 : decode cX1_countVotes 31 = .ok (.iinc 3 1, 3) := by decide +kernel
theorem dX1_countVotes_34 : decode cX1_countVotes 34 = .ok (.iinc 4 1, 3) := by decide +kernel
theorem dX1_countVotes_37 : decode cX1_countVotes 37 = .ok (.goto (-32), 3) := by decide +kernel
theorem dX1_countVotes_40 : decode cX1_countVotes 40 = .ok (.iload_n 3, 1) := by decide +kernel
theorem dX1_countVotes_41 : decode cX1_countVotes 41 = .ok (.ireturn, 1) := by decide +kernel
set_option maxRecDepth 20000 in
theorem ggX1_middleOfAll_X0_empty : GoodIn wsX1_middleOfAll wsX0_empty := goodIn_r _ [7, 8, 28, 29] (by decide +kernel) (by decide +kernel)
set_option maxRecDepth 20000 in
theorem gX1_middleOfAll_X0_empty : GoodIn wsX1_middleOfAll (wsV RX1 266 RX0 yX0_empty wsX0_empty) := goodIn_app (goodIn_of _ (by decide +kernel)) ggX1_middleOfAll_X0_empty
set_option maxRecDepth 20000 in
theorem ggX1_middleOfAll_X0_put : GoodIn wsX1_middleOfAll wsX0_put := goodIn_r _ [12, 8, 13, 28, 29] (by decide +kernel) (by decide +kernel)
set_option maxRecDepth 20000 in
theorem gX1_middleOfAll_X0_put : GoodIn wsX1_middleOfAll (wsV RX1 269 RX0 yX0_put wsX0_put) := goodIn_app (goodIn_of _ (by decide +kernel)) ggX1_middleOfAll_X0_put
set_option maxRecDepth 20000 in
theorem ggX1_middleOfAll_X0_middle : GoodIn wsX1_middleOfAll wsX0_middle := goodIn_r _ [17, 8, 13, 28, 29] (by decide +kernel) (by decide +kernel)
set_option maxRecDepth 20000 in
theorem gX1_middleOfAll_X0_middle : GoodIn wsX1_middleOfAll (wsV RX1 123 RX0 yX0_middle wsX0_middle) := goodIn_app (goodIn_of _ (by decide +kernel)) ggX1_middleOfAll_X0_middle
theorem dX1_middleOfAll_0 : decode cX1_middleOfAll 0 = .ok (.aload_n 0, 1) := by decide +kernel
theorem dX1_middleOfAll_1 : decode cX1_middleOfAll 1 = .ok (.getfield 41, 3) := by decide +kernel
theorem dX1_middleOfAll_4 : decode cX1_middleOfAll 4 = .ok (.invokevirtual 266, 3) := by decide +kernel
theorem dX1_middleOfAll_7 : decode cX1_middleOfAll 7 = .ok (.iconst 0, 1) := by decide +kernel
theorem dX1_middleOfAll_8 : decode cX1_middleOfAll 8 = .ok (.istore_n 2, 1) := by decide +kernel
theorem dX1_middleOfAll_9 : decode cX1_middleOfAll 9 = .ok (.iload_n 2, 1) := by decide +kernel
theorem dX1_middleOfAll_10 : decode cX1_middleOfAll 10 = .ok (.aload_n 0, 1) := by decide +kernel
theorem dX1_middleOfAll_11 : decode cX1_middleOfAll 11 = .ok (.getfield 7, 3) := by decide +kernel
theorem dX1_middleOfAll_14 : decode cX1_middleOfAll 14 = .ok (.if_icmp .ge 19, 3) := by decide +kernel
theorem dX1_middleOfAll_17 : decode cX1_middleOfAll 17 = .ok (.aload_n 0, 1) := by decide +kernel
theorem dX1_middleOfAll_18 : decode cX1_middleOfAll 18 = .ok (.getfield 41, 3) := by decide +kernel
theorem dX1_middleOfAll_21 : decode cX1_middleOfAll 21 = .ok (.aload_n 1, 1) := by decide +kernel
theorem dX1_middleOfAll_22 : decode cX1_middleOfAll 22 = .ok (.iload_n 2, 1) := by decide +kernel
theorem dX1_middleOfAll_23 : decode cX1_middleOfAll 23 = .ok (.iaload, 1) := by decide +kernel
theorem dX1_middleOfAll_24 : decode cX1_middleOfAll 24 = .ok (.invokevirtual 269, 3) := by decide +kernel
theorem dX1_middleOfAll_27 : decode cX1_middleOfAll 27 = .ok (.iinc 2 1, 3) := by decide +kernel
theorem dX1_middleOfAll_30 : decode cX1_middleOfAll 30 = .ok (.goto (-21), 3) := by decide +kernel
theorem dX1_middleOfAll_33 : decode cX1_middleOfAll 33 = .ok (.aload_n 0, 1) := by decide +kernel
theorem dX1_middleOfAll_34 : decode cX1_middleOfAll 34 = .ok (.getfield 41, 3) := by decide +kernel
theorem dX1_middleOfAll_37 : decode cX1_middleOfAll 37 = .ok (.invokevirtual 123, 3) := by decide +kernel
theorem dX1_middleOfAll_40 : decode cX1_middleOfAll 40 = .ok (.ireturn, 1) := by decide +kernel
set_option maxRecDepth 20000 in
theorem ggX1_gatherVillage_X0_empty : GoodIn wsX1_gatherVillage wsX0_empty := goodIn_r _ [9, 10, 26, 27] (by decide +kernel) (by decide +kernel)
set_option maxRecDepth 20000 in
theorem gX1_gatherVillage_X0_empty : GoodIn wsX1_gatherVillage (wsV RX1 266 RX0 yX0_empty wsX0_empty) := goodIn_app (goodIn_of _ (by decide +kernel)) ggX1_gatherVillage_X0_empty
set_option maxRecDepth 20000 in
theorem ggX1_gatherVillage_X0_put : GoodIn wsX1_gatherVillage wsX0_put := goodIn_r _ [14, 10, 15, 26, 27] (by decide +kernel) (by decide +kernel)
set_option maxRecDepth 20000 in
theorem gX1_gatherVillage_X0_put : GoodIn wsX1_gatherVillage (wsV RX1 269 RX0 yX0_put wsX0_put) := goodIn_app (goodIn_of _ (by decide +kernel)) ggX1_gatherVillage_X0_put
theorem dX1_gatherVillage_0 : decode cX1_gatherVillage 0 = .ok (.aload_n 0, 1) := by decide +kernel
theorem dX1_gatherVillage_1 : decode cX1_gatherVillage 1 = .ok (.getfield 41, 3) := by decide +kernel
theorem dX1_gatherVillage_4 : decode cX1_gatherVillage 4 = .ok (.invokevirtual 266, 3) := by decide +kernel
theorem dX1_gatherVillage_7 : decode cX1_gatherVillage 7 = .ok (.iconst 0, 1) := by decide +kernel
theorem dX1_gatherVillage_8 : decode cX1_gatherVillage 8 = .ok (.istore_n 2, 1) := by decide +kernel
theorem dX1_gatherVillage_9 : decode cX1_gatherVillage 9 = .ok (.iload_n 2, 1) := by decide +kernel
theorem dX1_gatherVillage_10 : decode cX1_gatherVillage 10 = .ok (.aload_n 0, 1) := by decide +kernel
theorem dX1_gatherVillage_11 : decode cX1_gatherVillage 11 = .ok (.getfield 7, 3) := by decide +kernel
theorem dX1_gatherVillage_14 : decode cX1_gatherVillage 14 = .ok (.if_icmp .ge 32, 3) := by decide +kernel
theorem dX1_gatherVillage_17 : decode cX1_gatherVillage 17 = .ok (.aload_n 0, 1) := by decide +kernel
theorem dX1_gatherVillage_18 : decode cX1_gatherVillage 18 = .ok (.getfield 19, 3) := by decide +kernel
theorem dX1_gatherVillage_21 : decode cX1_gatherVillage 21 = .ok (.iload_n 2, 1) := by decide +kernel
theorem dX1_gatherVillage_22 : decode cX1_gatherVillage 22 = .ok (.iaload, 1) := by decide +kernel
theorem dX1_gatherVillage_23 : decode cX1_gatherVillage 23 = .ok (.iload_n 1, 1) := by decide +kernel
theorem dX1_gatherVillage_24 : decode cX1_gatherVillage 24 = .ok (.if_icmp .ne 16, 3) := by decide +kernel
theorem dX1_gatherVillage_27 : decode cX1_gatherVillage 27 = .ok (.aload_n 0, 1) := by decide +kernel
theorem dX1_gatherVillage_28 : decode cX1_gatherVillage 28 = .ok (.getfield 41, 3) := by decide +kernel
theorem dX1_gatherVillage_31 : decode cX1_gatherVillage 31 = .ok (.aload_n 0, 1) := by decide +kernel
theorem dX1_gatherVillage_32 : decode cX1_gatherVillage 32 = .ok (.getfield 32, 3) := by decide +kernel
theorem dX1_gatherVillage_35 : decode cX1_gatherVillage 35 = .ok (.iload_n 2, 1) := by decide +kernel
theorem dX1_gatherVillage_36 : decode cX1_gatherVillage 36 = .ok (.iaload, 1) := by decide +kernel
theorem dX1_gatherVillage_37 : decode cX1_gatherVillage 37 = .ok (.invokevirtual 269, 3) := by decide +kernel
theorem dX1_gatherVillage_40 : decode cX1_gatherVillage 40 = .ok (.iinc 2 1, 3) := by decide +kernel
theorem dX1_gatherVillage_43 : decode cX1_gatherVillage 43 = .ok (.goto (-34), 3) := by decide +kernel
theorem dX1_gatherVillage_46 : decode cX1_gatherVillage 46 = .ok (.return_, 1) := by decide +kernel
set_option maxRecDepth 20000 in
theorem ggX1_gatherOthers_X0_empty : GoodIn wsX1_gatherOthers wsX0_empty := goodIn_r _ [8, 9, 25, 26] (by decide +kernel) (by decide +kernel)
set_option maxRecDepth 20000 in
theorem gX1_gatherOthers_X0_empty : GoodIn wsX1_gatherOthers (wsV RX1 266 RX0 yX0_empty wsX0_empty) := goodIn_app (goodIn_of _ (by decide +kernel)) ggX1_gatherOthers_X0_empty
set_option maxRecDepth 20000 in
theorem ggX1_gatherOthers_X0_put : GoodIn wsX1_gatherOthers wsX0_put := goodIn_r _ [13, 9, 14, 25, 26] (by decide +kernel) (by decide +kernel)
set_option maxRecDepth 20000 in
theorem gX1_gatherOthers_X0_put : GoodIn wsX1_gatherOthers (wsV RX1 269 RX0 yX0_put wsX0_put) := goodIn_app (goodIn_of _ (by decide +kernel)) ggX1_gatherOthers_X0_put
theorem dX1_gatherOthers_0 : decode cX1_gatherOthers 0 = .ok (.aload_n 0, 1) := by decide +kernel
theorem dX1_gatherOthers_1 : decode cX1_gatherOthers 1 = .ok (.getfield 41, 3) := by decide +kernel
theorem dX1_gatherOthers_4 : decode cX1_gatherOthers 4 = .ok (.invokevirtual 266, 3) := by decide +kernel
theorem dX1_gatherOthers_7 : decode cX1_gatherOthers 7 = .ok (.iconst 0, 1) := by decide +kernel
theorem dX1_gatherOthers_8 : decode cX1_gatherOthers 8 = .ok (.istore_n 2, 1) := by decide +kernel
theorem dX1_gatherOthers_9 : decode cX1_gatherOthers 9 = .ok (.iload_n 2, 1) := by decide +kernel
theorem dX1_gatherOthers_10 : decode cX1_gatherOthers 10 = .ok (.aload_n 0, 1) := by decide +kernel
theorem dX1_gatherOthers_11 : decode cX1_gatherOthers 11 = .ok (.getfield 7, 3) := by decide +kernel
theorem dX1_gatherOthers_14 : decode cX1_gatherOthers 14 = .ok (.if_icmp .ge 27, 3) := by decide +kernel
theorem dX1_gatherOthers_17 : decode cX1_gatherOthers 17 = .ok (.iload_n 2, 1) := by decide +kernel
theorem dX1_gatherOthers_18 : decode cX1_gatherOthers 18 = .ok (.iload_n 1, 1) := by decide +kernel
theorem dX1_gatherOthers_19 : decode cX1_gatherOthers 19 = .ok (.if_icmp .eq 16, 3) := by decide +kernel
theorem dX1_gatherOthers_22 : decode cX1_gatherOthers 22 = .ok (.aload_n 0, 1) := by decide +kernel
theorem dX1_gatherOthers_23 : decode cX1_gatherOthers 23 = .ok (.getfield 41, 3) := by decide +kernel
theorem dX1_gatherOthers_26 : decode cX1_gatherOthers 26 = .ok (.aload_n 0, 1) := by decide +kernel
theorem dX1_gatherOthers_27 : decode cX1_gatherOthers 27 = .ok (.getfield 32, 3) := by decide +kernel
theorem dX1_gatherOthers_30 : decode cX1_gatherOthers 30 = .ok (.iload_n 2, 1) := by decide +kernel
theorem dX1_gatherOthers_31 : decode cX1_gatherOthers 31 = .ok (.iaload, 1) := by decide +kernel
theorem dX1_gatherOthers_32 : decode cX1_gatherOthers 32 = .ok (.invokevirtual 269, 3) := by decide +kernel
theorem dX1_gatherOthers_35 : decode cX1_gatherOthers 35 = .ok (.iinc 2 1, 3) := by decide +kernel
theorem dX1_gatherOthers_38 : decode cX1_gatherOthers 38 = .ok (.goto (-29), 3) := by decide +kernel
theorem dX1_gatherOthers_41 : decode cX1_gatherOthers 41 = .ok (.return_, 1) := by decide +kernel
theorem dX1_copyPlanksToLater_0 : decode cX1_copyPlanksToLater 0 = .ok (.iconst 0, 1) := by decide +kernel
theorem dX1_copyPlanksToLater_1 : decode cX1_copyPlanksToLater 1 = .ok (.istore_n 1, 1) := by decide +kernel
theorem dX1_copyPlanksToLater_2 : decode cX1_copyPlanksToLater 2 = .ok (.iload_n 1, 1) := by decide +kernel
theorem dX1_copyPlanksToLater_3 : decode cX1_copyPlanksToLater 3 = .ok (.aload_n 0, 1) := by decide +kernel
theorem dX1_copyPlanksToLater_4 : decode cX1_copyPlanksToLater 4 = .ok (.getfield 7, 3) := by decide +kernel
theorem dX1_copyPlanksToLater_7 : decode cX1_copyPlanksToLater 7 = .ok (.if_icmp .ge 21, 3) := by decide +kernel
theorem dX1_copyPlanksToLater_10 : decode cX1_copyPlanksToLater 10 = .ok (.aload_n 0, 1) := by decide +kernel
theorem dX1_copyPlanksToLater_11 : decode cX1_copyPlanksToLater 11 = .ok (.getfield 35, 3) := by decide +kernel
theorem dX1_copyPlanksToLater_14 : decode cX1_copyPlanksToLater 14 = .ok (.iload_n 1, 1) := by decide +kernel
theorem dX1_copyPlanksToLater_15 : decode cX1_copyPlanksToLater 15 = .ok (.aload_n 0, 1) := by decide +kernel
theorem dX1_copyPlanksToLater_16 : decode cX1_copyPlanksToLater 16 = .ok (.getfield 32, 3) := by decide +kernel
theorem dX1_copyPlanksToLater_19 : decode cX1_copyPlanksToLater 19 = .ok (.iload_n 1, 1) := by decide +kernel
theorem dX1_copyPlanksToLater_20 : decode cX1_copyPlanksToLater 20 = .ok (.iaload, 1) := by decide +kernel
theorem dX1_copyPlanksToLater_21 : decode cX1_copyPlanksToLater 21 = .ok (.iastore, 1) := by decide +kernel
theorem dX1_copyPlanksToLater_22 : decode cX1_copyPlanksToLater 22 = .ok (.iinc 1 1, 3) := by decide +kernel
theorem dX1_copyPlanksToLater_25 : decode cX1_copyPlanksToLater 25 = .ok (.goto (-23), 3) := by decide +kernel
theorem dX1_copyPlanksToLater_28 : decode cX1_copyPlanksToLater 28 = .ok (.return_, 1) := by decide +kernel
set_option maxRecDepth 20000 in
theorem ggX1_goRounds_X1_goRound : GoodIn wsX1_goRounds wsX1_goRound := goodIn_r _ [5, 6, 7, 8, 9, 4, 10, 11, 12, 13, 14, 15, 16, 17, 18, 19, 20, 21, 22, 23, 24, 25, 26, 27, 28, 29, 30, 31, 32, 33, 34, 35, 36, 37, 38, 39, 40, 41, 42, 43, 44, 45, 46, 47, 48, 49, 50, 51, 52, 53, 54, 55, 56, 57, 58, 59, 60, 61, 62, 63, 64, 65, 66, 67, 68] (by decide +kernel) (by decide +kernel)
set_option maxRecDepth 20000 in
theorem gX1_goRounds_X1_goRound : GoodIn wsX1_goRounds (wsV RX1 158 RX1 yX1_goRound wsX1_goRound) := goodIn_app (goodIn_of _ (by decide +kernel)) ggX1_goRounds_X1_goRound
theorem dX1_goRounds_0 : decode cX1_goRounds 0 = .ok (.iconst 0, 1) := by decide +kernel
theorem dX1_goRounds_1 : decode cX1_goRounds 1 = .ok (.istore_n 3, 1) := by decide +kernel
theorem dX1_goRounds_2 : decode cX1_goRounds 2 = .ok (.iconst 0, 1) := by decide +kernel
theorem dX1_goRounds_3 : decode cX1_goRounds 3 = .ok (.istore 4, 2) := by decide +kernel
theorem dX1_goRounds_5 : decode cX1_goRounds 5 = .ok (.iload 4, 2) := by decide +kernel
theorem dX1_goRounds_7 : decode cX1_goRounds 7 = .ok (.iload_n 2, 1) := by decide +kernel
theorem dX1_goRounds_8 : decode cX1_goRounds 8 = .ok (.if_icmp .ge 17, 3) := by decide +kernel
theorem dX1_goRounds_11 : decode cX1_goRounds 11 = .ok (.iload_n 3, 1) := by decide +kernel
theorem dX1_goRounds_12 : decode cX1_goRounds 12 = .ok (.aload_n 0, 1) := by decide +kernel
theorem dX1_goRounds_13 : decode cX1_goRounds 13 = .ok (.aload_n 1, 1) := by decide +kernel
theorem dX1_goRounds_14 : decode cX1_goRounds 14 = .ok (.invokevirtual 158, 3) := by decide +kernel
theorem dX1_goRounds_17 : decode cX1_goRounds 17 = .ok (.iadd, 1) := by decide +kernel
theorem dX1_goRounds_18 : decode cX1_goRounds 18 = .ok (.istore_n 3, 1) := by decide +kernel
theorem dX1_goRounds_19 : decode cX1_goRounds 19 = .ok (.iinc 4 1, 3) := by decide +kernel
theorem dX1_goRounds_22 : decode cX1_goRounds 22 = .ok (.goto (-17), 3) := by decide +kernel
theorem dX1_goRounds_25 : decode cX1_goRounds 25 = .ok (.iload_n 3, 1) := by decide +kernel
theorem dX1_goRounds_26 : decode cX1_goRounds 26 = .ok (.ireturn, 1) := by decide +kernel
set_option maxRecDepth 20000 in
theorem ggX1_goRound_X1_middleOfAll : GoodIn wsX1_goRound wsX1_middleOfAll := goodIn_r _ [6, 7, 1, 8, 9, 10, 11, 12, 13, 14, 15, 16, 17, 18, 19, 20, 21, 22, 53, 54, 55, 56, 57, 58, 59, 60, 61, 62, 63, 64] (by decide +kernel) (by decide +kernel)
set_option maxRecDepth 20000 in
theorem gX1_goRound_X1_middleOfAll : GoodIn wsX1_goRound (wsV RX1 111 RX1 yX1_middleOfAll wsX1_middleOfAll) := goodIn_app (goodIn_of _ (by decide +kernel)) ggX1_goRound_X1_middleOfAll
set_option maxRecDepth 20000 in
theorem ggX1_goRound_X1_stepFrom : GoodIn wsX1_goRound wsX1_stepFrom := goodIn_r _ [26, 27, 28, 29, 30, 5, 31, 32, 33, 34, 35, 36, 37, 38, 39, 40, 41, 42, 43, 53, 54, 55, 56, 57, 58, 59, 60, 61, 62] (by decide +kernel) (by decide +kernel)
set_option maxRecDepth 20000 in
theorem gX1_goRound_X1_stepFrom : GoodIn wsX1_goRound (wsV RX1 151 RX1 yX1_stepFrom wsX1_stepFrom) := goodIn_app (goodIn_of _ (by decide +kernel)) ggX1_goRound_X1_stepFrom
set_option maxRecDepth 20000 in
theorem ggX1_goRound_X1_hasRoom : GoodIn wsX1_goRound wsX1_hasRoom := goodIn_r _ [47, 48, 49, 50, 51, 5, 52, 1, 53, 54, 55, 56, 57, 58, 59, 60, 61, 62] (by decide +kernel) (by decide +kernel)
set_option maxRecDepth 20000 in
theorem gX1_goRound_X1_hasRoom : GoodIn wsX1_goRound (wsV RX1 63 RX1 yX1_hasRoom wsX1_hasRoom) := goodIn_app (goodIn_of _ (by decide +kernel)) ggX1_goRound_X1_hasRoom
theorem dX1_goRound_0 : decode cX1_goRound 0 = .ok (.aload_n 0, 1) := by decide +kernel
theorem dX1_goRound_1 : decode cX1_goRound 1 = .ok (.aload_n 1, 1) := by decide +kernel
theorem dX1_goRound_2 : decode cX1_goRound 2 = .ok (.invokevirtual 111, 3) := by decide +kernel
theorem dX1_goRound_5 : decode cX1_goRound 5 = .ok (.istore_n 2, 1) := by decide +kernel
theorem dX1_goRound_6 : decode cX1_goRound 6 = .ok (.iconst 0, 1) := by decide +kernel
theorem dX1_goRound_7 : decode cX1_goRound 7 = .ok (.istore_n 3, 1) := by decide +kernel
theorem dX1_goRound_8 : decode cX1_goRound 8 = .ok (.iconst 0, 1) := by decide +kernel
theorem dX1_goRound_9 : decode cX1_goRound 9 = .ok (.istore 4, 2) := by decide +kernel
theorem dX1_goRound_11 : decode cX1_goRound 11 = .ok (.iload 4, 2) := by decide +kernel
theorem dX1_goRound_13 : decode cX1_goRound 13 = .ok (.aload_n 0, 1) := by decide +kernel
theorem dX1_goRound_14 : decode cX1_goRound 14 = .ok (.getfield 7, 3) := by decide +kernel
theorem dX1_goRound_17 : decode cX1_goRound 17 = .ok (.if_icmp .ge 50, 3) := by decide +kernel
theorem dX1_goRound_20 : decode cX1_goRound 20 = .ok (.aload_n 0, 1) := by decide +kernel
theorem dX1_goRound_21 : decode cX1_goRound 21 = .ok (.iload 4, 2) := by decide +kernel
theorem dX1_goRound_23 : decode cX1_goRound 23 = .ok (.aload_n 1, 1) := by decide +kernel
theorem dX1_goRound_24 : decode cX1_goRound 24 = .ok (.iload 4, 2) := by decide +kernel
theorem dX1_goRound_26 : decode cX1_goRound 26 = .ok (.iaload, 1) := by decide +kernel
theorem dX1_goRound_27 : decode cX1_goRound 27 = .ok (.iload_n 2, 1) := by decide +kernel
theorem dX1_goRound_28 : decode cX1_goRound 28 = .ok (.invokevirtual 151, 3) := by decide +kernel
theorem dX1_goRound_31 : decode cX1_goRound 31 = .ok (.istore 5, 2) := by decide +kernel
theorem dX1_goRound_33 : decode cX1_goRound 33 = .ok (.iload 5, 2) := by decide +kernel
theorem dX1_goRound_35 : decode cX1_goRound 35 = .ok (.aload_n 1, 1) := by decide +kernel
theorem dX1_goRound_36 : decode cX1_goRound 36 = .ok (.iload 4, 2) := by decide +kernel
theorem dX1_goRound_38 : decode cX1_goRound 38 = .ok (.iaload, 1) := by decide +kernel
theorem dX1_goRound_39 : decode cX1_goRound 39 = .ok (.if_icmp .eq 22, 3) := by decide +kernel
theorem dX1_goRound_42 : decode cX1_goRound 42 = .ok (.aload_n 0, 1) := by decide +kernel
theorem dX1_goRound_43 : decode cX1_goRound 43 = .ok (.aload_n 1, 1) := by decide +kernel
theorem dX1_goRound_44 : decode cX1_goRound 44 = .ok (.iload 5, 2) := by decide +kernel
theorem dX1_goRound_46 : decode cX1_goRound 46 = .ok (.invokevirtual 63, 3) := by decide +kernel
theorem dX1_goRound_49 : decode cX1_goRound 49 = .ok (.ifCond .eq 12, 3) := by decide +kernel
theorem dX1_goRound_52 : decode cX1_goRound 52 = .ok (.aload_n 1, 1) := by decide +kernel
theorem dX1_goRound_53 : decode cX1_goRound 53 = .ok (.iload 4, 2) := by decide +kernel
theorem dX1_goRound_55 : decode cX1_goRound 55 = .ok (.iload 5, 2) := by decide +kernel
theorem dX1_goRound_57 : decode cX1_goRound 57 = .ok (.iastore, 1) := by decide +kernel
theorem dX1_goRound_58 : decode cX1_goRound 58 = .ok (.iinc 3 1, 3) := by decide +kernel
theorem dX1_goRound_61 : decode cX1_goRound 61 = .ok (.iinc 4 1, 3) := by decide +kernel
theorem dX1_goRound_64 : decode cX1_goRound 64 = .ok (.goto (-53), 3) := by decide +kernel
theorem dX1_goRound_67 : decode cX1_goRound 67 = .ok (.iload_n 3, 1) := by decide +kernel
theorem dX1_goRound_68 : decode cX1_goRound 68 = .ok (.ireturn, 1) := by decide +kernel
theorem dX2_init_0 : decode cX2_init 0 = .ok (.aload_n 0, 1) := by decide +kernel
theorem dX2_init_1 : decode cX2_init 1 = .ok (.invokespecial 1, 3) := by decide +kernel
theorem dX2_init_4 : decode cX2_init 4 = .ok (.aload_n 0, 1) := by decide +kernel
theorem dX2_init_5 : decode cX2_init 5 = .ok (.bipush 12, 2) := by decide +kernel
theorem dX2_init_7 : decode cX2_init 7 = .ok (.putfield 7, 3) := by decide +kernel
theorem dX2_init_10 : decode cX2_init 10 = .ok (.aload_n 0, 1) := by decide +kernel
theorem dX2_init_11 : decode cX2_init 11 = .ok (.bipush 12, 2) := by decide +kernel
theorem dX2_init_13 : decode cX2_init 13 = .ok (.newarray .int, 2) := by decide +kernel
theorem dX2_init_15 : decode cX2_init 15 = .ok (.putfield 13, 3) := by decide +kernel
theorem dX2_init_18 : decode cX2_init 18 = .ok (.aload_n 0, 1) := by decide +kernel
theorem dX2_init_19 : decode cX2_init 19 = .ok (.bipush 12, 2) := by decide +kernel
theorem dX2_init_21 : decode cX2_init 21 = .ok (.newarray .int, 2) := by decide +kernel
theorem dX2_init_23 : decode cX2_init 23 = .ok (.putfield 17, 3) := by decide +kernel
theorem dX2_init_26 : decode cX2_init 26 = .ok (.aload_n 0, 1) := by decide +kernel
theorem dX2_init_27 : decode cX2_init 27 = .ok (.bipush 12, 2) := by decide +kernel
theorem dX2_init_29 : decode cX2_init 29 = .ok (.newarray .int, 2) := by decide +kernel
theorem dX2_init_31 : decode cX2_init 31 = .ok (.putfield 20, 3) := by decide +kernel
theorem dX2_init_34 : decode cX2_init 34 = .ok (.aload_n 0, 1) := by decide +kernel
theorem dX2_init_35 : decode cX2_init 35 = .ok (.bipush 12, 2) := by decide +kernel
theorem dX2_init_37 : decode cX2_init 37 = .ok (.newarray .int, 2) := by decide +kernel
theorem dX2_init_39 : decode cX2_init 39 = .ok (.putfield 23, 3) := by decide +kernel
theorem dX2_init_42 : decode cX2_init 42 = .ok (.aload_n 0, 1) := by decide +kernel
theorem dX2_init_43 : decode cX2_init 43 = .ok (.bipush 12, 2) := by decide +kernel
theorem dX2_init_45 : decode cX2_init 45 = .ok (.newarray .int, 2) := by decide +kernel
theorem dX2_init_47 : decode cX2_init 47 = .ok (.putfield 26, 3) := by decide +kernel
theorem dX2_init_50 : decode cX2_init 50 = .ok (.aload_n 0, 1) := by decide +kernel
theorem dX2_init_51 : decode cX2_init 51 = .ok (.bipush 12, 2) := by decide +kernel
theorem dX2_init_53 : decode cX2_init 53 = .ok (.newarray .int, 2) := by decide +kernel
theorem dX2_init_55 : decode cX2_init 55 = .ok (.putfield 29, 3) := by decide +kernel
theorem dX2_init_58 : decode cX2_init 58 = .ok (.aload_n 0, 1) := by decide +kernel
theorem dX2_init_59 : decode cX2_init 59 = .ok (.bipush 41, 2) := by decide +kernel
theorem dX2_init_61 : decode cX2_init 61 = .ok (.newarray .int, 2) := by decide +kernel
theorem dX2_init_63 : decode cX2_init 63 = .ok (.putfield 32, 3) := by decide +kernel
theorem dX2_init_66 : decode cX2_init 66 = .ok (.return_, 1) := by decide +kernel
theorem dX2_thrown_0 : decode cX2_thrown 0 = .ok (.aload_n 0, 1) := by decide +kernel
theorem dX2_thrown_1 : decode cX2_thrown 1 = .ok (.getfield 35, 3) := by decide +kernel
theorem dX2_thrown_4 : decode cX2_thrown 4 = .ok (.ireturn, 1) := by decide +kernel
theorem dX2_fail_0 : decode cX2_fail 0 = .ok (.aload_n 0, 1) := by decide +kernel
theorem dX2_fail_1 : decode cX2_fail 1 = .ok (.iload_n 1, 1) := by decide +kernel
theorem dX2_fail_2 : decode cX2_fail 2 = .ok (.putfield 35, 3) := by decide +kernel
theorem dX2_fail_5 : decode cX2_fail 5 = .ok (.iconst 0, 1) := by decide +kernel
theorem dX2_fail_6 : decode cX2_fail 6 = .ok (.ireturn, 1) := by decide +kernel
theorem dX2_told_0 : decode cX2_told 0 = .ok (.aload_n 0, 1) := by decide +kernel
theorem dX2_told_1 : decode cX2_told 1 = .ok (.iconst 0, 1) := by decide +kernel
theorem dX2_told_2 : decode cX2_told 2 = .ok (.putfield 35, 3) := by decide +kernel
theorem dX2_told_5 : decode cX2_told 5 = .ok (.iload_n 1, 1) := by decide +kernel
theorem dX2_told_6 : decode cX2_told 6 = .ok (.ireturn, 1) := by decide +kernel
theorem dX2_isIn_0 : decode cX2_isIn 0 = .ok (.iload_n 0, 1) := by decide +kernel
theorem dX2_isIn_1 : decode cX2_isIn 1 = .ok (.iload_n 1, 1) := by decide +kernel
theorem dX2_isIn_2 : decode cX2_isIn 2 = .ok (.if_icmp .lt 12, 3) := by decide +kernel
theorem dX2_isIn_5 : decode cX2_isIn 5 = .ok (.iload_n 0, 1) := by decide +kernel
theorem dX2_isIn_6 : decode cX2_isIn 6 = .ok (.iload_n 2, 1) := by decide +kernel
theorem dX2_isIn_7 : decode cX2_isIn 7 = .ok (.if_icmp .gt 7, 3) := by decide +kernel
theorem dX2_isIn_10 : decode cX2_isIn 10 = .ok (.iconst 1, 1) := by decide +kernel
theorem dX2_isIn_11 : decode cX2_isIn 11 = .ok (.goto 4, 3) := by decide +kernel
theorem dX2_isIn_14 : decode cX2_isIn 14 = .ok (.iconst 0, 1) := by decide +kernel
theorem dX2_isIn_15 : decode cX2_isIn 15 = .ok (.ireturn, 1) := by decide +kernel
set_option maxRecDepth 20000 in
theorem ggX2_isDelegate_X2_isIn : GoodIn wsX2_isDelegate wsX2_isIn := goodIn_r _ [5] (by decide +kernel) (by decide +kernel)
set_option maxRecDepth 20000 in
theorem gX2_isDelegate_X2_isIn : GoodIn wsX2_isDelegate (va_wsS RX2 41 yX2_isIn wsX2_isIn) := goodIn_app (goodIn_of _ (by decide +kernel)) ggX2_isDelegate_X2_isIn
theorem dX2_isDelegate_0 : decode cX2_isDelegate 0 = .ok (.iload_n 1, 1) := by decide +kernel
theorem dX2_isDelegate_1 : decode cX2_isDelegate 1 = .ok (.iconst 0, 1) := by decide +kernel
theorem dX2_isDelegate_2 : decode cX2_isDelegate 2 = .ok (.aload_n 0, 1) := by decide +kernel
theorem dX2_isDelegate_3 : decode cX2_isDelegate 3 = .ok (.getfield 38, 3) := by decide +kernel
theorem dX2_isDelegate_6 : decode cX2_isDelegate 6 = .ok (.iconst 1, 1) := by decide +kernel
theorem dX2_isDelegate_7 : decode cX2_isDelegate 7 = .ok (.isub, 1) := by decide +kernel
theorem dX2_isDelegate_8 : decode cX2_isDelegate 8 = .ok (.invokestatic 41, 3) := by decide +kernel
theorem dX2_isDelegate_11 : decode cX2_isDelegate 11 = .ok (.ireturn, 1) := by decide +kernel
set_option maxRecDepth 20000 in
theorem ggX2_isPlank_X2_isIn : GoodIn wsX2_isPlank wsX2_isIn := goodIn_r _ [4] (by decide +kernel) (by decide +kernel)
set_option maxRecDepth 20000 in
theorem gX2_isPlank_X2_isIn : GoodIn wsX2_isPlank (va_wsS RX2 41 yX2_isIn wsX2_isIn) := goodIn_app (goodIn_of _ (by decide +kernel)) ggX2_isPlank_X2_isIn
theorem dX2_isPlank_0 : decode cX2_isPlank 0 = .ok (.iload_n 0, 1) := by decide +kernel
theorem dX2_isPlank_1 : decode cX2_isPlank 1 = .ok (.iconst 0, 1) := by decide +kernel
theorem dX2_isPlank_2 : decode cX2_isPlank 2 = .ok (.bipush 40, 2) := by decide +kernel
theorem dX2_isPlank_4 : decode cX2_isPlank 4 = .ok (.invokestatic 41, 3) := by decide +kernel
theorem dX2_isPlank_7 : decode cX2_isPlank 7 = .ok (.ireturn, 1) := by decide +kernel
set_option maxRecDepth 20000 in
theorem ggX2_isVillage_X2_isIn : GoodIn wsX2_isVillage wsX2_isIn := goodIn_r _ [4] (by decide +kernel) (by decide +kernel)
set_option maxRecDepth 20000 in
theorem gX2_isVillage_X2_isIn : GoodIn wsX2_isVillage (va_wsS RX2 41 yX2_isIn wsX2_isIn) := goodIn_app (goodIn_of _ (by decide +kernel)) ggX2_isVillage_X2_isIn
theorem dX2_isVillage_0 : decode cX2_isVillage 0 = .ok (.iload_n 0, 1) := by decide +kernel
theorem dX2_isVillage_1 : decode cX2_isVillage 1 = .ok (.iconst 0, 1) := by decide +kernel
theorem dX2_isVillage_2 : decode cX2_isVillage 2 = .ok (.iconst 4, 1) := by decide +kernel
theorem dX2_isVillage_3 : decode cX2_isVillage 3 = .ok (.invokestatic 41, 3) := by decide +kernel
theorem dX2_isVillage_6 : decode cX2_isVillage 6 = .ok (.ireturn, 1) := by decide +kernel
theorem dX2_keep_0 : decode cX2_keep 0 = .ok (.aload_n 0, 1) := by decide +kernel
theorem dX2_keep_1 : decode cX2_keep 1 = .ok (.getfield 26, 3) := by decide +kernel
theorem dX2_keep_4 : decode cX2_keep 4 = .ok (.iconst 0, 1) := by decide +kernel
theorem dX2_keep_5 : decode cX2_keep 5 = .ok (.aload_n 0, 1) := by decide +kernel
theorem dX2_keep_6 : decode cX2_keep 6 = .ok (.getfield 29, 3) := by decide +kernel
theorem dX2_keep_9 : decode cX2_keep 9 = .ok (.iconst 0, 1) := by decide +kernel
theorem dX2_keep_10 : decode cX2_keep 10 = .ok (.bipush 12, 2) := by decide +kernel
theorem dX2_keep_12 : decode cX2_keep 12 = .ok (.invokestatic 45, 3) := by decide +kernel
theorem dX2_keep_15 : decode cX2_keep 15 = .ok (.return_, 1) := by decide +kernel
theorem dX2_bringBack_0 : decode cX2_bringBack 0 = .ok (.aload_n 0, 1) := by decide +kernel
theorem dX2_bringBack_1 : decode cX2_bringBack 1 = .ok (.getfield 29, 3) := by decide +kernel
theorem dX2_bringBack_4 : decode cX2_bringBack 4 = .ok (.iconst 0, 1) := by decide +kernel
theorem dX2_bringBack_5 : decode cX2_bringBack 5 = .ok (.aload_n 0, 1) := by decide +kernel
theorem dX2_bringBack_6 : decode cX2_bringBack 6 = .ok (.getfield 26, 3) := by decide +kernel
theorem dX2_bringBack_9 : decode cX2_bringBack 9 = .ok (.iconst 0, 1) := by decide +kernel
theorem dX2_bringBack_10 : decode cX2_bringBack 10 = .ok (.bipush 12, 2) := by decide +kernel
theorem dX2_bringBack_12 : decode cX2_bringBack 12 = .ok (.invokestatic 45, 3) := by decide +kernel
theorem dX2_bringBack_15 : decode cX2_bringBack 15 = .ok (.return_, 1) := by decide +kernel
theorem dX2_standing_0 : decode cX2_standing 0 = .ok (.iconst 0, 1) := by decide +kernel
theorem dX2_standing_1 : decode cX2_standing 1 = .ok (.istore_n 2, 1) := by decide +kernel
theorem dX2_standing_2 : decode cX2_standing 2 = .ok (.iconst 0, 1) := by decide +kernel
theorem dX2_standing_3 : decode cX2_standing 3 = .ok (.istore_n 3, 1) := by decide +kernel
theorem dX2_standing_4 : decode cX2_standing 4 = .ok (.iload_n 3, 1) := by decide +kernel
theorem dX2_standing_5 : decode cX2_standing 5 = .ok (.aload_n 0, 1) := by decide +kernel
theorem dX2_standing_6 : decode cX2_standing 6 = .ok (.getfield 38, 3) := by decide +kernel
theorem dX2_standing_9 : decode cX2_standing 9 = .ok (.if_icmp .ge 27, 3) := by decide +kernel
theorem dX2_standing_12 : decode cX2_standing 12 = .ok (.iload_n 2, 1) := by decide +kernel
theorem dX2_standing_13 : decode cX2_standing 13 = .ok (.aload_n 0, 1) := by decide +kernel
theorem dX2_standing_14 : decode cX2_standing 14 = .ok (.getfield 26, 3) := by decide +kernel
theorem dX2_standing_17 : decode cX2_standing 17 = .ok (.iload_n 3, 1) := by decide +kernel
theorem dX2_standing_18 : decode cX2_standing 18 = .ok (.iaload, 1) := by decide +kernel
theorem dX2_standing_19 : decode cX2_standing 19 = .ok (.iload_n 1, 1) := by decide +kernel
theorem dX2_standing_20 : decode cX2_standing 20 = .ok (.if_icmp .ne 7, 3) := by decide +kernel
theorem dX2_standing_23 : decode cX2_standing 23 = .ok (.iconst 1, 1) := by decide +kernel
theorem dX2_standing_24 : decode cX2_standing 24 = .ok (.goto 4, 3) := by decide +kernel
theorem dX2_standing_27 : decode cX2_standing 27 = .ok (.iconst 0, 1) := by decide +kernel
theorem dX2_standing_28 : decode cX2_standing 28 = .ok (.iadd, 1) := by decide +kernel
theorem dX2_standing_29 : decode cX2_standing 29 = .ok (.istore_n 2, 1) := by decide +kernel
theorem dX2_standing_30 : decode cX2_standing 30 = .ok (.iinc 3 1, 3) := by decide +kernel
theorem dX2_standing_33 : decode cX2_standing 33 = .ok (.goto (-29), 3) := by decide +kernel
theorem dX2_standing_36 : decode cX2_standing 36 = .ok (.iload_n 2, 1) := by decide +kernel
theorem dX2_standing_37 : decode cX2_standing 37 = .ok (.ireturn, 1) := by decide +kernel
set_option maxRecDepth 20000 in
theorem ggX2_hasRoom_X2_standing : GoodIn wsX2_hasRoom wsX2_standing := goodIn_r _ [6, 7, 8, 9, 10, 11, 12, 13, 14, 15, 16, 17, 18, 19] (by decide +kernel) (by decide +kernel)
set_option maxRecDepth 20000 in
theorem gX2_hasRoom_X2_standing : GoodIn wsX2_hasRoom (wsV RX2 51 RX2 yX2_standing wsX2_standing) := goodIn_app (goodIn_of _ (by decide +kernel)) ggX2_hasRoom_X2_standing
theorem dX2_hasRoom_0 : decode cX2_hasRoom 0 = .ok (.aload_n 0, 1) := by decide +kernel
theorem dX2_hasRoom_1 : decode cX2_hasRoom 1 = .ok (.iload_n 1, 1) := by decide +kernel
theorem dX2_hasRoom_2 : decode cX2_hasRoom 2 = .ok (.invokevirtual 51, 3) := by decide +kernel
theorem dX2_hasRoom_5 : decode cX2_hasRoom 5 = .ok (.aload_n 0, 1) := by decide +kernel
theorem dX2_hasRoom_6 : decode cX2_hasRoom 6 = .ok (.getfield 7, 3) := by decide +kernel
theorem dX2_hasRoom_9 : decode cX2_hasRoom 9 = .ok (.if_icmp .ge 7, 3) := by decide +kernel
theorem dX2_hasRoom_12 : decode cX2_hasRoom 12 = .ok (.iconst 1, 1) := by decide +kernel
theorem dX2_hasRoom_13 : decode cX2_hasRoom 13 = .ok (.goto 4, 3) := by decide +kernel
theorem dX2_hasRoom_16 : decode cX2_hasRoom 16 = .ok (.iconst 0, 1) := by decide +kernel
theorem dX2_hasRoom_17 : decode cX2_hasRoom 17 = .ok (.ireturn, 1) := by decide +kernel
theorem dX2_isWilling_0 : decode cX2_isWilling 0 = .ok (.iload_n 2, 1) := by decide +kernel
theorem dX2_isWilling_1 : decode cX2_isWilling 1 = .ok (.aload_n 0, 1) := by decide +kernel
theorem dX2_isWilling_2 : decode cX2_isWilling 2 = .ok (.getfield 17, 3) := by decide +kernel
theorem dX2_isWilling_5 : decode cX2_isWilling 5 = .ok (.iload_n 1, 1) := by decide +kernel
theorem dX2_isWilling_6 : decode cX2_isWilling 6 = .ok (.iaload, 1) := by decide +kernel
theorem dX2_isWilling_7 : decode cX2_isWilling 7 = .ok (.isub, 1) := by decide +kernel
theorem dX2_isWilling_8 : decode cX2_isWilling 8 = .ok (.invokestatic 55, 3) := by decide +kernel
theorem dX2_isWilling_11 : decode cX2_isWilling 11 = .ok (.aload_n 0, 1) := by decide +kernel
theorem dX2_isWilling_12 : decode cX2_isWilling 12 = .ok (.getfield 20, 3) := by decide +kernel
theorem dX2_isWilling_15 : decode cX2_isWilling 15 = .ok (.iload_n 1, 1) := by decide +kernel
theorem dX2_isWilling_16 : decode cX2_isWilling 16 = .ok (.iaload, 1) := by decide +kernel
theorem dX2_isWilling_17 : decode cX2_isWilling 17 = .ok (.if_icmp .gt 7, 3) := by decide +kernel
theorem dX2_isWilling_20 : decode cX2_isWilling 20 = .ok (.iconst 1, 1) := by decide +kernel
theorem dX2_isWilling_21 : decode cX2_isWilling 21 = .ok (.goto 4, 3) := by decide +kernel
theorem dX2_isWilling_24 : decode cX2_isWilling 24 = .ok (.iconst 0, 1) := by decide +kernel
theorem dX2_isWilling_25 : decode cX2_isWilling 25 = .ok (.ireturn, 1) := by decide +kernel
theorem dX2_median_0 : decode cX2_median 0 = .ok (.iconst 0, 1) := by decide +kernel
theorem dX2_median_1 : decode cX2_median 1 = .ok (.istore_n 3, 1) := by decide +kernel
theorem dX2_median_2 : decode cX2_median 2 = .ok (.iload_n 3, 1) := by decide +kernel
theorem dX2_median_3 : decode cX2_median 3 = .ok (.bipush 41, 2) := by decide +kernel
theorem dX2_median_5 : decode cX2_median 5 = .ok (.if_icmp .ge 16, 3) := by decide +kernel
theorem dX2_median_8 : decode cX2_median 8 = .ok (.aload_n 0, 1) := by decide +kernel
theorem dX2_median_9 : decode cX2_median 9 = .ok (.getfield 32, 3) := by decide +kernel
theorem dX2_median_12 : decode cX2_median 12 = .ok (.iload_n 3, 1) := by decide +kernel
theorem dX2_median_13 : decode cX2_median 13 = .ok (.iconst 0, 1) := by decide +kernel
theorem dX2_median_14 : decode cX2_median 14 = .ok (.iastore, 1) := by decide +kernel
theorem dX2_median_15 : decode cX2_median 15 = .ok (.iinc 3 1, 3) := by decide +kernel
theorem dX2_median_18 : decode cX2_median 18 = .ok (.goto (-16), 3) := by decide +kernel
theorem dX2_median_21 : decode cX2_median 21 = .ok (.iconst 0, 1) := by decide +kernel
theorem dX2_median_22 : decode cX2_median 22 = .ok (.istore_n 3, 1) := by decide +kernel
theorem dX2_median_23 : decode cX2_median 23 = .ok (.iconst 0, 1) := by decide +kernel
theorem dX2_median_24 : decode cX2_median 24 = .ok (.istore 4, 2) := by decide +kernel
theorem dX2_median_26 : decode cX2_median 26 = .ok (.iload 4, 2) := by decide +kernel
theorem dX2_median_28 : decode cX2_median 28 = .ok (.aload_n 0, 1) := by decide +kernel
theorem dX2_median_29 : decode cX2_median 29 = .ok (.getfield 38, 3) := by decide +kernel
theorem dX2_median_32 : decode cX2_median 32 = .ok (.if_icmp .ge 53, 3) := by decide +kernel
theorem dX2_median_35 : decode cX2_median 35 = .ok (.iload 4, 2) := by decide +kernel
theorem dX2_median_37 : decode cX2_median 37 = .ok (.iload_n 2, 1) := by decide +kernel
theorem dX2_median_38 : decode cX2_median 38 = .ok (.if_icmp .eq 41, 3) := by decide +kernel
theorem dX2_median_41 : decode cX2_median 41 = .ok (.iload_n 1, 1) := by decide +kernel
theorem dX2_median_42 : decode cX2_median 42 = .ok (.iconst (-1), 1) := by decide +kernel
theorem dX2_median_43 : decode cX2_median 43 = .ok (.if_icmp .eq 17, 3) := by decide +kernel
theorem dX2_median_46 : decode cX2_median 46 = .ok (.aload_n 0, 1) := by decide +kernel
theorem dX2_median_47 : decode cX2_median 47 = .ok (.getfield 13, 3) := by decide +kernel
theorem dX2_median_50 : decode cX2_median 50 = .ok (.iload 4, 2) := by decide +kernel
theorem dX2_median_52 : decode cX2_median 52 = .ok (.iaload, 1) := by decide +kernel
theorem dX2_median_53 : decode cX2_median 53 = .ok (.iload_n 1, 1) := by decide +kernel
theorem dX2_median_54 : decode cX2_median 54 = .ok (.if_icmp .eq 6, 3) := by decide +kernel
theorem dX2_median_57 : decode cX2_median 57 = .ok (.goto 22, 3) := by decide +kernel
theorem dX2_median_60 : decode cX2_median 60 = .ok (.aload_n 0, 1) := by decide +kernel
theorem dX2_median_61 : decode cX2_median 61 = .ok (.getfield 32, 3) := by decide +kernel
theorem dX2_median_64 : decode cX2_median 64 = .ok (.aload_n 0, 1) := by decide +kernel
theorem dX2_median_65 : decode cX2_median 65 = .ok (.getfield 26, 3) := by decide +kernel
theorem dX2_median_68 : decode cX2_median 68 = .ok (.iload 4, 2) := by decide +kernel
theorem dX2_median_70 : decode cX2_median 70 = .ok (.iaload, 1) := by decide +kernel
theorem dX2_median_71 : decode cX2_median 71 = .ok (.dup2, 1) := by decide +kernel
theorem dX2_median_72 : decode cX2_median 72 = .ok (.iaload, 1) := by decide +kernel
theorem dX2_median_73 : decode cX2_median 73 = .ok (.iconst 1, 1) := by decide +kernel
theorem dX2_median_74 : decode cX2_median 74 = .ok (.iadd, 1) := by decide +kernel
theorem dX2_median_75 : decode cX2_median 75 = .ok (.iastore, 1) := by decide +kernel
theorem dX2_median_76 : decode cX2_median 76 = .ok (.iinc 3 1, 3) := by decide +kernel
theorem dX2_median_79 : decode cX2_median 79 = .ok (.iinc 4 1, 3) := by decide +kernel
theorem dX2_median_82 : decode cX2_median 82 = .ok (.goto (-56), 3) := by decide +kernel
theorem dX2_median_85 : decode cX2_median 85 = .ok (.iload_n 3, 1) := by decide +kernel
theorem dX2_median_86 : decode cX2_median 86 = .ok (.iconst 1, 1) := by decide +kernel
theorem dX2_median_87 : decode cX2_median 87 = .ok (.isub, 1) := by decide +kernel
theorem dX2_median_88 : decode cX2_median 88 = .ok (.iconst 2, 1) := by decide +kernel
theorem dX2_median_89 : decode cX2_median 89 = .ok (.idiv, 1) := by decide +kernel
theorem dX2_median_90 : decode cX2_median 90 = .ok (.istore 4, 2) := by decide +kernel
theorem dX2_median_92 : decode cX2_median 92 = .ok (.iconst 0, 1) := by decide +kernel
theorem dX2_median_93 : decode cX2_median 93 = .ok (.istore 5, 2) := by decide +kernel
theorem dX2_median_95 : decode cX2_median 95 = .ok (.iload 5, 2) := by decide +kernel
theorem dX2_median_97 : decode cX2_median 97 = .ok (.bipush 41, 2) := by decide +kernel
theorem dX2_median_99 : decode cX2_median 99 = .ok (.if_icmp .ge 33, 3) := by decide +kernel
theorem dX2_median_102 : decode cX2_median 102 = .ok (.iload_n 3, 1) := by decide +kernel
theorem dX2_median_103 : decode cX2_median 103 = .ok (.ifCond .le 29, 3) := by decide +kernel
theorem dX2_median_106 : decode cX2_median 106 = .ok (.iload 4, 2) := by decide +kernel
theorem dX2_median_108 : decode cX2_median 108 = .ok (.aload_n 0, 1) := by decide +kernel
theorem dX2_median_109 : decode cX2_median 109 = .ok (.getfield 32, 3) := by decide +kernel
theorem dX2_median_112 : decode cX2_median 112 = .ok (.iload 5, 2) := by decide +kernel
theorem dX2_median_114 : decode cX2_median 114 = .ok (.iaload, 1) := by decide +kernel
theorem dX2_median_115 : decode cX2_median 115 = .ok (.isub, 1) := by decide +kernel
theorem dX2_median_116 : decode cX2_median 116 = .ok (.istore 4, 2) := by decide +kernel
theorem dX2_median_118 : decode cX2_median 118 = .ok (.iload 4, 2) := by decide +kernel
theorem dX2_median_120 : decode cX2_median 120 = .ok (.ifCond .ge 6, 3) := by decide +kernel
theorem dX2_median_123 : decode cX2_median 123 = .ok (.iload 5, 2) := by decide +kernel
theorem dX2_median_125 : decode cX2_median 125 = .ok (.ireturn, 1) := by decide +kernel
theorem dX2_median_126 : decode cX2_median 126 = .ok (.iinc 5 1, 3) := by decide +kernel
theorem dX2_median_129 : decode cX2_median 129 = .ok (.goto (-34), 3) := by decide +kernel
theorem dX2_median_132 : decode cX2_median 132 = .ok (.iconst (-1), 1) := by decide +kernel
theorem dX2_median_133 : decode cX2_median 133 = .ok (.ireturn, 1) := by decide +kernel
set_option maxRecDepth 20000 in
theorem ggX2_middle_X2_median : GoodIn wsX2_middle wsX2_median := goodIn_r _ [5, 6, 7, 8, 9, 10, 11, 12, 13, 14, 15, 16, 17, 18, 19, 20] (by decide +kernel) (by decide +kernel)
set_option maxRecDepth 20000 in
theorem gX2_middle_X2_median : GoodIn wsX2_middle (wsV RX2 60 RX2 yX2_median wsX2_median) := goodIn_app (goodIn_of _ (by decide +kernel)) ggX2_middle_X2_median
theorem dX2_middle_0 : decode cX2_middle 0 = .ok (.aload_n 0, 1) := by decide +kernel
theorem dX2_middle_1 : decode cX2_middle 1 = .ok (.iconst (-1), 1) := by decide +kernel
theorem dX2_middle_2 : decode cX2_middle 2 = .ok (.iconst (-1), 1) := by decide +kernel
theorem dX2_middle_3 : decode cX2_middle 3 = .ok (.invokevirtual 60, 3) := by decide +kernel
theorem dX2_middle_6 : decode cX2_middle 6 = .ok (.ireturn, 1) := by decide +kernel
theorem dX2_step_0 : decode cX2_step 0 = .ok (.aload_n 0, 1) := by decide +kernel
theorem dX2_step_1 : decode cX2_step 1 = .ok (.getfield 17, 3) := by decide +kernel
theorem dX2_step_4 : decode cX2_step 4 = .ok (.iload_n 1, 1) := by decide +kernel
theorem dX2_step_5 : decode cX2_step 5 = .ok (.iaload, 1) := by decide +kernel
theorem dX2_step_6 : decode cX2_step 6 = .ok (.aload_n 0, 1) := by decide +kernel
theorem dX2_step_7 : decode cX2_step 7 = .ok (.getfield 20, 3) := by decide +kernel
theorem dX2_step_10 : decode cX2_step 10 = .ok (.iload_n 1, 1) := by decide +kernel
theorem dX2_step_11 : decode cX2_step 11 = .ok (.iaload, 1) := by decide +kernel
theorem dX2_step_12 : decode cX2_step 12 = .ok (.isub, 1) := by decide +kernel
theorem dX2_step_13 : decode cX2_step 13 = .ok (.aload_n 0, 1) := by decide +kernel
theorem dX2_step_14 : decode cX2_step 14 = .ok (.getfield 17, 3) := by decide +kernel
theorem dX2_step_17 : decode cX2_step 17 = .ok (.iload_n 1, 1) := by decide +kernel
theorem dX2_step_18 : decode cX2_step 18 = .ok (.iaload, 1) := by decide +kernel
theorem dX2_step_19 : decode cX2_step 19 = .ok (.aload_n 0, 1) := by decide +kernel
theorem dX2_step_20 : decode cX2_step 20 = .ok (.getfield 20, 3) := by decide +kernel
theorem dX2_step_23 : decode cX2_step 23 = .ok (.iload_n 1, 1) := by decide +kernel
theorem dX2_step_24 : decode cX2_step 24 = .ok (.iaload, 1) := by decide +kernel
theorem dX2_step_25 : decode cX2_step 25 = .ok (.iadd, 1) := by decide +kernel
theorem dX2_step_26 : decode cX2_step 26 = .ok (.iload_n 2, 1) := by decide +kernel
theorem dX2_step_27 : decode cX2_step 27 = .ok (.invokestatic 64, 3) := by decide +kernel
theorem dX2_step_30 : decode cX2_step 30 = .ok (.invokestatic 67, 3) := by decide +kernel
theorem dX2_step_33 : decode cX2_step 33 = .ok (.istore_n 3, 1) := by decide +kernel
theorem dX2_step_34 : decode cX2_step 34 = .ok (.aload_n 0, 1) := by decide +kernel
theorem dX2_step_35 : decode cX2_step 35 = .ok (.getfield 26, 3) := by decide +kernel
theorem dX2_step_38 : decode cX2_step 38 = .ok (.iload_n 1, 1) := by decide +kernel
theorem dX2_step_39 : decode cX2_step 39 = .ok (.iaload, 1) := by decide +kernel
theorem dX2_step_40 : decode cX2_step 40 = .ok (.aload_n 0, 1) := by decide +kernel
theorem dX2_step_41 : decode cX2_step 41 = .ok (.getfield 23, 3) := by decide +kernel
theorem dX2_step_44 : decode cX2_step 44 = .ok (.iload_n 1, 1) := by decide +kernel
theorem dX2_step_45 : decode cX2_step 45 = .ok (.iaload, 1) := by decide +kernel
theorem dX2_step_46 : decode cX2_step 46 = .ok (.ineg, 1) := by decide +kernel
theorem dX2_step_47 : decode cX2_step 47 = .ok (.aload_n 0, 1) := by decide +kernel
theorem dX2_step_48 : decode cX2_step 48 = .ok (.getfield 23, 3) := by decide +kernel
theorem dX2_step_51 : decode cX2_step 51 = .ok (.iload_n 1, 1) := by decide +kernel
theorem dX2_step_52 : decode cX2_step 52 = .ok (.iaload, 1) := by decide +kernel
theorem dX2_step_53 : decode cX2_step 53 = .ok (.iload_n 3, 1) := by decide +kernel
theorem dX2_step_54 : decode cX2_step 54 = .ok (.aload_n 0, 1) := by decide +kernel
theorem dX2_step_55 : decode cX2_step 55 = .ok (.getfield 26, 3) := by decide +kernel
theorem dX2_step_58 : decode cX2_step 58 = .ok (.iload_n 1, 1) := by decide +kernel
theorem dX2_step_59 : decode cX2_step 59 = .ok (.iaload, 1) := by decide +kernel
theorem dX2_step_60 : decode cX2_step 60 = .ok (.isub, 1) := by decide +kernel
theorem dX2_step_61 : decode cX2_step 61 = .ok (.invokestatic 64, 3) := by decide +kernel
theorem dX2_step_64 : decode cX2_step 64 = .ok (.invokestatic 67, 3) := by decide +kernel
theorem dX2_step_67 : decode cX2_step 67 = .ok (.iadd, 1) := by decide +kernel
theorem dX2_step_68 : decode cX2_step 68 = .ok (.ireturn, 1) := by decide +kernel
set_option maxRecDepth 20000 in
theorem ggX2_roundOn_X2_middle : GoodIn wsX2_roundOn wsX2_middle := goodIn_r _ [7, 8, 9, 10, 6, 11, 12, 1, 13, 2, 37, 38, 39, 40, 41, 42, 43, 44, 45, 46, 47] (by decide +kernel) (by decide +kernel)
set_option maxRecDepth 20000 in
theorem gX2_roundOn_X2_middle : GoodIn wsX2_roundOn (wsV RX2 70 RX2 yX2_middle wsX2_middle) := goodIn_app (goodIn_of _ (by decide +kernel)) ggX2_roundOn_X2_middle
set_option maxRecDepth 20000 in
theorem ggX2_roundOn_X2_step : GoodIn wsX2_roundOn wsX2_step := goodIn_r _ [17, 18, 19, 20, 21, 22, 23, 24, 25, 26, 2, 27, 37, 38, 39, 40, 41, 42, 43, 44, 45, 46, 47] (by decide +kernel) (by decide +kernel)
set_option maxRecDepth 20000 in
theorem gX2_roundOn_X2_step : GoodIn wsX2_roundOn (wsV RX2 74 RX2 yX2_step wsX2_step) := goodIn_app (goodIn_of _ (by decide +kernel)) ggX2_roundOn_X2_step
set_option maxRecDepth 20000 in
theorem ggX2_roundOn_X2_hasRoom : GoodIn wsX2_roundOn wsX2_hasRoom := goodIn_r _ [31, 32, 33, 34, 35, 6, 36, 1, 2, 37, 38, 39, 40, 41, 42, 43, 44, 45, 46, 47] (by decide +kernel) (by decide +kernel)
set_option maxRecDepth 20000 in
theorem gX2_roundOn_X2_hasRoom : GoodIn wsX2_roundOn (wsV RX2 77 RX2 yX2_hasRoom wsX2_hasRoom) := goodIn_app (goodIn_of _ (by decide +kernel)) ggX2_roundOn_X2_hasRoom
theorem dX2_roundOn_0 : decode cX2_roundOn 0 = .ok (.aload_n 0, 1) := by decide +kernel
theorem dX2_roundOn_1 : decode cX2_roundOn 1 = .ok (.invokevirtual 70, 3) := by decide +kernel
theorem dX2_roundOn_4 : decode cX2_roundOn 4 = .ok (.istore_n 1, 1) := by decide +kernel
theorem dX2_roundOn_5 : decode cX2_roundOn 5 = .ok (.iconst 0, 1) := by decide +kernel
theorem dX2_roundOn_6 : decode cX2_roundOn 6 = .ok (.istore_n 2, 1) := by decide +kernel
theorem dX2_roundOn_7 : decode cX2_roundOn 7 = .ok (.iconst 0, 1) := by decide +kernel
theorem dX2_roundOn_8 : decode cX2_roundOn 8 = .ok (.istore_n 3, 1) := by decide +kernel
theorem dX2_roundOn_9 : decode cX2_roundOn 9 = .ok (.iload_n 3, 1) := by decide +kernel
theorem dX2_roundOn_10 : decode cX2_roundOn 10 = .ok (.aload_n 0, 1) := by decide +kernel
theorem dX2_roundOn_11 : decode cX2_roundOn 11 = .ok (.getfield 38, 3) := by decide +kernel
theorem dX2_roundOn_14 : decode cX2_roundOn 14 = .ok (.if_icmp .ge 51, 3) := by decide +kernel
theorem dX2_roundOn_17 : decode cX2_roundOn 17 = .ok (.aload_n 0, 1) := by decide +kernel
theorem dX2_roundOn_18 : decode cX2_roundOn 18 = .ok (.iload_n 3, 1) := by decide +kernel
theorem dX2_roundOn_19 : decode cX2_roundOn 19 = .ok (.iload_n 1, 1) := by decide +kernel
theorem dX2_roundOn_20 : decode cX2_roundOn 20 = .ok (.invokevirtual 74, 3) := by decide +kernel
theorem dX2_roundOn_23 : decode cX2_roundOn 23 = .ok (.istore 4, 2) := by decide +kernel
theorem dX2_roundOn_25 : decode cX2_roundOn 25 = .ok (.iload 4, 2) := by decide +kernel
theorem dX2_roundOn_27 : decode cX2_roundOn 27 = .ok (.aload_n 0, 1) := by decide +kernel
theorem dX2_roundOn_28 : decode cX2_roundOn 28 = .ok (.getfield 26, 3) := by decide +kernel
theorem dX2_roundOn_31 : decode cX2_roundOn 31 = .ok (.iload_n 3, 1) := by decide +kernel
theorem dX2_roundOn_32 : decode cX2_roundOn 32 = .ok (.iaload, 1) := by decide +kernel
theorem dX2_roundOn_33 : decode cX2_roundOn 33 = .ok (.if_icmp .eq 26, 3) := by decide +kernel
theorem dX2_roundOn_36 : decode cX2_roundOn 36 = .ok (.aload_n 0, 1) := by decide +kernel
theorem dX2_roundOn_37 : decode cX2_roundOn 37 = .ok (.iload 4, 2) := by decide +kernel
theorem dX2_roundOn_39 : decode cX2_roundOn 39 = .ok (.invokevirtual 77, 3) := by decide +kernel
theorem dX2_roundOn_42 : decode cX2_roundOn 42 = .ok (.ifCond .ne 6, 3) := by decide +kernel
theorem dX2_roundOn_45 : decode cX2_roundOn 45 = .ok (.goto 14, 3) := by decide +kernel
theorem dX2_roundOn_48 : decode cX2_roundOn 48 = .ok (.aload_n 0, 1) := by decide +kernel
theorem dX2_roundOn_49 : decode cX2_roundOn 49 = .ok (.getfield 26, 3) := by decide +kernel
theorem dX2_roundOn_52 : decode cX2_roundOn 52 = .ok (.iload_n 3, 1) := by decide +kernel
theorem dX2_roundOn_53 : decode cX2_roundOn 53 = .ok (.iload 4, 2) := by decide +kernel
theorem dX2_roundOn_55 : decode cX2_roundOn 55 = .ok (.iastore, 1) := by decide +kernel
theorem dX2_roundOn_56 : decode cX2_roundOn 56 = .ok (.iinc 2 1, 3) := by decide +kernel
theorem dX2_roundOn_59 : decode cX2_roundOn 59 = .ok (.iinc 3 1, 3) := by decide +kernel
theorem dX2_roundOn_62 : decode cX2_roundOn 62 = .ok (.goto (-53), 3) := by decide +kernel
theorem dX2_roundOn_65 : decode cX2_roundOn 65 = .ok (.iload_n 2, 1) := by decide +kernel
theorem dX2_roundOn_66 : decode cX2_roundOn 66 = .ok (.ireturn, 1) := by decide +kernel
theorem dX2_wide_0 : decode cX2_wide 0 = .ok (.bipush 41, 2) := by decide +kernel
theorem dX2_wide_2 : decode cX2_wide 2 = .ok (.istore_n 1, 1) := by decide +kernel
theorem dX2_wide_3 : decode cX2_wide 3 = .ok (.iconst 0, 1) := by decide +kernel
theorem dX2_wide_4 : decode cX2_wide 4 = .ok (.istore_n 2, 1) := by decide +kernel
theorem dX2_wide_5 : decode cX2_wide 5 = .ok (.iconst 0, 1) := by decide +kernel
theorem dX2_wide_6 : decode cX2_wide 6 = .ok (.istore_n 3, 1) := by decide +kernel
theorem dX2_wide_7 : decode cX2_wide 7 = .ok (.iload_n 3, 1) := by decide +kernel
theorem dX2_wide_8 : decode cX2_wide 8 = .ok (.aload_n 0, 1) := by decide +kernel
theorem dX2_wide_9 : decode cX2_wide 9 = .ok (.getfield 38, 3) := by decide +kernel
theorem dX2_wide_12 : decode cX2_wide 12 = .ok (.if_icmp .ge 31, 3) := by decide +kernel
theorem dX2_wide_15 : decode cX2_wide 15 = .ok (.iload_n 1, 1) := by decide +kernel
theorem dX2_wide_16 : decode cX2_wide 16 = .ok (.aload_n 0, 1) := by decide +kernel
theorem dX2_wide_17 : decode cX2_wide 17 = .ok (.getfield 26, 3) := by decide +kernel
theorem dX2_wide_20 : decode cX2_wide 20 = .ok (.iload_n 3, 1) := by decide +kernel
theorem dX2_wide_21 : decode cX2_wide 21 = .ok (.iaload, 1) := by decide +kernel
theorem dX2_wide_22 : decode cX2_wide 22 = .ok (.invokestatic 64, 3) := by decide +kernel
theorem dX2_wide_25 : decode cX2_wide 25 = .ok (.istore_n 1, 1) := by decide +kernel
theorem dX2_wide_26 : decode cX2_wide 26 = .ok (.iload_n 2, 1) := by decide +kernel
theorem dX2_wide_27 : decode cX2_wide 27 = .ok (.aload_n 0, 1) := by decide +kernel
theorem dX2_wide_28 : decode cX2_wide 28 = .ok (.getfield 26, 3) := by decide +kernel
theorem dX2_wide_31 : decode cX2_wide 31 = .ok (.iload_n 3, 1) := by decide +kernel
theorem dX2_wide_32 : decode cX2_wide 32 = .ok (.iaload, 1) := by decide +kernel
theorem dX2_wide_33 : decode cX2_wide 33 = .ok (.invokestatic 67, 3) := by decide +kernel
theorem dX2_wide_36 : decode cX2_wide 36 = .ok (.istore_n 2, 1) := by decide +kernel
theorem dX2_wide_37 : decode cX2_wide 37 = .ok (.iinc 3 1, 3) := by decide +kernel
theorem dX2_wide_40 : decode cX2_wide 40 = .ok (.goto (-33), 3) := by decide +kernel
theorem dX2_wide_43 : decode cX2_wide 43 = .ok (.aload_n 0, 1) := by decide +kernel
theorem dX2_wide_44 : decode cX2_wide 44 = .ok (.getfield 38, 3) := by decide +kernel
theorem dX2_wide_47 : decode cX2_wide 47 = .ok (.iconst 2, 1) := by decide +kernel
theorem dX2_wide_48 : decode cX2_wide 48 = .ok (.if_icmp .ge 7, 3) := by decide +kernel
theorem dX2_wide_51 : decode cX2_wide 51 = .ok (.iconst 0, 1) := by decide +kernel
theorem dX2_wide_52 : decode cX2_wide 52 = .ok (.goto 6, 3) := by decide +kernel
theorem dX2_wide_55 : decode cX2_wide 55 = .ok (.iload_n 2, 1) := by decide +kernel
theorem dX2_wide_56 : decode cX2_wide 56 = .ok (.iload_n 1, 1) := by decide +kernel
theorem dX2_wide_57 : decode cX2_wide 57 = .ok (.isub, 1) := by decide +kernel
theorem dX2_wide_58 : decode cX2_wide 58 = .ok (.ireturn, 1) := by decide +kernel
set_option maxRecDepth 20000 in
theorem ggX2_agree_X2_wide : GoodIn wsX2_agree wsX2_wide := goodIn_r _ [7, 1, 8, 9, 10, 11, 12, 13, 14, 15, 16, 17, 18, 19, 20, 21, 22, 23, 24, 25, 26] (by decide +kernel) (by decide +kernel)
set_option maxRecDepth 20000 in
theorem gX2_agree_X2_wide : GoodIn wsX2_agree (wsV RX2 81 RX2 yX2_wide wsX2_wide) := goodIn_app (goodIn_of _ (by decide +kernel)) ggX2_agree_X2_wide
theorem dX2_agree_0 : decode cX2_agree 0 = .ok (.iconst 0, 1) := by decide +kernel
theorem dX2_agree_1 : decode cX2_agree 1 = .ok (.istore_n 1, 1) := by decide +kernel
theorem dX2_agree_2 : decode cX2_agree 2 = .ok (.iconst 1, 1) := by decide +kernel
theorem dX2_agree_3 : decode cX2_agree 3 = .ok (.istore_n 2, 1) := by decide +kernel
theorem dX2_agree_4 : decode cX2_agree 4 = .ok (.iload_n 2, 1) := by decide +kernel
theorem dX2_agree_5 : decode cX2_agree 5 = .ok (.aload_n 0, 1) := by decide +kernel
theorem dX2_agree_6 : decode cX2_agree 6 = .ok (.getfield 38, 3) := by decide +kernel
theorem dX2_agree_9 : decode cX2_agree 9 = .ok (.if_icmp .ge 32, 3) := by decide +kernel
theorem dX2_agree_12 : decode cX2_agree 12 = .ok (.iload_n 1, 1) := by decide +kernel
theorem dX2_agree_13 : decode cX2_agree 13 = .ok (.aload_n 0, 1) := by decide +kernel
theorem dX2_agree_14 : decode cX2_agree 14 = .ok (.getfield 13, 3) := by decide +kernel
theorem dX2_agree_17 : decode cX2_agree 17 = .ok (.iload_n 2, 1) := by decide +kernel
theorem dX2_agree_18 : decode cX2_agree 18 = .ok (.iaload, 1) := by decide +kernel
theorem dX2_agree_19 : decode cX2_agree 19 = .ok (.aload_n 0, 1) := by decide +kernel
theorem dX2_agree_20 : decode cX2_agree 20 = .ok (.getfield 13, 3) := by decide +kernel
theorem dX2_agree_23 : decode cX2_agree 23 = .ok (.iconst 0, 1) := by decide +kernel
theorem dX2_agree_24 : decode cX2_agree 24 = .ok (.iaload, 1) := by decide +kernel
theorem dX2_agree_25 : decode cX2_agree 25 = .ok (.if_icmp .eq 7, 3) := by decide +kernel
theorem dX2_agree_28 : decode cX2_agree 28 = .ok (.iconst 1, 1) := by decide +kernel
theorem dX2_agree_29 : decode cX2_agree 29 = .ok (.goto 4, 3) := by decide +kernel
theorem dX2_agree_32 : decode cX2_agree 32 = .ok (.iconst 0, 1) := by decide +kernel
theorem dX2_agree_33 : decode cX2_agree 33 = .ok (.ior, 1) := by decide +kernel
theorem dX2_agree_34 : decode cX2_agree 34 = .ok (.istore_n 1, 1) := by decide +kernel
theorem dX2_agree_35 : decode cX2_agree 35 = .ok (.iinc 2 1, 3) := by decide +kernel
theorem dX2_agree_38 : decode cX2_agree 38 = .ok (.goto (-34), 3) := by decide +kernel
theorem dX2_agree_41 : decode cX2_agree 41 = .ok (.iload_n 1, 1) := by decide +kernel
theorem dX2_agree_42 : decode cX2_agree 42 = .ok (.ifCond .eq 15, 3) := by decide +kernel
theorem dX2_agree_45 : decode cX2_agree 45 = .ok (.aload_n 0, 1) := by decide +kernel
theorem dX2_agree_46 : decode cX2_agree 46 = .ok (.invokevirtual 81, 3) := by decide +kernel
theorem dX2_agree_49 : decode cX2_agree 49 = .ok (.iconst 2, 1) := by decide +kernel
theorem dX2_agree_50 : decode cX2_agree 50 = .ok (.if_icmp .gt 7, 3) := by decide +kernel
theorem dX2_agree_53 : decode cX2_agree 53 = .ok (.iconst 1, 1) := by decide +kernel
theorem dX2_agree_54 : decode cX2_agree 54 = .ok (.goto 4, 3) := by decide +kernel
theorem dX2_agree_57 : decode cX2_agree 57 = .ok (.iconst 0, 1) := by decide +kernel
theorem dX2_agree_58 : decode cX2_agree 58 = .ok (.ireturn, 1) := by decide +kernel
set_option maxRecDepth 20000 in
theorem ggX2_still_X2_roundOn : GoodIn wsX2_still wsX2_roundOn := goodIn_r _ [11, 12, 2, 13, 14, 15, 10, 16, 17, 18, 19, 20, 21, 22, 23, 24, 25, 26, 27, 28, 29, 30, 31, 32, 33, 34, 35, 36, 37, 38, 39, 40, 41, 42, 43, 44, 45, 46, 47, 48, 49, 50, 51, 52, 53, 54, 55, 56] (by decide +kernel) (by decide +kernel)
set_option maxRecDepth 20000 in
theorem gX2_still_X2_roundOn : GoodIn wsX2_still (wsV RX2 84 RX2 yX2_roundOn wsX2_roundOn) := goodIn_app (goodIn_of _ (by decide +kernel)) ggX2_still_X2_roundOn
theorem dX2_still_0 : decode cX2_still 0 = .ok (.bipush 12, 2) := by decide +kernel
theorem dX2_still_2 : decode cX2_still 2 = .ok (.newarray .int, 2) := by decide +kernel
theorem dX2_still_4 : decode cX2_still 4 = .ok (.astore_n 1, 1) := by decide +kernel
theorem dX2_still_5 : decode cX2_still 5 = .ok (.aload_n 0, 1) := by decide +kernel
theorem dX2_still_6 : decode cX2_still 6 = .ok (.getfield 26, 3) := by decide +kernel
theorem dX2_still_9 : decode cX2_still 9 = .ok (.iconst 0, 1) := by decide +kernel
theorem dX2_still_10 : decode cX2_still 10 = .ok (.aload_n 1, 1) := by decide +kernel
theorem dX2_still_11 : decode cX2_still 11 = .ok (.iconst 0, 1) := by decide +kernel
theorem dX2_still_12 : decode cX2_still 12 = .ok (.bipush 12, 2) := by decide +kernel
theorem dX2_still_14 : decode cX2_still 14 = .ok (.invokestatic 45, 3) := by decide +kernel
theorem dX2_still_17 : decode cX2_still 17 = .ok (.aload_n 0, 1) := by decide +kernel
theorem dX2_still_18 : decode cX2_still 18 = .ok (.invokevirtual 84, 3) := by decide +kernel
theorem dX2_still_21 : decode cX2_still 21 = .ok (.ifCond .ne 7, 3) := by decide +kernel
theorem dX2_still_24 : decode cX2_still 24 = .ok (.iconst 1, 1) := by decide +kernel
theorem dX2_still_25 : decode cX2_still 25 = .ok (.goto 4, 3) := by decide +kernel
theorem dX2_still_28 : decode cX2_still 28 = .ok (.iconst 0, 1) := by decide +kernel
theorem dX2_still_29 : decode cX2_still 29 = .ok (.istore_n 2, 1) := by decide +kernel
theorem dX2_still_30 : decode cX2_still 30 = .ok (.aload_n 1, 1) := by decide +kernel
theorem dX2_still_31 : decode cX2_still 31 = .ok (.iconst 0, 1) := by decide +kernel
theorem dX2_still_32 : decode cX2_still 32 = .ok (.aload_n 0, 1) := by decide +kernel
theorem dX2_still_33 : decode cX2_still 33 = .ok (.getfield 26, 3) := by decide +kernel
theorem dX2_still_36 : decode cX2_still 36 = .ok (.iconst 0, 1) := by decide +kernel
theorem dX2_still_37 : decode cX2_still 37 = .ok (.bipush 12, 2) := by decide +kernel
theorem dX2_still_39 : decode cX2_still 39 = .ok (.invokestatic 45, 3) := by decide +kernel
theorem dX2_still_42 : decode cX2_still 42 = .ok (.iload_n 2, 1) := by decide +kernel
theorem dX2_still_43 : decode cX2_still 43 = .ok (.ireturn, 1) := by decide +kernel
set_option maxRecDepth 20000 in
theorem ggX2_send_X2_isVillage : GoodIn wsX2_send wsX2_isVillage := goodIn_r _ [11, 12, 13, 10, 14] (by decide +kernel) (by decide +kernel)
set_option maxRecDepth 20000 in
theorem gX2_send_X2_isVillage : GoodIn wsX2_send (va_wsS RX2 87 yX2_isVillage wsX2_isVillage) := goodIn_app (goodIn_of _ (by decide +kernel)) ggX2_send_X2_isVillage
set_option maxRecDepth 20000 in
theorem ggX2_send_X2_isPlank : GoodIn wsX2_send wsX2_isPlank := goodIn_r _ [17, 12, 13, 10, 14] (by decide +kernel) (by decide +kernel)
set_option maxRecDepth 20000 in
theorem gX2_send_X2_isPlank : GoodIn wsX2_send (va_wsS RX2 90 yX2_isPlank wsX2_isPlank) := goodIn_app (goodIn_of _ (by decide +kernel)) ggX2_send_X2_isPlank
set_option maxRecDepth 20000 in
theorem ggX2_send_X2_fail : GoodIn wsX2_send wsX2_fail := goodIn_r _ [21, 1, 31, 32, 33, 34, 35, 36, 37, 38, 39, 40, 41] (by decide +kernel) (by decide +kernel)
set_option maxRecDepth 20000 in
theorem gX2_send_X2_fail : GoodIn wsX2_send (wsV RX2 93 RX2 yX2_fail wsX2_fail) := goodIn_app (goodIn_of _ (by decide +kernel)) ggX2_send_X2_fail
set_option maxRecDepth 20000 in
theorem ggX2_send_X2_isIn : GoodIn wsX2_send wsX2_isIn := goodIn_r _ [14] (by decide +kernel) (by decide +kernel)
set_option maxRecDepth 20000 in
theorem gX2_send_X2_isIn : GoodIn wsX2_send (va_wsS RX2 41 yX2_isIn wsX2_isIn) := goodIn_app (goodIn_of _ (by decide +kernel)) ggX2_send_X2_isIn
set_option maxRecDepth 20000 in
theorem ggX2_send_X2_hasRoom : GoodIn wsX2_send wsX2_hasRoom := goodIn_r _ [25, 26, 27, 28, 29, 10, 30, 2, 7, 31, 32, 33, 34, 35, 36, 37, 38, 39, 40, 41] (by decide +kernel) (by decide +kernel)
set_option maxRecDepth 20000 in
theorem gX2_send_X2_hasRoom : GoodIn wsX2_send (wsV RX2 77 RX2 yX2_hasRoom wsX2_hasRoom) := goodIn_app (goodIn_of _ (by decide +kernel)) ggX2_send_X2_hasRoom
theorem dX2_send_0 : decode cX2_send 0 = .ok (.aload_n 0, 1) := by decide +kernel
theorem dX2_send_1 : decode cX2_send 1 = .ok (.iconst 0, 1) := by decide +kernel
theorem dX2_send_2 : decode cX2_send 2 = .ok (.putfield 35, 3) := by decide +kernel
theorem dX2_send_5 : decode cX2_send 5 = .ok (.iload_n 1, 1) := by decide +kernel
theorem dX2_send_6 : decode cX2_send 6 = .ok (.invokestatic 87, 3) := by decide +kernel
theorem dX2_send_9 : decode cX2_send 9 = .ok (.ifCond .eq 10, 3) := by decide +kernel
theorem dX2_send_12 : decode cX2_send 12 = .ok (.iload_n 2, 1) := by decide +kernel
theorem dX2_send_13 : decode cX2_send 13 = .ok (.invokestatic 90, 3) := by decide +kernel
theorem dX2_send_16 : decode cX2_send 16 = .ok (.ifCond .ne 9, 3) := by decide +kernel
theorem dX2_send_19 : decode cX2_send 19 = .ok (.aload_n 0, 1) := by decide +kernel
theorem dX2_send_20 : decode cX2_send 20 = .ok (.iconst 1, 1) := by decide +kernel
theorem dX2_send_21 : decode cX2_send 21 = .ok (.invokevirtual 93, 3) := by decide +kernel
theorem dX2_send_24 : decode cX2_send 24 = .ok (.ireturn, 1) := by decide +kernel
theorem dX2_send_25 : decode cX2_send 25 = .ok (.iload_n 3, 1) := by decide +kernel
theorem dX2_send_26 : decode cX2_send 26 = .ok (.iconst 0, 1) := by decide +kernel
theorem dX2_send_27 : decode cX2_send 27 = .ok (.bipush 20, 2) := by decide +kernel
theorem dX2_send_29 : decode cX2_send 29 = .ok (.invokestatic 41, 3) := by decide +kernel
theorem dX2_send_32 : decode cX2_send 32 = .ok (.ifCond .eq 13, 3) := by decide +kernel
theorem dX2_send_35 : decode cX2_send 35 = .ok (.iload 4, 2) := by decide +kernel
theorem dX2_send_37 : decode cX2_send 37 = .ok (.iconst 1, 1) := by decide +kernel
theorem dX2_send_38 : decode cX2_send 38 = .ok (.iconst 5, 1) := by decide +kernel
theorem dX2_send_39 : decode cX2_send 39 = .ok (.invokestatic 41, 3) := by decide +kernel
theorem dX2_send_42 : decode cX2_send 42 = .ok (.ifCond .ne 9, 3) := by decide +kernel
theorem dX2_send_45 : decode cX2_send 45 = .ok (.aload_n 0, 1) := by decide +kernel
theorem dX2_send_46 : decode cX2_send 46 = .ok (.iconst 2, 1) := by decide +kernel
theorem dX2_send_47 : decode cX2_send 47 = .ok (.invokevirtual 93, 3) := by decide +kernel
theorem dX2_send_50 : decode cX2_send 50 = .ok (.ireturn, 1) := by decide +kernel
theorem dX2_send_51 : decode cX2_send 51 = .ok (.aload_n 0, 1) := by decide +kernel
theorem dX2_send_52 : decode cX2_send 52 = .ok (.getfield 38, 3) := by decide +kernel
theorem dX2_send_55 : decode cX2_send 55 = .ok (.bipush 12, 2) := by decide +kernel
theorem dX2_send_57 : decode cX2_send 57 = .ok (.if_icmp .eq 11, 3) := by decide +kernel
theorem dX2_send_60 : decode cX2_send 60 = .ok (.aload_n 0, 1) := by decide +kernel
theorem dX2_send_61 : decode cX2_send 61 = .ok (.iload_n 2, 1) := by decide +kernel
theorem dX2_send_62 : decode cX2_send 62 = .ok (.invokevirtual 77, 3) := by decide +kernel
theorem dX2_send_65 : decode cX2_send 65 = .ok (.ifCond .ne 9, 3) := by decide +kernel
theorem dX2_send_68 : decode cX2_send 68 = .ok (.aload_n 0, 1) := by decide +kernel
theorem dX2_send_69 : decode cX2_send 69 = .ok (.iconst 3, 1) := by decide +kernel
theorem dX2_send_70 : decode cX2_send 70 = .ok (.invokevirtual 93, 3) := by decide +kernel
theorem dX2_send_73 : decode cX2_send 73 = .ok (.ireturn, 1) := by decide +kernel
theorem dX2_send_74 : decode cX2_send 74 = .ok (.aload_n 0, 1) := by decide +kernel
theorem dX2_send_75 : decode cX2_send 75 = .ok (.getfield 13, 3) := by decide +kernel
theorem dX2_send_78 : decode cX2_send 78 = .ok (.aload_n 0, 1) := by decide +kernel
theorem dX2_send_79 : decode cX2_send 79 = .ok (.getfield 38, 3) := by decide +kernel
theorem dX2_send_82 : decode cX2_send 82 = .ok (.iload_n 1, 1) := by decide +kernel
theorem dX2_send_83 : decode cX2_send 83 = .ok (.iastore, 1) := by decide +kernel
theorem dX2_send_84 : decode cX2_send 84 = .ok (.aload_n 0, 1) := by decide +kernel
theorem dX2_send_85 : decode cX2_send 85 = .ok (.getfield 17, 3) := by decide +kernel
theorem dX2_send_88 : decode cX2_send 88 = .ok (.aload_n 0, 1) := by decide +kernel
theorem dX2_send_89 : decode cX2_send 89 = .ok (.getfield 38, 3) := by decide +kernel
theorem dX2_send_92 : decode cX2_send 92 = .ok (.iload_n 2, 1) := by decide +kernel
theorem dX2_send_93 : decode cX2_send 93 = .ok (.iastore, 1) := by decide +kernel
theorem dX2_send_94 : decode cX2_send 94 = .ok (.aload_n 0, 1) := by decide +kernel
theorem dX2_send_95 : decode cX2_send 95 = .ok (.getfield 20, 3) := by decide +kernel
theorem dX2_send_98 : decode cX2_send 98 = .ok (.aload_n 0, 1) := by decide +kernel
theorem dX2_send_99 : decode cX2_send 99 = .ok (.getfield 38, 3) := by decide +kernel
theorem dX2_send_102 : decode cX2_send 102 = .ok (.iload_n 3, 1) := by decide +kernel
theorem dX2_send_103 : decode cX2_send 103 = .ok (.iastore, 1) := by decide +kernel
theorem dX2_send_104 : decode cX2_send 104 = .ok (.aload_n 0, 1) := by decide +kernel
theorem dX2_send_105 : decode cX2_send 105 = .ok (.getfield 23, 3) := by decide +kernel
theorem dX2_send_108 : decode cX2_send 108 = .ok (.aload_n 0, 1) := by decide +kernel
theorem dX2_send_109 : decode cX2_send 109 = .ok (.getfield 38, 3) := by decide +kernel
theorem dX2_send_112 : decode cX2_send 112 = .ok (.iload 4, 2) := by decide +kernel
theorem dX2_send_114 : decode cX2_send 114 = .ok (.iastore, 1) := by decide +kernel
theorem dX2_send_115 : decode cX2_send 115 = .ok (.aload_n 0, 1) := by decide +kernel
theorem dX2_send_116 : decode cX2_send 116 = .ok (.getfield 26, 3) := by decide +kernel
theorem dX2_send_119 : decode cX2_send 119 = .ok (.aload_n 0, 1) := by decide +kernel
theorem dX2_send_120 : decode cX2_send 120 = .ok (.getfield 38, 3) := by decide +kernel
theorem dX2_send_123 : decode cX2_send 123 = .ok (.iload_n 2, 1) := by decide +kernel
theorem dX2_send_124 : decode cX2_send 124 = .ok (.iastore, 1) := by decide +kernel
theorem dX2_send_125 : decode cX2_send 125 = .ok (.aload_n 0, 1) := by decide +kernel
theorem dX2_send_126 : decode cX2_send 126 = .ok (.dup, 1) := by decide +kernel
theorem dX2_send_127 : decode cX2_send 127 = .ok (.getfield 38, 3) := by decide +kernel
theorem dX2_send_130 : decode cX2_send 130 = .ok (.iconst 1, 1) := by decide +kernel
theorem dX2_send_131 : decode cX2_send 131 = .ok (.iadd, 1) := by decide +kernel
theorem dX2_send_132 : decode cX2_send 132 = .ok (.putfield 38, 3) := by decide +kernel
theorem dX2_send_135 : decode cX2_send 135 = .ok (.aload_n 0, 1) := by decide +kernel
theorem dX2_send_136 : decode cX2_send 136 = .ok (.getfield 38, 3) := by decide +kernel
theorem dX2_send_139 : decode cX2_send 139 = .ok (.iconst 1, 1) := by decide +kernel
theorem dX2_send_140 : decode cX2_send 140 = .ok (.isub, 1) := by decide +kernel
theorem dX2_send_141 : decode cX2_send 141 = .ok (.ireturn, 1) := by decide +kernel
theorem dX2_close_0 : decode cX2_close 0 = .ok (.iload_n 1, 1) := by decide +kernel
theorem dX2_close_1 : decode cX2_close 1 = .ok (.istore_n 3, 1) := by decide +kernel
theorem dX2_close_2 : decode cX2_close 2 = .ok (.iload_n 3, 1) := by decide +kernel
theorem dX2_close_3 : decode cX2_close 3 = .ok (.iload_n 2, 1) := by decide +kernel
theorem dX2_close_4 : decode cX2_close 4 = .ok (.iconst 1, 1) := by decide +kernel
theorem dX2_close_5 : decode cX2_close 5 = .ok (.isub, 1) := by decide +kernel
theorem dX2_close_6 : decode cX2_close 6 = .ok (.if_icmp .ge 17, 3) := by decide +kernel
theorem dX2_close_9 : decode cX2_close 9 = .ok (.aload_n 0, 1) := by decide +kernel
theorem dX2_close_10 : decode cX2_close 10 = .ok (.iload_n 3, 1) := by decide +kernel
theorem dX2_close_11 : decode cX2_close 11 = .ok (.aload_n 0, 1) := by decide +kernel
theorem dX2_close_12 : decode cX2_close 12 = .ok (.iload_n 3, 1) := by decide +kernel
theorem dX2_close_13 : decode cX2_close 13 = .ok (.iconst 1, 1) := by decide +kernel
theorem dX2_close_14 : decode cX2_close 14 = .ok (.iadd, 1) := by decide +kernel
theorem dX2_close_15 : decode cX2_close 15 = .ok (.iaload, 1) := by decide +kernel
theorem dX2_close_16 : decode cX2_close 16 = .ok (.iastore, 1) := by decide +kernel
theorem dX2_close_17 : decode cX2_close 17 = .ok (.iinc 3 1, 3) := by decide +kernel
theorem dX2_close_20 : decode cX2_close 20 = .ok (.goto (-18), 3) := by decide +kernel
theorem dX2_close_23 : decode cX2_close 23 = .ok (.return_, 1) := by decide +kernel
set_option maxRecDepth 20000 in
theorem ggX2_recall_X2_isDelegate : GoodIn wsX2_recall wsX2_isDelegate := goodIn_r _ [12, 4, 13, 14, 11, 15, 23, 24, 25, 26, 27, 28, 29, 30, 31, 32, 33] (by decide +kernel) (by decide +kernel)
set_option maxRecDepth 20000 in
theorem gX2_recall_X2_isDelegate : GoodIn wsX2_recall (wsV RX2 96 RX2 yX2_isDelegate wsX2_isDelegate) := goodIn_app (goodIn_of _ (by decide +kernel)) ggX2_recall_X2_isDelegate
set_option maxRecDepth 20000 in
theorem ggX2_recall_X2_fail : GoodIn wsX2_recall wsX2_fail := goodIn_r _ [19, 1, 23, 24, 25, 26, 27, 28, 29, 30, 31, 32, 33] (by decide +kernel) (by decide +kernel)
set_option maxRecDepth 20000 in
theorem gX2_recall_X2_fail : GoodIn wsX2_recall (wsV RX2 93 RX2 yX2_fail wsX2_fail) := goodIn_app (goodIn_of _ (by decide +kernel)) ggX2_recall_X2_fail
set_option maxRecDepth 20000 in
theorem ggX2_recall_X2_close : GoodIn wsX2_recall wsX2_close := goodIn_r _ [22] (by decide +kernel) (by decide +kernel)
set_option maxRecDepth 20000 in
theorem gX2_recall_X2_close : GoodIn wsX2_recall (va_wsS RX2 99 yX2_close wsX2_close) := goodIn_app (goodIn_of _ (by decide +kernel)) ggX2_recall_X2_close
theorem dX2_recall_0 : decode cX2_recall 0 = .ok (.aload_n 0, 1) := by decide +kernel
theorem dX2_recall_1 : decode cX2_recall 1 = .ok (.iconst 0, 1) := by decide +kernel
theorem dX2_recall_2 : decode cX2_recall 2 = .ok (.putfield 35, 3) := by decide +kernel
theorem dX2_recall_5 : decode cX2_recall 5 = .ok (.aload_n 0, 1) := by decide +kernel
theorem dX2_recall_6 : decode cX2_recall 6 = .ok (.iload_n 1, 1) := by decide +kernel
theorem dX2_recall_7 : decode cX2_recall 7 = .ok (.invokevirtual 96, 3) := by decide +kernel
theorem dX2_recall_10 : decode cX2_recall 10 = .ok (.ifCond .ne 9, 3) := by decide +kernel
theorem dX2_recall_13 : decode cX2_recall 13 = .ok (.aload_n 0, 1) := by decide +kernel
theorem dX2_recall_14 : decode cX2_recall 14 = .ok (.iconst 1, 1) := by decide +kernel
theorem dX2_recall_15 : decode cX2_recall 15 = .ok (.invokevirtual 93, 3) := by decide +kernel
theorem dX2_recall_18 : decode cX2_recall 18 = .ok (.ireturn, 1) := by decide +kernel
theorem dX2_recall_19 : decode cX2_recall 19 = .ok (.aload_n 0, 1) := by decide +kernel
theorem dX2_recall_20 : decode cX2_recall 20 = .ok (.getfield 26, 3) := by decide +kernel
theorem dX2_recall_23 : decode cX2_recall 23 = .ok (.iload_n 1, 1) := by decide +kernel
theorem dX2_recall_24 : decode cX2_recall 24 = .ok (.iaload, 1) := by decide +kernel
theorem dX2_recall_25 : decode cX2_recall 25 = .ok (.istore_n 2, 1) := by decide +kernel
theorem dX2_recall_26 : decode cX2_recall 26 = .ok (.aload_n 0, 1) := by decide +kernel
theorem dX2_recall_27 : decode cX2_recall 27 = .ok (.getfield 13, 3) := by decide +kernel
theorem dX2_recall_30 : decode cX2_recall 30 = .ok (.iload_n 1, 1) := by decide +kernel
theorem dX2_recall_31 : decode cX2_recall 31 = .ok (.aload_n 0, 1) := by decide +kernel
theorem dX2_recall_32 : decode cX2_recall 32 = .ok (.getfield 38, 3) := by decide +kernel
theorem dX2_recall_35 : decode cX2_recall 35 = .ok (.invokestatic 99, 3) := by decide +kernel
theorem dX2_recall_38 : decode cX2_recall 38 = .ok (.aload_n 0, 1) := by decide +kernel
theorem dX2_recall_39 : decode cX2_recall 39 = .ok (.getfield 17, 3) := by decide +kernel
theorem dX2_recall_42 : decode cX2_recall 42 = .ok (.iload_n 1, 1) := by decide +kernel
theorem dX2_recall_43 : decode cX2_recall 43 = .ok (.aload_n 0, 1) := by decide +kernel
theorem dX2_recall_44 : decode cX2_recall 44 = .ok (.getfield 38, 3) := by decide +kernel
theorem dX2_recall_47 : decode cX2_recall 47 = .ok (.invokestatic 99, 3) := by decide +kernel
theorem dX2_recall_50 : decode cX2_recall 50 = .ok (.aload_n 0, 1) := by decide +kernel
theorem dX2_recall_51 : decode cX2_recall 51 = .ok (.getfield 20, 3) := by decide +kernel
theorem dX2_recall_54 : decode cX2_recall 54 = .ok (.iload_n 1, 1) := by decide +kernel
theorem dX2_recall_55 : decode cX2_recall 55 = .ok (.aload_n 0, 1) := by decide +kernel
theorem dX2_recall_56 : decode cX2_recall 56 = .ok (.getfield 38, 3) := by decide +kernel
theorem dX2_recall_59 : decode cX2_recall 59 = .ok (.invokestatic 99, 3) := by decide +kernel
theorem dX2_recall_62 : decode cX2_recall 62 = .ok (.aload_n 0, 1) := by decide +kernel
theorem dX2_recall_63 : decode cX2_recall 63 = .ok (.getfield 23, 3) := by decide +kernel
theorem dX2_recall_66 : decode cX2_recall 66 = .ok (.iload_n 1, 1) := by decide +kernel
theorem dX2_recall_67 : decode cX2_recall 67 = .ok (.aload_n 0, 1) := by decide +kernel
theorem dX2_recall_68 : decode cX2_recall 68 = .ok (.getfield 38, 3) := by decide +kernel
theorem dX2_recall_71 : decode cX2_recall 71 = .ok (.invokestatic 99, 3) := by decide +kernel
theorem dX2_recall_74 : decode cX2_recall 74 = .ok (.aload_n 0, 1) := by decide +kernel
theorem dX2_recall_75 : decode cX2_recall 75 = .ok (.getfield 26, 3) := by decide +kernel
theorem dX2_recall_78 : decode cX2_recall 78 = .ok (.iload_n 1, 1) := by decide +kernel
theorem dX2_recall_79 : decode cX2_recall 79 = .ok (.aload_n 0, 1) := by decide +kernel
theorem dX2_recall_80 : decode cX2_recall 80 = .ok (.getfield 38, 3) := by decide +kernel
theorem dX2_recall_83 : decode cX2_recall 83 = .ok (.invokestatic 99, 3) := by decide +kernel
theorem dX2_recall_86 : decode cX2_recall 86 = .ok (.aload_n 0, 1) := by decide +kernel
theorem dX2_recall_87 : decode cX2_recall 87 = .ok (.dup, 1) := by decide +kernel
theorem dX2_recall_88 : decode cX2_recall 88 = .ok (.getfield 38, 3) := by decide +kernel
theorem dX2_recall_91 : decode cX2_recall 91 = .ok (.iconst 1, 1) := by decide +kernel
theorem dX2_recall_92 : decode cX2_recall 92 = .ok (.isub, 1) := by decide +kernel
theorem dX2_recall_93 : decode cX2_recall 93 = .ok (.putfield 38, 3) := by decide +kernel
theorem dX2_recall_96 : decode cX2_recall 96 = .ok (.iload_n 2, 1) := by decide +kernel
theorem dX2_recall_97 : decode cX2_recall 97 = .ok (.ireturn, 1) := by decide +kernel
set_option maxRecDepth 20000 in
theorem ggX2_persuade_X2_isDelegate : GoodIn wsX2_persuade wsX2_isDelegate := goodIn_r _ [7, 8, 9, 10, 6, 11, 19, 20, 21, 22, 23, 24, 25, 26, 27, 28, 29] (by decide +kernel) (by decide +kernel)
set_option maxRecDepth 20000 in
theorem gX2_persuade_X2_isDelegate : GoodIn wsX2_persuade (wsV RX2 96 RX2 yX2_isDelegate wsX2_isDelegate) := goodIn_app (goodIn_of _ (by decide +kernel)) ggX2_persuade_X2_isDelegate
set_option maxRecDepth 20000 in
theorem ggX2_persuade_X2_isPlank : GoodIn wsX2_persuade wsX2_isPlank := goodIn_r _ [14, 9, 10, 6, 11] (by decide +kernel) (by decide +kernel)
set_option maxRecDepth 20000 in
theorem gX2_persuade_X2_isPlank : GoodIn wsX2_persuade (va_wsS RX2 90 yX2_isPlank wsX2_isPlank) := goodIn_app (goodIn_of _ (by decide +kernel)) ggX2_persuade_X2_isPlank
set_option maxRecDepth 20000 in
theorem ggX2_persuade_X2_fail : GoodIn wsX2_persuade wsX2_fail := goodIn_r _ [18, 1, 19, 20, 21, 22, 23, 24, 25, 26, 27, 28, 29] (by decide +kernel) (by decide +kernel)
set_option maxRecDepth 20000 in
theorem gX2_persuade_X2_fail : GoodIn wsX2_persuade (wsV RX2 93 RX2 yX2_fail wsX2_fail) := goodIn_app (goodIn_of _ (by decide +kernel)) ggX2_persuade_X2_fail
theorem dX2_persuade_0 : decode cX2_persuade 0 = .ok (.aload_n 0, 1) := by decide +kernel
theorem dX2_persuade_1 : decode cX2_persuade 1 = .ok (.iconst 0, 1) := by decide +kernel
theorem dX2_persuade_2 : decode cX2_persuade 2 = .ok (.putfield 35, 3) := by decide +kernel
theorem dX2_persuade_5 : decode cX2_persuade 5 = .ok (.aload_n 0, 1) := by decide +kernel
theorem dX2_persuade_6 : decode cX2_persuade 6 = .ok (.iload_n 1, 1) := by decide +kernel
theorem dX2_persuade_7 : decode cX2_persuade 7 = .ok (.invokevirtual 96, 3) := by decide +kernel
theorem dX2_persuade_10 : decode cX2_persuade 10 = .ok (.ifCond .eq 10, 3) := by decide +kernel
theorem dX2_persuade_13 : decode cX2_persuade 13 = .ok (.iload_n 2, 1) := by decide +kernel
theorem dX2_persuade_14 : decode cX2_persuade 14 = .ok (.invokestatic 90, 3) := by decide +kernel
theorem dX2_persuade_17 : decode cX2_persuade 17 = .ok (.ifCond .ne 9, 3) := by decide +kernel
theorem dX2_persuade_20 : decode cX2_persuade 20 = .ok (.aload_n 0, 1) := by decide +kernel
theorem dX2_persuade_21 : decode cX2_persuade 21 = .ok (.iconst 1, 1) := by decide +kernel
theorem dX2_persuade_22 : decode cX2_persuade 22 = .ok (.invokevirtual 93, 3) := by decide +kernel
theorem dX2_persuade_25 : decode cX2_persuade 25 = .ok (.ireturn, 1) := by decide +kernel
theorem dX2_persuade_26 : decode cX2_persuade 26 = .ok (.aload_n 0, 1) := by decide +kernel
theorem dX2_persuade_27 : decode cX2_persuade 27 = .ok (.getfield 17, 3) := by decide +kernel
theorem dX2_persuade_30 : decode cX2_persuade 30 = .ok (.iload_n 1, 1) := by decide +kernel
theorem dX2_persuade_31 : decode cX2_persuade 31 = .ok (.iaload, 1) := by decide +kernel
theorem dX2_persuade_32 : decode cX2_persuade 32 = .ok (.istore_n 3, 1) := by decide +kernel
theorem dX2_persuade_33 : decode cX2_persuade 33 = .ok (.aload_n 0, 1) := by decide +kernel
theorem dX2_persuade_34 : decode cX2_persuade 34 = .ok (.getfield 17, 3) := by decide +kernel
theorem dX2_persuade_37 : decode cX2_persuade 37 = .ok (.iload_n 1, 1) := by decide +kernel
theorem dX2_persuade_38 : decode cX2_persuade 38 = .ok (.iload_n 2, 1) := by decide +kernel
theorem dX2_persuade_39 : decode cX2_persuade 39 = .ok (.iastore, 1) := by decide +kernel
theorem dX2_persuade_40 : decode cX2_persuade 40 = .ok (.iload_n 3, 1) := by decide +kernel
theorem dX2_persuade_41 : decode cX2_persuade 41 = .ok (.ireturn, 1) := by decide +kernel
set_option maxRecDepth 20000 in
theorem ggX2_can_X2_isWilling : GoodIn wsX2_can wsX2_isWilling := goodIn_r _ [6, 7, 8, 9, 10, 11, 12, 23, 24, 25, 26, 27, 28, 29, 30, 31, 32, 33] (by decide +kernel) (by decide +kernel)
set_option maxRecDepth 20000 in
theorem gX2_can_X2_isWilling : GoodIn wsX2_can (wsV RX2 103 RX2 yX2_isWilling wsX2_isWilling) := goodIn_app (goodIn_of _ (by decide +kernel)) ggX2_can_X2_isWilling
set_option maxRecDepth 20000 in
theorem ggX2_can_X2_hasRoom : GoodIn wsX2_can wsX2_hasRoom := goodIn_r _ [16, 17, 18, 19, 20, 5, 21, 22, 1, 23, 24, 25, 26, 27, 28, 29, 30, 31, 32, 33] (by decide +kernel) (by decide +kernel)
set_option maxRecDepth 20000 in
theorem gX2_can_X2_hasRoom : GoodIn wsX2_can (wsV RX2 77 RX2 yX2_hasRoom wsX2_hasRoom) := goodIn_app (goodIn_of _ (by decide +kernel)) ggX2_can_X2_hasRoom
theorem dX2_can_0 : decode cX2_can 0 = .ok (.aload_n 0, 1) := by decide +kernel
theorem dX2_can_1 : decode cX2_can 1 = .ok (.iload_n 1, 1) := by decide +kernel
theorem dX2_can_2 : decode cX2_can 2 = .ok (.iload_n 2, 1) := by decide +kernel
theorem dX2_can_3 : decode cX2_can 3 = .ok (.invokevirtual 103, 3) := by decide +kernel
theorem dX2_can_6 : decode cX2_can 6 = .ok (.ifCond .eq 25, 3) := by decide +kernel
theorem dX2_can_9 : decode cX2_can 9 = .ok (.aload_n 0, 1) := by decide +kernel
theorem dX2_can_10 : decode cX2_can 10 = .ok (.getfield 26, 3) := by decide +kernel
theorem dX2_can_13 : decode cX2_can 13 = .ok (.iload_n 1, 1) := by decide +kernel
theorem dX2_can_14 : decode cX2_can 14 = .ok (.iaload, 1) := by decide +kernel
theorem dX2_can_15 : decode cX2_can 15 = .ok (.iload_n 2, 1) := by decide +kernel
theorem dX2_can_16 : decode cX2_can 16 = .ok (.if_icmp .eq 11, 3) := by decide +kernel
theorem dX2_can_19 : decode cX2_can 19 = .ok (.aload_n 0, 1) := by decide +kernel
theorem dX2_can_20 : decode cX2_can 20 = .ok (.iload_n 2, 1) := by decide +kernel
theorem dX2_can_21 : decode cX2_can 21 = .ok (.invokevirtual 77, 3) := by decide +kernel
theorem dX2_can_24 : decode cX2_can 24 = .ok (.ifCond .eq 7, 3) := by decide +kernel
theorem dX2_can_27 : decode cX2_can 27 = .ok (.iconst 1, 1) := by decide +kernel
theorem dX2_can_28 : decode cX2_can 28 = .ok (.goto 4, 3) := by decide +kernel
theorem dX2_can_31 : decode cX2_can 31 = .ok (.iconst 0, 1) := by decide +kernel
theorem dX2_can_32 : decode cX2_can 32 = .ok (.ireturn, 1) := by decide +kernel
set_option maxRecDepth 20000 in
theorem ggX2_lead_X2_isDelegate : GoodIn wsX2_lead wsX2_isDelegate := goodIn_r _ [7, 8, 9, 10, 6, 11, 42, 43, 44, 45, 46, 47, 48, 49, 50, 51, 52] (by decide +kernel) (by decide +kernel)
set_option maxRecDepth 20000 in
theorem gX2_lead_X2_isDelegate : GoodIn wsX2_lead (wsV RX2 96 RX2 yX2_isDelegate wsX2_isDelegate) := goodIn_app (goodIn_of _ (by decide +kernel)) ggX2_lead_X2_isDelegate
set_option maxRecDepth 20000 in
theorem ggX2_lead_X2_isPlank : GoodIn wsX2_lead wsX2_isPlank := goodIn_r _ [14, 9, 10, 6, 11] (by decide +kernel) (by decide +kernel)
set_option maxRecDepth 20000 in
theorem gX2_lead_X2_isPlank : GoodIn wsX2_lead (va_wsS RX2 90 yX2_isPlank wsX2_isPlank) := goodIn_app (goodIn_of _ (by decide +kernel)) ggX2_lead_X2_isPlank
set_option maxRecDepth 20000 in
theorem ggX2_lead_X2_fail : GoodIn wsX2_lead wsX2_fail := goodIn_r _ [18, 1, 42, 43, 44, 45, 46, 47, 48, 49, 50, 51, 52] (by decide +kernel) (by decide +kernel)
set_option maxRecDepth 20000 in
theorem gX2_lead_X2_fail : GoodIn wsX2_lead (wsV RX2 93 RX2 yX2_fail wsX2_fail) := goodIn_app (goodIn_of _ (by decide +kernel)) ggX2_lead_X2_fail
set_option maxRecDepth 20000 in
theorem ggX2_lead_X2_can : GoodIn wsX2_lead wsX2_can := goodIn_r _ [22, 2, 23, 24, 25, 6, 26, 27, 28, 29, 30, 31, 32, 33, 34, 35, 36, 37, 38, 39, 40, 41, 8, 42, 43, 44, 45, 46, 47, 48, 49, 50, 51, 52] (by decide +kernel) (by decide +kernel)
set_option maxRecDepth 20000 in
theorem gX2_lead_X2_can : GoodIn wsX2_lead (wsV RX2 107 RX2 yX2_can wsX2_can) := goodIn_app (goodIn_of _ (by decide +kernel)) ggX2_lead_X2_can
theorem dX2_lead_0 : decode cX2_lead 0 = .ok (.aload_n 0, 1) := by decide +kernel
theorem dX2_lead_1 : decode cX2_lead 1 = .ok (.iconst 0, 1) := by decide +kernel
theorem dX2_lead_2 : decode cX2_lead 2 = .ok (.putfield 35, 3) := by decide +kernel
theorem dX2_lead_5 : decode cX2_lead 5 = .ok (.aload_n 0, 1) := by decide +kernel
theorem dX2_lead_6 : decode cX2_lead 6 = .ok (.iload_n 1, 1) := by decide +kernel
theorem dX2_lead_7 : decode cX2_lead 7 = .ok (.invokevirtual 96, 3) := by decide +kernel
theorem dX2_lead_10 : decode cX2_lead 10 = .ok (.ifCond .eq 10, 3) := by decide +kernel
theorem dX2_lead_13 : decode cX2_lead 13 = .ok (.iload_n 2, 1) := by decide +kernel
theorem dX2_lead_14 : decode cX2_lead 14 = .ok (.invokestatic 90, 3) := by decide +kernel
theorem dX2_lead_17 : decode cX2_lead 17 = .ok (.ifCond .ne 9, 3) := by decide +kernel
theorem dX2_lead_20 : decode cX2_lead 20 = .ok (.aload_n 0, 1) := by decide +kernel
theorem dX2_lead_21 : decode cX2_lead 21 = .ok (.iconst 1, 1) := by decide +kernel
theorem dX2_lead_22 : decode cX2_lead 22 = .ok (.invokevirtual 93, 3) := by decide +kernel
theorem dX2_lead_25 : decode cX2_lead 25 = .ok (.ireturn, 1) := by decide +kernel
theorem dX2_lead_26 : decode cX2_lead 26 = .ok (.aload_n 0, 1) := by decide +kernel
theorem dX2_lead_27 : decode cX2_lead 27 = .ok (.iload_n 1, 1) := by decide +kernel
theorem dX2_lead_28 : decode cX2_lead 28 = .ok (.iload_n 2, 1) := by decide +kernel
theorem dX2_lead_29 : decode cX2_lead 29 = .ok (.invokevirtual 107, 3) := by decide +kernel
theorem dX2_lead_32 : decode cX2_lead 32 = .ok (.ifCond .ne 9, 3) := by decide +kernel
theorem dX2_lead_35 : decode cX2_lead 35 = .ok (.aload_n 0, 1) := by decide +kernel
theorem dX2_lead_36 : decode cX2_lead 36 = .ok (.iconst 2, 1) := by decide +kernel
theorem dX2_lead_37 : decode cX2_lead 37 = .ok (.invokevirtual 93, 3) := by decide +kernel
theorem dX2_lead_40 : decode cX2_lead 40 = .ok (.ireturn, 1) := by decide +kernel
theorem dX2_lead_41 : decode cX2_lead 41 = .ok (.aload_n 0, 1) := by decide +kernel
theorem dX2_lead_42 : decode cX2_lead 42 = .ok (.getfield 26, 3) := by decide +kernel
theorem dX2_lead_45 : decode cX2_lead 45 = .ok (.iload_n 1, 1) := by decide +kernel
theorem dX2_lead_46 : decode cX2_lead 46 = .ok (.iaload, 1) := by decide +kernel
theorem dX2_lead_47 : decode cX2_lead 47 = .ok (.istore_n 3, 1) := by decide +kernel
theorem dX2_lead_48 : decode cX2_lead 48 = .ok (.aload_n 0, 1) := by decide +kernel
theorem dX2_lead_49 : decode cX2_lead 49 = .ok (.getfield 26, 3) := by decide +kernel
theorem dX2_lead_52 : decode cX2_lead 52 = .ok (.iload_n 1, 1) := by decide +kernel
theorem dX2_lead_53 : decode cX2_lead 53 = .ok (.iload_n 2, 1) := by decide +kernel
theorem dX2_lead_54 : decode cX2_lead 54 = .ok (.iastore, 1) := by decide +kernel
theorem dX2_lead_55 : decode cX2_lead 55 = .ok (.iload_n 3, 1) := by decide +kernel
theorem dX2_lead_56 : decode cX2_lead 56 = .ok (.ireturn, 1) := by decide +kernel
set_option maxRecDepth 20000 in
theorem ggX2_setStrength_X2_isIn : GoodIn wsX2_setStrength wsX2_isIn := goodIn_r _ [6] (by decide +kernel) (by decide +kernel)
set_option maxRecDepth 20000 in
theorem gX2_setStrength_X2_isIn : GoodIn wsX2_setStrength (va_wsS RX2 41 yX2_isIn wsX2_isIn) := goodIn_app (goodIn_of _ (by decide +kernel)) ggX2_setStrength_X2_isIn
set_option maxRecDepth 20000 in
theorem ggX2_setStrength_X2_fail : GoodIn wsX2_setStrength wsX2_fail := goodIn_r _ [10, 1, 11, 12, 13, 14, 15, 16, 17, 18, 19, 20, 21] (by decide +kernel) (by decide +kernel)
set_option maxRecDepth 20000 in
theorem gX2_setStrength_X2_fail : GoodIn wsX2_setStrength (wsV RX2 93 RX2 yX2_fail wsX2_fail) := goodIn_app (goodIn_of _ (by decide +kernel)) ggX2_setStrength_X2_fail
theorem dX2_setStrength_0 : decode cX2_setStrength 0 = .ok (.aload_n 0, 1) := by decide +kernel
theorem dX2_setStrength_1 : decode cX2_setStrength 1 = .ok (.iconst 0, 1) := by decide +kernel
theorem dX2_setStrength_2 : decode cX2_setStrength 2 = .ok (.putfield 35, 3) := by decide +kernel
theorem dX2_setStrength_5 : decode cX2_setStrength 5 = .ok (.iload_n 1, 1) := by decide +kernel
theorem dX2_setStrength_6 : decode cX2_setStrength 6 = .ok (.iconst 1, 1) := by decide +kernel
theorem dX2_setStrength_7 : decode cX2_setStrength 7 = .ok (.bipush 12, 2) := by decide +kernel
theorem dX2_setStrength_9 : decode cX2_setStrength 9 = .ok (.invokestatic 41, 3) := by decide +kernel
theorem dX2_setStrength_12 : decode cX2_setStrength 12 = .ok (.ifCond .ne 9, 3) := by decide +kernel
theorem dX2_setStrength_15 : decode cX2_setStrength 15 = .ok (.aload_n 0, 1) := by decide +kernel
theorem dX2_setStrength_16 : decode cX2_setStrength 16 = .ok (.iconst 1, 1) := by decide +kernel
theorem dX2_setStrength_17 : decode cX2_setStrength 17 = .ok (.invokevirtual 93, 3) := by decide +kernel
theorem dX2_setStrength_20 : decode cX2_setStrength 20 = .ok (.ireturn, 1) := by decide +kernel
theorem dX2_setStrength_21 : decode cX2_setStrength 21 = .ok (.aload_n 0, 1) := by decide +kernel
theorem dX2_setStrength_22 : decode cX2_setStrength 22 = .ok (.getfield 7, 3) := by decide +kernel
theorem dX2_setStrength_25 : decode cX2_setStrength 25 = .ok (.istore_n 2, 1) := by decide +kernel
theorem dX2_setStrength_26 : decode cX2_setStrength 26 = .ok (.aload_n 0, 1) := by decide +kernel
theorem dX2_setStrength_27 : decode cX2_setStrength 27 = .ok (.iload_n 1, 1) := by decide +kernel
theorem dX2_setStrength_28 : decode cX2_setStrength 28 = .ok (.putfield 7, 3) := by decide +kernel
theorem dX2_setStrength_31 : decode cX2_setStrength 31 = .ok (.iload_n 2, 1) := by decide +kernel
theorem dX2_setStrength_32 : decode cX2_setStrength 32 = .ok (.ireturn, 1) := by decide +kernel
set_option maxRecDepth 20000 in
theorem ggX2_passRounds_X2_isIn : GoodIn wsX2_passRounds wsX2_isIn := goodIn_r _ [6] (by decide +kernel) (by decide +kernel)
set_option maxRecDepth 20000 in
theorem gX2_passRounds_X2_isIn : GoodIn wsX2_passRounds (va_wsS RX2 41 yX2_isIn wsX2_isIn) := goodIn_app (goodIn_of _ (by decide +kernel)) ggX2_passRounds_X2_isIn
set_option maxRecDepth 20000 in
theorem ggX2_passRounds_X2_fail : GoodIn wsX2_passRounds wsX2_fail := goodIn_r _ [10, 1, 50, 51, 52, 53, 54, 55, 56, 57, 58, 59, 60] (by decide +kernel) (by decide +kernel)
set_option maxRecDepth 20000 in
theorem gX2_passRounds_X2_fail : GoodIn wsX2_passRounds (wsV RX2 93 RX2 yX2_fail wsX2_fail) := goodIn_app (goodIn_of _ (by decide +kernel)) ggX2_passRounds_X2_fail
set_option maxRecDepth 20000 in
theorem ggX2_passRounds_X2_roundOn : GoodIn wsX2_passRounds wsX2_roundOn := goodIn_r _ [14, 15, 16, 17, 18, 19, 5, 20, 21, 22, 23, 24, 25, 26, 27, 28, 29, 30, 31, 32, 33, 34, 35, 36, 37, 38, 39, 40, 41, 42, 43, 44, 45, 46, 47, 48, 49, 50, 51, 52, 53, 54, 55, 56, 57, 58, 59, 60] (by decide +kernel) (by decide +kernel)
set_option maxRecDepth 20000 in
theorem gX2_passRounds_X2_roundOn : GoodIn wsX2_passRounds (wsV RX2 84 RX2 yX2_roundOn wsX2_roundOn) := goodIn_app (goodIn_of _ (by decide +kernel)) ggX2_passRounds_X2_roundOn
theorem dX2_passRounds_0 : decode cX2_passRounds 0 = .ok (.aload_n 0, 1) := by decide +kernel
theorem dX2_passRounds_1 : decode cX2_passRounds 1 = .ok (.iconst 0, 1) := by decide +kernel
theorem dX2_passRounds_2 : decode cX2_passRounds 2 = .ok (.putfield 35, 3) := by decide +kernel
theorem dX2_passRounds_5 : decode cX2_passRounds 5 = .ok (.iload_n 1, 1) := by decide +kernel
theorem dX2_passRounds_6 : decode cX2_passRounds 6 = .ok (.iconst 1, 1) := by decide +kernel
theorem dX2_passRounds_7 : decode cX2_passRounds 7 = .ok (.bipush 50, 2) := by decide +kernel
theorem dX2_passRounds_9 : decode cX2_passRounds 9 = .ok (.invokestatic 41, 3) := by decide +kernel
theorem dX2_passRounds_12 : decode cX2_passRounds 12 = .ok (.ifCond .ne 9, 3) := by decide +kernel
theorem dX2_passRounds_15 : decode cX2_passRounds 15 = .ok (.aload_n 0, 1) := by decide +kernel
theorem dX2_passRounds_16 : decode cX2_passRounds 16 = .ok (.iconst 1, 1) := by decide +kernel
theorem dX2_passRounds_17 : decode cX2_passRounds 17 = .ok (.invokevirtual 93, 3) := by decide +kernel
theorem dX2_passRounds_20 : decode cX2_passRounds 20 = .ok (.ireturn, 1) := by decide +kernel
theorem dX2_passRounds_21 : decode cX2_passRounds 21 = .ok (.iconst 0, 1) := by decide +kernel
theorem dX2_passRounds_22 : decode cX2_passRounds 22 = .ok (.istore_n 2, 1) := by decide +kernel
theorem dX2_passRounds_23 : decode cX2_passRounds 23 = .ok (.iconst 0, 1) := by decide +kernel
theorem dX2_passRounds_24 : decode cX2_passRounds 24 = .ok (.istore_n 3, 1) := by decide +kernel
theorem dX2_passRounds_25 : decode cX2_passRounds 25 = .ok (.iload_n 3, 1) := by decide +kernel
theorem dX2_passRounds_26 : decode cX2_passRounds 26 = .ok (.iload_n 1, 1) := by decide +kernel
theorem dX2_passRounds_27 : decode cX2_passRounds 27 = .ok (.if_icmp .ge 16, 3) := by decide +kernel
theorem dX2_passRounds_30 : decode cX2_passRounds 30 = .ok (.iload_n 2, 1) := by decide +kernel
theorem dX2_passRounds_31 : decode cX2_passRounds 31 = .ok (.aload_n 0, 1) := by decide +kernel
theorem dX2_passRounds_32 : decode cX2_passRounds 32 = .ok (.invokevirtual 84, 3) := by decide +kernel
theorem dX2_passRounds_35 : decode cX2_passRounds 35 = .ok (.iadd, 1) := by decide +kernel
theorem dX2_passRounds_36 : decode cX2_passRounds 36 = .ok (.istore_n 2, 1) := by decide +kernel
theorem dX2_passRounds_37 : decode cX2_passRounds 37 = .ok (.iinc 3 1, 3) := by decide +kernel
theorem dX2_passRounds_40 : decode cX2_passRounds 40 = .ok (.goto (-15), 3) := by decide +kernel
theorem dX2_passRounds_43 : decode cX2_passRounds 43 = .ok (.aload_n 0, 1) := by decide +kernel
theorem dX2_passRounds_44 : decode cX2_passRounds 44 = .ok (.dup, 1) := by decide +kernel
theorem dX2_passRounds_45 : decode cX2_passRounds 45 = .ok (.getfield 110, 3) := by decide +kernel
theorem dX2_passRounds_48 : decode cX2_passRounds 48 = .ok (.iload_n 1, 1) := by decide +kernel
theorem dX2_passRounds_49 : decode cX2_passRounds 49 = .ok (.iadd, 1) := by decide +kernel
theorem dX2_passRounds_50 : decode cX2_passRounds 50 = .ok (.putfield 110, 3) := by decide +kernel
theorem dX2_passRounds_53 : decode cX2_passRounds 53 = .ok (.iload_n 2, 1) := by decide +kernel
theorem dX2_passRounds_54 : decode cX2_passRounds 54 = .ok (.ireturn, 1) := by decide +kernel
set_option maxRecDepth 20000 in
theorem ggX2_delegates_X2_told : GoodIn wsX2_delegates wsX2_told := goodIn_r _ [6, 7, 8, 9, 10, 11, 12, 13, 14, 15, 16, 17, 18] (by decide +kernel) (by decide +kernel)
set_option maxRecDepth 20000 in
theorem gX2_delegates_X2_told : GoodIn wsX2_delegates (wsV RX2 113 RX2 yX2_told wsX2_told) := goodIn_app (goodIn_of _ (by decide +kernel)) ggX2_delegates_X2_told
theorem dX2_delegates_0 : decode cX2_delegates 0 = .ok (.aload_n 0, 1) := by decide +kernel
theorem dX2_delegates_1 : decode cX2_delegates 1 = .ok (.aload_n 0, 1) := by decide +kernel
theorem dX2_delegates_2 : decode cX2_delegates 2 = .ok (.getfield 38, 3) := by decide +kernel
theorem dX2_delegates_5 : decode cX2_delegates 5 = .ok (.invokevirtual 113, 3) := by decide +kernel
theorem dX2_delegates_8 : decode cX2_delegates 8 = .ok (.ireturn, 1) := by decide +kernel
set_option maxRecDepth 20000 in
theorem ggX2_rounds_X2_told : GoodIn wsX2_rounds wsX2_told := goodIn_r _ [6, 7, 8, 9, 10, 11, 12, 13, 14, 15, 16, 17, 18] (by decide +kernel) (by decide +kernel)
set_option maxRecDepth 20000 in
theorem gX2_rounds_X2_told : GoodIn wsX2_rounds (wsV RX2 113 RX2 yX2_told wsX2_told) := goodIn_app (goodIn_of _ (by decide +kernel)) ggX2_rounds_X2_told
theorem dX2_rounds_0 : decode cX2_rounds 0 = .ok (.aload_n 0, 1) := by decide +kernel
theorem dX2_rounds_1 : decode cX2_rounds 1 = .ok (.aload_n 0, 1) := by decide +kernel
theorem dX2_rounds_2 : decode cX2_rounds 2 = .ok (.getfield 110, 3) := by decide +kernel
theorem dX2_rounds_5 : decode cX2_rounds 5 = .ok (.invokevirtual 113, 3) := by decide +kernel
theorem dX2_rounds_8 : decode cX2_rounds 8 = .ok (.ireturn, 1) := by decide +kernel
set_option maxRecDepth 20000 in
theorem ggX2_strength_X2_told : GoodIn wsX2_strength wsX2_told := goodIn_r _ [6, 7, 8, 9, 10, 11, 12, 13, 14, 15, 16, 17, 18] (by decide +kernel) (by decide +kernel)
set_option maxRecDepth 20000 in
theorem gX2_strength_X2_told : GoodIn wsX2_strength (wsV RX2 113 RX2 yX2_told wsX2_told) := goodIn_app (goodIn_of _ (by decide +kernel)) ggX2_strength_X2_told
theorem dX2_strength_0 : decode cX2_strength 0 = .ok (.aload_n 0, 1) := by decide +kernel
theorem dX2_strength_1 : decode cX2_strength 1 = .ok (.aload_n 0, 1) := by decide +kernel
theorem dX2_strength_2 : decode cX2_strength 2 = .ok (.getfield 7, 3) := by decide +kernel
theorem dX2_strength_5 : decode cX2_strength 5 = .ok (.invokevirtual 113, 3) := by decide +kernel
theorem dX2_strength_8 : decode cX2_strength 8 = .ok (.ireturn, 1) := by decide +kernel
set_option maxRecDepth 20000 in
theorem ggX2_of_X2_isDelegate : GoodIn wsX2_of wsX2_isDelegate := goodIn_r _ [6, 7, 8, 9, 5, 10, 15, 16, 17, 18, 19, 20, 21, 22, 23, 24, 25] (by decide +kernel) (by decide +kernel)
set_option maxRecDepth 20000 in
theorem gX2_of_X2_isDelegate : GoodIn wsX2_of (wsV RX2 96 RX2 yX2_isDelegate wsX2_isDelegate) := goodIn_app (goodIn_of _ (by decide +kernel)) ggX2_of_X2_isDelegate
set_option maxRecDepth 20000 in
theorem ggX2_of_X2_fail : GoodIn wsX2_of wsX2_fail := goodIn_r _ [14, 1, 15, 16, 17, 18, 19, 20, 21, 22, 23, 24, 25] (by decide +kernel) (by decide +kernel)
set_option maxRecDepth 20000 in
theorem gX2_of_X2_fail : GoodIn wsX2_of (wsV RX2 93 RX2 yX2_fail wsX2_fail) := goodIn_app (goodIn_of _ (by decide +kernel)) ggX2_of_X2_fail
theorem dX2_of_0 : decode cX2_of 0 = .ok (.aload_n 0, 1) := by decide +kernel
theorem dX2_of_1 : decode cX2_of 1 = .ok (.iconst 0, 1) := by decide +kernel
theorem dX2_of_2 : decode cX2_of 2 = .ok (.putfield 35, 3) := by decide +kernel
theorem dX2_of_5 : decode cX2_of 5 = .ok (.aload_n 0, 1) := by decide +kernel
theorem dX2_of_6 : decode cX2_of 6 = .ok (.iload_n 1, 1) := by decide +kernel
theorem dX2_of_7 : decode cX2_of 7 = .ok (.invokevirtual 96, 3) := by decide +kernel
theorem dX2_of_10 : decode cX2_of 10 = .ok (.ifCond .eq 9, 3) := by decide +kernel
theorem dX2_of_13 : decode cX2_of 13 = .ok (.aload_n 2, 1) := by decide +kernel
theorem dX2_of_14 : decode cX2_of 14 = .ok (.iload_n 1, 1) := by decide +kernel
theorem dX2_of_15 : decode cX2_of 15 = .ok (.iaload, 1) := by decide +kernel
theorem dX2_of_16 : decode cX2_of 16 = .ok (.goto 8, 3) := by decide +kernel
theorem dX2_of_19 : decode cX2_of 19 = .ok (.aload_n 0, 1) := by decide +kernel
theorem dX2_of_20 : decode cX2_of 20 = .ok (.iconst 1, 1) := by decide +kernel
theorem dX2_of_21 : decode cX2_of 21 = .ok (.invokevirtual 93, 3) := by decide +kernel
theorem dX2_of_24 : decode cX2_of 24 = .ok (.ireturn, 1) := by decide +kernel
set_option maxRecDepth 20000 in
theorem ggX2_villageOf_X2_of : GoodIn wsX2_villageOf wsX2_of := goodIn_r _ [6, 7, 8, 9, 10, 5, 11, 12, 13, 14, 15, 16, 17, 18, 19, 20, 21, 22, 23, 24, 25, 26, 27, 28, 29, 30] (by decide +kernel) (by decide +kernel)
set_option maxRecDepth 20000 in
theorem gX2_villageOf_X2_of : GoodIn wsX2_villageOf (wsV RX2 116 RX2 yX2_of wsX2_of) := goodIn_app (goodIn_of _ (by decide +kernel)) ggX2_villageOf_X2_of
theorem dX2_villageOf_0 : decode cX2_villageOf 0 = .ok (.aload_n 0, 1) := by decide +kernel
theorem dX2_villageOf_1 : decode cX2_villageOf 1 = .ok (.iload_n 1, 1) := by decide +kernel
theorem dX2_villageOf_2 : decode cX2_villageOf 2 = .ok (.aload_n 0, 1) := by decide +kernel
theorem dX2_villageOf_3 : decode cX2_villageOf 3 = .ok (.getfield 13, 3) := by decide +kernel
theorem dX2_villageOf_6 : decode cX2_villageOf 6 = .ok (.invokevirtual 116, 3) := by decide +kernel
theorem dX2_villageOf_9 : decode cX2_villageOf 9 = .ok (.ireturn, 1) := by decide +kernel
set_option maxRecDepth 20000 in
theorem ggX2_wishOf_X2_of : GoodIn wsX2_wishOf wsX2_of := goodIn_r _ [6, 7, 8, 9, 10, 5, 11, 12, 13, 14, 15, 16, 17, 18, 19, 20, 21, 22, 23, 24, 25, 26, 27, 28, 29, 30] (by decide +kernel) (by decide +kernel)
set_option maxRecDepth 20000 in
theorem gX2_wishOf_X2_of : GoodIn wsX2_wishOf (wsV RX2 116 RX2 yX2_of wsX2_of) := goodIn_app (goodIn_of _ (by decide +kernel)) ggX2_wishOf_X2_of
theorem dX2_wishOf_0 : decode cX2_wishOf 0 = .ok (.aload_n 0, 1) := by decide +kernel
theorem dX2_wishOf_1 : decode cX2_wishOf 1 = .ok (.iload_n 1, 1) := by decide +kernel
theorem dX2_wishOf_2 : decode cX2_wishOf 2 = .ok (.aload_n 0, 1) := by decide +kernel
theorem dX2_wishOf_3 : decode cX2_wishOf 3 = .ok (.getfield 17, 3) := by decide +kernel
theorem dX2_wishOf_6 : decode cX2_wishOf 6 = .ok (.invokevirtual 116, 3) := by decide +kernel
theorem dX2_wishOf_9 : decode cX2_wishOf 9 = .ok (.ireturn, 1) := by decide +kernel
set_option maxRecDepth 20000 in
theorem ggX2_reachOf_X2_of : GoodIn wsX2_reachOf wsX2_of := goodIn_r _ [6, 7, 8, 9, 10, 5, 11, 12, 13, 14, 15, 16, 17, 18, 19, 20, 21, 22, 23, 24, 25, 26, 27, 28, 29, 30] (by decide +kernel) (by decide +kernel)
set_option maxRecDepth 20000 in
theorem gX2_reachOf_X2_of : GoodIn wsX2_reachOf (wsV RX2 116 RX2 yX2_of wsX2_of) := goodIn_app (goodIn_of _ (by decide +kernel)) ggX2_reachOf_X2_of
theorem dX2_reachOf_0 : decode cX2_reachOf 0 = .ok (.aload_n 0, 1) := by decide +kernel
theorem dX2_reachOf_1 : decode cX2_reachOf 1 = .ok (.iload_n 1, 1) := by decide +kernel
theorem dX2_reachOf_2 : decode cX2_reachOf 2 = .ok (.aload_n 0, 1) := by decide +kernel
theorem dX2_reachOf_3 : decode cX2_reachOf 3 = .ok (.getfield 20, 3) := by decide +kernel
theorem dX2_reachOf_6 : decode cX2_reachOf 6 = .ok (.invokevirtual 116, 3) := by decide +kernel
theorem dX2_reachOf_9 : decode cX2_reachOf 9 = .ok (.ireturn, 1) := by decide +kernel
set_option maxRecDepth 20000 in
theorem ggX2_paceOf_X2_of : GoodIn wsX2_paceOf wsX2_of := goodIn_r _ [6, 7, 8, 9, 10, 5, 11, 12, 13, 14, 15, 16, 17, 18, 19, 20, 21, 22, 23, 24, 25, 26, 27, 28, 29, 30] (by decide +kernel) (by decide +kernel)
set_option maxRecDepth 20000 in
theorem gX2_paceOf_X2_of : GoodIn wsX2_paceOf (wsV RX2 116 RX2 yX2_of wsX2_of) := goodIn_app (goodIn_of _ (by decide +kernel)) ggX2_paceOf_X2_of
theorem dX2_paceOf_0 : decode cX2_paceOf 0 = .ok (.aload_n 0, 1) := by decide +kernel
theorem dX2_paceOf_1 : decode cX2_paceOf 1 = .ok (.iload_n 1, 1) := by decide +kernel
theorem dX2_paceOf_2 : decode cX2_paceOf 2 = .ok (.aload_n 0, 1) := by decide +kernel
theorem dX2_paceOf_3 : decode cX2_paceOf 3 = .ok (.getfield 23, 3) := by decide +kernel
theorem dX2_paceOf_6 : decode cX2_paceOf 6 = .ok (.invokevirtual 116, 3) := by decide +kernel
theorem dX2_paceOf_9 : decode cX2_paceOf 9 = .ok (.ireturn, 1) := by decide +kernel
set_option maxRecDepth 20000 in
theorem ggX2_plankOf_X2_of : GoodIn wsX2_plankOf wsX2_of := goodIn_r _ [6, 7, 8, 9, 10, 5, 11, 12, 13, 14, 15, 16, 17, 18, 19, 20, 21, 22, 23, 24, 25, 26, 27, 28, 29, 30] (by decide +kernel) (by decide +kernel)
set_option maxRecDepth 20000 in
theorem gX2_plankOf_X2_of : GoodIn wsX2_plankOf (wsV RX2 116 RX2 yX2_of wsX2_of) := goodIn_app (goodIn_of _ (by decide +kernel)) ggX2_plankOf_X2_of
theorem dX2_plankOf_0 : decode cX2_plankOf 0 = .ok (.aload_n 0, 1) := by decide +kernel
theorem dX2_plankOf_1 : decode cX2_plankOf 1 = .ok (.iload_n 1, 1) := by decide +kernel
theorem dX2_plankOf_2 : decode cX2_plankOf 2 = .ok (.aload_n 0, 1) := by decide +kernel
theorem dX2_plankOf_3 : decode cX2_plankOf 3 = .ok (.getfield 26, 3) := by decide +kernel
theorem dX2_plankOf_6 : decode cX2_plankOf 6 = .ok (.invokevirtual 116, 3) := by decide +kernel
theorem dX2_plankOf_9 : decode cX2_plankOf 9 = .ok (.ireturn, 1) := by decide +kernel
set_option maxRecDepth 20000 in
theorem ggX2_standingOn_X2_isPlank : GoodIn wsX2_standingOn wsX2_isPlank := goodIn_r _ [5, 6, 7, 4, 8] (by decide +kernel) (by decide +kernel)
set_option maxRecDepth 20000 in
theorem gX2_standingOn_X2_isPlank : GoodIn wsX2_standingOn (va_wsS RX2 90 yX2_isPlank wsX2_isPlank) := goodIn_app (goodIn_of _ (by decide +kernel)) ggX2_standingOn_X2_isPlank
set_option maxRecDepth 20000 in
theorem ggX2_standingOn_X2_standing : GoodIn wsX2_standingOn wsX2_standing := goodIn_r _ [12, 13, 14, 19, 20, 21, 22, 23, 24, 25, 26, 27, 28, 29] (by decide +kernel) (by decide +kernel)
set_option maxRecDepth 20000 in
theorem gX2_standingOn_X2_standing : GoodIn wsX2_standingOn (wsV RX2 51 RX2 yX2_standing wsX2_standing) := goodIn_app (goodIn_of _ (by decide +kernel)) ggX2_standingOn_X2_standing
set_option maxRecDepth 20000 in
theorem ggX2_standingOn_X2_fail : GoodIn wsX2_standingOn wsX2_fail := goodIn_r _ [18, 1, 19, 20, 21, 22, 23, 24, 25, 26, 27, 28, 29] (by decide +kernel) (by decide +kernel)
set_option maxRecDepth 20000 in
theorem gX2_standingOn_X2_fail : GoodIn wsX2_standingOn (wsV RX2 93 RX2 yX2_fail wsX2_fail) := goodIn_app (goodIn_of _ (by decide +kernel)) ggX2_standingOn_X2_fail
theorem dX2_standingOn_0 : decode cX2_standingOn 0 = .ok (.aload_n 0, 1) := by decide +kernel
theorem dX2_standingOn_1 : decode cX2_standingOn 1 = .ok (.iconst 0, 1) := by decide +kernel
theorem dX2_standingOn_2 : decode cX2_standingOn 2 = .ok (.putfield 35, 3) := by decide +kernel
theorem dX2_standingOn_5 : decode cX2_standingOn 5 = .ok (.iload_n 1, 1) := by decide +kernel
theorem dX2_standingOn_6 : decode cX2_standingOn 6 = .ok (.invokestatic 90, 3) := by decide +kernel
theorem dX2_standingOn_9 : decode cX2_standingOn 9 = .ok (.ifCond .eq 11, 3) := by decide +kernel
theorem dX2_standingOn_12 : decode cX2_standingOn 12 = .ok (.aload_n 0, 1) := by decide +kernel
theorem dX2_standingOn_13 : decode cX2_standingOn 13 = .ok (.iload_n 1, 1) := by decide +kernel
theorem dX2_standingOn_14 : decode cX2_standingOn 14 = .ok (.invokevirtual 51, 3) := by decide +kernel
theorem dX2_standingOn_17 : decode cX2_standingOn 17 = .ok (.goto 8, 3) := by decide +kernel
theorem dX2_standingOn_20 : decode cX2_standingOn 20 = .ok (.aload_n 0, 1) := by decide +kernel
theorem dX2_standingOn_21 : decode cX2_standingOn 21 = .ok (.iconst 1, 1) := by decide +kernel
theorem dX2_standingOn_22 : decode cX2_standingOn 22 = .ok (.invokevirtual 93, 3) := by decide +kernel
theorem dX2_standingOn_25 : decode cX2_standingOn 25 = .ok (.ireturn, 1) := by decide +kernel
set_option maxRecDepth 20000 in
theorem ggX2_spread_X2_wide : GoodIn wsX2_spread wsX2_wide := goodIn_r _ [5, 6, 7, 8, 9, 10, 11, 12, 13, 14, 20, 21, 22, 23, 24, 25, 26, 27, 28, 29, 30] (by decide +kernel) (by decide +kernel)
set_option maxRecDepth 20000 in
theorem gX2_spread_X2_wide : GoodIn wsX2_spread (wsV RX2 81 RX2 yX2_wide wsX2_wide) := goodIn_app (goodIn_of _ (by decide +kernel)) ggX2_spread_X2_wide
set_option maxRecDepth 20000 in
theorem ggX2_spread_X2_told : GoodIn wsX2_spread wsX2_told := goodIn_r _ [18, 19, 20, 21, 22, 23, 24, 25, 26, 27, 28, 29, 30] (by decide +kernel) (by decide +kernel)
set_option maxRecDepth 20000 in
theorem gX2_spread_X2_told : GoodIn wsX2_spread (wsV RX2 113 RX2 yX2_told wsX2_told) := goodIn_app (goodIn_of _ (by decide +kernel)) ggX2_spread_X2_told
theorem dX2_spread_0 : decode cX2_spread 0 = .ok (.aload_n 0, 1) := by decide +kernel
theorem dX2_spread_1 : decode cX2_spread 1 = .ok (.aload_n 0, 1) := by decide +kernel
theorem dX2_spread_2 : decode cX2_spread 2 = .ok (.invokevirtual 81, 3) := by decide +kernel
theorem dX2_spread_5 : decode cX2_spread 5 = .ok (.invokevirtual 113, 3) := by decide +kernel
theorem dX2_spread_8 : decode cX2_spread 8 = .ok (.ireturn, 1) := by decide +kernel
set_option maxRecDepth 20000 in
theorem ggX2_isTreaty_X2_agree : GoodIn wsX2_isTreaty wsX2_agree := goodIn_r _ [6, 7, 8, 9, 10, 11, 5, 12, 13, 14, 15, 16, 17, 18, 19, 20, 21, 22, 23, 24, 25, 26, 27, 28, 29, 30, 31] (by decide +kernel) (by decide +kernel)
set_option maxRecDepth 20000 in
theorem gX2_isTreaty_X2_agree : GoodIn wsX2_isTreaty (wsV RX2 120 RX2 yX2_agree wsX2_agree) := goodIn_app (goodIn_of _ (by decide +kernel)) ggX2_isTreaty_X2_agree
theorem dX2_isTreaty_0 : decode cX2_isTreaty 0 = .ok (.aload_n 0, 1) := by decide +kernel
theorem dX2_isTreaty_1 : decode cX2_isTreaty 1 = .ok (.iconst 0, 1) := by decide +kernel
theorem dX2_isTreaty_2 : decode cX2_isTreaty 2 = .ok (.putfield 35, 3) := by decide +kernel
theorem dX2_isTreaty_5 : decode cX2_isTreaty 5 = .ok (.aload_n 0, 1) := by decide +kernel
theorem dX2_isTreaty_6 : decode cX2_isTreaty 6 = .ok (.invokevirtual 120, 3) := by decide +kernel
theorem dX2_isTreaty_9 : decode cX2_isTreaty 9 = .ok (.ireturn, 1) := by decide +kernel
set_option maxRecDepth 20000 in
theorem ggX2_compromise_X2_fail : GoodIn wsX2_compromise wsX2_fail := goodIn_r _ [7, 1, 19, 20, 21, 22, 23, 24, 25, 26, 27, 28, 29] (by decide +kernel) (by decide +kernel)
set_option maxRecDepth 20000 in
theorem gX2_compromise_X2_fail : GoodIn wsX2_compromise (wsV RX2 93 RX2 yX2_fail wsX2_fail) := goodIn_app (goodIn_of _ (by decide +kernel)) ggX2_compromise_X2_fail
set_option maxRecDepth 20000 in
theorem ggX2_compromise_X2_middle : GoodIn wsX2_compromise wsX2_middle := goodIn_r _ [11, 12, 13, 14, 6, 15, 16, 2, 17, 18, 19, 20, 21, 22, 23, 24, 25, 26, 27, 28, 29] (by decide +kernel) (by decide +kernel)
set_option maxRecDepth 20000 in
theorem gX2_compromise_X2_middle : GoodIn wsX2_compromise (wsV RX2 70 RX2 yX2_middle wsX2_middle) := goodIn_app (goodIn_of _ (by decide +kernel)) ggX2_compromise_X2_middle
theorem dX2_compromise_0 : decode cX2_compromise 0 = .ok (.aload_n 0, 1) := by decide +kernel
theorem dX2_compromise_1 : decode cX2_compromise 1 = .ok (.iconst 0, 1) := by decide +kernel
theorem dX2_compromise_2 : decode cX2_compromise 2 = .ok (.putfield 35, 3) := by decide +kernel
theorem dX2_compromise_5 : decode cX2_compromise 5 = .ok (.aload_n 0, 1) := by decide +kernel
theorem dX2_compromise_6 : decode cX2_compromise 6 = .ok (.getfield 38, 3) := by decide +kernel
theorem dX2_compromise_9 : decode cX2_compromise 9 = .ok (.ifCond .ne 11, 3) := by decide +kernel
theorem dX2_compromise_12 : decode cX2_compromise 12 = .ok (.aload_n 0, 1) := by decide +kernel
theorem dX2_compromise_13 : decode cX2_compromise 13 = .ok (.iconst 1, 1) := by decide +kernel
theorem dX2_compromise_14 : decode cX2_compromise 14 = .ok (.invokevirtual 93, 3) := by decide +kernel
theorem dX2_compromise_17 : decode cX2_compromise 17 = .ok (.goto 7, 3) := by decide +kernel
theorem dX2_compromise_20 : decode cX2_compromise 20 = .ok (.aload_n 0, 1) := by decide +kernel
theorem dX2_compromise_21 : decode cX2_compromise 21 = .ok (.invokevirtual 70, 3) := by decide +kernel
theorem dX2_compromise_24 : decode cX2_compromise 24 = .ok (.ireturn, 1) := by decide +kernel
set_option maxRecDepth 20000 in
theorem ggX2_compromiseOf_X2_isVillage : GoodIn wsX2_compromiseOf wsX2_isVillage := goodIn_r _ [5, 6, 7, 4, 8] (by decide +kernel) (by decide +kernel)
set_option maxRecDepth 20000 in
theorem gX2_compromiseOf_X2_isVillage : GoodIn wsX2_compromiseOf (va_wsS RX2 87 yX2_isVillage wsX2_isVillage) := goodIn_app (goodIn_of _ (by decide +kernel)) ggX2_compromiseOf_X2_isVillage
set_option maxRecDepth 20000 in
theorem ggX2_compromiseOf_X2_fail : GoodIn wsX2_compromiseOf wsX2_fail := goodIn_r _ [12, 1, 21, 22, 23, 24, 25, 26, 27, 28, 29, 30, 31] (by decide +kernel) (by decide +kernel)
set_option maxRecDepth 20000 in
theorem gX2_compromiseOf_X2_fail : GoodIn wsX2_compromiseOf (wsV RX2 93 RX2 yX2_fail wsX2_fail) := goodIn_app (goodIn_of _ (by decide +kernel)) ggX2_compromiseOf_X2_fail
set_option maxRecDepth 20000 in
theorem ggX2_compromiseOf_X2_median : GoodIn wsX2_compromiseOf wsX2_median := goodIn_r _ [16, 17, 18, 19, 20, 21, 22, 23, 24, 25, 26, 27, 28, 29, 30, 31] (by decide +kernel) (by decide +kernel)
set_option maxRecDepth 20000 in
theorem gX2_compromiseOf_X2_median : GoodIn wsX2_compromiseOf (wsV RX2 60 RX2 yX2_median wsX2_median) := goodIn_app (goodIn_of _ (by decide +kernel)) ggX2_compromiseOf_X2_median
theorem dX2_compromiseOf_0 : decode cX2_compromiseOf 0 = .ok (.aload_n 0, 1) := by decide +kernel
theorem dX2_compromiseOf_1 : decode cX2_compromiseOf 1 = .ok (.iconst 0, 1) := by decide +kernel
theorem dX2_compromiseOf_2 : decode cX2_compromiseOf 2 = .ok (.putfield 35, 3) := by decide +kernel
theorem dX2_compromiseOf_5 : decode cX2_compromiseOf 5 = .ok (.iload_n 1, 1) := by decide +kernel
theorem dX2_compromiseOf_6 : decode cX2_compromiseOf 6 = .ok (.invokestatic 87, 3) := by decide +kernel
theorem dX2_compromiseOf_9 : decode cX2_compromiseOf 9 = .ok (.ifCond .ne 9, 3) := by decide +kernel
theorem dX2_compromiseOf_12 : decode cX2_compromiseOf 12 = .ok (.aload_n 0, 1) := by decide +kernel
theorem dX2_compromiseOf_13 : decode cX2_compromiseOf 13 = .ok (.iconst 1, 1) := by decide +kernel
theorem dX2_compromiseOf_14 : decode cX2_compromiseOf 14 = .ok (.invokevirtual 93, 3) := by decide +kernel
theorem dX2_compromiseOf_17 : decode cX2_compromiseOf 17 = .ok (.ireturn, 1) := by decide +kernel
theorem dX2_compromiseOf_18 : decode cX2_compromiseOf 18 = .ok (.aload_n 0, 1) := by decide +kernel
theorem dX2_compromiseOf_19 : decode cX2_compromiseOf 19 = .ok (.iload_n 1, 1) := by decide +kernel
theorem dX2_compromiseOf_20 : decode cX2_compromiseOf 20 = .ok (.iconst (-1), 1) := by decide +kernel
theorem dX2_compromiseOf_21 : decode cX2_compromiseOf 21 = .ok (.invokevirtual 60, 3) := by decide +kernel
theorem dX2_compromiseOf_24 : decode cX2_compromiseOf 24 = .ok (.istore_n 2, 1) := by decide +kernel
theorem dX2_compromiseOf_25 : decode cX2_compromiseOf 25 = .ok (.iload_n 2, 1) := by decide +kernel
theorem dX2_compromiseOf_26 : decode cX2_compromiseOf 26 = .ok (.iconst (-1), 1) := by decide +kernel
theorem dX2_compromiseOf_27 : decode cX2_compromiseOf 27 = .ok (.if_icmp .ne 11, 3) := by decide +kernel
theorem dX2_compromiseOf_30 : decode cX2_compromiseOf 30 = .ok (.aload_n 0, 1) := by decide +kernel
theorem dX2_compromiseOf_31 : decode cX2_compromiseOf 31 = .ok (.iconst 2, 1) := by decide +kernel
theorem dX2_compromiseOf_32 : decode cX2_compromiseOf 32 = .ok (.invokevirtual 93, 3) := by decide +kernel
theorem dX2_compromiseOf_35 : decode cX2_compromiseOf 35 = .ok (.goto 4, 3) := by decide +kernel
theorem dX2_compromiseOf_38 : decode cX2_compromiseOf 38 = .ok (.iload_n 2, 1) := by decide +kernel
theorem dX2_compromiseOf_39 : decode cX2_compromiseOf 39 = .ok (.ireturn, 1) := by decide +kernel
set_option maxRecDepth 20000 in
theorem ggX2_compromiseWithout_X2_isDelegate : GoodIn wsX2_compromiseWithout wsX2_isDelegate := goodIn_r _ [7, 2, 8, 9, 6, 10, 22, 23, 24, 25, 26, 27, 28, 29, 30, 31, 32] (by decide +kernel) (by decide +kernel)
set_option maxRecDepth 20000 in
theorem gX2_compromiseWithout_X2_isDelegate : GoodIn wsX2_compromiseWithout (wsV RX2 96 RX2 yX2_isDelegate wsX2_isDelegate) := goodIn_app (goodIn_of _ (by decide +kernel)) ggX2_compromiseWithout_X2_isDelegate
set_option maxRecDepth 20000 in
theorem ggX2_compromiseWithout_X2_fail : GoodIn wsX2_compromiseWithout wsX2_fail := goodIn_r _ [14, 1, 22, 23, 24, 25, 26, 27, 28, 29, 30, 31, 32] (by decide +kernel) (by decide +kernel)
set_option maxRecDepth 20000 in
theorem gX2_compromiseWithout_X2_fail : GoodIn wsX2_compromiseWithout (wsV RX2 93 RX2 yX2_fail wsX2_fail) := goodIn_app (goodIn_of _ (by decide +kernel)) ggX2_compromiseWithout_X2_fail
set_option maxRecDepth 20000 in
theorem ggX2_compromiseWithout_X2_median : GoodIn wsX2_compromiseWithout wsX2_median := goodIn_r _ [18, 19, 2, 20, 21, 22, 23, 24, 25, 26, 27, 28, 29, 30, 31, 32] (by decide +kernel) (by decide +kernel)
set_option maxRecDepth 20000 in
theorem gX2_compromiseWithout_X2_median : GoodIn wsX2_compromiseWithout (wsV RX2 60 RX2 yX2_median wsX2_median) := goodIn_app (goodIn_of _ (by decide +kernel)) ggX2_compromiseWithout_X2_median
theorem dX2_compromiseWithout_0 : decode cX2_compromiseWithout 0 = .ok (.aload_n 0, 1) := by decide +kernel
theorem dX2_compromiseWithout_1 : decode cX2_compromiseWithout 1 = .ok (.iconst 0, 1) := by decide +kernel
theorem dX2_compromiseWithout_2 : decode cX2_compromiseWithout 2 = .ok (.putfield 35, 3) := by decide +kernel
theorem dX2_compromiseWithout_5 : decode cX2_compromiseWithout 5 = .ok (.aload_n 0, 1) := by decide +kernel
theorem dX2_compromiseWithout_6 : decode cX2_compromiseWithout 6 = .ok (.iload_n 1, 1) := by decide +kernel
theorem dX2_compromiseWithout_7 : decode cX2_compromiseWithout 7 = .ok (.invokevirtual 96, 3) := by decide +kernel
theorem dX2_compromiseWithout_10 : decode cX2_compromiseWithout 10 = .ok (.ifCond .ne 9, 3) := by decide +kernel
theorem dX2_compromiseWithout_13 : decode cX2_compromiseWithout 13 = .ok (.aload_n 0, 1) := by decide +kernel
theorem dX2_compromiseWithout_14 : decode cX2_compromiseWithout 14 = .ok (.iconst 1, 1) := by decide +kernel
theorem dX2_compromiseWithout_15 : decode cX2_compromiseWithout 15 = .ok (.invokevirtual 93, 3) := by decide +kernel
theorem dX2_compromiseWithout_18 : decode cX2_compromiseWithout 18 = .ok (.ireturn, 1) := by decide +kernel
theorem dX2_compromiseWithout_19 : decode cX2_compromiseWithout 19 = .ok (.aload_n 0, 1) := by decide +kernel
theorem dX2_compromiseWithout_20 : decode cX2_compromiseWithout 20 = .ok (.getfield 38, 3) := by decide +kernel
theorem dX2_compromiseWithout_23 : decode cX2_compromiseWithout 23 = .ok (.iconst 1, 1) := by decide +kernel
theorem dX2_compromiseWithout_24 : decode cX2_compromiseWithout 24 = .ok (.if_icmp .ne 11, 3) := by decide +kernel
theorem dX2_compromiseWithout_27 : decode cX2_compromiseWithout 27 = .ok (.aload_n 0, 1) := by decide +kernel
theorem dX2_compromiseWithout_28 : decode cX2_compromiseWithout 28 = .ok (.iconst 2, 1) := by decide +kernel
theorem dX2_compromiseWithout_29 : decode cX2_compromiseWithout 29 = .ok (.invokevirtual 93, 3) := by decide +kernel
theorem dX2_compromiseWithout_32 : decode cX2_compromiseWithout 32 = .ok (.goto 9, 3) := by decide +kernel
theorem dX2_compromiseWithout_35 : decode cX2_compromiseWithout 35 = .ok (.aload_n 0, 1) := by decide +kernel
theorem dX2_compromiseWithout_36 : decode cX2_compromiseWithout 36 = .ok (.iconst (-1), 1) := by decide +kernel
theorem dX2_compromiseWithout_37 : decode cX2_compromiseWithout 37 = .ok (.iload_n 1, 1) := by decide +kernel
theorem dX2_compromiseWithout_38 : decode cX2_compromiseWithout 38 = .ok (.invokevirtual 60, 3) := by decide +kernel
theorem dX2_compromiseWithout_41 : decode cX2_compromiseWithout 41 = .ok (.ireturn, 1) := by decide +kernel
set_option maxRecDepth 20000 in
theorem ggX2_decisive_X2_middle : GoodIn wsX2_decisive wsX2_middle := goodIn_r _ [6, 7, 8, 9, 5, 10, 11, 12, 13, 1, 14, 15, 16, 17, 18, 19, 20, 21, 22, 23, 24] (by decide +kernel) (by decide +kernel)
set_option maxRecDepth 20000 in
theorem gX2_decisive_X2_middle : GoodIn wsX2_decisive (wsV RX2 70 RX2 yX2_middle wsX2_middle) := goodIn_app (goodIn_of _ (by decide +kernel)) ggX2_decisive_X2_middle
theorem dX2_decisive_0 : decode cX2_decisive 0 = .ok (.aload_n 0, 1) := by decide +kernel
theorem dX2_decisive_1 : decode cX2_decisive 1 = .ok (.invokevirtual 70, 3) := by decide +kernel
theorem dX2_decisive_4 : decode cX2_decisive 4 = .ok (.istore_n 1, 1) := by decide +kernel
theorem dX2_decisive_5 : decode cX2_decisive 5 = .ok (.iconst 0, 1) := by decide +kernel
theorem dX2_decisive_6 : decode cX2_decisive 6 = .ok (.istore_n 2, 1) := by decide +kernel
theorem dX2_decisive_7 : decode cX2_decisive 7 = .ok (.aload_n 0, 1) := by decide +kernel
theorem dX2_decisive_8 : decode cX2_decisive 8 = .ok (.getfield 26, 3) := by decide +kernel
theorem dX2_decisive_11 : decode cX2_decisive 11 = .ok (.iload_n 2, 1) := by decide +kernel
theorem dX2_decisive_12 : decode cX2_decisive 12 = .ok (.iaload, 1) := by decide +kernel
theorem dX2_decisive_13 : decode cX2_decisive 13 = .ok (.iload_n 1, 1) := by decide +kernel
theorem dX2_decisive_14 : decode cX2_decisive 14 = .ok (.if_icmp .eq 9, 3) := by decide +kernel
theorem dX2_decisive_17 : decode cX2_decisive 17 = .ok (.iinc 2 1, 3) := by decide +kernel
theorem dX2_decisive_20 : decode cX2_decisive 20 = .ok (.goto (-13), 3) := by decide +kernel
theorem dX2_decisive_23 : decode cX2_decisive 23 = .ok (.iload_n 2, 1) := by decide +kernel
theorem dX2_decisive_24 : decode cX2_decisive 24 = .ok (.ireturn, 1) := by decide +kernel
set_option maxRecDepth 20000 in
theorem ggX2_decisiveOne_X2_fail : GoodIn wsX2_decisiveOne wsX2_fail := goodIn_r _ [7, 1, 23, 24, 25, 26, 27, 28, 29, 30, 31, 32, 33] (by decide +kernel) (by decide +kernel)
set_option maxRecDepth 20000 in
theorem gX2_decisiveOne_X2_fail : GoodIn wsX2_decisiveOne (wsV RX2 93 RX2 yX2_fail wsX2_fail) := goodIn_app (goodIn_of _ (by decide +kernel)) ggX2_decisiveOne_X2_fail
set_option maxRecDepth 20000 in
theorem ggX2_decisiveOne_X2_decisive : GoodIn wsX2_decisiveOne wsX2_decisive := goodIn_r _ [11, 12, 13, 14, 15, 6, 16, 17, 18, 19, 20, 21, 2, 22, 23, 24, 25, 26, 27, 28, 29, 30, 31, 32, 33] (by decide +kernel) (by decide +kernel)
set_option maxRecDepth 20000 in
theorem gX2_decisiveOne_X2_decisive : GoodIn wsX2_decisiveOne (wsV RX2 124 RX2 yX2_decisive wsX2_decisive) := goodIn_app (goodIn_of _ (by decide +kernel)) ggX2_decisiveOne_X2_decisive
theorem dX2_decisiveOne_0 : decode cX2_decisiveOne 0 = .ok (.aload_n 0, 1) := by decide +kernel
theorem dX2_decisiveOne_1 : decode cX2_decisiveOne 1 = .ok (.iconst 0, 1) := by decide +kernel
theorem dX2_decisiveOne_2 : decode cX2_decisiveOne 2 = .ok (.putfield 35, 3) := by decide +kernel
theorem dX2_decisiveOne_5 : decode cX2_decisiveOne 5 = .ok (.aload_n 0, 1) := by decide +kernel
theorem dX2_decisiveOne_6 : decode cX2_decisiveOne 6 = .ok (.getfield 38, 3) := by decide +kernel
theorem dX2_decisiveOne_9 : decode cX2_decisiveOne 9 = .ok (.ifCond .ne 11, 3) := by decide +kernel
theorem dX2_decisiveOne_12 : decode cX2_decisiveOne 12 = .ok (.aload_n 0, 1) := by decide +kernel
theorem dX2_decisiveOne_13 : decode cX2_decisiveOne 13 = .ok (.iconst 1, 1) := by decide +kernel
theorem dX2_decisiveOne_14 : decode cX2_decisiveOne 14 = .ok (.invokevirtual 93, 3) := by decide +kernel
theorem dX2_decisiveOne_17 : decode cX2_decisiveOne 17 = .ok (.goto 7, 3) := by decide +kernel
theorem dX2_decisiveOne_20 : decode cX2_decisiveOne 20 = .ok (.aload_n 0, 1) := by decide +kernel
theorem dX2_decisiveOne_21 : decode cX2_decisiveOne 21 = .ok (.invokevirtual 124, 3) := by decide +kernel
theorem dX2_decisiveOne_24 : decode cX2_decisiveOne 24 = .ok (.ireturn, 1) := by decide +kernel
theorem dX2_apart_0 : decode cX2_apart 0 = .ok (.aload_n 0, 1) := by decide +kernel
theorem dX2_apart_1 : decode cX2_apart 1 = .ok (.getfield 17, 3) := by decide +kernel
theorem dX2_apart_4 : decode cX2_apart 4 = .ok (.iload_n 1, 1) := by decide +kernel
theorem dX2_apart_5 : decode cX2_apart 5 = .ok (.iaload, 1) := by decide +kernel
theorem dX2_apart_6 : decode cX2_apart 6 = .ok (.iload_n 2, 1) := by decide +kernel
theorem dX2_apart_7 : decode cX2_apart 7 = .ok (.isub, 1) := by decide +kernel
theorem dX2_apart_8 : decode cX2_apart 8 = .ok (.invokestatic 55, 3) := by decide +kernel
theorem dX2_apart_11 : decode cX2_apart 11 = .ok (.ireturn, 1) := by decide +kernel
set_option maxRecDepth 20000 in
theorem ggX2_discontentOf_X2_isDelegate : GoodIn wsX2_discontentOf wsX2_isDelegate := goodIn_r _ [6, 7, 8, 9, 5, 10, 35, 36, 37, 38, 39, 40, 41, 42, 43, 44, 45] (by decide +kernel) (by decide +kernel)
set_option maxRecDepth 20000 in
theorem gX2_discontentOf_X2_isDelegate : GoodIn wsX2_discontentOf (wsV RX2 96 RX2 yX2_isDelegate wsX2_isDelegate) := goodIn_app (goodIn_of _ (by decide +kernel)) ggX2_discontentOf_X2_isDelegate
set_option maxRecDepth 20000 in
theorem ggX2_discontentOf_X2_middle : GoodIn wsX2_discontentOf wsX2_middle := goodIn_r _ [14, 15, 16, 17, 5, 18, 19, 7, 20, 21, 35, 36, 37, 38, 39, 40, 41, 42, 43, 44, 45] (by decide +kernel) (by decide +kernel)
set_option maxRecDepth 20000 in
theorem gX2_discontentOf_X2_middle : GoodIn wsX2_discontentOf (wsV RX2 70 RX2 yX2_middle wsX2_middle) := goodIn_app (goodIn_of _ (by decide +kernel)) ggX2_discontentOf_X2_middle
set_option maxRecDepth 20000 in
theorem ggX2_discontentOf_X2_apart : GoodIn wsX2_discontentOf wsX2_apart := goodIn_r _ [25, 26, 27, 28, 29, 30, 35, 36, 37, 38, 39, 40, 41, 42, 43, 44, 45] (by decide +kernel) (by decide +kernel)
set_option maxRecDepth 20000 in
theorem gX2_discontentOf_X2_apart : GoodIn wsX2_discontentOf (wsV RX2 127 RX2 yX2_apart wsX2_apart) := goodIn_app (goodIn_of _ (by decide +kernel)) ggX2_discontentOf_X2_apart
set_option maxRecDepth 20000 in
theorem ggX2_discontentOf_X2_fail : GoodIn wsX2_discontentOf wsX2_fail := goodIn_r _ [34, 1, 35, 36, 37, 38, 39, 40, 41, 42, 43, 44, 45] (by decide +kernel) (by decide +kernel)
set_option maxRecDepth 20000 in
theorem gX2_discontentOf_X2_fail : GoodIn wsX2_discontentOf (wsV RX2 93 RX2 yX2_fail wsX2_fail) := goodIn_app (goodIn_of _ (by decide +kernel)) ggX2_discontentOf_X2_fail
theorem dX2_discontentOf_0 : decode cX2_discontentOf 0 = .ok (.aload_n 0, 1) := by decide +kernel
theorem dX2_discontentOf_1 : decode cX2_discontentOf 1 = .ok (.iconst 0, 1) := by decide +kernel
theorem dX2_discontentOf_2 : decode cX2_discontentOf 2 = .ok (.putfield 35, 3) := by decide +kernel
theorem dX2_discontentOf_5 : decode cX2_discontentOf 5 = .ok (.aload_n 0, 1) := by decide +kernel
theorem dX2_discontentOf_6 : decode cX2_discontentOf 6 = .ok (.iload_n 1, 1) := by decide +kernel
theorem dX2_discontentOf_7 : decode cX2_discontentOf 7 = .ok (.invokevirtual 96, 3) := by decide +kernel
theorem dX2_discontentOf_10 : decode cX2_discontentOf 10 = .ok (.ifCond .eq 15, 3) := by decide +kernel
theorem dX2_discontentOf_13 : decode cX2_discontentOf 13 = .ok (.aload_n 0, 1) := by decide +kernel
theorem dX2_discontentOf_14 : decode cX2_discontentOf 14 = .ok (.iload_n 1, 1) := by decide +kernel
theorem dX2_discontentOf_15 : decode cX2_discontentOf 15 = .ok (.aload_n 0, 1) := by decide +kernel
theorem dX2_discontentOf_16 : decode cX2_discontentOf 16 = .ok (.invokevirtual 70, 3) := by decide +kernel
theorem dX2_discontentOf_19 : decode cX2_discontentOf 19 = .ok (.invokevirtual 127, 3) := by decide +kernel
theorem dX2_discontentOf_22 : decode cX2_discontentOf 22 = .ok (.goto 8, 3) := by decide +kernel
theorem dX2_discontentOf_25 : decode cX2_discontentOf 25 = .ok (.aload_n 0, 1) := by decide +kernel
theorem dX2_discontentOf_26 : decode cX2_discontentOf 26 = .ok (.iconst 1, 1) := by decide +kernel
theorem dX2_discontentOf_27 : decode cX2_discontentOf 27 = .ok (.invokevirtual 93, 3) := by decide +kernel
theorem dX2_discontentOf_30 : decode cX2_discontentOf 30 = .ok (.ireturn, 1) := by decide +kernel
set_option maxRecDepth 20000 in
theorem ggX2_allApart_X2_apart : GoodIn wsX2_allApart wsX2_apart := goodIn_r _ [6, 7, 8, 9, 10, 11, 12, 13, 14, 15, 16, 17, 18, 19, 20, 21, 22] (by decide +kernel) (by decide +kernel)
set_option maxRecDepth 20000 in
theorem gX2_allApart_X2_apart : GoodIn wsX2_allApart (wsV RX2 127 RX2 yX2_apart wsX2_apart) := goodIn_app (goodIn_of _ (by decide +kernel)) ggX2_allApart_X2_apart
theorem dX2_allApart_0 : decode cX2_allApart 0 = .ok (.iconst 0, 1) := by decide +kernel
theorem dX2_allApart_1 : decode cX2_allApart 1 = .ok (.istore_n 2, 1) := by decide +kernel
theorem dX2_allApart_2 : decode cX2_allApart 2 = .ok (.iconst 0, 1) := by decide +kernel
theorem dX2_allApart_3 : decode cX2_allApart 3 = .ok (.istore_n 3, 1) := by decide +kernel
theorem dX2_allApart_4 : decode cX2_allApart 4 = .ok (.iload_n 3, 1) := by decide +kernel
theorem dX2_allApart_5 : decode cX2_allApart 5 = .ok (.aload_n 0, 1) := by decide +kernel
theorem dX2_allApart_6 : decode cX2_allApart 6 = .ok (.getfield 38, 3) := by decide +kernel
theorem dX2_allApart_9 : decode cX2_allApart 9 = .ok (.if_icmp .ge 18, 3) := by decide +kernel
theorem dX2_allApart_12 : decode cX2_allApart 12 = .ok (.iload_n 2, 1) := by decide +kernel
theorem dX2_allApart_13 : decode cX2_allApart 13 = .ok (.aload_n 0, 1) := by decide +kernel
theorem dX2_allApart_14 : decode cX2_allApart 14 = .ok (.iload_n 3, 1) := by decide +kernel
theorem dX2_allApart_15 : decode cX2_allApart 15 = .ok (.iload_n 1, 1) := by decide +kernel
theorem dX2_allApart_16 : decode cX2_allApart 16 = .ok (.invokevirtual 127, 3) := by decide +kernel
theorem dX2_allApart_19 : decode cX2_allApart 19 = .ok (.iadd, 1) := by decide +kernel
theorem dX2_allApart_20 : decode cX2_allApart 20 = .ok (.istore_n 2, 1) := by decide +kernel
theorem dX2_allApart_21 : decode cX2_allApart 21 = .ok (.iinc 3 1, 3) := by decide +kernel
theorem dX2_allApart_24 : decode cX2_allApart 24 = .ok (.goto (-20), 3) := by decide +kernel
theorem dX2_allApart_27 : decode cX2_allApart 27 = .ok (.iload_n 2, 1) := by decide +kernel
theorem dX2_allApart_28 : decode cX2_allApart 28 = .ok (.ireturn, 1) := by decide +kernel
set_option maxRecDepth 20000 in
theorem ggX2_allDiscontent_X2_middle : GoodIn wsX2_allDiscontent wsX2_middle := goodIn_r _ [5, 6, 7, 8, 4, 9, 10, 11, 12, 13, 32, 33, 34, 35, 36, 37, 38, 39, 40, 41, 42] (by decide +kernel) (by decide +kernel)
set_option maxRecDepth 20000 in
theorem gX2_allDiscontent_X2_middle : GoodIn wsX2_allDiscontent (wsV RX2 70 RX2 yX2_middle wsX2_middle) := goodIn_app (goodIn_of _ (by decide +kernel)) ggX2_allDiscontent_X2_middle
set_option maxRecDepth 20000 in
theorem ggX2_allDiscontent_X2_allApart : GoodIn wsX2_allDiscontent wsX2_allApart := goodIn_r _ [17, 11, 18, 19, 20, 4, 21, 22, 23, 24, 25, 26, 32, 33, 34, 35, 36, 37, 38, 39, 40, 41, 42] (by decide +kernel) (by decide +kernel)
set_option maxRecDepth 20000 in
theorem gX2_allDiscontent_X2_allApart : GoodIn wsX2_allDiscontent (wsV RX2 130 RX2 yX2_allApart wsX2_allApart) := goodIn_app (goodIn_of _ (by decide +kernel)) ggX2_allDiscontent_X2_allApart
set_option maxRecDepth 20000 in
theorem ggX2_allDiscontent_X2_told : GoodIn wsX2_allDiscontent wsX2_told := goodIn_r _ [30, 31, 32, 33, 34, 35, 36, 37, 38, 39, 40, 41, 42] (by decide +kernel) (by decide +kernel)
set_option maxRecDepth 20000 in
theorem gX2_allDiscontent_X2_told : GoodIn wsX2_allDiscontent (wsV RX2 113 RX2 yX2_told wsX2_told) := goodIn_app (goodIn_of _ (by decide +kernel)) ggX2_allDiscontent_X2_told
theorem dX2_allDiscontent_0 : decode cX2_allDiscontent 0 = .ok (.aload_n 0, 1) := by decide +kernel
theorem dX2_allDiscontent_1 : decode cX2_allDiscontent 1 = .ok (.aload_n 0, 1) := by decide +kernel
theorem dX2_allDiscontent_2 : decode cX2_allDiscontent 2 = .ok (.aload_n 0, 1) := by decide +kernel
theorem dX2_allDiscontent_3 : decode cX2_allDiscontent 3 = .ok (.invokevirtual 70, 3) := by decide +kernel
theorem dX2_allDiscontent_6 : decode cX2_allDiscontent 6 = .ok (.invokevirtual 130, 3) := by decide +kernel
theorem dX2_allDiscontent_9 : decode cX2_allDiscontent 9 = .ok (.invokevirtual 113, 3) := by decide +kernel
theorem dX2_allDiscontent_12 : decode cX2_allDiscontent 12 = .ok (.ireturn, 1) := by decide +kernel
set_option maxRecDepth 20000 in
theorem ggX2_best_X2_allApart : GoodIn wsX2_best wsX2_allApart := goodIn_r _ [5, 6, 7, 8, 9, 4, 10, 11, 12, 13, 14, 15, 16, 17, 18, 19, 20, 21, 22, 23, 24, 25, 26] (by decide +kernel) (by decide +kernel)
set_option maxRecDepth 20000 in
theorem gX2_best_X2_allApart : GoodIn wsX2_best (wsV RX2 130 RX2 yX2_allApart wsX2_allApart) := goodIn_app (goodIn_of _ (by decide +kernel)) ggX2_best_X2_allApart
theorem dX2_best_0 : decode cX2_best 0 = .ok (.iconst 0, 1) := by decide +kernel
theorem dX2_best_1 : decode cX2_best 1 = .ok (.istore_n 1, 1) := by decide +kernel
theorem dX2_best_2 : decode cX2_best 2 = .ok (.iconst 1, 1) := by decide +kernel
theorem dX2_best_3 : decode cX2_best 3 = .ok (.istore_n 2, 1) := by decide +kernel
theorem dX2_best_4 : decode cX2_best 4 = .ok (.iload_n 2, 1) := by decide +kernel
theorem dX2_best_5 : decode cX2_best 5 = .ok (.bipush 41, 2) := by decide +kernel
theorem dX2_best_7 : decode cX2_best 7 = .ok (.if_icmp .ge 24, 3) := by decide +kernel
theorem dX2_best_10 : decode cX2_best 10 = .ok (.aload_n 0, 1) := by decide +kernel
theorem dX2_best_11 : decode cX2_best 11 = .ok (.iload_n 2, 1) := by decide +kernel
theorem dX2_best_12 : decode cX2_best 12 = .ok (.invokevirtual 130, 3) := by decide +kernel
theorem dX2_best_15 : decode cX2_best 15 = .ok (.aload_n 0, 1) := by decide +kernel
theorem dX2_best_16 : decode cX2_best 16 = .ok (.iload_n 1, 1) := by decide +kernel
theorem dX2_best_17 : decode cX2_best 17 = .ok (.invokevirtual 130, 3) := by decide +kernel
theorem dX2_best_20 : decode cX2_best 20 = .ok (.if_icmp .ge 5, 3) := by decide +kernel
theorem dX2_best_23 : decode cX2_best 23 = .ok (.iload_n 2, 1) := by decide +kernel
theorem dX2_best_24 : decode cX2_best 24 = .ok (.istore_n 1, 1) := by decide +kernel
theorem dX2_best_25 : decode cX2_best 25 = .ok (.iinc 2 1, 3) := by decide +kernel
theorem dX2_best_28 : decode cX2_best 28 = .ok (.goto (-24), 3) := by decide +kernel
theorem dX2_best_31 : decode cX2_best 31 = .ok (.iload_n 1, 1) := by decide +kernel
theorem dX2_best_32 : decode cX2_best 32 = .ok (.ireturn, 1) := by decide +kernel
set_option maxRecDepth 20000 in
theorem ggX2_bestPlank_X2_fail : GoodIn wsX2_bestPlank wsX2_fail := goodIn_r _ [7, 1, 25, 26, 27, 28, 29, 30, 31, 32, 33, 34, 35] (by decide +kernel) (by decide +kernel)
set_option maxRecDepth 20000 in
theorem gX2_bestPlank_X2_fail : GoodIn wsX2_bestPlank (wsV RX2 93 RX2 yX2_fail wsX2_fail) := goodIn_app (goodIn_of _ (by decide +kernel)) ggX2_bestPlank_X2_fail
set_option maxRecDepth 20000 in
theorem ggX2_bestPlank_X2_best : GoodIn wsX2_bestPlank wsX2_best := goodIn_r _ [11, 12, 13, 14, 6, 15, 2, 16, 17, 18, 19, 20, 21, 22, 23, 24, 25, 26, 27, 28, 29, 30, 31, 32, 33, 34, 35] (by decide +kernel) (by decide +kernel)
set_option maxRecDepth 20000 in
theorem gX2_bestPlank_X2_best : GoodIn wsX2_bestPlank (wsV RX2 133 RX2 yX2_best wsX2_best) := goodIn_app (goodIn_of _ (by decide +kernel)) ggX2_bestPlank_X2_best
theorem dX2_bestPlank_0 : decode cX2_bestPlank 0 = .ok (.aload_n 0, 1) := by decide +kernel
theorem dX2_bestPlank_1 : decode cX2_bestPlank 1 = .ok (.iconst 0, 1) := by decide +kernel
theorem dX2_bestPlank_2 : decode cX2_bestPlank 2 = .ok (.putfield 35, 3) := by decide +kernel
theorem dX2_bestPlank_5 : decode cX2_bestPlank 5 = .ok (.aload_n 0, 1) := by decide +kernel
theorem dX2_bestPlank_6 : decode cX2_bestPlank 6 = .ok (.getfield 38, 3) := by decide +kernel
theorem dX2_bestPlank_9 : decode cX2_bestPlank 9 = .ok (.ifCond .ne 11, 3) := by decide +kernel
theorem dX2_bestPlank_12 : decode cX2_bestPlank 12 = .ok (.aload_n 0, 1) := by decide +kernel
theorem dX2_bestPlank_13 : decode cX2_bestPlank 13 = .ok (.iconst 1, 1) := by decide +kernel
theorem dX2_bestPlank_14 : decode cX2_bestPlank 14 = .ok (.invokevirtual 93, 3) := by decide +kernel
theorem dX2_bestPlank_17 : decode cX2_bestPlank 17 = .ok (.goto 7, 3) := by decide +kernel
theorem dX2_bestPlank_20 : decode cX2_bestPlank 20 = .ok (.aload_n 0, 1) := by decide +kernel
theorem dX2_bestPlank_21 : decode cX2_bestPlank 21 = .ok (.invokevirtual 133, 3) := by decide +kernel
theorem dX2_bestPlank_24 : decode cX2_bestPlank 24 = .ok (.ireturn, 1) := by decide +kernel
set_option maxRecDepth 20000 in
theorem ggX2_votes_X2_apart : GoodIn wsX2_votes wsX2_apart := goodIn_r _ [6, 7, 8, 9, 10, 11, 12, 13, 14, 15, 16, 17, 18, 19, 20, 21, 22] (by decide +kernel) (by decide +kernel)
set_option maxRecDepth 20000 in
theorem gX2_votes_X2_apart : GoodIn wsX2_votes (wsV RX2 127 RX2 yX2_apart wsX2_apart) := goodIn_app (goodIn_of _ (by decide +kernel)) ggX2_votes_X2_apart
theorem dX2_votes_0 : decode cX2_votes 0 = .ok (.iconst 0, 1) := by decide +kernel
theorem dX2_votes_1 : decode cX2_votes 1 = .ok (.istore_n 3, 1) := by decide +kernel
theorem dX2_votes_2 : decode cX2_votes 2 = .ok (.iconst 0, 1) := by decide +kernel
theorem dX2_votes_3 : decode cX2_votes 3 = .ok (.istore 4, 2) := by decide +kernel
theorem dX2_votes_5 : decode cX2_votes 5 = .ok (.iload 4, 2) := by decide +kernel
theorem dX2_votes_7 : decode cX2_votes 7 = .ok (.aload_n 0, 1) := by decide +kernel
theorem dX2_votes_8 : decode cX2_votes 8 = .ok (.getfield 38, 3) := by decide +kernel
theorem dX2_votes_11 : decode cX2_votes 11 = .ok (.if_icmp .ge 34, 3) := by decide +kernel
theorem dX2_votes_14 : decode cX2_votes 14 = .ok (.iload_n 3, 1) := by decide +kernel
theorem dX2_votes_15 : decode cX2_votes 15 = .ok (.aload_n 0, 1) := by decide +kernel
theorem dX2_votes_16 : decode cX2_votes 16 = .ok (.iload 4, 2) := by decide +kernel
theorem dX2_votes_18 : decode cX2_votes 18 = .ok (.iload_n 1, 1) := by decide +kernel
theorem dX2_votes_19 : decode cX2_votes 19 = .ok (.invokevirtual 127, 3) := by decide +kernel
theorem dX2_votes_22 : decode cX2_votes 22 = .ok (.aload_n 0, 1) := by decide +kernel
theorem dX2_votes_23 : decode cX2_votes 23 = .ok (.iload 4, 2) := by decide +kernel
theorem dX2_votes_25 : decode cX2_votes 25 = .ok (.iload_n 2, 1) := by decide +kernel
theorem dX2_votes_26 : decode cX2_votes 26 = .ok (.invokevirtual 127, 3) := by decide +kernel
theorem dX2_votes_29 : decode cX2_votes 29 = .ok (.if_icmp .ge 7, 3) := by decide +kernel
theorem dX2_votes_32 : decode cX2_votes 32 = .ok (.iconst 1, 1) := by decide +kernel
theorem dX2_votes_33 : decode cX2_votes 33 = .ok (.goto 4, 3) := by decide +kernel
theorem dX2_votes_36 : decode cX2_votes 36 = .ok (.iconst 0, 1) := by decide +kernel
theorem dX2_votes_37 : decode cX2_votes 37 = .ok (.iadd, 1) := by decide +kernel
theorem dX2_votes_38 : decode cX2_votes 38 = .ok (.istore_n 3, 1) := by decide +kernel
theorem dX2_votes_39 : decode cX2_votes 39 = .ok (.iinc 4 1, 3) := by decide +kernel
theorem dX2_votes_42 : decode cX2_votes 42 = .ok (.goto (-37), 3) := by decide +kernel
theorem dX2_votes_45 : decode cX2_votes 45 = .ok (.iload_n 3, 1) := by decide +kernel
theorem dX2_votes_46 : decode cX2_votes 46 = .ok (.ireturn, 1) := by decide +kernel
set_option maxRecDepth 20000 in
theorem ggX2_areTwo_X2_isPlank : GoodIn wsX2_areTwo wsX2_isPlank := goodIn_r _ [5, 6, 7, 4, 8] (by decide +kernel) (by decide +kernel)
set_option maxRecDepth 20000 in
theorem gX2_areTwo_X2_isPlank : GoodIn wsX2_areTwo (va_wsS RX2 90 yX2_isPlank wsX2_isPlank) := goodIn_app (goodIn_of _ (by decide +kernel)) ggX2_areTwo_X2_isPlank
theorem dX2_areTwo_0 : decode cX2_areTwo 0 = .ok (.aload_n 0, 1) := by decide +kernel
theorem dX2_areTwo_1 : decode cX2_areTwo 1 = .ok (.iload_n 1, 1) := by decide +kernel
theorem dX2_areTwo_2 : decode cX2_areTwo 2 = .ok (.invokestatic 90, 3) := by decide +kernel
theorem dX2_areTwo_5 : decode cX2_areTwo 5 = .ok (.ifCond .eq 10, 3) := by decide +kernel
theorem dX2_areTwo_8 : decode cX2_areTwo 8 = .ok (.iload_n 2, 1) := by decide +kernel
theorem dX2_areTwo_9 : decode cX2_areTwo 9 = .ok (.invokestatic 90, 3) := by decide +kernel
theorem dX2_areTwo_12 : decode cX2_areTwo 12 = .ok (.ifCond .ne 7, 3) := by decide +kernel
theorem dX2_areTwo_15 : decode cX2_areTwo 15 = .ok (.iconst 1, 1) := by decide +kernel
theorem dX2_areTwo_16 : decode cX2_areTwo 16 = .ok (.goto 13, 3) := by decide +kernel
theorem dX2_areTwo_19 : decode cX2_areTwo 19 = .ok (.iload_n 1, 1) := by decide +kernel
theorem dX2_areTwo_20 : decode cX2_areTwo 20 = .ok (.iload_n 2, 1) := by decide +kernel
theorem dX2_areTwo_21 : decode cX2_areTwo 21 = .ok (.if_icmp .ne 7, 3) := by decide +kernel
theorem dX2_areTwo_24 : decode cX2_areTwo 24 = .ok (.iconst 2, 1) := by decide +kernel
theorem dX2_areTwo_25 : decode cX2_areTwo 25 = .ok (.goto 4, 3) := by decide +kernel
theorem dX2_areTwo_28 : decode cX2_areTwo 28 = .ok (.iconst 0, 1) := by decide +kernel
theorem dX2_areTwo_29 : decode cX2_areTwo 29 = .ok (.putfield 35, 3) := by decide +kernel
theorem dX2_areTwo_32 : decode cX2_areTwo 32 = .ok (.aload_n 0, 1) := by decide +kernel
theorem dX2_areTwo_33 : decode cX2_areTwo 33 = .ok (.getfield 35, 3) := by decide +kernel
theorem dX2_areTwo_36 : decode cX2_areTwo 36 = .ok (.ifCond .ne 7, 3) := by decide +kernel
theorem dX2_areTwo_39 : decode cX2_areTwo 39 = .ok (.iconst 1, 1) := by decide +kernel
theorem dX2_areTwo_40 : decode cX2_areTwo 40 = .ok (.goto 4, 3) := by decide +kernel
theorem dX2_areTwo_43 : decode cX2_areTwo 43 = .ok (.iconst 0, 1) := by decide +kernel
theorem dX2_areTwo_44 : decode cX2_areTwo 44 = .ok (.ireturn, 1) := by decide +kernel
set_option maxRecDepth 20000 in
theorem ggX2_votesFor_X2_areTwo : GoodIn wsX2_votesFor wsX2_areTwo := goodIn_r _ [5, 6, 7, 8, 4, 9, 10, 11, 12, 27, 28, 29, 30, 31, 32, 33, 34, 35, 36, 37] (by decide +kernel) (by decide +kernel)
set_option maxRecDepth 20000 in
theorem gX2_votesFor_X2_areTwo : GoodIn wsX2_votesFor (wsV RX2 136 RX2 yX2_areTwo wsX2_areTwo) := goodIn_app (goodIn_of _ (by decide +kernel)) ggX2_votesFor_X2_areTwo
set_option maxRecDepth 20000 in
theorem ggX2_votesFor_X2_votes : GoodIn wsX2_votesFor wsX2_votes := goodIn_r _ [16, 17, 18, 19, 20, 4, 21, 22, 23, 24, 25, 26, 27, 28, 29, 30, 31, 32, 33, 34, 35, 36, 37] (by decide +kernel) (by decide +kernel)
set_option maxRecDepth 20000 in
theorem gX2_votesFor_X2_votes : GoodIn wsX2_votesFor (wsV RX2 139 RX2 yX2_votes wsX2_votes) := goodIn_app (goodIn_of _ (by decide +kernel)) ggX2_votesFor_X2_votes
theorem dX2_votesFor_0 : decode cX2_votesFor 0 = .ok (.aload_n 0, 1) := by decide +kernel
theorem dX2_votesFor_1 : decode cX2_votesFor 1 = .ok (.iload_n 1, 1) := by decide +kernel
theorem dX2_votesFor_2 : decode cX2_votesFor 2 = .ok (.iload_n 2, 1) := by decide +kernel
theorem dX2_votesFor_3 : decode cX2_votesFor 3 = .ok (.invokevirtual 136, 3) := by decide +kernel
theorem dX2_votesFor_6 : decode cX2_votesFor 6 = .ok (.ifCond .eq 12, 3) := by decide +kernel
theorem dX2_votesFor_9 : decode cX2_votesFor 9 = .ok (.aload_n 0, 1) := by decide +kernel
theorem dX2_votesFor_10 : decode cX2_votesFor 10 = .ok (.iload_n 1, 1) := by decide +kernel
theorem dX2_votesFor_11 : decode cX2_votesFor 11 = .ok (.iload_n 2, 1) := by decide +kernel
theorem dX2_votesFor_12 : decode cX2_votesFor 12 = .ok (.invokevirtual 139, 3) := by decide +kernel
theorem dX2_votesFor_15 : decode cX2_votesFor 15 = .ok (.goto 4, 3) := by decide +kernel
theorem dX2_votesFor_18 : decode cX2_votesFor 18 = .ok (.iconst 0, 1) := by decide +kernel
theorem dX2_votesFor_19 : decode cX2_votesFor 19 = .ok (.ireturn, 1) := by decide +kernel
set_option maxRecDepth 20000 in
theorem ggX2_winnerOf_X2_areTwo : GoodIn wsX2_winnerOf wsX2_areTwo := goodIn_r _ [9, 10, 11, 12, 8, 13, 14, 15, 16, 30, 31, 32, 33, 34, 35, 36, 37, 38, 39, 40] (by decide +kernel) (by decide +kernel)
set_option maxRecDepth 20000 in
theorem gX2_winnerOf_X2_areTwo : GoodIn wsX2_winnerOf (wsV RX2 136 RX2 yX2_areTwo wsX2_areTwo) := goodIn_app (goodIn_of _ (by decide +kernel)) ggX2_winnerOf_X2_areTwo
set_option maxRecDepth 20000 in
theorem ggX2_winnerOf_X2_votes : GoodIn wsX2_winnerOf wsX2_votes := goodIn_r _ [20, 21, 22, 23, 24, 8, 25, 26, 27, 28, 3, 29, 30, 31, 32, 33, 34, 35, 36, 37, 38, 39, 40] (by decide +kernel) (by decide +kernel)
set_option maxRecDepth 20000 in
theorem gX2_winnerOf_X2_votes : GoodIn wsX2_winnerOf (wsV RX2 139 RX2 yX2_votes wsX2_votes) := goodIn_app (goodIn_of _ (by decide +kernel)) ggX2_winnerOf_X2_votes
theorem dX2_winnerOf_0 : decode cX2_winnerOf 0 = .ok (.aload_n 0, 1) := by decide +kernel
theorem dX2_winnerOf_1 : decode cX2_winnerOf 1 = .ok (.iload_n 1, 1) := by decide +kernel
theorem dX2_winnerOf_2 : decode cX2_winnerOf 2 = .ok (.iload_n 2, 1) := by decide +kernel
theorem dX2_winnerOf_3 : decode cX2_winnerOf 3 = .ok (.invokevirtual 136, 3) := by decide +kernel
theorem dX2_winnerOf_6 : decode cX2_winnerOf 6 = .ok (.ifCond .ne 5, 3) := by decide +kernel
theorem dX2_winnerOf_9 : decode cX2_winnerOf 9 = .ok (.iconst 0, 1) := by decide +kernel
theorem dX2_winnerOf_10 : decode cX2_winnerOf 10 = .ok (.ireturn, 1) := by decide +kernel
theorem dX2_winnerOf_11 : decode cX2_winnerOf 11 = .ok (.aload_n 0, 1) := by decide +kernel
theorem dX2_winnerOf_12 : decode cX2_winnerOf 12 = .ok (.iload_n 1, 1) := by decide +kernel
theorem dX2_winnerOf_13 : decode cX2_winnerOf 13 = .ok (.iload_n 2, 1) := by decide +kernel
theorem dX2_winnerOf_14 : decode cX2_winnerOf 14 = .ok (.invokevirtual 139, 3) := by decide +kernel
theorem dX2_winnerOf_17 : decode cX2_winnerOf 17 = .ok (.aload_n 0, 1) := by decide +kernel
theorem dX2_winnerOf_18 : decode cX2_winnerOf 18 = .ok (.iload_n 2, 1) := by decide +kernel
theorem dX2_winnerOf_19 : decode cX2_winnerOf 19 = .ok (.iload_n 1, 1) := by decide +kernel
theorem dX2_winnerOf_20 : decode cX2_winnerOf 20 = .ok (.invokevirtual 139, 3) := by decide +kernel
theorem dX2_winnerOf_23 : decode cX2_winnerOf 23 = .ok (.isub, 1) := by decide +kernel
theorem dX2_winnerOf_24 : decode cX2_winnerOf 24 = .ok (.istore_n 3, 1) := by decide +kernel
theorem dX2_winnerOf_25 : decode cX2_winnerOf 25 = .ok (.iload_n 3, 1) := by decide +kernel
theorem dX2_winnerOf_26 : decode cX2_winnerOf 26 = .ok (.ifCond .le 7, 3) := by decide +kernel
theorem dX2_winnerOf_29 : decode cX2_winnerOf 29 = .ok (.iload_n 1, 1) := by decide +kernel
theorem dX2_winnerOf_30 : decode cX2_winnerOf 30 = .ok (.goto 16, 3) := by decide +kernel
theorem dX2_winnerOf_33 : decode cX2_winnerOf 33 = .ok (.iload_n 3, 1) := by decide +kernel
theorem dX2_winnerOf_34 : decode cX2_winnerOf 34 = .ok (.ifCond .ge 7, 3) := by decide +kernel
theorem dX2_winnerOf_37 : decode cX2_winnerOf 37 = .ok (.iload_n 2, 1) := by decide +kernel
theorem dX2_winnerOf_38 : decode cX2_winnerOf 38 = .ok (.goto 8, 3) := by decide +kernel
theorem dX2_winnerOf_41 : decode cX2_winnerOf 41 = .ok (.iload_n 1, 1) := by decide +kernel
theorem dX2_winnerOf_42 : decode cX2_winnerOf 42 = .ok (.iload_n 2, 1) := by decide +kernel
theorem dX2_winnerOf_43 : decode cX2_winnerOf 43 = .ok (.invokestatic 64, 3) := by decide +kernel
theorem dX2_winnerOf_46 : decode cX2_winnerOf 46 = .ok (.ireturn, 1) := by decide +kernel
set_option maxRecDepth 20000 in
theorem ggX2_canLeadTo_X2_isDelegate : GoodIn wsX2_canLeadTo wsX2_isDelegate := goodIn_r _ [6, 7, 8, 9, 5, 10, 38, 39, 40, 41, 42, 43, 44, 45, 46, 47, 48] (by decide +kernel) (by decide +kernel)
set_option maxRecDepth 20000 in
theorem gX2_canLeadTo_X2_isDelegate : GoodIn wsX2_canLeadTo (wsV RX2 96 RX2 yX2_isDelegate wsX2_isDelegate) := goodIn_app (goodIn_of _ (by decide +kernel)) ggX2_canLeadTo_X2_isDelegate
set_option maxRecDepth 20000 in
theorem ggX2_canLeadTo_X2_isPlank : GoodIn wsX2_canLeadTo wsX2_isPlank := goodIn_r _ [13, 8, 9, 5, 10] (by decide +kernel) (by decide +kernel)
set_option maxRecDepth 20000 in
theorem gX2_canLeadTo_X2_isPlank : GoodIn wsX2_canLeadTo (va_wsS RX2 90 yX2_isPlank wsX2_isPlank) := goodIn_app (goodIn_of _ (by decide +kernel)) ggX2_canLeadTo_X2_isPlank
set_option maxRecDepth 20000 in
theorem ggX2_canLeadTo_X2_can : GoodIn wsX2_canLeadTo wsX2_can := goodIn_r _ [17, 18, 19, 20, 21, 5, 22, 23, 24, 25, 26, 27, 28, 29, 30, 31, 32, 33, 34, 35, 36, 37, 7, 38, 39, 40, 41, 42, 43, 44, 45, 46, 47, 48] (by decide +kernel) (by decide +kernel)
set_option maxRecDepth 20000 in
theorem gX2_canLeadTo_X2_can : GoodIn wsX2_canLeadTo (wsV RX2 107 RX2 yX2_can wsX2_can) := goodIn_app (goodIn_of _ (by decide +kernel)) ggX2_canLeadTo_X2_can
theorem dX2_canLeadTo_0 : decode cX2_canLeadTo 0 = .ok (.aload_n 0, 1) := by decide +kernel
theorem dX2_canLeadTo_1 : decode cX2_canLeadTo 1 = .ok (.aload_n 0, 1) := by decide +kernel
theorem dX2_canLeadTo_2 : decode cX2_canLeadTo 2 = .ok (.iload_n 1, 1) := by decide +kernel
theorem dX2_canLeadTo_3 : decode cX2_canLeadTo 3 = .ok (.invokevirtual 96, 3) := by decide +kernel
theorem dX2_canLeadTo_6 : decode cX2_canLeadTo 6 = .ok (.ifCond .eq 14, 3) := by decide +kernel
theorem dX2_canLeadTo_9 : decode cX2_canLeadTo 9 = .ok (.iload_n 2, 1) := by decide +kernel
theorem dX2_canLeadTo_10 : decode cX2_canLeadTo 10 = .ok (.invokestatic 90, 3) := by decide +kernel
theorem dX2_canLeadTo_13 : decode cX2_canLeadTo 13 = .ok (.ifCond .eq 7, 3) := by decide +kernel
theorem dX2_canLeadTo_16 : decode cX2_canLeadTo 16 = .ok (.iconst 0, 1) := by decide +kernel
theorem dX2_canLeadTo_17 : decode cX2_canLeadTo 17 = .ok (.goto 4, 3) := by decide +kernel
theorem dX2_canLeadTo_20 : decode cX2_canLeadTo 20 = .ok (.iconst 1, 1) := by decide +kernel
theorem dX2_canLeadTo_21 : decode cX2_canLeadTo 21 = .ok (.putfield 35, 3) := by decide +kernel
theorem dX2_canLeadTo_24 : decode cX2_canLeadTo 24 = .ok (.aload_n 0, 1) := by decide +kernel
theorem dX2_canLeadTo_25 : decode cX2_canLeadTo 25 = .ok (.getfield 35, 3) := by decide +kernel
theorem dX2_canLeadTo_28 : decode cX2_canLeadTo 28 = .ok (.ifCond .ne 16, 3) := by decide +kernel
theorem dX2_canLeadTo_31 : decode cX2_canLeadTo 31 = .ok (.aload_n 0, 1) := by decide +kernel
theorem dX2_canLeadTo_32 : decode cX2_canLeadTo 32 = .ok (.iload_n 1, 1) := by decide +kernel
theorem dX2_canLeadTo_33 : decode cX2_canLeadTo 33 = .ok (.iload_n 2, 1) := by decide +kernel
theorem dX2_canLeadTo_34 : decode cX2_canLeadTo 34 = .ok (.invokevirtual 107, 3) := by decide +kernel
theorem dX2_canLeadTo_37 : decode cX2_canLeadTo 37 = .ok (.ifCond .eq 7, 3) := by decide +kernel
theorem dX2_canLeadTo_40 : decode cX2_canLeadTo 40 = .ok (.iconst 1, 1) := by decide +kernel
theorem dX2_canLeadTo_41 : decode cX2_canLeadTo 41 = .ok (.goto 4, 3) := by decide +kernel
theorem dX2_canLeadTo_44 : decode cX2_canLeadTo 44 = .ok (.iconst 0, 1) := by decide +kernel
theorem dX2_canLeadTo_45 : decode cX2_canLeadTo 45 = .ok (.ireturn, 1) := by decide +kernel
set_option maxRecDepth 20000 in
theorem ggX2_wouldStepTo_X2_isDelegate : GoodIn wsX2_wouldStepTo wsX2_isDelegate := goodIn_r _ [6, 7, 8, 9, 5, 10, 40, 41, 42, 43, 44, 45, 46, 47, 48, 49, 50] (by decide +kernel) (by decide +kernel)
set_option maxRecDepth 20000 in
theorem gX2_wouldStepTo_X2_isDelegate : GoodIn wsX2_wouldStepTo (wsV RX2 96 RX2 yX2_isDelegate wsX2_isDelegate) := goodIn_app (goodIn_of _ (by decide +kernel)) ggX2_wouldStepTo_X2_isDelegate
set_option maxRecDepth 20000 in
theorem ggX2_wouldStepTo_X2_middle : GoodIn wsX2_wouldStepTo wsX2_middle := goodIn_r _ [14, 15, 16, 17, 5, 18, 19, 7, 20, 21, 40, 41, 42, 43, 44, 45, 46, 47, 48, 49, 50] (by decide +kernel) (by decide +kernel)
set_option maxRecDepth 20000 in
theorem gX2_wouldStepTo_X2_middle : GoodIn wsX2_wouldStepTo (wsV RX2 70 RX2 yX2_middle wsX2_middle) := goodIn_app (goodIn_of _ (by decide +kernel)) ggX2_wouldStepTo_X2_middle
set_option maxRecDepth 20000 in
theorem ggX2_wouldStepTo_X2_step : GoodIn wsX2_wouldStepTo wsX2_step := goodIn_r _ [25, 26, 27, 28, 29, 30, 31, 32, 33, 34, 21, 35, 40, 41, 42, 43, 44, 45, 46, 47, 48, 49, 50] (by decide +kernel) (by decide +kernel)
set_option maxRecDepth 20000 in
theorem gX2_wouldStepTo_X2_step : GoodIn wsX2_wouldStepTo (wsV RX2 74 RX2 yX2_step wsX2_step) := goodIn_app (goodIn_of _ (by decide +kernel)) ggX2_wouldStepTo_X2_step
set_option maxRecDepth 20000 in
theorem ggX2_wouldStepTo_X2_fail : GoodIn wsX2_wouldStepTo wsX2_fail := goodIn_r _ [39, 1, 40, 41, 42, 43, 44, 45, 46, 47, 48, 49, 50] (by decide +kernel) (by decide +kernel)
set_option maxRecDepth 20000 in
theorem gX2_wouldStepTo_X2_fail : GoodIn wsX2_wouldStepTo (wsV RX2 93 RX2 yX2_fail wsX2_fail) := goodIn_app (goodIn_of _ (by decide +kernel)) ggX2_wouldStepTo_X2_fail
theorem dX2_wouldStepTo_0 : decode cX2_wouldStepTo 0 = .ok (.aload_n 0, 1) := by decide +kernel
theorem dX2_wouldStepTo_1 : decode cX2_wouldStepTo 1 = .ok (.iconst 0, 1) := by decide +kernel
theorem dX2_wouldStepTo_2 : decode cX2_wouldStepTo 2 = .ok (.putfield 35, 3) := by decide +kernel
theorem dX2_wouldStepTo_5 : decode cX2_wouldStepTo 5 = .ok (.aload_n 0, 1) := by decide +kernel
theorem dX2_wouldStepTo_6 : decode cX2_wouldStepTo 6 = .ok (.iload_n 1, 1) := by decide +kernel
theorem dX2_wouldStepTo_7 : decode cX2_wouldStepTo 7 = .ok (.invokevirtual 96, 3) := by decide +kernel
theorem dX2_wouldStepTo_10 : decode cX2_wouldStepTo 10 = .ok (.ifCond .eq 15, 3) := by decide +kernel
theorem dX2_wouldStepTo_13 : decode cX2_wouldStepTo 13 = .ok (.aload_n 0, 1) := by decide +kernel
theorem dX2_wouldStepTo_14 : decode cX2_wouldStepTo 14 = .ok (.iload_n 1, 1) := by decide +kernel
theorem dX2_wouldStepTo_15 : decode cX2_wouldStepTo 15 = .ok (.aload_n 0, 1) := by decide +kernel
theorem dX2_wouldStepTo_16 : decode cX2_wouldStepTo 16 = .ok (.invokevirtual 70, 3) := by decide +kernel
theorem dX2_wouldStepTo_19 : decode cX2_wouldStepTo 19 = .ok (.invokevirtual 74, 3) := by decide +kernel
theorem dX2_wouldStepTo_22 : decode cX2_wouldStepTo 22 = .ok (.goto 8, 3) := by decide +kernel
theorem dX2_wouldStepTo_25 : decode cX2_wouldStepTo 25 = .ok (.aload_n 0, 1) := by decide +kernel
theorem dX2_wouldStepTo_26 : decode cX2_wouldStepTo 26 = .ok (.iconst 1, 1) := by decide +kernel
theorem dX2_wouldStepTo_27 : decode cX2_wouldStepTo 27 = .ok (.invokevirtual 93, 3) := by decide +kernel
theorem dX2_wouldStepTo_30 : decode cX2_wouldStepTo 30 = .ok (.ireturn, 1) := by decide +kernel
set_option maxRecDepth 20000 in
theorem ggX2_isStill_X2_still : GoodIn wsX2_isStill wsX2_still := goodIn_r _ [6, 7, 8, 9, 10, 11, 12, 13, 14, 15, 5, 16, 17, 18, 19, 20, 21, 22, 23, 24, 25, 26, 27, 28, 29, 30, 31, 32, 33, 34, 35, 36, 37, 38, 39, 40, 41, 42, 43, 44, 45, 46, 47, 48, 49, 50, 51, 52, 53, 54, 55, 56, 57, 58, 59, 60, 61] (by decide +kernel) (by decide +kernel)
set_option maxRecDepth 20000 in
theorem gX2_isStill_X2_still : GoodIn wsX2_isStill (wsV RX2 142 RX2 yX2_still wsX2_still) := goodIn_app (goodIn_of _ (by decide +kernel)) ggX2_isStill_X2_still
theorem dX2_isStill_0 : decode cX2_isStill 0 = .ok (.aload_n 0, 1) := by decide +kernel
theorem dX2_isStill_1 : decode cX2_isStill 1 = .ok (.iconst 0, 1) := by decide +kernel
theorem dX2_isStill_2 : decode cX2_isStill 2 = .ok (.putfield 35, 3) := by decide +kernel
theorem dX2_isStill_5 : decode cX2_isStill 5 = .ok (.aload_n 0, 1) := by decide +kernel
theorem dX2_isStill_6 : decode cX2_isStill 6 = .ok (.invokevirtual 142, 3) := by decide +kernel
theorem dX2_isStill_9 : decode cX2_isStill 9 = .ok (.ireturn, 1) := by decide +kernel
set_option maxRecDepth 20000 in
theorem ggX2_plankIn_X2_isDelegate : GoodIn wsX2_plankIn wsX2_isDelegate := goodIn_r _ [7, 8, 9, 10, 6, 11, 66, 67, 68, 69, 70, 71, 72, 73, 74, 75, 76] (by decide +kernel) (by decide +kernel)
set_option maxRecDepth 20000 in
theorem gX2_plankIn_X2_isDelegate : GoodIn wsX2_plankIn (wsV RX2 96 RX2 yX2_isDelegate wsX2_isDelegate) := goodIn_app (goodIn_of _ (by decide +kernel)) ggX2_plankIn_X2_isDelegate
set_option maxRecDepth 20000 in
theorem ggX2_plankIn_X2_fail : GoodIn wsX2_plankIn wsX2_fail := goodIn_r _ [15, 1, 66, 67, 68, 69, 70, 71, 72, 73, 74, 75, 76] (by decide +kernel) (by decide +kernel)
set_option maxRecDepth 20000 in
theorem gX2_plankIn_X2_fail : GoodIn wsX2_plankIn (wsV RX2 93 RX2 yX2_fail wsX2_fail) := goodIn_app (goodIn_of _ (by decide +kernel)) ggX2_plankIn_X2_fail
set_option maxRecDepth 20000 in
theorem ggX2_plankIn_X2_isIn : GoodIn wsX2_plankIn wsX2_isIn := goodIn_r _ [11] (by decide +kernel) (by decide +kernel)
set_option maxRecDepth 20000 in
theorem gX2_plankIn_X2_isIn : GoodIn wsX2_plankIn (va_wsS RX2 41 yX2_isIn wsX2_isIn) := goodIn_app (goodIn_of _ (by decide +kernel)) ggX2_plankIn_X2_isIn
set_option maxRecDepth 20000 in
theorem ggX2_plankIn_X2_keep : GoodIn wsX2_plankIn wsX2_keep := goodIn_r _ [19, 2, 20, 21, 22, 23, 24, 66, 67, 68, 69, 70, 71, 72, 73, 74, 75, 76] (by decide +kernel) (by decide +kernel)
set_option maxRecDepth 20000 in
theorem gX2_plankIn_X2_keep : GoodIn wsX2_plankIn (wsV RX2 145 RX2 yX2_keep wsX2_keep) := goodIn_app (goodIn_of _ (by decide +kernel)) ggX2_plankIn_X2_keep
set_option maxRecDepth 20000 in
theorem ggX2_plankIn_X2_roundOn : GoodIn wsX2_plankIn wsX2_roundOn := goodIn_r _ [28, 8, 2, 29, 30, 31, 6, 32, 33, 34, 35, 36, 37, 38, 39, 40, 41, 42, 43, 44, 45, 46, 47, 48, 49, 50, 51, 52, 53, 54, 55, 56, 57, 58, 59, 60, 61, 66, 67, 68, 69, 70, 71, 72, 73, 74, 75, 76] (by decide +kernel) (by decide +kernel)
set_option maxRecDepth 20000 in
theorem gX2_plankIn_X2_roundOn : GoodIn wsX2_plankIn (wsV RX2 84 RX2 yX2_roundOn wsX2_roundOn) := goodIn_app (goodIn_of _ (by decide +kernel)) ggX2_plankIn_X2_roundOn
set_option maxRecDepth 20000 in
theorem ggX2_plankIn_X2_bringBack : GoodIn wsX2_plankIn wsX2_bringBack := goodIn_r _ [65, 20, 2, 21, 22, 23, 24, 66, 67, 68, 69, 70, 71, 72, 73, 74, 75, 76] (by decide +kernel) (by decide +kernel)
set_option maxRecDepth 20000 in
theorem gX2_plankIn_X2_bringBack : GoodIn wsX2_plankIn (wsV RX2 148 RX2 yX2_bringBack wsX2_bringBack) := goodIn_app (goodIn_of _ (by decide +kernel)) ggX2_plankIn_X2_bringBack
theorem dX2_plankIn_0 : decode cX2_plankIn 0 = .ok (.aload_n 0, 1) := by decide +kernel
theorem dX2_plankIn_1 : decode cX2_plankIn 1 = .ok (.iconst 0, 1) := by decide +kernel
theorem dX2_plankIn_2 : decode cX2_plankIn 2 = .ok (.putfield 35, 3) := by decide +kernel
theorem dX2_plankIn_5 : decode cX2_plankIn 5 = .ok (.aload_n 0, 1) := by decide +kernel
theorem dX2_plankIn_6 : decode cX2_plankIn 6 = .ok (.iload_n 1, 1) := by decide +kernel
theorem dX2_plankIn_7 : decode cX2_plankIn 7 = .ok (.invokevirtual 96, 3) := by decide +kernel
theorem dX2_plankIn_10 : decode cX2_plankIn 10 = .ok (.ifCond .ne 9, 3) := by decide +kernel
theorem dX2_plankIn_13 : decode cX2_plankIn 13 = .ok (.aload_n 0, 1) := by decide +kernel
theorem dX2_plankIn_14 : decode cX2_plankIn 14 = .ok (.iconst 1, 1) := by decide +kernel
theorem dX2_plankIn_15 : decode cX2_plankIn 15 = .ok (.invokevirtual 93, 3) := by decide +kernel
theorem dX2_plankIn_18 : decode cX2_plankIn 18 = .ok (.ireturn, 1) := by decide +kernel
theorem dX2_plankIn_19 : decode cX2_plankIn 19 = .ok (.iload_n 2, 1) := by decide +kernel
theorem dX2_plankIn_20 : decode cX2_plankIn 20 = .ok (.iconst 1, 1) := by decide +kernel
theorem dX2_plankIn_21 : decode cX2_plankIn 21 = .ok (.bipush 50, 2) := by decide +kernel
theorem dX2_plankIn_23 : decode cX2_plankIn 23 = .ok (.invokestatic 41, 3) := by decide +kernel
theorem dX2_plankIn_26 : decode cX2_plankIn 26 = .ok (.ifCond .ne 9, 3) := by decide +kernel
theorem dX2_plankIn_29 : decode cX2_plankIn 29 = .ok (.aload_n 0, 1) := by decide +kernel
theorem dX2_plankIn_30 : decode cX2_plankIn 30 = .ok (.iconst 2, 1) := by decide +kernel
theorem dX2_plankIn_31 : decode cX2_plankIn 31 = .ok (.invokevirtual 93, 3) := by decide +kernel
theorem dX2_plankIn_34 : decode cX2_plankIn 34 = .ok (.ireturn, 1) := by decide +kernel
theorem dX2_plankIn_35 : decode cX2_plankIn 35 = .ok (.aload_n 0, 1) := by decide +kernel
theorem dX2_plankIn_36 : decode cX2_plankIn 36 = .ok (.invokevirtual 145, 3) := by decide +kernel
theorem dX2_plankIn_39 : decode cX2_plankIn 39 = .ok (.iconst 0, 1) := by decide +kernel
theorem dX2_plankIn_40 : decode cX2_plankIn 40 = .ok (.istore_n 3, 1) := by decide +kernel
theorem dX2_plankIn_41 : decode cX2_plankIn 41 = .ok (.iload_n 3, 1) := by decide +kernel
theorem dX2_plankIn_42 : decode cX2_plankIn 42 = .ok (.iload_n 2, 1) := by decide +kernel
theorem dX2_plankIn_43 : decode cX2_plankIn 43 = .ok (.if_icmp .ge 14, 3) := by decide +kernel
theorem dX2_plankIn_46 : decode cX2_plankIn 46 = .ok (.aload_n 0, 1) := by decide +kernel
theorem dX2_plankIn_47 : decode cX2_plankIn 47 = .ok (.invokevirtual 84, 3) := by decide +kernel
theorem dX2_plankIn_50 : decode cX2_plankIn 50 = .ok (.pop, 1) := by decide +kernel
theorem dX2_plankIn_51 : decode cX2_plankIn 51 = .ok (.iinc 3 1, 3) := by decide +kernel
theorem dX2_plankIn_54 : decode cX2_plankIn 54 = .ok (.goto (-13), 3) := by decide +kernel
theorem dX2_plankIn_57 : decode cX2_plankIn 57 = .ok (.aload_n 0, 1) := by decide +kernel
theorem dX2_plankIn_58 : decode cX2_plankIn 58 = .ok (.getfield 26, 3) := by decide +kernel
theorem dX2_plankIn_61 : decode cX2_plankIn 61 = .ok (.iload_n 1, 1) := by decide +kernel
theorem dX2_plankIn_62 : decode cX2_plankIn 62 = .ok (.iaload, 1) := by decide +kernel
theorem dX2_plankIn_63 : decode cX2_plankIn 63 = .ok (.istore_n 3, 1) := by decide +kernel
theorem dX2_plankIn_64 : decode cX2_plankIn 64 = .ok (.aload_n 0, 1) := by decide +kernel
theorem dX2_plankIn_65 : decode cX2_plankIn 65 = .ok (.invokevirtual 148, 3) := by decide +kernel
theorem dX2_plankIn_68 : decode cX2_plankIn 68 = .ok (.iload_n 3, 1) := by decide +kernel
theorem dX2_plankIn_69 : decode cX2_plankIn 69 = .ok (.ireturn, 1) := by decide +kernel
set_option maxRecDepth 20000 in
theorem ggX2_compromiseIn_X2_isIn : GoodIn wsX2_compromiseIn wsX2_isIn := goodIn_r _ [6] (by decide +kernel) (by decide +kernel)
set_option maxRecDepth 20000 in
theorem gX2_compromiseIn_X2_isIn : GoodIn wsX2_compromiseIn (va_wsS RX2 41 yX2_isIn wsX2_isIn) := goodIn_app (goodIn_of _ (by decide +kernel)) ggX2_compromiseIn_X2_isIn
set_option maxRecDepth 20000 in
theorem ggX2_compromiseIn_X2_fail : GoodIn wsX2_compromiseIn wsX2_fail := goodIn_r _ [10, 1, 62, 63, 64, 65, 66, 67, 68, 69, 70, 71, 72] (by decide +kernel) (by decide +kernel)
set_option maxRecDepth 20000 in
theorem gX2_compromiseIn_X2_fail : GoodIn wsX2_compromiseIn (wsV RX2 93 RX2 yX2_fail wsX2_fail) := goodIn_app (goodIn_of _ (by decide +kernel)) ggX2_compromiseIn_X2_fail
set_option maxRecDepth 20000 in
theorem ggX2_compromiseIn_X2_keep : GoodIn wsX2_compromiseIn wsX2_keep := goodIn_r _ [14, 15, 16, 17, 18, 19, 20, 62, 63, 64, 65, 66, 67, 68, 69, 70, 71, 72] (by decide +kernel) (by decide +kernel)
set_option maxRecDepth 20000 in
theorem gX2_compromiseIn_X2_keep : GoodIn wsX2_compromiseIn (wsV RX2 145 RX2 yX2_keep wsX2_keep) := goodIn_app (goodIn_of _ (by decide +kernel)) ggX2_compromiseIn_X2_keep
set_option maxRecDepth 20000 in
theorem ggX2_compromiseIn_X2_roundOn : GoodIn wsX2_compromiseIn wsX2_roundOn := goodIn_r _ [24, 2, 15, 25, 26, 27, 5, 28, 29, 30, 31, 32, 33, 34, 35, 36, 37, 38, 39, 40, 41, 42, 43, 44, 45, 46, 47, 48, 49, 50, 51, 52, 53, 54, 55, 56, 57, 62, 63, 64, 65, 66, 67, 68, 69, 70, 71, 72] (by decide +kernel) (by decide +kernel)
set_option maxRecDepth 20000 in
theorem gX2_compromiseIn_X2_roundOn : GoodIn wsX2_compromiseIn (wsV RX2 84 RX2 yX2_roundOn wsX2_roundOn) := goodIn_app (goodIn_of _ (by decide +kernel)) ggX2_compromiseIn_X2_roundOn
set_option maxRecDepth 20000 in
theorem ggX2_compromiseIn_X2_middle : GoodIn wsX2_compromiseIn wsX2_middle := goodIn_r _ [28, 29, 30, 31, 5, 32, 33, 2, 34, 15, 62, 63, 64, 65, 66, 67, 68, 69, 70, 71, 72] (by decide +kernel) (by decide +kernel)
set_option maxRecDepth 20000 in
theorem gX2_compromiseIn_X2_middle : GoodIn wsX2_compromiseIn (wsV RX2 70 RX2 yX2_middle wsX2_middle) := goodIn_app (goodIn_of _ (by decide +kernel)) ggX2_compromiseIn_X2_middle
set_option maxRecDepth 20000 in
theorem ggX2_compromiseIn_X2_bringBack : GoodIn wsX2_compromiseIn wsX2_bringBack := goodIn_r _ [61, 16, 15, 17, 18, 19, 20, 62, 63, 64, 65, 66, 67, 68, 69, 70, 71, 72] (by decide +kernel) (by decide +kernel)
set_option maxRecDepth 20000 in
theorem gX2_compromiseIn_X2_bringBack : GoodIn wsX2_compromiseIn (wsV RX2 148 RX2 yX2_bringBack wsX2_bringBack) := goodIn_app (goodIn_of _ (by decide +kernel)) ggX2_compromiseIn_X2_bringBack
theorem dX2_compromiseIn_0 : decode cX2_compromiseIn 0 = .ok (.aload_n 0, 1) := by decide +kernel
theorem dX2_compromiseIn_1 : decode cX2_compromiseIn 1 = .ok (.iconst 0, 1) := by decide +kernel
theorem dX2_compromiseIn_2 : decode cX2_compromiseIn 2 = .ok (.putfield 35, 3) := by decide +kernel
theorem dX2_compromiseIn_5 : decode cX2_compromiseIn 5 = .ok (.iload_n 1, 1) := by decide +kernel
theorem dX2_compromiseIn_6 : decode cX2_compromiseIn 6 = .ok (.iconst 1, 1) := by decide +kernel
theorem dX2_compromiseIn_7 : decode cX2_compromiseIn 7 = .ok (.bipush 50, 2) := by decide +kernel
theorem dX2_compromiseIn_9 : decode cX2_compromiseIn 9 = .ok (.invokestatic 41, 3) := by decide +kernel
theorem dX2_compromiseIn_12 : decode cX2_compromiseIn 12 = .ok (.ifCond .ne 9, 3) := by decide +kernel
theorem dX2_compromiseIn_15 : decode cX2_compromiseIn 15 = .ok (.aload_n 0, 1) := by decide +kernel
theorem dX2_compromiseIn_16 : decode cX2_compromiseIn 16 = .ok (.iconst 1, 1) := by decide +kernel
theorem dX2_compromiseIn_17 : decode cX2_compromiseIn 17 = .ok (.invokevirtual 93, 3) := by decide +kernel
theorem dX2_compromiseIn_20 : decode cX2_compromiseIn 20 = .ok (.ireturn, 1) := by decide +kernel
theorem dX2_compromiseIn_21 : decode cX2_compromiseIn 21 = .ok (.aload_n 0, 1) := by decide +kernel
theorem dX2_compromiseIn_22 : decode cX2_compromiseIn 22 = .ok (.getfield 38, 3) := by decide +kernel
theorem dX2_compromiseIn_25 : decode cX2_compromiseIn 25 = .ok (.ifCond .ne 9, 3) := by decide +kernel
theorem dX2_compromiseIn_28 : decode cX2_compromiseIn 28 = .ok (.aload_n 0, 1) := by decide +kernel
theorem dX2_compromiseIn_29 : decode cX2_compromiseIn 29 = .ok (.iconst 2, 1) := by decide +kernel
theorem dX2_compromiseIn_30 : decode cX2_compromiseIn 30 = .ok (.invokevirtual 93, 3) := by decide +kernel
theorem dX2_compromiseIn_33 : decode cX2_compromiseIn 33 = .ok (.ireturn, 1) := by decide +kernel
theorem dX2_compromiseIn_34 : decode cX2_compromiseIn 34 = .ok (.aload_n 0, 1) := by decide +kernel
theorem dX2_compromiseIn_35 : decode cX2_compromiseIn 35 = .ok (.invokevirtual 145, 3) := by decide +kernel
theorem dX2_compromiseIn_38 : decode cX2_compromiseIn 38 = .ok (.iconst 0, 1) := by decide +kernel
theorem dX2_compromiseIn_39 : decode cX2_compromiseIn 39 = .ok (.istore_n 2, 1) := by decide +kernel
theorem dX2_compromiseIn_40 : decode cX2_compromiseIn 40 = .ok (.iload_n 2, 1) := by decide +kernel
theorem dX2_compromiseIn_41 : decode cX2_compromiseIn 41 = .ok (.iload_n 1, 1) := by decide +kernel
theorem dX2_compromiseIn_42 : decode cX2_compromiseIn 42 = .ok (.if_icmp .ge 14, 3) := by decide +kernel
theorem dX2_compromiseIn_45 : decode cX2_compromiseIn 45 = .ok (.aload_n 0, 1) := by decide +kernel
theorem dX2_compromiseIn_46 : decode cX2_compromiseIn 46 = .ok (.invokevirtual 84, 3) := by decide +kernel
theorem dX2_compromiseIn_49 : decode cX2_compromiseIn 49 = .ok (.pop, 1) := by decide +kernel
theorem dX2_compromiseIn_50 : decode cX2_compromiseIn 50 = .ok (.iinc 2 1, 3) := by decide +kernel
theorem dX2_compromiseIn_53 : decode cX2_compromiseIn 53 = .ok (.goto (-13), 3) := by decide +kernel
theorem dX2_compromiseIn_56 : decode cX2_compromiseIn 56 = .ok (.aload_n 0, 1) := by decide +kernel
theorem dX2_compromiseIn_57 : decode cX2_compromiseIn 57 = .ok (.invokevirtual 70, 3) := by decide +kernel
theorem dX2_compromiseIn_60 : decode cX2_compromiseIn 60 = .ok (.istore_n 2, 1) := by decide +kernel
theorem dX2_compromiseIn_61 : decode cX2_compromiseIn 61 = .ok (.aload_n 0, 1) := by decide +kernel
theorem dX2_compromiseIn_62 : decode cX2_compromiseIn 62 = .ok (.invokevirtual 148, 3) := by decide +kernel
theorem dX2_compromiseIn_65 : decode cX2_compromiseIn 65 = .ok (.iload_n 2, 1) := by decide +kernel
theorem dX2_compromiseIn_66 : decode cX2_compromiseIn 66 = .ok (.ireturn, 1) := by decide +kernel
set_option maxRecDepth 20000 in
theorem ggX2_roundsUntilTreaty_X2_keep : GoodIn wsX2_roundsUntilTreaty wsX2_keep := goodIn_r _ [6, 7, 8, 9, 10, 11, 12, 63, 64, 65, 66, 67, 68, 69, 70, 71, 72, 73] (by decide +kernel) (by decide +kernel)
set_option maxRecDepth 20000 in
theorem gX2_roundsUntilTreaty_X2_keep : GoodIn wsX2_roundsUntilTreaty (wsV RX2 145 RX2 yX2_keep wsX2_keep) := goodIn_app (goodIn_of _ (by decide +kernel)) ggX2_roundsUntilTreaty_X2_keep
set_option maxRecDepth 20000 in
theorem ggX2_roundsUntilTreaty_X2_agree : GoodIn wsX2_roundsUntilTreaty wsX2_agree := goodIn_r _ [16, 17, 18, 19, 20, 21, 5, 22, 7, 23, 24, 25, 26, 27, 28, 29, 63, 64, 65, 66, 67, 68, 69, 70, 71, 72, 73] (by decide +kernel) (by decide +kernel)
set_option maxRecDepth 20000 in
theorem gX2_roundsUntilTreaty_X2_agree : GoodIn wsX2_roundsUntilTreaty (wsV RX2 120 RX2 yX2_agree wsX2_agree) := goodIn_app (goodIn_of _ (by decide +kernel)) ggX2_roundsUntilTreaty_X2_agree
set_option maxRecDepth 20000 in
theorem ggX2_roundsUntilTreaty_X2_roundOn : GoodIn wsX2_roundsUntilTreaty wsX2_roundOn := goodIn_r _ [33, 17, 7, 34, 35, 36, 5, 37, 38, 39, 40, 41, 42, 18, 43, 44, 45, 46, 47, 48, 23, 24, 25, 26, 27, 28, 29, 49, 50, 51, 52, 53, 54, 55, 56, 57, 58, 63, 64, 65, 66, 67, 68, 69, 70, 71, 72, 73] (by decide +kernel) (by decide +kernel)
set_option maxRecDepth 20000 in
theorem gX2_roundsUntilTreaty_X2_roundOn : GoodIn wsX2_roundsUntilTreaty (wsV RX2 84 RX2 yX2_roundOn wsX2_roundOn) := goodIn_app (goodIn_of _ (by decide +kernel)) ggX2_roundsUntilTreaty_X2_roundOn
set_option maxRecDepth 20000 in
theorem ggX2_roundsUntilTreaty_X2_bringBack : GoodIn wsX2_roundsUntilTreaty wsX2_bringBack := goodIn_r _ [62, 8, 7, 9, 10, 11, 12, 63, 64, 65, 66, 67, 68, 69, 70, 71, 72, 73] (by decide +kernel) (by decide +kernel)
set_option maxRecDepth 20000 in
theorem gX2_roundsUntilTreaty_X2_bringBack : GoodIn wsX2_roundsUntilTreaty (wsV RX2 148 RX2 yX2_bringBack wsX2_bringBack) := goodIn_app (goodIn_of _ (by decide +kernel)) ggX2_roundsUntilTreaty_X2_bringBack
theorem dX2_roundsUntilTreaty_0 : decode cX2_roundsUntilTreaty 0 = .ok (.aload_n 0, 1) := by decide +kernel
theorem dX2_roundsUntilTreaty_1 : decode cX2_roundsUntilTreaty 1 = .ok (.iconst 0, 1) := by decide +kernel
theorem dX2_roundsUntilTreaty_2 : decode cX2_roundsUntilTreaty 2 = .ok (.putfield 35, 3) := by decide +kernel
theorem dX2_roundsUntilTreaty_5 : decode cX2_roundsUntilTreaty 5 = .ok (.aload_n 0, 1) := by decide +kernel
theorem dX2_roundsUntilTreaty_6 : decode cX2_roundsUntilTreaty 6 = .ok (.invokevirtual 145, 3) := by decide +kernel
theorem dX2_roundsUntilTreaty_9 : decode cX2_roundsUntilTreaty 9 = .ok (.iconst 0, 1) := by decide +kernel
theorem dX2_roundsUntilTreaty_10 : decode cX2_roundsUntilTreaty 10 = .ok (.istore_n 1, 1) := by decide +kernel
theorem dX2_roundsUntilTreaty_11 : decode cX2_roundsUntilTreaty 11 = .ok (.iload_n 1, 1) := by decide +kernel
theorem dX2_roundsUntilTreaty_12 : decode cX2_roundsUntilTreaty 12 = .ok (.bipush 100, 2) := by decide +kernel
theorem dX2_roundsUntilTreaty_14 : decode cX2_roundsUntilTreaty 14 = .ok (.if_icmp .gt 21, 3) := by decide +kernel
theorem dX2_roundsUntilTreaty_17 : decode cX2_roundsUntilTreaty 17 = .ok (.aload_n 0, 1) := by decide +kernel
theorem dX2_roundsUntilTreaty_18 : decode cX2_roundsUntilTreaty 18 = .ok (.invokevirtual 120, 3) := by decide +kernel
theorem dX2_roundsUntilTreaty_21 : decode cX2_roundsUntilTreaty 21 = .ok (.ifCond .ne 14, 3) := by decide +kernel
theorem dX2_roundsUntilTreaty_24 : decode cX2_roundsUntilTreaty 24 = .ok (.aload_n 0, 1) := by decide +kernel
theorem dX2_roundsUntilTreaty_25 : decode cX2_roundsUntilTreaty 25 = .ok (.invokevirtual 84, 3) := by decide +kernel
theorem dX2_roundsUntilTreaty_28 : decode cX2_roundsUntilTreaty 28 = .ok (.pop, 1) := by decide +kernel
theorem dX2_roundsUntilTreaty_29 : decode cX2_roundsUntilTreaty 29 = .ok (.iinc 1 1, 3) := by decide +kernel
theorem dX2_roundsUntilTreaty_32 : decode cX2_roundsUntilTreaty 32 = .ok (.goto (-21), 3) := by decide +kernel
theorem dX2_roundsUntilTreaty_35 : decode cX2_roundsUntilTreaty 35 = .ok (.aload_n 0, 1) := by decide +kernel
theorem dX2_roundsUntilTreaty_36 : decode cX2_roundsUntilTreaty 36 = .ok (.invokevirtual 148, 3) := by decide +kernel
theorem dX2_roundsUntilTreaty_39 : decode cX2_roundsUntilTreaty 39 = .ok (.iload_n 1, 1) := by decide +kernel
theorem dX2_roundsUntilTreaty_40 : decode cX2_roundsUntilTreaty 40 = .ok (.bipush 100, 2) := by decide +kernel
theorem dX2_roundsUntilTreaty_42 : decode cX2_roundsUntilTreaty 42 = .ok (.if_icmp .le 7, 3) := by decide +kernel
theorem dX2_roundsUntilTreaty_45 : decode cX2_roundsUntilTreaty 45 = .ok (.iconst (-1), 1) := by decide +kernel
theorem dX2_roundsUntilTreaty_46 : decode cX2_roundsUntilTreaty 46 = .ok (.goto 4, 3) := by decide +kernel
theorem dX2_roundsUntilTreaty_49 : decode cX2_roundsUntilTreaty 49 = .ok (.iload_n 1, 1) := by decide +kernel
theorem dX2_roundsUntilTreaty_50 : decode cX2_roundsUntilTreaty 50 = .ok (.ireturn, 1) := by decide +kernel
set_option maxRecDepth 20000 in
theorem ggX2_untilStill_X2_keep : GoodIn wsX2_untilStill wsX2_keep := goodIn_r _ [5, 6, 7, 8, 9, 10, 11, 54, 55, 56, 57, 58, 59, 60, 61, 62, 63, 64] (by decide +kernel) (by decide +kernel)
set_option maxRecDepth 20000 in
theorem gX2_untilStill_X2_keep : GoodIn wsX2_untilStill (wsV RX2 145 RX2 yX2_keep wsX2_keep) := goodIn_app (goodIn_of _ (by decide +kernel)) ggX2_untilStill_X2_keep
set_option maxRecDepth 20000 in
theorem ggX2_untilStill_X2_roundOn : GoodIn wsX2_untilStill wsX2_roundOn := goodIn_r _ [15, 16, 6, 17, 18, 19, 4, 20, 21, 22, 23, 24, 25, 26, 27, 28, 29, 30, 31, 32, 33, 34, 35, 36, 37, 38, 39, 40, 41, 42, 43, 44, 45, 46, 47, 48, 49, 54, 55, 56, 57, 58, 59, 60, 61, 62, 63, 64] (by decide +kernel) (by decide +kernel)
set_option maxRecDepth 20000 in
theorem gX2_untilStill_X2_roundOn : GoodIn wsX2_untilStill (wsV RX2 84 RX2 yX2_roundOn wsX2_roundOn) := goodIn_app (goodIn_of _ (by decide +kernel)) ggX2_untilStill_X2_roundOn
set_option maxRecDepth 20000 in
theorem ggX2_untilStill_X2_bringBack : GoodIn wsX2_untilStill wsX2_bringBack := goodIn_r _ [53, 7, 6, 8, 9, 10, 11, 54, 55, 56, 57, 58, 59, 60, 61, 62, 63, 64] (by decide +kernel) (by decide +kernel)
set_option maxRecDepth 20000 in
theorem gX2_untilStill_X2_bringBack : GoodIn wsX2_untilStill (wsV RX2 148 RX2 yX2_bringBack wsX2_bringBack) := goodIn_app (goodIn_of _ (by decide +kernel)) ggX2_untilStill_X2_bringBack
theorem dX2_untilStill_0 : decode cX2_untilStill 0 = .ok (.aload_n 0, 1) := by decide +kernel
theorem dX2_untilStill_1 : decode cX2_untilStill 1 = .ok (.invokevirtual 145, 3) := by decide +kernel
theorem dX2_untilStill_4 : decode cX2_untilStill 4 = .ok (.iconst 0, 1) := by decide +kernel
theorem dX2_untilStill_5 : decode cX2_untilStill 5 = .ok (.istore_n 1, 1) := by decide +kernel
theorem dX2_untilStill_6 : decode cX2_untilStill 6 = .ok (.iload_n 1, 1) := by decide +kernel
theorem dX2_untilStill_7 : decode cX2_untilStill 7 = .ok (.bipush 100, 2) := by decide +kernel
theorem dX2_untilStill_9 : decode cX2_untilStill 9 = .ok (.if_icmp .gt 16, 3) := by decide +kernel
theorem dX2_untilStill_12 : decode cX2_untilStill 12 = .ok (.aload_n 0, 1) := by decide +kernel
theorem dX2_untilStill_13 : decode cX2_untilStill 13 = .ok (.invokevirtual 84, 3) := by decide +kernel
theorem dX2_untilStill_16 : decode cX2_untilStill 16 = .ok (.ifCond .le 9, 3) := by decide +kernel
theorem dX2_untilStill_19 : decode cX2_untilStill 19 = .ok (.iinc 1 1, 3) := by decide +kernel
theorem dX2_untilStill_22 : decode cX2_untilStill 22 = .ok (.goto (-16), 3) := by decide +kernel
theorem dX2_untilStill_25 : decode cX2_untilStill 25 = .ok (.aload_n 0, 1) := by decide +kernel
theorem dX2_untilStill_26 : decode cX2_untilStill 26 = .ok (.invokevirtual 148, 3) := by decide +kernel
theorem dX2_untilStill_29 : decode cX2_untilStill 29 = .ok (.iload_n 1, 1) := by decide +kernel
theorem dX2_untilStill_30 : decode cX2_untilStill 30 = .ok (.bipush 100, 2) := by decide +kernel
theorem dX2_untilStill_32 : decode cX2_untilStill 32 = .ok (.if_icmp .le 7, 3) := by decide +kernel
theorem dX2_untilStill_35 : decode cX2_untilStill 35 = .ok (.iconst (-1), 1) := by decide +kernel
theorem dX2_untilStill_36 : decode cX2_untilStill 36 = .ok (.goto 4, 3) := by decide +kernel
theorem dX2_untilStill_39 : decode cX2_untilStill 39 = .ok (.iload_n 1, 1) := by decide +kernel
theorem dX2_untilStill_40 : decode cX2_untilStill 40 = .ok (.ireturn, 1) := by decide +kernel
set_option maxRecDepth 20000 in
theorem ggX2_roundsUntilStill_X2_untilStill : GoodIn wsX2_roundsUntilStill wsX2_untilStill := goodIn_r _ [5, 6, 7, 8, 4, 9, 10, 11, 12, 13, 14, 15, 16, 17, 18, 19, 20, 21, 22, 23, 24, 25, 26, 27, 28, 29, 30, 31, 32, 33, 34, 35, 36, 37, 38, 39, 40, 41, 42, 43, 44, 45, 46, 47, 48, 49, 50, 51, 52, 53, 54, 55, 56, 57, 63, 64, 65, 66, 67, 68, 69, 70, 71, 72, 73] (by decide +kernel) (by decide +kernel)
set_option maxRecDepth 20000 in
theorem gX2_roundsUntilStill_X2_untilStill : GoodIn wsX2_roundsUntilStill (wsV RX2 151 RX2 yX2_untilStill wsX2_untilStill) := goodIn_app (goodIn_of _ (by decide +kernel)) ggX2_roundsUntilStill_X2_untilStill
set_option maxRecDepth 20000 in
theorem ggX2_roundsUntilStill_X2_told : GoodIn wsX2_roundsUntilStill wsX2_told := goodIn_r _ [61, 62, 63, 64, 65, 66, 67, 68, 69, 70, 71, 72, 73] (by decide +kernel) (by decide +kernel)
set_option maxRecDepth 20000 in
theorem gX2_roundsUntilStill_X2_told : GoodIn wsX2_roundsUntilStill (wsV RX2 113 RX2 yX2_told wsX2_told) := goodIn_app (goodIn_of _ (by decide +kernel)) ggX2_roundsUntilStill_X2_told
theorem dX2_roundsUntilStill_0 : decode cX2_roundsUntilStill 0 = .ok (.aload_n 0, 1) := by decide +kernel
theorem dX2_roundsUntilStill_1 : decode cX2_roundsUntilStill 1 = .ok (.aload_n 0, 1) := by decide +kernel
theorem dX2_roundsUntilStill_2 : decode cX2_roundsUntilStill 2 = .ok (.invokevirtual 151, 3) := by decide +kernel
theorem dX2_roundsUntilStill_5 : decode cX2_roundsUntilStill 5 = .ok (.invokevirtual 113, 3) := by decide +kernel
theorem dX2_roundsUntilStill_8 : decode cX2_roundsUntilStill 8 = .ok (.ireturn, 1) := by decide +kernel
set_option maxRecDepth 20000 in
theorem ggX2_stand_X2_middle : GoodIn wsX2_stand wsX2_middle := goodIn_r _ [6, 7, 8, 9, 5, 10, 11, 12, 13, 1, 23, 24, 25, 26, 27, 28, 29, 30, 31, 32, 33] (by decide +kernel) (by decide +kernel)
set_option maxRecDepth 20000 in
theorem gX2_stand_X2_middle : GoodIn wsX2_stand (wsV RX2 70 RX2 yX2_middle wsX2_middle) := goodIn_app (goodIn_of _ (by decide +kernel)) ggX2_stand_X2_middle
set_option maxRecDepth 20000 in
theorem ggX2_stand_X2_apart : GoodIn wsX2_stand wsX2_apart := goodIn_r _ [17, 18, 19, 20, 21, 22, 23, 24, 25, 26, 27, 28, 29, 30, 31, 32, 33] (by decide +kernel) (by decide +kernel)
set_option maxRecDepth 20000 in
theorem gX2_stand_X2_apart : GoodIn wsX2_stand (wsV RX2 127 RX2 yX2_apart wsX2_apart) := goodIn_app (goodIn_of _ (by decide +kernel)) ggX2_stand_X2_apart
theorem dX2_stand_0 : decode cX2_stand 0 = .ok (.aload_n 0, 1) := by decide +kernel
theorem dX2_stand_1 : decode cX2_stand 1 = .ok (.getfield 26, 3) := by decide +kernel
theorem dX2_stand_4 : decode cX2_stand 4 = .ok (.iload_n 1, 1) := by decide +kernel
theorem dX2_stand_5 : decode cX2_stand 5 = .ok (.iaload, 1) := by decide +kernel
theorem dX2_stand_6 : decode cX2_stand 6 = .ok (.istore_n 2, 1) := by decide +kernel
theorem dX2_stand_7 : decode cX2_stand 7 = .ok (.iconst (-1), 1) := by decide +kernel
theorem dX2_stand_8 : decode cX2_stand 8 = .ok (.istore_n 3, 1) := by decide +kernel
theorem dX2_stand_9 : decode cX2_stand 9 = .ok (.bipush 41, 2) := by decide +kernel
theorem dX2_stand_11 : decode cX2_stand 11 = .ok (.istore 4, 2) := by decide +kernel
theorem dX2_stand_13 : decode cX2_stand 13 = .ok (.iconst 0, 1) := by decide +kernel
theorem dX2_stand_14 : decode cX2_stand 14 = .ok (.istore 5, 2) := by decide +kernel
theorem dX2_stand_16 : decode cX2_stand 16 = .ok (.iload 5, 2) := by decide +kernel
theorem dX2_stand_18 : decode cX2_stand 18 = .ok (.bipush 41, 2) := by decide +kernel
theorem dX2_stand_20 : decode cX2_stand 20 = .ok (.if_icmp .ge 45, 3) := by decide +kernel
theorem dX2_stand_23 : decode cX2_stand 23 = .ok (.aload_n 0, 1) := by decide +kernel
theorem dX2_stand_24 : decode cX2_stand 24 = .ok (.getfield 26, 3) := by decide +kernel
theorem dX2_stand_27 : decode cX2_stand 27 = .ok (.iload_n 1, 1) := by decide +kernel
theorem dX2_stand_28 : decode cX2_stand 28 = .ok (.iload 5, 2) := by decide +kernel
theorem dX2_stand_30 : decode cX2_stand 30 = .ok (.iastore, 1) := by decide +kernel
theorem dX2_stand_31 : decode cX2_stand 31 = .ok (.aload_n 0, 1) := by decide +kernel
theorem dX2_stand_32 : decode cX2_stand 32 = .ok (.iload_n 1, 1) := by decide +kernel
theorem dX2_stand_33 : decode cX2_stand 33 = .ok (.aload_n 0, 1) := by decide +kernel
theorem dX2_stand_34 : decode cX2_stand 34 = .ok (.invokevirtual 70, 3) := by decide +kernel
theorem dX2_stand_37 : decode cX2_stand 37 = .ok (.invokevirtual 127, 3) := by decide +kernel
theorem dX2_stand_40 : decode cX2_stand 40 = .ok (.istore 6, 2) := by decide +kernel
theorem dX2_stand_42 : decode cX2_stand 42 = .ok (.iload 6, 2) := by decide +kernel
theorem dX2_stand_44 : decode cX2_stand 44 = .ok (.iload 4, 2) := by decide +kernel
theorem dX2_stand_46 : decode cX2_stand 46 = .ok (.if_icmp .lt 6, 3) := by decide +kernel
theorem dX2_stand_49 : decode cX2_stand 49 = .ok (.goto 10, 3) := by decide +kernel
theorem dX2_stand_52 : decode cX2_stand 52 = .ok (.iload 5, 2) := by decide +kernel
theorem dX2_stand_54 : decode cX2_stand 54 = .ok (.istore_n 3, 1) := by decide +kernel
theorem dX2_stand_55 : decode cX2_stand 55 = .ok (.iload 6, 2) := by decide +kernel
theorem dX2_stand_57 : decode cX2_stand 57 = .ok (.istore 4, 2) := by decide +kernel
theorem dX2_stand_59 : decode cX2_stand 59 = .ok (.iinc 5 1, 3) := by decide +kernel
theorem dX2_stand_62 : decode cX2_stand 62 = .ok (.goto (-46), 3) := by decide +kernel
theorem dX2_stand_65 : decode cX2_stand 65 = .ok (.aload_n 0, 1) := by decide +kernel
theorem dX2_stand_66 : decode cX2_stand 66 = .ok (.getfield 26, 3) := by decide +kernel
theorem dX2_stand_69 : decode cX2_stand 69 = .ok (.iload_n 1, 1) := by decide +kernel
theorem dX2_stand_70 : decode cX2_stand 70 = .ok (.iload_n 2, 1) := by decide +kernel
theorem dX2_stand_71 : decode cX2_stand 71 = .ok (.iastore, 1) := by decide +kernel
theorem dX2_stand_72 : decode cX2_stand 72 = .ok (.iload_n 3, 1) := by decide +kernel
theorem dX2_stand_73 : decode cX2_stand 73 = .ok (.ireturn, 1) := by decide +kernel
set_option maxRecDepth 20000 in
theorem ggX2_bestStand_X2_isDelegate : GoodIn wsX2_bestStand wsX2_isDelegate := goodIn_r _ [6, 7, 8, 9, 5, 10, 39, 40, 41, 42, 43, 44, 45, 46, 47, 48, 49] (by decide +kernel) (by decide +kernel)
set_option maxRecDepth 20000 in
theorem gX2_bestStand_X2_isDelegate : GoodIn wsX2_bestStand (wsV RX2 96 RX2 yX2_isDelegate wsX2_isDelegate) := goodIn_app (goodIn_of _ (by decide +kernel)) ggX2_bestStand_X2_isDelegate
set_option maxRecDepth 20000 in
theorem ggX2_bestStand_X2_stand : GoodIn wsX2_bestStand wsX2_stand := goodIn_r _ [14, 15, 16, 17, 18, 5, 19, 20, 21, 22, 23, 24, 7, 25, 26, 27, 28, 29, 30, 31, 32, 33, 34, 39, 40, 41, 42, 43, 44, 45, 46, 47, 48, 49] (by decide +kernel) (by decide +kernel)
set_option maxRecDepth 20000 in
theorem gX2_bestStand_X2_stand : GoodIn wsX2_bestStand (wsV RX2 154 RX2 yX2_stand wsX2_stand) := goodIn_app (goodIn_of _ (by decide +kernel)) ggX2_bestStand_X2_stand
set_option maxRecDepth 20000 in
theorem ggX2_bestStand_X2_fail : GoodIn wsX2_bestStand wsX2_fail := goodIn_r _ [38, 1, 39, 40, 41, 42, 43, 44, 45, 46, 47, 48, 49] (by decide +kernel) (by decide +kernel)
set_option maxRecDepth 20000 in
theorem gX2_bestStand_X2_fail : GoodIn wsX2_bestStand (wsV RX2 93 RX2 yX2_fail wsX2_fail) := goodIn_app (goodIn_of _ (by decide +kernel)) ggX2_bestStand_X2_fail
theorem dX2_bestStand_0 : decode cX2_bestStand 0 = .ok (.aload_n 0, 1) := by decide +kernel
theorem dX2_bestStand_1 : decode cX2_bestStand 1 = .ok (.iconst 0, 1) := by decide +kernel
theorem dX2_bestStand_2 : decode cX2_bestStand 2 = .ok (.putfield 35, 3) := by decide +kernel
theorem dX2_bestStand_5 : decode cX2_bestStand 5 = .ok (.aload_n 0, 1) := by decide +kernel
theorem dX2_bestStand_6 : decode cX2_bestStand 6 = .ok (.iload_n 1, 1) := by decide +kernel
theorem dX2_bestStand_7 : decode cX2_bestStand 7 = .ok (.invokevirtual 96, 3) := by decide +kernel
theorem dX2_bestStand_10 : decode cX2_bestStand 10 = .ok (.ifCond .eq 11, 3) := by decide +kernel
theorem dX2_bestStand_13 : decode cX2_bestStand 13 = .ok (.aload_n 0, 1) := by decide +kernel
theorem dX2_bestStand_14 : decode cX2_bestStand 14 = .ok (.iload_n 1, 1) := by decide +kernel
theorem dX2_bestStand_15 : decode cX2_bestStand 15 = .ok (.invokevirtual 154, 3) := by decide +kernel
theorem dX2_bestStand_18 : decode cX2_bestStand 18 = .ok (.goto 8, 3) := by decide +kernel
theorem dX2_bestStand_21 : decode cX2_bestStand 21 = .ok (.aload_n 0, 1) := by decide +kernel
theorem dX2_bestStand_22 : decode cX2_bestStand 22 = .ok (.iconst 1, 1) := by decide +kernel
theorem dX2_bestStand_23 : decode cX2_bestStand 23 = .ok (.invokevirtual 93, 3) := by decide +kernel
theorem dX2_bestStand_26 : decode cX2_bestStand 26 = .ok (.ireturn, 1) := by decide +kernel
theorem dX2_meanPlank_0 : decode cX2_meanPlank 0 = .ok (.aload_n 0, 1) := by decide +kernel
theorem dX2_meanPlank_1 : decode cX2_meanPlank 1 = .ok (.iconst 0, 1) := by decide +kernel
theorem dX2_meanPlank_2 : decode cX2_meanPlank 2 = .ok (.putfield 35, 3) := by decide +kernel
theorem dX2_meanPlank_5 : decode cX2_meanPlank 5 = .ok (.iconst 0, 1) := by decide +kernel
theorem dX2_meanPlank_6 : decode cX2_meanPlank 6 = .ok (.istore_n 1, 1) := by decide +kernel
theorem dX2_meanPlank_7 : decode cX2_meanPlank 7 = .ok (.iconst 0, 1) := by decide +kernel
theorem dX2_meanPlank_8 : decode cX2_meanPlank 8 = .ok (.istore_n 2, 1) := by decide +kernel
theorem dX2_meanPlank_9 : decode cX2_meanPlank 9 = .ok (.iload_n 2, 1) := by decide +kernel
theorem dX2_meanPlank_10 : decode cX2_meanPlank 10 = .ok (.aload_n 0, 1) := by decide +kernel
theorem dX2_meanPlank_11 : decode cX2_meanPlank 11 = .ok (.getfield 38, 3) := by decide +kernel
theorem dX2_meanPlank_14 : decode cX2_meanPlank 14 = .ok (.if_icmp .ge 18, 3) := by decide +kernel
theorem dX2_meanPlank_17 : decode cX2_meanPlank 17 = .ok (.iload_n 1, 1) := by decide +kernel
theorem dX2_meanPlank_18 : decode cX2_meanPlank 18 = .ok (.aload_n 0, 1) := by decide +kernel
theorem dX2_meanPlank_19 : decode cX2_meanPlank 19 = .ok (.getfield 26, 3) := by decide +kernel
theorem dX2_meanPlank_22 : decode cX2_meanPlank 22 = .ok (.iload_n 2, 1) := by decide +kernel
theorem dX2_meanPlank_23 : decode cX2_meanPlank 23 = .ok (.iaload, 1) := by decide +kernel
theorem dX2_meanPlank_24 : decode cX2_meanPlank 24 = .ok (.iadd, 1) := by decide +kernel
theorem dX2_meanPlank_25 : decode cX2_meanPlank 25 = .ok (.istore_n 1, 1) := by decide +kernel
theorem dX2_meanPlank_26 : decode cX2_meanPlank 26 = .ok (.iinc 2 1, 3) := by decide +kernel
theorem dX2_meanPlank_29 : decode cX2_meanPlank 29 = .ok (.goto (-20), 3) := by decide +kernel
theorem dX2_meanPlank_32 : decode cX2_meanPlank 32 = .ok (.aload_n 0, 1) := by decide +kernel
theorem dX2_meanPlank_33 : decode cX2_meanPlank 33 = .ok (.getfield 38, 3) := by decide +kernel
theorem dX2_meanPlank_36 : decode cX2_meanPlank 36 = .ok (.ifCond .ne 7, 3) := by decide +kernel
theorem dX2_meanPlank_39 : decode cX2_meanPlank 39 = .ok (.dconst 0, 1) := by decide +kernel
theorem dX2_meanPlank_40 : decode cX2_meanPlank 40 = .ok (.goto 11, 3) := by decide +kernel
theorem dX2_meanPlank_43 : decode cX2_meanPlank 43 = .ok (.iload_n 1, 1) := by decide +kernel
theorem dX2_meanPlank_44 : decode cX2_meanPlank 44 = .ok (.i2d, 1) := by decide +kernel
theorem dX2_meanPlank_45 : decode cX2_meanPlank 45 = .ok (.aload_n 0, 1) := by decide +kernel
theorem dX2_meanPlank_46 : decode cX2_meanPlank 46 = .ok (.getfield 38, 3) := by decide +kernel
theorem dX2_meanPlank_49 : decode cX2_meanPlank 49 = .ok (.i2d, 1) := by decide +kernel
theorem dX2_meanPlank_50 : decode cX2_meanPlank 50 = .ok (.ddiv, 1) := by decide +kernel
theorem dX2_meanPlank_51 : decode cX2_meanPlank 51 = .ok (.dreturn, 1) := by decide +kernel
set_option maxRecDepth 20000 in
theorem ggX2_digest_X2_wide : GoodIn wsX2_digest wsX2_wide := goodIn_r _ [17, 3, 12, 18, 19, 20, 21, 22, 23, 24, 98, 99, 100, 101, 102, 103, 104, 105, 106, 107, 108] (by decide +kernel) (by decide +kernel)
set_option maxRecDepth 20000 in
theorem gX2_digest_X2_wide : GoodIn wsX2_digest (wsV RX2 81 RX2 yX2_wide wsX2_wide) := goodIn_app (goodIn_of _ (by decide +kernel)) ggX2_digest_X2_wide
set_option maxRecDepth 20000 in
theorem ggX2_digest_X2_agree : GoodIn wsX2_digest wsX2_agree := goodIn_r _ [28, 3, 8, 13, 14, 15, 16, 17, 12, 18, 19, 20, 21, 22, 23, 24, 98, 99, 100, 101, 102, 103, 104, 105, 106, 107, 108] (by decide +kernel) (by decide +kernel)
set_option maxRecDepth 20000 in
theorem gX2_digest_X2_agree : GoodIn wsX2_digest (wsV RX2 120 RX2 yX2_agree wsX2_agree) := goodIn_app (goodIn_of _ (by decide +kernel)) ggX2_digest_X2_agree
set_option maxRecDepth 20000 in
theorem ggX2_digest_X2_still : GoodIn wsX2_digest wsX2_still := goodIn_r _ [32, 2, 12, 33, 34, 35, 36, 37, 38, 39, 16, 40, 3, 41, 42, 43, 44, 45, 46, 47, 48, 49, 8, 50, 51, 52, 53, 9, 10, 18, 19, 20, 21, 22, 23, 24, 11, 54, 55, 56, 57, 5, 58, 59, 60, 61, 98, 99, 100, 101, 102, 103, 104, 105, 106, 107, 108] (by decide +kernel) (by decide +kernel)
set_option maxRecDepth 20000 in
theorem gX2_digest_X2_still : GoodIn wsX2_digest (wsV RX2 142 RX2 yX2_still wsX2_still) := goodIn_app (goodIn_of _ (by decide +kernel)) ggX2_digest_X2_still
set_option maxRecDepth 20000 in
theorem ggX2_digest_X2_middle : GoodIn wsX2_digest wsX2_middle := goodIn_r _ [44, 45, 46, 47, 16, 48, 49, 3, 8, 12, 98, 99, 100, 101, 102, 103, 104, 105, 106, 107, 108] (by decide +kernel) (by decide +kernel)
set_option maxRecDepth 20000 in
theorem gX2_digest_X2_middle : GoodIn wsX2_digest (wsV RX2 70 RX2 yX2_middle wsX2_middle) := goodIn_app (goodIn_of _ (by decide +kernel)) ggX2_digest_X2_middle
set_option maxRecDepth 20000 in
theorem ggX2_digest_X2_decisive : GoodIn wsX2_digest wsX2_decisive := goodIn_r _ [65, 12, 41, 42, 43, 16, 44, 45, 46, 47, 48, 49, 3, 8, 98, 99, 100, 101, 102, 103, 104, 105, 106, 107, 108] (by decide +kernel) (by decide +kernel)
set_option maxRecDepth 20000 in
theorem gX2_digest_X2_decisive : GoodIn wsX2_digest (wsV RX2 124 RX2 yX2_decisive wsX2_decisive) := goodIn_app (goodIn_of _ (by decide +kernel)) ggX2_digest_X2_decisive
set_option maxRecDepth 20000 in
theorem ggX2_digest_X2_best : GoodIn wsX2_digest wsX2_best := goodIn_r _ [69, 70, 71, 72, 16, 73, 3, 74, 75, 76, 77, 9, 78, 79, 20, 80, 98, 99, 100, 101, 102, 103, 104, 105, 106, 107, 108] (by decide +kernel) (by decide +kernel)
set_option maxRecDepth 20000 in
theorem gX2_digest_X2_best : GoodIn wsX2_digest (wsV RX2 133 RX2 yX2_best wsX2_best) := goodIn_app (goodIn_of _ (by decide +kernel)) ggX2_digest_X2_best
set_option maxRecDepth 20000 in
theorem ggX2_digest_X2_allApart : GoodIn wsX2_digest wsX2_allApart := goodIn_r _ [73, 3, 74, 75, 76, 16, 77, 9, 78, 79, 20, 80, 98, 99, 100, 101, 102, 103, 104, 105, 106, 107, 108] (by decide +kernel) (by decide +kernel)
set_option maxRecDepth 20000 in
theorem gX2_digest_X2_allApart : GoodIn wsX2_digest (wsV RX2 130 RX2 yX2_allApart wsX2_allApart) := goodIn_app (goodIn_of _ (by decide +kernel)) ggX2_digest_X2_allApart
set_option maxRecDepth 20000 in
theorem ggX2_digest_X2_untilStill : GoodIn wsX2_digest wsX2_untilStill := goodIn_r _ [84, 85, 86, 87, 16, 88, 12, 89, 33, 34, 35, 36, 37, 38, 39, 40, 3, 41, 42, 43, 44, 45, 46, 47, 48, 49, 8, 50, 51, 52, 53, 9, 10, 18, 19, 20, 21, 22, 23, 24, 11, 54, 55, 56, 57, 5, 58, 59, 60, 61, 90, 91, 92, 93, 98, 99, 100, 101, 102, 103, 104, 105, 106, 107, 108] (by decide +kernel) (by decide +kernel)
set_option maxRecDepth 20000 in
theorem gX2_digest_X2_untilStill : GoodIn wsX2_digest (wsV RX2 151 RX2 yX2_untilStill wsX2_untilStill) := goodIn_app (goodIn_of _ (by decide +kernel)) ggX2_digest_X2_untilStill
set_option maxRecDepth 20000 in
theorem ggX2_digest_X2_step : GoodIn wsX2_digest wsX2_step := goodIn_r _ [53, 9, 10, 18, 19, 20, 21, 22, 23, 24, 12, 11, 98, 99, 100, 101, 102, 103, 104, 105, 106, 107, 108] (by decide +kernel) (by decide +kernel)
set_option maxRecDepth 20000 in
theorem gX2_digest_X2_step : GoodIn wsX2_digest (wsV RX2 74 RX2 yX2_step wsX2_step) := goodIn_app (goodIn_of _ (by decide +kernel)) ggX2_digest_X2_step
set_option maxRecDepth 20000 in
theorem ggX2_digest_X2_stand : GoodIn wsX2_digest wsX2_stand := goodIn_r _ [97, 12, 41, 42, 43, 16, 44, 45, 46, 47, 48, 49, 3, 8, 74, 75, 76, 77, 9, 78, 79, 20, 80, 98, 99, 100, 101, 102, 103, 104, 105, 106, 107, 108] (by decide +kernel) (by decide +kernel)
set_option maxRecDepth 20000 in
theorem gX2_digest_X2_stand : GoodIn wsX2_digest (wsV RX2 154 RX2 yX2_stand wsX2_stand) := goodIn_app (goodIn_of _ (by decide +kernel)) ggX2_digest_X2_stand
set_option maxRecDepth 20000 in
theorem ggX2_digest_X2_apart : GoodIn wsX2_digest wsX2_apart := goodIn_r _ [77, 9, 78, 79, 20, 80, 98, 99, 100, 101, 102, 103, 104, 105, 106, 107, 108] (by decide +kernel) (by decide +kernel)
set_option maxRecDepth 20000 in
theorem gX2_digest_X2_apart : GoodIn wsX2_digest (wsV RX2 127 RX2 yX2_apart wsX2_apart) := goodIn_app (goodIn_of _ (by decide +kernel)) ggX2_digest_X2_apart
theorem dX2_digest_0 : decode cX2_digest 0 = .ok (.aload_n 0, 1) := by decide +kernel
theorem dX2_digest_1 : decode cX2_digest 1 = .ok (.iconst 0, 1) := by decide +kernel
theorem dX2_digest_2 : decode cX2_digest 2 = .ok (.putfield 35, 3) := by decide +kernel
theorem dX2_digest_5 : decode cX2_digest 5 = .ok (.bipush 6, 2) := by decide +kernel
theorem dX2_digest_7 : decode cX2_digest 7 = .ok (.newarray .int, 2) := by decide +kernel
theorem dX2_digest_9 : decode cX2_digest 9 = .ok (.dup, 1) := by decide +kernel
theorem dX2_digest_10 : decode cX2_digest 10 = .ok (.iconst 0, 1) := by decide +kernel
theorem dX2_digest_11 : decode cX2_digest 11 = .ok (.aload_n 0, 1) := by decide +kernel
theorem dX2_digest_12 : decode cX2_digest 12 = .ok (.getfield 38, 3) := by decide +kernel
theorem dX2_digest_15 : decode cX2_digest 15 = .ok (.iastore, 1) := by decide +kernel
theorem dX2_digest_16 : decode cX2_digest 16 = .ok (.dup, 1) := by decide +kernel
theorem dX2_digest_17 : decode cX2_digest 17 = .ok (.iconst 1, 1) := by decide +kernel
theorem dX2_digest_18 : decode cX2_digest 18 = .ok (.aload_n 0, 1) := by decide +kernel
theorem dX2_digest_19 : decode cX2_digest 19 = .ok (.getfield 110, 3) := by decide +kernel
theorem dX2_digest_22 : decode cX2_digest 22 = .ok (.iastore, 1) := by decide +kernel
theorem dX2_digest_23 : decode cX2_digest 23 = .ok (.dup, 1) := by decide +kernel
theorem dX2_digest_24 : decode cX2_digest 24 = .ok (.iconst 2, 1) := by decide +kernel
theorem dX2_digest_25 : decode cX2_digest 25 = .ok (.aload_n 0, 1) := by decide +kernel
theorem dX2_digest_26 : decode cX2_digest 26 = .ok (.getfield 7, 3) := by decide +kernel
theorem dX2_digest_29 : decode cX2_digest 29 = .ok (.iastore, 1) := by decide +kernel
theorem dX2_digest_30 : decode cX2_digest 30 = .ok (.dup, 1) := by decide +kernel
theorem dX2_digest_31 : decode cX2_digest 31 = .ok (.iconst 3, 1) := by decide +kernel
theorem dX2_digest_32 : decode cX2_digest 32 = .ok (.aload_n 0, 1) := by decide +kernel
theorem dX2_digest_33 : decode cX2_digest 33 = .ok (.invokevirtual 81, 3) := by decide +kernel
theorem dX2_digest_36 : decode cX2_digest 36 = .ok (.iastore, 1) := by decide +kernel
theorem dX2_digest_37 : decode cX2_digest 37 = .ok (.dup, 1) := by decide +kernel
theorem dX2_digest_38 : decode cX2_digest 38 = .ok (.iconst 4, 1) := by decide +kernel
theorem dX2_digest_39 : decode cX2_digest 39 = .ok (.aload_n 0, 1) := by decide +kernel
theorem dX2_digest_40 : decode cX2_digest 40 = .ok (.invokevirtual 120, 3) := by decide +kernel
theorem dX2_digest_43 : decode cX2_digest 43 = .ok (.ifCond .eq 7, 3) := by decide +kernel
theorem dX2_digest_46 : decode cX2_digest 46 = .ok (.iconst 1, 1) := by decide +kernel
theorem dX2_digest_47 : decode cX2_digest 47 = .ok (.goto 4, 3) := by decide +kernel
theorem dX2_digest_50 : decode cX2_digest 50 = .ok (.iconst 0, 1) := by decide +kernel
theorem dX2_digest_51 : decode cX2_digest 51 = .ok (.iastore, 1) := by decide +kernel
theorem dX2_digest_52 : decode cX2_digest 52 = .ok (.dup, 1) := by decide +kernel
theorem dX2_digest_53 : decode cX2_digest 53 = .ok (.iconst 5, 1) := by decide +kernel
theorem dX2_digest_54 : decode cX2_digest 54 = .ok (.aload_n 0, 1) := by decide +kernel
theorem dX2_digest_55 : decode cX2_digest 55 = .ok (.invokevirtual 142, 3) := by decide +kernel
theorem dX2_digest_58 : decode cX2_digest 58 = .ok (.ifCond .eq 7, 3) := by decide +kernel
theorem dX2_digest_61 : decode cX2_digest 61 = .ok (.iconst 1, 1) := by decide +kernel
theorem dX2_digest_62 : decode cX2_digest 62 = .ok (.goto 4, 3) := by decide +kernel
theorem dX2_digest_65 : decode cX2_digest 65 = .ok (.iconst 0, 1) := by decide +kernel
theorem dX2_digest_66 : decode cX2_digest 66 = .ok (.iastore, 1) := by decide +kernel
theorem dX2_digest_67 : decode cX2_digest 67 = .ok (.astore_n 1, 1) := by decide +kernel
theorem dX2_digest_68 : decode cX2_digest 68 = .ok (.ldc2_w 157, 3) := by decide +kernel
theorem dX2_digest_71 : decode cX2_digest 71 = .ok (.lstore_n 2, 1) := by decide +kernel
theorem dX2_digest_72 : decode cX2_digest 72 = .ok (.aload_n 1, 1) := by decide +kernel
theorem dX2_digest_73 : decode cX2_digest 73 = .ok (.astore 4, 2) := by decide +kernel
theorem dX2_digest_75 : decode cX2_digest 75 = .ok (.aload 4, 2) := by decide +kernel
theorem dX2_digest_77 : decode cX2_digest 77 = .ok (.arraylength, 1) := by decide +kernel
theorem dX2_digest_78 : decode cX2_digest 78 = .ok (.istore 5, 2) := by decide +kernel
theorem dX2_digest_80 : decode cX2_digest 80 = .ok (.iconst 0, 1) := by decide +kernel
theorem dX2_digest_81 : decode cX2_digest 81 = .ok (.istore 6, 2) := by decide +kernel
theorem dX2_digest_83 : decode cX2_digest 83 = .ok (.iload 6, 2) := by decide +kernel
theorem dX2_digest_85 : decode cX2_digest 85 = .ok (.iload 5, 2) := by decide +kernel
theorem dX2_digest_87 : decode cX2_digest 87 = .ok (.if_icmp .ge 26, 3) := by decide +kernel
theorem dX2_digest_90 : decode cX2_digest 90 = .ok (.aload 4, 2) := by decide +kernel
theorem dX2_digest_92 : decode cX2_digest 92 = .ok (.iload 6, 2) := by decide +kernel
theorem dX2_digest_94 : decode cX2_digest 94 = .ok (.iaload, 1) := by decide +kernel
theorem dX2_digest_95 : decode cX2_digest 95 = .ok (.istore 7, 2) := by decide +kernel
theorem dX2_digest_97 : decode cX2_digest 97 = .ok (.lload_n 2, 1) := by decide +kernel
theorem dX2_digest_98 : decode cX2_digest 98 = .ok (.ldc2_w 159, 3) := by decide +kernel
theorem dX2_digest_101 : decode cX2_digest 101 = .ok (.lmul, 1) := by decide +kernel
theorem dX2_digest_102 : decode cX2_digest 102 = .ok (.iload 7, 2) := by decide +kernel
theorem dX2_digest_104 : decode cX2_digest 104 = .ok (.i2l, 1) := by decide +kernel
theorem dX2_digest_105 : decode cX2_digest 105 = .ok (.ladd, 1) := by decide +kernel
theorem dX2_digest_106 : decode cX2_digest 106 = .ok (.lstore_n 2, 1) := by decide +kernel
theorem dX2_digest_107 : decode cX2_digest 107 = .ok (.iinc 6 1, 3) := by decide +kernel
theorem dX2_digest_110 : decode cX2_digest 110 = .ok (.goto (-27), 3) := by decide +kernel
theorem dX2_digest_113 : decode cX2_digest 113 = .ok (.aload_n 0, 1) := by decide +kernel
theorem dX2_digest_114 : decode cX2_digest 114 = .ok (.getfield 38, 3) := by decide +kernel
theorem dX2_digest_117 : decode cX2_digest 117 = .ok (.ifCond .le 39, 3) := by decide +kernel
theorem dX2_digest_120 : decode cX2_digest 120 = .ok (.lload_n 2, 1) := by decide +kernel
theorem dX2_digest_121 : decode cX2_digest 121 = .ok (.ldc2_w 159, 3) := by decide +kernel
theorem dX2_digest_124 : decode cX2_digest 124 = .ok (.lmul, 1) := by decide +kernel
theorem dX2_digest_125 : decode cX2_digest 125 = .ok (.aload_n 0, 1) := by decide +kernel
theorem dX2_digest_126 : decode cX2_digest 126 = .ok (.invokevirtual 70, 3) := by decide +kernel
theorem dX2_digest_129 : decode cX2_digest 129 = .ok (.i2l, 1) := by decide +kernel
theorem dX2_digest_130 : decode cX2_digest 130 = .ok (.ladd, 1) := by decide +kernel
theorem dX2_digest_131 : decode cX2_digest 131 = .ok (.lstore_n 2, 1) := by decide +kernel
theorem dX2_digest_132 : decode cX2_digest 132 = .ok (.lload_n 2, 1) := by decide +kernel
theorem dX2_digest_133 : decode cX2_digest 133 = .ok (.ldc2_w 159, 3) := by decide +kernel
theorem dX2_digest_136 : decode cX2_digest 136 = .ok (.lmul, 1) := by decide +kernel
theorem dX2_digest_137 : decode cX2_digest 137 = .ok (.aload_n 0, 1) := by decide +kernel
theorem dX2_digest_138 : decode cX2_digest 138 = .ok (.invokevirtual 124, 3) := by decide +kernel
theorem dX2_digest_141 : decode cX2_digest 141 = .ok (.i2l, 1) := by decide +kernel
theorem dX2_digest_142 : decode cX2_digest 142 = .ok (.ladd, 1) := by decide +kernel
theorem dX2_digest_143 : decode cX2_digest 143 = .ok (.lstore_n 2, 1) := by decide +kernel
theorem dX2_digest_144 : decode cX2_digest 144 = .ok (.lload_n 2, 1) := by decide +kernel
theorem dX2_digest_145 : decode cX2_digest 145 = .ok (.ldc2_w 159, 3) := by decide +kernel
theorem dX2_digest_148 : decode cX2_digest 148 = .ok (.lmul, 1) := by decide +kernel
theorem dX2_digest_149 : decode cX2_digest 149 = .ok (.aload_n 0, 1) := by decide +kernel
theorem dX2_digest_150 : decode cX2_digest 150 = .ok (.invokevirtual 133, 3) := by decide +kernel
theorem dX2_digest_153 : decode cX2_digest 153 = .ok (.i2l, 1) := by decide +kernel
theorem dX2_digest_154 : decode cX2_digest 154 = .ok (.ladd, 1) := by decide +kernel
theorem dX2_digest_155 : decode cX2_digest 155 = .ok (.lstore_n 2, 1) := by decide +kernel
theorem dX2_digest_156 : decode cX2_digest 156 = .ok (.lload_n 2, 1) := by decide +kernel
theorem dX2_digest_157 : decode cX2_digest 157 = .ok (.ldc2_w 159, 3) := by decide +kernel
theorem dX2_digest_160 : decode cX2_digest 160 = .ok (.lmul, 1) := by decide +kernel
theorem dX2_digest_161 : decode cX2_digest 161 = .ok (.aload_n 0, 1) := by decide +kernel
theorem dX2_digest_162 : decode cX2_digest 162 = .ok (.aload_n 0, 1) := by decide +kernel
theorem dX2_digest_163 : decode cX2_digest 163 = .ok (.invokevirtual 70, 3) := by decide +kernel
theorem dX2_digest_166 : decode cX2_digest 166 = .ok (.invokevirtual 130, 3) := by decide +kernel
theorem dX2_digest_169 : decode cX2_digest 169 = .ok (.i2l, 1) := by decide +kernel
theorem dX2_digest_170 : decode cX2_digest 170 = .ok (.ladd, 1) := by decide +kernel
theorem dX2_digest_171 : decode cX2_digest 171 = .ok (.lstore_n 2, 1) := by decide +kernel
theorem dX2_digest_172 : decode cX2_digest 172 = .ok (.lload_n 2, 1) := by decide +kernel
theorem dX2_digest_173 : decode cX2_digest 173 = .ok (.ldc2_w 159, 3) := by decide +kernel
theorem dX2_digest_176 : decode cX2_digest 176 = .ok (.lmul, 1) := by decide +kernel
theorem dX2_digest_177 : decode cX2_digest 177 = .ok (.aload_n 0, 1) := by decide +kernel
theorem dX2_digest_178 : decode cX2_digest 178 = .ok (.invokevirtual 151, 3) := by decide +kernel
theorem dX2_digest_181 : decode cX2_digest 181 = .ok (.i2l, 1) := by decide +kernel
theorem dX2_digest_182 : decode cX2_digest 182 = .ok (.ladd, 1) := by decide +kernel
theorem dX2_digest_183 : decode cX2_digest 183 = .ok (.lstore_n 2, 1) := by decide +kernel
theorem dX2_digest_184 : decode cX2_digest 184 = .ok (.iconst 0, 1) := by decide +kernel
theorem dX2_digest_185 : decode cX2_digest 185 = .ok (.istore 4, 2) := by decide +kernel
theorem dX2_digest_187 : decode cX2_digest 187 = .ok (.iload 4, 2) := by decide +kernel
theorem dX2_digest_189 : decode cX2_digest 189 = .ok (.aload_n 0, 1) := by decide +kernel
theorem dX2_digest_190 : decode cX2_digest 190 = .ok (.getfield 38, 3) := by decide +kernel
theorem dX2_digest_193 : decode cX2_digest 193 = .ok (.if_icmp .ge 144, 3) := by decide +kernel
theorem dX2_digest_196 : decode cX2_digest 196 = .ok (.bipush 8, 2) := by decide +kernel
theorem dX2_digest_198 : decode cX2_digest 198 = .ok (.newarray .int, 2) := by decide +kernel
theorem dX2_digest_200 : decode cX2_digest 200 = .ok (.dup, 1) := by decide +kernel
theorem dX2_digest_201 : decode cX2_digest 201 = .ok (.iconst 0, 1) := by decide +kernel
theorem dX2_digest_202 : decode cX2_digest 202 = .ok (.aload_n 0, 1) := by decide +kernel
theorem dX2_digest_203 : decode cX2_digest 203 = .ok (.getfield 13, 3) := by decide +kernel
theorem dX2_digest_206 : decode cX2_digest 206 = .ok (.iload 4, 2) := by decide +kernel
theorem dX2_digest_208 : decode cX2_digest 208 = .ok (.iaload, 1) := by decide +kernel
theorem dX2_digest_209 : decode cX2_digest 209 = .ok (.iastore, 1) := by decide +kernel
theorem dX2_digest_210 : decode cX2_digest 210 = .ok (.dup, 1) := by decide +kernel
theorem dX2_digest_211 : decode cX2_digest 211 = .ok (.iconst 1, 1) := by decide +kernel
theorem dX2_digest_212 : decode cX2_digest 212 = .ok (.aload_n 0, 1) := by decide +kernel
theorem dX2_digest_213 : decode cX2_digest 213 = .ok (.getfield 17, 3) := by decide +kernel
theorem dX2_digest_216 : decode cX2_digest 216 = .ok (.iload 4, 2) := by decide +kernel
theorem dX2_digest_218 : decode cX2_digest 218 = .ok (.iaload, 1) := by decide +kernel
theorem dX2_digest_219 : decode cX2_digest 219 = .ok (.iastore, 1) := by decide +kernel
theorem dX2_digest_220 : decode cX2_digest 220 = .ok (.dup, 1) := by decide +kernel
theorem dX2_digest_221 : decode cX2_digest 221 = .ok (.iconst 2, 1) := by decide +kernel
theorem dX2_digest_222 : decode cX2_digest 222 = .ok (.aload_n 0, 1) := by decide +kernel
theorem dX2_digest_223 : decode cX2_digest 223 = .ok (.getfield 20, 3) := by decide +kernel
theorem dX2_digest_226 : decode cX2_digest 226 = .ok (.iload 4, 2) := by decide +kernel
theorem dX2_digest_228 : decode cX2_digest 228 = .ok (.iaload, 1) := by decide +kernel
theorem dX2_digest_229 : decode cX2_digest 229 = .ok (.iastore, 1) := by decide +kernel
theorem dX2_digest_230 : decode cX2_digest 230 = .ok (.dup, 1) := by decide +kernel
theorem dX2_digest_231 : decode cX2_digest 231 = .ok (.iconst 3, 1) := by decide +kernel
theorem dX2_digest_232 : decode cX2_digest 232 = .ok (.aload_n 0, 1) := by decide +kernel
theorem dX2_digest_233 : decode cX2_digest 233 = .ok (.getfield 23, 3) := by decide +kernel
theorem dX2_digest_236 : decode cX2_digest 236 = .ok (.iload 4, 2) := by decide +kernel
theorem dX2_digest_238 : decode cX2_digest 238 = .ok (.iaload, 1) := by decide +kernel
theorem dX2_digest_239 : decode cX2_digest 239 = .ok (.iastore, 1) := by decide +kernel
theorem dX2_digest_240 : decode cX2_digest 240 = .ok (.dup, 1) := by decide +kernel
theorem dX2_digest_241 : decode cX2_digest 241 = .ok (.iconst 4, 1) := by decide +kernel
theorem dX2_digest_242 : decode cX2_digest 242 = .ok (.aload_n 0, 1) := by decide +kernel
theorem dX2_digest_243 : decode cX2_digest 243 = .ok (.getfield 26, 3) := by decide +kernel
theorem dX2_digest_246 : decode cX2_digest 246 = .ok (.iload 4, 2) := by decide +kernel
theorem dX2_digest_248 : decode cX2_digest 248 = .ok (.iaload, 1) := by decide +kernel
theorem dX2_digest_249 : decode cX2_digest 249 = .ok (.iastore, 1) := by decide +kernel
theorem dX2_digest_250 : decode cX2_digest 250 = .ok (.dup, 1) := by decide +kernel
theorem dX2_digest_251 : decode cX2_digest 251 = .ok (.iconst 5, 1) := by decide +kernel
theorem dX2_digest_252 : decode cX2_digest 252 = .ok (.aload_n 0, 1) := by decide +kernel
theorem dX2_digest_253 : decode cX2_digest 253 = .ok (.iload 4, 2) := by decide +kernel
theorem dX2_digest_255 : decode cX2_digest 255 = .ok (.aload_n 0, 1) := by decide +kernel
theorem dX2_digest_256 : decode cX2_digest 256 = .ok (.invokevirtual 70, 3) := by decide +kernel
theorem dX2_digest_259 : decode cX2_digest 259 = .ok (.invokevirtual 74, 3) := by decide +kernel
theorem dX2_digest_262 : decode cX2_digest 262 = .ok (.iastore, 1) := by decide +kernel
theorem dX2_digest_263 : decode cX2_digest 263 = .ok (.dup, 1) := by decide +kernel
theorem dX2_digest_264 : decode cX2_digest 264 = .ok (.bipush 6, 2) := by decide +kernel
theorem dX2_digest_266 : decode cX2_digest 266 = .ok (.aload_n 0, 1) := by decide +kernel
theorem dX2_digest_267 : decode cX2_digest 267 = .ok (.iload 4, 2) := by decide +kernel
theorem dX2_digest_269 : decode cX2_digest 269 = .ok (.invokevirtual 154, 3) := by decide +kernel
theorem dX2_digest_272 : decode cX2_digest 272 = .ok (.iastore, 1) := by decide +kernel
theorem dX2_digest_273 : decode cX2_digest 273 = .ok (.dup, 1) := by decide +kernel
theorem dX2_digest_274 : decode cX2_digest 274 = .ok (.bipush 7, 2) := by decide +kernel
theorem dX2_digest_276 : decode cX2_digest 276 = .ok (.aload_n 0, 1) := by decide +kernel
theorem dX2_digest_277 : decode cX2_digest 277 = .ok (.iload 4, 2) := by decide +kernel
theorem dX2_digest_279 : decode cX2_digest 279 = .ok (.aload_n 0, 1) := by decide +kernel
theorem dX2_digest_280 : decode cX2_digest 280 = .ok (.invokevirtual 70, 3) := by decide +kernel
theorem dX2_digest_283 : decode cX2_digest 283 = .ok (.invokevirtual 127, 3) := by decide +kernel
theorem dX2_digest_286 : decode cX2_digest 286 = .ok (.iastore, 1) := by decide +kernel
theorem dX2_digest_287 : decode cX2_digest 287 = .ok (.astore 5, 2) := by decide +kernel
theorem dX2_digest_289 : decode cX2_digest 289 = .ok (.aload 5, 2) := by decide +kernel
theorem dX2_digest_291 : decode cX2_digest 291 = .ok (.astore 6, 2) := by decide +kernel
theorem dX2_digest_293 : decode cX2_digest 293 = .ok (.aload 6, 2) := by decide +kernel
theorem dX2_digest_295 : decode cX2_digest 295 = .ok (.arraylength, 1) := by decide +kernel
theorem dX2_digest_296 : decode cX2_digest 296 = .ok (.istore 7, 2) := by decide +kernel
theorem dX2_digest_298 : decode cX2_digest 298 = .ok (.iconst 0, 1) := by decide +kernel
theorem dX2_digest_299 : decode cX2_digest 299 = .ok (.istore 8, 2) := by decide +kernel
theorem dX2_digest_301 : decode cX2_digest 301 = .ok (.iload 8, 2) := by decide +kernel
theorem dX2_digest_303 : decode cX2_digest 303 = .ok (.iload 7, 2) := by decide +kernel
theorem dX2_digest_305 : decode cX2_digest 305 = .ok (.if_icmp .ge 26, 3) := by decide +kernel
theorem dX2_digest_308 : decode cX2_digest 308 = .ok (.aload 6, 2) := by decide +kernel
theorem dX2_digest_310 : decode cX2_digest 310 = .ok (.iload 8, 2) := by decide +kernel
theorem dX2_digest_312 : decode cX2_digest 312 = .ok (.iaload, 1) := by decide +kernel
theorem dX2_digest_313 : decode cX2_digest 313 = .ok (.istore 9, 2) := by decide +kernel
theorem dX2_digest_315 : decode cX2_digest 315 = .ok (.lload_n 2, 1) := by decide +kernel
theorem dX2_digest_316 : decode cX2_digest 316 = .ok (.ldc2_w 159, 3) := by decide +kernel
theorem dX2_digest_319 : decode cX2_digest 319 = .ok (.lmul, 1) := by decide +kernel
theorem dX2_digest_320 : decode cX2_digest 320 = .ok (.iload 9, 2) := by decide +kernel
theorem dX2_digest_322 : decode cX2_digest 322 = .ok (.i2l, 1) := by decide +kernel
theorem dX2_digest_323 : decode cX2_digest 323 = .ok (.ladd, 1) := by decide +kernel
theorem dX2_digest_324 : decode cX2_digest 324 = .ok (.lstore_n 2, 1) := by decide +kernel
theorem dX2_digest_325 : decode cX2_digest 325 = .ok (.iinc 8 1, 3) := by decide +kernel
theorem dX2_digest_328 : decode cX2_digest 328 = .ok (.goto (-27), 3) := by decide +kernel
theorem dX2_digest_331 : decode cX2_digest 331 = .ok (.iinc 4 1, 3) := by decide +kernel
theorem dX2_digest_334 : decode cX2_digest 334 = .ok (.goto (-147), 3) := by decide +kernel
theorem dX2_digest_337 : decode cX2_digest 337 = .ok (.lload_n 2, 1) := by decide +kernel
theorem dX2_digest_338 : decode cX2_digest 338 = .ok (.lreturn, 1) := by decide +kernel
theorem dJ9_abs_0f7a4_0 : decode cJ9_abs_0f7a4 0 = .ok (.iload_n 0, 1) := by decide +kernel
theorem dJ9_abs_0f7a4_1 : decode cJ9_abs_0f7a4 1 = .ok (.ifCond .ge 8, 3) := by decide +kernel
theorem dJ9_abs_0f7a4_4 : decode cJ9_abs_0f7a4 4 = .ok (.iload_n 0, 1) := by decide +kernel
theorem dJ9_abs_0f7a4_5 : decode cJ9_abs_0f7a4 5 = .ok (.ineg, 1) := by decide +kernel
theorem dJ9_abs_0f7a4_6 : decode cJ9_abs_0f7a4 6 = .ok (.goto 4, 3) := by decide +kernel
theorem dJ9_abs_0f7a4_9 : decode cJ9_abs_0f7a4 9 = .ok (.iload_n 0, 1) := by decide +kernel
theorem dJ9_abs_0f7a4_10 : decode cJ9_abs_0f7a4 10 = .ok (.ireturn, 1) := by decide +kernel
theorem dJ9_max_7cf53_0 : decode cJ9_max_7cf53 0 = .ok (.iload_n 0, 1) := by decide +kernel
theorem dJ9_max_7cf53_1 : decode cJ9_max_7cf53 1 = .ok (.iload_n 1, 1) := by decide +kernel
theorem dJ9_max_7cf53_2 : decode cJ9_max_7cf53 2 = .ok (.if_icmp .lt 7, 3) := by decide +kernel
theorem dJ9_max_7cf53_5 : decode cJ9_max_7cf53 5 = .ok (.iload_n 0, 1) := by decide +kernel
theorem dJ9_max_7cf53_6 : decode cJ9_max_7cf53 6 = .ok (.goto 4, 3) := by decide +kernel
theorem dJ9_max_7cf53_9 : decode cJ9_max_7cf53 9 = .ok (.iload_n 1, 1) := by decide +kernel
theorem dJ9_max_7cf53_10 : decode cJ9_max_7cf53 10 = .ok (.ireturn, 1) := by decide +kernel
theorem dJ9_min_7cf53_0 : decode cJ9_min_7cf53 0 = .ok (.iload_n 0, 1) := by decide +kernel
theorem dJ9_min_7cf53_1 : decode cJ9_min_7cf53 1 = .ok (.iload_n 1, 1) := by decide +kernel
theorem dJ9_min_7cf53_2 : decode cJ9_min_7cf53 2 = .ok (.if_icmp .gt 7, 3) := by decide +kernel
theorem dJ9_min_7cf53_5 : decode cJ9_min_7cf53 5 = .ok (.iload_n 0, 1) := by decide +kernel
theorem dJ9_min_7cf53_6 : decode cJ9_min_7cf53 6 = .ok (.goto 4, 3) := by decide +kernel
theorem dJ9_min_7cf53_9 : decode cJ9_min_7cf53 9 = .ok (.iload_n 1, 1) := by decide +kernel
theorem dJ9_min_7cf53_10 : decode cJ9_min_7cf53 10 = .ok (.ireturn, 1) := by decide +kernel
