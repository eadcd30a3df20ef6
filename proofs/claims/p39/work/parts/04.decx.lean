theorem dX0_init_0 : decode cX0_init 0 = .ok (.aload_n 0, 1) := by decide +kernel
theorem dX0_init_1 : decode cX0_init 1 = .ok (.invokespecial 3, 3) := by decide +kernel
theorem dX0_init_4 : decode cX0_init 4 = .ok (.aload_n 0, 1) := by decide +kernel
theorem dX0_init_5 : decode cX0_init 5 = .ok (.bipush 12, 2) := by decide +kernel
theorem dX0_init_7 : decode cX0_init 7 = .ok (.newarray .int, 2) := by decide +kernel
theorem dX0_init_9 : decode cX0_init 9 = .ok (.putfield 9, 3) := by decide +kernel
theorem dX0_init_12 : decode cX0_init 12 = .ok (.aload_n 0, 1) := by decide +kernel
theorem dX0_init_13 : decode cX0_init 13 = .ok (.iconst 0, 1) := by decide +kernel
theorem dX0_init_14 : decode cX0_init 14 = .ok (.putfield 15, 3) := by decide +kernel
theorem dX0_init_17 : decode cX0_init 17 = .ok (.return_, 1) := by decide +kernel
theorem dX0_empty_0 : decode cX0_empty 0 = .ok (.aload_n 0, 1) := by decide +kernel
theorem dX0_empty_1 : decode cX0_empty 1 = .ok (.iconst 0, 1) := by decide +kernel
theorem dX0_empty_2 : decode cX0_empty 2 = .ok (.putfield 15, 3) := by decide +kernel
theorem dX0_empty_5 : decode cX0_empty 5 = .ok (.return_, 1) := by decide +kernel
theorem dX0_isBare_0 : decode cX0_isBare 0 = .ok (.aload_n 0, 1) := by decide +kernel
theorem dX0_isBare_1 : decode cX0_isBare 1 = .ok (.getfield 15, 3) := by decide +kernel
theorem dX0_isBare_4 : decode cX0_isBare 4 = .ok (.ifCond .ne 7, 3) := by decide +kernel
theorem dX0_isBare_7 : decode cX0_isBare 7 = .ok (.iconst 1, 1) := by decide +kernel
theorem dX0_isBare_8 : decode cX0_isBare 8 = .ok (.goto 4, 3) := by decide +kernel
theorem dX0_isBare_11 : decode cX0_isBare 11 = .ok (.iconst 0, 1) := by decide +kernel
theorem dX0_isBare_12 : decode cX0_isBare 12 = .ok (.ireturn, 1) := by decide +kernel
theorem dX0_put_0 : decode cX0_put 0 = .ok (.aload_n 0, 1) := by decide +kernel
theorem dX0_put_1 : decode cX0_put 1 = .ok (.getfield 15, 3) := by decide +kernel
theorem dX0_put_4 : decode cX0_put 4 = .ok (.bipush 12, 2) := by decide +kernel
theorem dX0_put_6 : decode cX0_put 6 = .ok (.if_icmp .lt 4, 3) := by decide +kernel
theorem dX0_put_9 : decode cX0_put 9 = .ok (.return_, 1) := by decide +kernel
theorem dX0_put_10 : decode cX0_put 10 = .ok (.aload_n 0, 1) := by decide +kernel
theorem dX0_put_11 : decode cX0_put 11 = .ok (.getfield 15, 3) := by decide +kernel
theorem dX0_put_14 : decode cX0_put 14 = .ok (.istore_n 2, 1) := by decide +kernel
theorem dX0_put_15 : decode cX0_put 15 = .ok (.iload_n 2, 1) := by decide +kernel
theorem dX0_put_16 : decode cX0_put 16 = .ok (.ifCond .le 35, 3) := by decide +kernel
theorem dX0_put_19 : decode cX0_put 19 = .ok (.aload_n 0, 1) := by decide +kernel
theorem dX0_put_20 : decode cX0_put 20 = .ok (.getfield 9, 3) := by decide +kernel
theorem dX0_put_23 : decode cX0_put 23 = .ok (.iload_n 2, 1) := by decide +kernel
theorem dX0_put_24 : decode cX0_put 24 = .ok (.iconst 1, 1) := by decide +kernel
theorem dX0_put_25 : decode cX0_put 25 = .ok (.isub, 1) := by decide +kernel
theorem dX0_put_26 : decode cX0_put 26 = .ok (.iaload, 1) := by decide +kernel
theorem dX0_put_27 : decode cX0_put 27 = .ok (.iload_n 1, 1) := by decide +kernel
theorem dX0_put_28 : decode cX0_put 28 = .ok (.if_icmp .le 23, 3) := by decide +kernel
theorem dX0_put_31 : decode cX0_put 31 = .ok (.aload_n 0, 1) := by decide +kernel
theorem dX0_put_32 : decode cX0_put 32 = .ok (.getfield 9, 3) := by decide +kernel
theorem dX0_put_35 : decode cX0_put 35 = .ok (.iload_n 2, 1) := by decide +kernel
theorem dX0_put_36 : decode cX0_put 36 = .ok (.aload_n 0, 1) := by decide +kernel
theorem dX0_put_37 : decode cX0_put 37 = .ok (.getfield 9, 3) := by decide +kernel
theorem dX0_put_40 : decode cX0_put 40 = .ok (.iload_n 2, 1) := by decide +kernel
theorem dX0_put_41 : decode cX0_put 41 = .ok (.iconst 1, 1) := by decide +kernel
theorem dX0_put_42 : decode cX0_put 42 = .ok (.isub, 1) := by decide +kernel
theorem dX0_put_43 : decode cX0_put 43 = .ok (.iaload, 1) := by decide +kernel
theorem dX0_put_44 : decode cX0_put 44 = .ok (.iastore, 1) := by decide +kernel
theorem dX0_put_45 : decode cX0_put 45 = .ok (.iinc 2 (-1), 3) := by decide +kernel
theorem dX0_put_48 : decode cX0_put 48 = .ok (.goto (-33), 3) := by decide +kernel
theorem dX0_put_51 : decode cX0_put 51 = .ok (.aload_n 0, 1) := by decide +kernel
theorem dX0_put_52 : decode cX0_put 52 = .ok (.getfield 9, 3) := by decide +kernel
theorem dX0_put_55 : decode cX0_put 55 = .ok (.iload_n 2, 1) := by decide +kernel
theorem dX0_put_56 : decode cX0_put 56 = .ok (.iload_n 1, 1) := by decide +kernel
theorem dX0_put_57 : decode cX0_put 57 = .ok (.iastore, 1) := by decide +kernel
theorem dX0_put_58 : decode cX0_put 58 = .ok (.aload_n 0, 1) := by decide +kernel
theorem dX0_put_59 : decode cX0_put 59 = .ok (.dup, 1) := by decide +kernel
theorem dX0_put_60 : decode cX0_put 60 = .ok (.getfield 15, 3) := by decide +kernel
theorem dX0_put_63 : decode cX0_put 63 = .ok (.iconst 1, 1) := by decide +kernel
theorem dX0_put_64 : decode cX0_put 64 = .ok (.iadd, 1) := by decide +kernel
theorem dX0_put_65 : decode cX0_put 65 = .ok (.putfield 15, 3) := by decide +kernel
theorem dX0_put_68 : decode cX0_put 68 = .ok (.return_, 1) := by decide +kernel
theorem dX0_middle_0 : decode cX0_middle 0 = .ok (.aload_n 0, 1) := by decide +kernel
theorem dX0_middle_1 : decode cX0_middle 1 = .ok (.getfield 15, 3) := by decide +kernel
theorem dX0_middle_4 : decode cX0_middle 4 = .ok (.ifCond .ne 7, 3) := by decide +kernel
theorem dX0_middle_7 : decode cX0_middle 7 = .ok (.iconst 0, 1) := by decide +kernel
theorem dX0_middle_8 : decode cX0_middle 8 = .ok (.goto 16, 3) := by decide +kernel
theorem dX0_middle_11 : decode cX0_middle 11 = .ok (.aload_n 0, 1) := by decide +kernel
theorem dX0_middle_12 : decode cX0_middle 12 = .ok (.getfield 9, 3) := by decide +kernel
theorem dX0_middle_15 : decode cX0_middle 15 = .ok (.aload_n 0, 1) := by decide +kernel
theorem dX0_middle_16 : decode cX0_middle 16 = .ok (.getfield 15, 3) := by decide +kernel
theorem dX0_middle_19 : decode cX0_middle 19 = .ok (.iconst 1, 1) := by decide +kernel
theorem dX0_middle_20 : decode cX0_middle 20 = .ok (.isub, 1) := by decide +kernel
theorem dX0_middle_21 : decode cX0_middle 21 = .ok (.iconst 2, 1) := by decide +kernel
theorem dX0_middle_22 : decode cX0_middle 22 = .ok (.idiv, 1) := by decide +kernel
theorem dX0_middle_23 : decode cX0_middle 23 = .ok (.iaload, 1) := by decide +kernel
theorem dX0_middle_24 : decode cX0_middle 24 = .ok (.ireturn, 1) := by decide +kernel
set_option maxRecDepth 20000 in
theorem ggX1_init_X0_init : GoodIn wsX1_init wsX0_init := goodIn_r _ [19, 20, 2, 3, 7, 21, 22, 33, 34] (by decide +kernel) (by decide +kernel)
set_option maxRecDepth 20000 in
theorem gX1_init_X0_init_n40 : GoodIn wsX1_init (wsX0_init) := ggX1_init_X0_init
theorem dX1_init_0 : decode cX1_init 0 = .ok (.aload_n 0, 1) := by decide +kernel
theorem dX1_init_1 : decode cX1_init 1 = .ok (.invokespecial 1, 3) := by decide +kernel
theorem dX1_init_4 : decode cX1_init 4 = .ok (.aload_n 0, 1) := by decide +kernel
theorem dX1_init_5 : decode cX1_init 5 = .ok (.iconst 0, 1) := by decide +kernel
theorem dX1_init_6 : decode cX1_init 6 = .ok (.putfield 7, 3) := by decide +kernel
theorem dX1_init_9 : decode cX1_init 9 = .ok (.aload_n 0, 1) := by decide +kernel
theorem dX1_init_10 : decode cX1_init 10 = .ok (.iconst 0, 1) := by decide +kernel
theorem dX1_init_11 : decode cX1_init 11 = .ok (.putfield 13, 3) := by decide +kernel
theorem dX1_init_14 : decode cX1_init 14 = .ok (.aload_n 0, 1) := by decide +kernel
theorem dX1_init_15 : decode cX1_init 15 = .ok (.bipush 12, 2) := by decide +kernel
theorem dX1_init_17 : decode cX1_init 17 = .ok (.putfield 16, 3) := by decide +kernel
theorem dX1_init_20 : decode cX1_init 20 = .ok (.aload_n 0, 1) := by decide +kernel
theorem dX1_init_21 : decode cX1_init 21 = .ok (.bipush 12, 2) := by decide +kernel
theorem dX1_init_23 : decode cX1_init 23 = .ok (.newarray .int, 2) := by decide +kernel
theorem dX1_init_25 : decode cX1_init 25 = .ok (.putfield 19, 3) := by decide +kernel
theorem dX1_init_28 : decode cX1_init 28 = .ok (.aload_n 0, 1) := by decide +kernel
theorem dX1_init_29 : decode cX1_init 29 = .ok (.bipush 12, 2) := by decide +kernel
theorem dX1_init_31 : decode cX1_init 31 = .ok (.newarray .int, 2) := by decide +kernel
theorem dX1_init_33 : decode cX1_init 33 = .ok (.putfield 23, 3) := by decide +kernel
theorem dX1_init_36 : decode cX1_init 36 = .ok (.aload_n 0, 1) := by decide +kernel
theorem dX1_init_37 : decode cX1_init 37 = .ok (.bipush 12, 2) := by decide +kernel
theorem dX1_init_39 : decode cX1_init 39 = .ok (.newarray .int, 2) := by decide +kernel
theorem dX1_init_41 : decode cX1_init 41 = .ok (.putfield 26, 3) := by decide +kernel
theorem dX1_init_44 : decode cX1_init 44 = .ok (.aload_n 0, 1) := by decide +kernel
theorem dX1_init_45 : decode cX1_init 45 = .ok (.bipush 12, 2) := by decide +kernel
theorem dX1_init_47 : decode cX1_init 47 = .ok (.newarray .int, 2) := by decide +kernel
theorem dX1_init_49 : decode cX1_init 49 = .ok (.putfield 29, 3) := by decide +kernel
theorem dX1_init_52 : decode cX1_init 52 = .ok (.aload_n 0, 1) := by decide +kernel
theorem dX1_init_53 : decode cX1_init 53 = .ok (.bipush 12, 2) := by decide +kernel
theorem dX1_init_55 : decode cX1_init 55 = .ok (.newarray .int, 2) := by decide +kernel
theorem dX1_init_57 : decode cX1_init 57 = .ok (.putfield 32, 3) := by decide +kernel
theorem dX1_init_60 : decode cX1_init 60 = .ok (.aload_n 0, 1) := by decide +kernel
theorem dX1_init_61 : decode cX1_init 61 = .ok (.bipush 12, 2) := by decide +kernel
theorem dX1_init_63 : decode cX1_init 63 = .ok (.newarray .int, 2) := by decide +kernel
theorem dX1_init_65 : decode cX1_init 65 = .ok (.putfield 35, 3) := by decide +kernel
theorem dX1_init_68 : decode cX1_init 68 = .ok (.aload_n 0, 1) := by decide +kernel
theorem dX1_init_69 : decode cX1_init 69 = .ok (.new 38, 3) := by decide +kernel
theorem dX1_init_72 : decode cX1_init 72 = .ok (.dup, 1) := by decide +kernel
theorem dX1_init_73 : decode cX1_init 73 = .ok (.invokespecial 40, 3) := by decide +kernel
theorem dX1_init_76 : decode cX1_init 76 = .ok (.putfield 41, 3) := by decide +kernel
theorem dX1_init_79 : decode cX1_init 79 = .ok (.return_, 1) := by decide +kernel
set_option maxRecDepth 20000 in
theorem ggX1_send_X1_checkVillage : GoodIn wsX1_send wsX1_checkVillage := goodIn_ca (goodIn_r _ [12, 13, 14] (by decide +kernel) (by decide +kernel)) (goodIn_sub (fun _ h => List.mem_cons_of_mem _ (List.mem_append_left _ (List.mem_append_right _ h))) (by decide +kernel))
set_option maxRecDepth 20000 in
theorem gX1_send_X1_checkVillage : GoodIn wsX1_send (va_wsS RX1 45 yX1_checkVillage wsX1_checkVillage) := goodIn_app (goodIn_of _ (by decide +kernel)) ggX1_send_X1_checkVillage
set_option maxRecDepth 20000 in
theorem ggX1_send_X1_checkPlank : GoodIn wsX1_send wsX1_checkPlank := goodIn_ca (goodIn_r _ [17, 13, 14] (by decide +kernel) (by decide +kernel)) (goodIn_sub (fun _ h => List.mem_cons_of_mem _ (List.mem_append_left _ (List.mem_append_right _ h))) (by decide +kernel))
set_option maxRecDepth 20000 in
theorem gX1_send_X1_checkPlank : GoodIn wsX1_send (va_wsS RX1 49 yX1_checkPlank wsX1_checkPlank) := goodIn_app (goodIn_of _ (by decide +kernel)) ggX1_send_X1_checkPlank
set_option maxRecDepth 20000 in
theorem ggX1_send_X1_checkReachAndPace : GoodIn wsX1_send wsX1_checkReachAndPace := goodIn_ca (goodIn_r _ [20, 21, 22] (by decide +kernel) (by decide +kernel)) (goodIn_sub (fun _ h => List.mem_cons_of_mem _ (List.mem_append_right _ h)) (by decide +kernel))
set_option maxRecDepth 20000 in
theorem gX1_send_X1_checkReachAndPace : GoodIn wsX1_send (va_wsS RX1 52 yX1_checkReachAndPace wsX1_checkReachAndPace) := goodIn_app (goodIn_of _ (by decide +kernel)) ggX1_send_X1_checkReachAndPace
set_option maxRecDepth 20000 in
theorem ggX1_send_X1_hasRoom : GoodIn wsX1_send wsX1_hasRoom := goodIn_r _ [26, 27, 28, 29, 30, 11, 31, 3, 32, 33, 34, 35, 36, 37, 38, 39, 40, 41] (by decide +kernel) (by decide +kernel)
set_option maxRecDepth 20000 in
theorem gX1_send_X1_hasRoom : GoodIn wsX1_send (wsV RX1 63 RX1 yX1_hasRoom wsX1_hasRoom) := goodIn_app (goodIn_of _ (by decide +kernel)) ggX1_send_X1_hasRoom
theorem dX1_send_0 : decode cX1_send 0 = .ok (.iload_n 1, 1) := by decide +kernel
theorem dX1_send_1 : decode cX1_send 1 = .ok (.invokestatic 45, 3) := by decide +kernel
theorem dX1_send_4 : decode cX1_send 4 = .ok (.iload_n 2, 1) := by decide +kernel
theorem dX1_send_5 : decode cX1_send 5 = .ok (.invokestatic 49, 3) := by decide +kernel
theorem dX1_send_8 : decode cX1_send 8 = .ok (.iload_n 3, 1) := by decide +kernel
theorem dX1_send_9 : decode cX1_send 9 = .ok (.iload 4, 2) := by decide +kernel
theorem dX1_send_11 : decode cX1_send 11 = .ok (.invokestatic 52, 3) := by decide +kernel
theorem dX1_send_14 : decode cX1_send 14 = .ok (.aload_n 0, 1) := by decide +kernel
theorem dX1_send_15 : decode cX1_send 15 = .ok (.getfield 7, 3) := by decide +kernel
theorem dX1_send_18 : decode cX1_send 18 = .ok (.bipush 12, 2) := by decide +kernel
theorem dX1_send_20 : decode cX1_send 20 = .ok (.if_icmp .lt 13, 3) := by decide +kernel
theorem dX1_send_23 : decode cX1_send 23 = .ok (.new 56, 3) := by decide +kernel
theorem dX1_send_26 : decode cX1_send 26 = .ok (.dup, 1) := by decide +kernel
theorem dX1_send_27 : decode cX1_send 27 = .ok (.ldc 58, 2) := by decide +kernel
theorem dX1_send_29 : decode cX1_send 29 = .ok (.invokespecial 60, 3) := by decide +kernel
theorem dX1_send_32 : decode cX1_send 32 = .ok (.athrow, 1) := by decide +kernel
theorem dX1_send_33 : decode cX1_send 33 = .ok (.aload_n 0, 1) := by decide +kernel
theorem dX1_send_34 : decode cX1_send 34 = .ok (.aload_n 0, 1) := by decide +kernel
theorem dX1_send_35 : decode cX1_send 35 = .ok (.getfield 32, 3) := by decide +kernel
theorem dX1_send_38 : decode cX1_send 38 = .ok (.iload_n 2, 1) := by decide +kernel
theorem dX1_send_39 : decode cX1_send 39 = .ok (.invokevirtual 63, 3) := by decide +kernel
theorem dX1_send_42 : decode cX1_send 42 = .ok (.ifCond .ne 13, 3) := by decide +kernel
theorem dX1_send_45 : decode cX1_send 45 = .ok (.new 56, 3) := by decide +kernel
theorem dX1_send_48 : decode cX1_send 48 = .ok (.dup, 1) := by decide +kernel
theorem dX1_send_49 : decode cX1_send 49 = .ok (.ldc 67, 2) := by decide +kernel
theorem dX1_send_51 : decode cX1_send 51 = .ok (.invokespecial 60, 3) := by decide +kernel
theorem dX1_send_54 : decode cX1_send 54 = .ok (.athrow, 1) := by decide +kernel
theorem dX1_send_55 : decode cX1_send 55 = .ok (.aload_n 0, 1) := by decide +kernel
theorem dX1_send_56 : decode cX1_send 56 = .ok (.getfield 7, 3) := by decide +kernel
theorem dX1_send_59 : decode cX1_send 59 = .ok (.istore 5, 2) := by decide +kernel
theorem dX1_send_61 : decode cX1_send 61 = .ok (.aload_n 0, 1) := by decide +kernel
theorem dX1_send_62 : decode cX1_send 62 = .ok (.getfield 19, 3) := by decide +kernel
theorem dX1_send_65 : decode cX1_send 65 = .ok (.iload 5, 2) := by decide +kernel
theorem dX1_send_67 : decode cX1_send 67 = .ok (.iload_n 1, 1) := by decide +kernel
theorem dX1_send_68 : decode cX1_send 68 = .ok (.iastore, 1) := by decide +kernel
theorem dX1_send_69 : decode cX1_send 69 = .ok (.aload_n 0, 1) := by decide +kernel
theorem dX1_send_70 : decode cX1_send 70 = .ok (.getfield 23, 3) := by decide +kernel
theorem dX1_send_73 : decode cX1_send 73 = .ok (.iload 5, 2) := by decide +kernel
theorem dX1_send_75 : decode cX1_send 75 = .ok (.iload_n 2, 1) := by decide +kernel
theorem dX1_send_76 : decode cX1_send 76 = .ok (.iastore, 1) := by decide +kernel
theorem dX1_send_77 : decode cX1_send 77 = .ok (.aload_n 0, 1) := by decide +kernel
theorem dX1_send_78 : decode cX1_send 78 = .ok (.getfield 26, 3) := by decide +kernel
theorem dX1_send_81 : decode cX1_send 81 = .ok (.iload 5, 2) := by decide +kernel
theorem dX1_send_83 : decode cX1_send 83 = .ok (.iload_n 3, 1) := by decide +kernel
theorem dX1_send_84 : decode cX1_send 84 = .ok (.iastore, 1) := by decide +kernel
theorem dX1_send_85 : decode cX1_send 85 = .ok (.aload_n 0, 1) := by decide +kernel
theorem dX1_send_86 : decode cX1_send 86 = .ok (.getfield 29, 3) := by decide +kernel
theorem dX1_send_89 : decode cX1_send 89 = .ok (.iload 5, 2) := by decide +kernel
theorem dX1_send_91 : decode cX1_send 91 = .ok (.iload 4, 2) := by decide +kernel
theorem dX1_send_93 : decode cX1_send 93 = .ok (.iastore, 1) := by decide +kernel
theorem dX1_send_94 : decode cX1_send 94 = .ok (.aload_n 0, 1) := by decide +kernel
theorem dX1_send_95 : decode cX1_send 95 = .ok (.getfield 32, 3) := by decide +kernel
theorem dX1_send_98 : decode cX1_send 98 = .ok (.iload 5, 2) := by decide +kernel
theorem dX1_send_100 : decode cX1_send 100 = .ok (.iload_n 2, 1) := by decide +kernel
theorem dX1_send_101 : decode cX1_send 101 = .ok (.iastore, 1) := by decide +kernel
theorem dX1_send_102 : decode cX1_send 102 = .ok (.aload_n 0, 1) := by decide +kernel
theorem dX1_send_103 : decode cX1_send 103 = .ok (.iload 5, 2) := by decide +kernel
theorem dX1_send_105 : decode cX1_send 105 = .ok (.iconst 1, 1) := by decide +kernel
theorem dX1_send_106 : decode cX1_send 106 = .ok (.iadd, 1) := by decide +kernel
theorem dX1_send_107 : decode cX1_send 107 = .ok (.putfield 7, 3) := by decide +kernel
theorem dX1_send_110 : decode cX1_send 110 = .ok (.iload 5, 2) := by decide +kernel
theorem dX1_send_112 : decode cX1_send 112 = .ok (.ireturn, 1) := by decide +kernel
set_option maxRecDepth 20000 in
theorem ggX1_recall_X1_checkDelegate : GoodIn wsX1_recall wsX1_checkDelegate := goodIn_ca (goodIn_r _ [11, 12, 13, 6, 18, 19, 20, 21, 22, 23, 24, 25, 26, 27] (by decide +kernel) (by decide +kernel)) (goodIn_sub (fun _ h => List.mem_cons_of_mem _ (List.mem_append_right _ h)) (by decide +kernel))
set_option maxRecDepth 20000 in
theorem gX1_recall_X1_checkDelegate : GoodIn wsX1_recall (wsV RX1 69 RX1 yX1_checkDelegate wsX1_checkDelegate) := goodIn_app (goodIn_of _ (by decide +kernel)) ggX1_recall_X1_checkDelegate
set_option maxRecDepth 20000 in
theorem ggX1_recall_X1_closeGap : GoodIn wsX1_recall wsX1_closeGap := goodIn_r _ [17, 6, 18, 19, 20, 21, 22, 23, 24, 25, 26, 27] (by decide +kernel) (by decide +kernel)
set_option maxRecDepth 20000 in
theorem gX1_recall_X1_closeGap : GoodIn wsX1_recall (wsV RX1 72 RX1 yX1_closeGap wsX1_closeGap) := goodIn_app (goodIn_of _ (by decide +kernel)) ggX1_recall_X1_closeGap
theorem dX1_recall_0 : decode cX1_recall 0 = .ok (.aload_n 0, 1) := by decide +kernel
theorem dX1_recall_1 : decode cX1_recall 1 = .ok (.iload_n 1, 1) := by decide +kernel
theorem dX1_recall_2 : decode cX1_recall 2 = .ok (.invokevirtual 69, 3) := by decide +kernel
theorem dX1_recall_5 : decode cX1_recall 5 = .ok (.aload_n 0, 1) := by decide +kernel
theorem dX1_recall_6 : decode cX1_recall 6 = .ok (.getfield 32, 3) := by decide +kernel
theorem dX1_recall_9 : decode cX1_recall 9 = .ok (.iload_n 1, 1) := by decide +kernel
theorem dX1_recall_10 : decode cX1_recall 10 = .ok (.iaload, 1) := by decide +kernel
theorem dX1_recall_11 : decode cX1_recall 11 = .ok (.istore_n 2, 1) := by decide +kernel
theorem dX1_recall_12 : decode cX1_recall 12 = .ok (.aload_n 0, 1) := by decide +kernel
theorem dX1_recall_13 : decode cX1_recall 13 = .ok (.aload_n 0, 1) := by decide +kernel
theorem dX1_recall_14 : decode cX1_recall 14 = .ok (.getfield 19, 3) := by decide +kernel
theorem dX1_recall_17 : decode cX1_recall 17 = .ok (.iload_n 1, 1) := by decide +kernel
theorem dX1_recall_18 : decode cX1_recall 18 = .ok (.invokevirtual 72, 3) := by decide +kernel
theorem dX1_recall_21 : decode cX1_recall 21 = .ok (.aload_n 0, 1) := by decide +kernel
theorem dX1_recall_22 : decode cX1_recall 22 = .ok (.aload_n 0, 1) := by decide +kernel
theorem dX1_recall_23 : decode cX1_recall 23 = .ok (.getfield 23, 3) := by decide +kernel
theorem dX1_recall_26 : decode cX1_recall 26 = .ok (.iload_n 1, 1) := by decide +kernel
theorem dX1_recall_27 : decode cX1_recall 27 = .ok (.invokevirtual 72, 3) := by decide +kernel
theorem dX1_recall_30 : decode cX1_recall 30 = .ok (.aload_n 0, 1) := by decide +kernel
theorem dX1_recall_31 : decode cX1_recall 31 = .ok (.aload_n 0, 1) := by decide +kernel
theorem dX1_recall_32 : decode cX1_recall 32 = .ok (.getfield 26, 3) := by decide +kernel
theorem dX1_recall_35 : decode cX1_recall 35 = .ok (.iload_n 1, 1) := by decide +kernel
theorem dX1_recall_36 : decode cX1_recall 36 = .ok (.invokevirtual 72, 3) := by decide +kernel
theorem dX1_recall_39 : decode cX1_recall 39 = .ok (.aload_n 0, 1) := by decide +kernel
theorem dX1_recall_40 : decode cX1_recall 40 = .ok (.aload_n 0, 1) := by decide +kernel
theorem dX1_recall_41 : decode cX1_recall 41 = .ok (.getfield 29, 3) := by decide +kernel
theorem dX1_recall_44 : decode cX1_recall 44 = .ok (.iload_n 1, 1) := by decide +kernel
theorem dX1_recall_45 : decode cX1_recall 45 = .ok (.invokevirtual 72, 3) := by decide +kernel
theorem dX1_recall_48 : decode cX1_recall 48 = .ok (.aload_n 0, 1) := by decide +kernel
theorem dX1_recall_49 : decode cX1_recall 49 = .ok (.aload_n 0, 1) := by decide +kernel
theorem dX1_recall_50 : decode cX1_recall 50 = .ok (.getfield 32, 3) := by decide +kernel
theorem dX1_recall_53 : decode cX1_recall 53 = .ok (.iload_n 1, 1) := by decide +kernel
theorem dX1_recall_54 : decode cX1_recall 54 = .ok (.invokevirtual 72, 3) := by decide +kernel
theorem dX1_recall_57 : decode cX1_recall 57 = .ok (.aload_n 0, 1) := by decide +kernel
theorem dX1_recall_58 : decode cX1_recall 58 = .ok (.dup, 1) := by decide +kernel
theorem dX1_recall_59 : decode cX1_recall 59 = .ok (.getfield 7, 3) := by decide +kernel
theorem dX1_recall_62 : decode cX1_recall 62 = .ok (.iconst 1, 1) := by decide +kernel
theorem dX1_recall_63 : decode cX1_recall 63 = .ok (.isub, 1) := by decide +kernel
theorem dX1_recall_64 : decode cX1_recall 64 = .ok (.putfield 7, 3) := by decide +kernel
theorem dX1_recall_67 : decode cX1_recall 67 = .ok (.iload_n 2, 1) := by decide +kernel
theorem dX1_recall_68 : decode cX1_recall 68 = .ok (.ireturn, 1) := by decide +kernel
set_option maxRecDepth 20000 in
theorem ggX1_persuade_X1_checkDelegate : GoodIn wsX1_persuade wsX1_checkDelegate := goodIn_ca (goodIn_r _ [6, 7, 8, 9, 13, 14, 15, 16, 17, 18, 19, 20, 21, 22] (by decide +kernel) (by decide +kernel)) (goodIn_sub (fun _ h => List.mem_cons_of_mem _ (List.mem_append_right _ h)) (by decide +kernel))
set_option maxRecDepth 20000 in
theorem gX1_persuade_X1_checkDelegate : GoodIn wsX1_persuade (wsV RX1 69 RX1 yX1_checkDelegate wsX1_checkDelegate) := goodIn_app (goodIn_of _ (by decide +kernel)) ggX1_persuade_X1_checkDelegate
set_option maxRecDepth 20000 in
theorem ggX1_persuade_X1_checkPlank : GoodIn wsX1_persuade wsX1_checkPlank := goodIn_ca (goodIn_r _ [12, 7, 8] (by decide +kernel) (by decide +kernel)) (goodIn_sub (fun _ h => List.mem_cons_of_mem _ (List.mem_append_right _ h)) (by decide +kernel))
set_option maxRecDepth 20000 in
theorem gX1_persuade_X1_checkPlank : GoodIn wsX1_persuade (va_wsS RX1 49 yX1_checkPlank wsX1_checkPlank) := goodIn_app (goodIn_of _ (by decide +kernel)) ggX1_persuade_X1_checkPlank
theorem dX1_persuade_0 : decode cX1_persuade 0 = .ok (.aload_n 0, 1) := by decide +kernel
theorem dX1_persuade_1 : decode cX1_persuade 1 = .ok (.iload_n 1, 1) := by decide +kernel
theorem dX1_persuade_2 : decode cX1_persuade 2 = .ok (.invokevirtual 69, 3) := by decide +kernel
theorem dX1_persuade_5 : decode cX1_persuade 5 = .ok (.iload_n 2, 1) := by decide +kernel
theorem dX1_persuade_6 : decode cX1_persuade 6 = .ok (.invokestatic 49, 3) := by decide +kernel
theorem dX1_persuade_9 : decode cX1_persuade 9 = .ok (.aload_n 0, 1) := by decide +kernel
theorem dX1_persuade_10 : decode cX1_persuade 10 = .ok (.getfield 23, 3) := by decide +kernel
theorem dX1_persuade_13 : decode cX1_persuade 13 = .ok (.iload_n 1, 1) := by decide +kernel
theorem dX1_persuade_14 : decode cX1_persuade 14 = .ok (.iaload, 1) := by decide +kernel
theorem dX1_persuade_15 : decode cX1_persuade 15 = .ok (.istore_n 3, 1) := by decide +kernel
theorem dX1_persuade_16 : decode cX1_persuade 16 = .ok (.aload_n 0, 1) := by decide +kernel
theorem dX1_persuade_17 : decode cX1_persuade 17 = .ok (.getfield 23, 3) := by decide +kernel
theorem dX1_persuade_20 : decode cX1_persuade 20 = .ok (.iload_n 1, 1) := by decide +kernel
theorem dX1_persuade_21 : decode cX1_persuade 21 = .ok (.iload_n 2, 1) := by decide +kernel
theorem dX1_persuade_22 : decode cX1_persuade 22 = .ok (.iastore, 1) := by decide +kernel
theorem dX1_persuade_23 : decode cX1_persuade 23 = .ok (.iload_n 3, 1) := by decide +kernel
theorem dX1_persuade_24 : decode cX1_persuade 24 = .ok (.ireturn, 1) := by decide +kernel
set_option maxRecDepth 20000 in
theorem ggX1_lead_X1_checkDelegate : GoodIn wsX1_lead wsX1_checkDelegate := goodIn_ca (goodIn_r _ [8, 9, 10, 11, 42, 43, 44, 45, 46, 47, 48, 49, 50, 51] (by decide +kernel) (by decide +kernel)) (goodIn_sub (fun _ h => List.mem_cons_of_mem _ (List.mem_append_right _ h)) (by decide +kernel))
set_option maxRecDepth 20000 in
theorem gX1_lead_X1_checkDelegate : GoodIn wsX1_lead (wsV RX1 69 RX1 yX1_checkDelegate wsX1_checkDelegate) := goodIn_app (goodIn_of _ (by decide +kernel)) ggX1_lead_X1_checkDelegate
set_option maxRecDepth 20000 in
theorem ggX1_lead_X1_checkPlank : GoodIn wsX1_lead wsX1_checkPlank := goodIn_ca (goodIn_r _ [14, 9, 10] (by decide +kernel) (by decide +kernel)) (goodIn_sub (fun _ h => List.mem_cons_of_mem _ (List.mem_append_right _ h)) (by decide +kernel))
set_option maxRecDepth 20000 in
theorem gX1_lead_X1_checkPlank : GoodIn wsX1_lead (va_wsS RX1 49 yX1_checkPlank wsX1_checkPlank) := goodIn_app (goodIn_of _ (by decide +kernel)) ggX1_lead_X1_checkPlank
set_option maxRecDepth 20000 in
theorem ggX1_lead_X1_isWilling : GoodIn wsX1_lead wsX1_isWilling := goodIn_r _ [18, 19, 20, 21, 22, 7, 23, 24, 25, 26, 27, 28, 42, 43, 44, 45, 46, 47, 48, 49, 50, 51] (by decide +kernel) (by decide +kernel)
set_option maxRecDepth 20000 in
theorem gX1_lead_X1_isWilling : GoodIn wsX1_lead (wsV RX1 76 RX1 yX1_isWilling wsX1_isWilling) := goodIn_app (goodIn_of _ (by decide +kernel)) ggX1_lead_X1_isWilling
set_option maxRecDepth 20000 in
theorem ggX1_lead_X1_hasPlaceFor : GoodIn wsX1_lead wsX1_hasPlaceFor := goodIn_r _ [32, 3, 33, 34, 35, 7, 36, 37, 38, 39, 40, 41, 11, 42, 43, 44, 45, 46, 47, 48, 49, 50, 51] (by decide +kernel) (by decide +kernel)
set_option maxRecDepth 20000 in
theorem gX1_lead_X1_hasPlaceFor : GoodIn wsX1_lead (wsV RX1 82 RX1 yX1_hasPlaceFor wsX1_hasPlaceFor) := goodIn_app (goodIn_of _ (by decide +kernel)) ggX1_lead_X1_hasPlaceFor
theorem dX1_lead_0 : decode cX1_lead 0 = .ok (.aload_n 0, 1) := by decide +kernel
theorem dX1_lead_1 : decode cX1_lead 1 = .ok (.iload_n 1, 1) := by decide +kernel
theorem dX1_lead_2 : decode cX1_lead 2 = .ok (.invokevirtual 69, 3) := by decide +kernel
theorem dX1_lead_5 : decode cX1_lead 5 = .ok (.iload_n 2, 1) := by decide +kernel
theorem dX1_lead_6 : decode cX1_lead 6 = .ok (.invokestatic 49, 3) := by decide +kernel
theorem dX1_lead_9 : decode cX1_lead 9 = .ok (.aload_n 0, 1) := by decide +kernel
theorem dX1_lead_10 : decode cX1_lead 10 = .ok (.iload_n 1, 1) := by decide +kernel
theorem dX1_lead_11 : decode cX1_lead 11 = .ok (.iload_n 2, 1) := by decide +kernel
theorem dX1_lead_12 : decode cX1_lead 12 = .ok (.invokevirtual 76, 3) := by decide +kernel
theorem dX1_lead_15 : decode cX1_lead 15 = .ok (.ifCond .ne 13, 3) := by decide +kernel
theorem dX1_lead_18 : decode cX1_lead 18 = .ok (.new 56, 3) := by decide +kernel
theorem dX1_lead_21 : decode cX1_lead 21 = .ok (.dup, 1) := by decide +kernel
theorem dX1_lead_22 : decode cX1_lead 22 = .ok (.ldc 80, 2) := by decide +kernel
theorem dX1_lead_24 : decode cX1_lead 24 = .ok (.invokespecial 60, 3) := by decide +kernel
theorem dX1_lead_27 : decode cX1_lead 27 = .ok (.athrow, 1) := by decide +kernel
theorem dX1_lead_28 : decode cX1_lead 28 = .ok (.aload_n 0, 1) := by decide +kernel
theorem dX1_lead_29 : decode cX1_lead 29 = .ok (.iload_n 1, 1) := by decide +kernel
theorem dX1_lead_30 : decode cX1_lead 30 = .ok (.iload_n 2, 1) := by decide +kernel
theorem dX1_lead_31 : decode cX1_lead 31 = .ok (.invokevirtual 82, 3) := by decide +kernel
theorem dX1_lead_34 : decode cX1_lead 34 = .ok (.ifCond .ne 13, 3) := by decide +kernel
theorem dX1_lead_37 : decode cX1_lead 37 = .ok (.new 56, 3) := by decide +kernel
theorem dX1_lead_40 : decode cX1_lead 40 = .ok (.dup, 1) := by decide +kernel
theorem dX1_lead_41 : decode cX1_lead 41 = .ok (.ldc 67, 2) := by decide +kernel
theorem dX1_lead_43 : decode cX1_lead 43 = .ok (.invokespecial 60, 3) := by decide +kernel
theorem dX1_lead_46 : decode cX1_lead 46 = .ok (.athrow, 1) := by decide +kernel
theorem dX1_lead_47 : decode cX1_lead 47 = .ok (.aload_n 0, 1) := by decide +kernel
theorem dX1_lead_48 : decode cX1_lead 48 = .ok (.getfield 32, 3) := by decide +kernel
theorem dX1_lead_51 : decode cX1_lead 51 = .ok (.iload_n 1, 1) := by decide +kernel
theorem dX1_lead_52 : decode cX1_lead 52 = .ok (.iaload, 1) := by decide +kernel
theorem dX1_lead_53 : decode cX1_lead 53 = .ok (.istore_n 3, 1) := by decide +kernel
theorem dX1_lead_54 : decode cX1_lead 54 = .ok (.aload_n 0, 1) := by decide +kernel
theorem dX1_lead_55 : decode cX1_lead 55 = .ok (.getfield 32, 3) := by decide +kernel
theorem dX1_lead_58 : decode cX1_lead 58 = .ok (.iload_n 1, 1) := by decide +kernel
theorem dX1_lead_59 : decode cX1_lead 59 = .ok (.iload_n 2, 1) := by decide +kernel
theorem dX1_lead_60 : decode cX1_lead 60 = .ok (.iastore, 1) := by decide +kernel
theorem dX1_lead_61 : decode cX1_lead 61 = .ok (.iload_n 3, 1) := by decide +kernel
theorem dX1_lead_62 : decode cX1_lead 62 = .ok (.ireturn, 1) := by decide +kernel
theorem dX1_setStrength_0 : decode cX1_setStrength 0 = .ok (.iload_n 1, 1) := by decide +kernel
theorem dX1_setStrength_1 : decode cX1_setStrength 1 = .ok (.iconst 1, 1) := by decide +kernel
theorem dX1_setStrength_2 : decode cX1_setStrength 2 = .ok (.if_icmp .lt 9, 3) := by decide +kernel
theorem dX1_setStrength_5 : decode cX1_setStrength 5 = .ok (.iload_n 1, 1) := by decide +kernel
theorem dX1_setStrength_6 : decode cX1_setStrength 6 = .ok (.bipush 12, 2) := by decide +kernel
theorem dX1_setStrength_8 : decode cX1_setStrength 8 = .ok (.if_icmp .le 13, 3) := by decide +kernel
theorem dX1_setStrength_11 : decode cX1_setStrength 11 = .ok (.new 85, 3) := by decide +kernel
theorem dX1_setStrength_14 : decode cX1_setStrength 14 = .ok (.dup, 1) := by decide +kernel
theorem dX1_setStrength_15 : decode cX1_setStrength 15 = .ok (.ldc 87, 2) := by decide +kernel
theorem dX1_setStrength_17 : decode cX1_setStrength 17 = .ok (.invokespecial 89, 3) := by decide +kernel
theorem dX1_setStrength_20 : decode cX1_setStrength 20 = .ok (.athrow, 1) := by decide +kernel
theorem dX1_setStrength_21 : decode cX1_setStrength 21 = .ok (.aload_n 0, 1) := by decide +kernel
theorem dX1_setStrength_22 : decode cX1_setStrength 22 = .ok (.getfield 16, 3) := by decide +kernel
theorem dX1_setStrength_25 : decode cX1_setStrength 25 = .ok (.istore_n 2, 1) := by decide +kernel
theorem dX1_setStrength_26 : decode cX1_setStrength 26 = .ok (.aload_n 0, 1) := by decide +kernel
theorem dX1_setStrength_27 : decode cX1_setStrength 27 = .ok (.iload_n 1, 1) := by decide +kernel
theorem dX1_setStrength_28 : decode cX1_setStrength 28 = .ok (.putfield 16, 3) := by decide +kernel
theorem dX1_setStrength_31 : decode cX1_setStrength 31 = .ok (.iload_n 2, 1) := by decide +kernel
theorem dX1_setStrength_32 : decode cX1_setStrength 32 = .ok (.ireturn, 1) := by decide +kernel
set_option maxRecDepth 20000 in
theorem ggX1_passRounds_X1_checkRounds : GoodIn wsX1_passRounds wsX1_checkRounds := goodIn_ca (goodIn_r _ [6, 7, 8] (by decide +kernel) (by decide +kernel)) (goodIn_sub (fun _ h => List.mem_cons_of_mem _ (List.mem_append_right _ h)) (by decide +kernel))
set_option maxRecDepth 20000 in
theorem gX1_passRounds_X1_checkRounds : GoodIn wsX1_passRounds (va_wsS RX1 90 yX1_checkRounds wsX1_checkRounds) := goodIn_app (goodIn_of _ (by decide +kernel)) ggX1_passRounds_X1_checkRounds
set_option maxRecDepth 20000 in
theorem ggX1_passRounds_X1_goRounds : GoodIn wsX1_passRounds wsX1_goRounds := goodIn_r _ [12, 13, 14, 15, 5, 16, 17, 18, 19, 20, 21, 22, 23, 24, 25, 26, 27, 28, 29, 30, 31, 32, 33, 34, 35, 36, 37, 38, 39, 40, 41, 42, 43, 44, 45, 46, 47, 48, 49, 50, 51, 52, 53, 54, 55, 56, 57, 58, 59, 60, 61, 62, 63, 64, 65, 66, 67, 68, 69, 70, 71, 72, 73, 74, 75, 76, 77, 78, 79] (by decide +kernel) (by decide +kernel)
set_option maxRecDepth 20000 in
theorem gX1_passRounds_X1_goRounds : GoodIn wsX1_passRounds (wsV RX1 93 RX1 yX1_goRounds wsX1_goRounds) := goodIn_app (goodIn_of _ (by decide +kernel)) ggX1_passRounds_X1_goRounds
theorem dX1_passRounds_0 : decode cX1_passRounds 0 = .ok (.iload_n 1, 1) := by decide +kernel
theorem dX1_passRounds_1 : decode cX1_passRounds 1 = .ok (.invokestatic 90, 3) := by decide +kernel
theorem dX1_passRounds_4 : decode cX1_passRounds 4 = .ok (.aload_n 0, 1) := by decide +kernel
theorem dX1_passRounds_5 : decode cX1_passRounds 5 = .ok (.dup, 1) := by decide +kernel
theorem dX1_passRounds_6 : decode cX1_passRounds 6 = .ok (.getfield 13, 3) := by decide +kernel
theorem dX1_passRounds_9 : decode cX1_passRounds 9 = .ok (.iload_n 1, 1) := by decide +kernel
theorem dX1_passRounds_10 : decode cX1_passRounds 10 = .ok (.iadd, 1) := by decide +kernel
theorem dX1_passRounds_11 : decode cX1_passRounds 11 = .ok (.putfield 13, 3) := by decide +kernel
theorem dX1_passRounds_14 : decode cX1_passRounds 14 = .ok (.aload_n 0, 1) := by decide +kernel
theorem dX1_passRounds_15 : decode cX1_passRounds 15 = .ok (.aload_n 0, 1) := by decide +kernel
theorem dX1_passRounds_16 : decode cX1_passRounds 16 = .ok (.getfield 32, 3) := by decide +kernel
theorem dX1_passRounds_19 : decode cX1_passRounds 19 = .ok (.iload_n 1, 1) := by decide +kernel
theorem dX1_passRounds_20 : decode cX1_passRounds 20 = .ok (.invokevirtual 93, 3) := by decide +kernel
theorem dX1_passRounds_23 : decode cX1_passRounds 23 = .ok (.ireturn, 1) := by decide +kernel
theorem dX1_delegates_0 : decode cX1_delegates 0 = .ok (.aload_n 0, 1) := by decide +kernel
theorem dX1_delegates_1 : decode cX1_delegates 1 = .ok (.getfield 7, 3) := by decide +kernel
theorem dX1_delegates_4 : decode cX1_delegates 4 = .ok (.ireturn, 1) := by decide +kernel
theorem dX1_rounds_0 : decode cX1_rounds 0 = .ok (.aload_n 0, 1) := by decide +kernel
theorem dX1_rounds_1 : decode cX1_rounds 1 = .ok (.getfield 13, 3) := by decide +kernel
theorem dX1_rounds_4 : decode cX1_rounds 4 = .ok (.ireturn, 1) := by decide +kernel
theorem dX1_strength_0 : decode cX1_strength 0 = .ok (.aload_n 0, 1) := by decide +kernel
theorem dX1_strength_1 : decode cX1_strength 1 = .ok (.getfield 16, 3) := by decide +kernel
theorem dX1_strength_4 : decode cX1_strength 4 = .ok (.ireturn, 1) := by decide +kernel
set_option maxRecDepth 20000 in
theorem ggX1_villageOf_X1_checkDelegate : GoodIn wsX1_villageOf wsX1_checkDelegate := goodIn_ca (goodIn_r _ [6, 7, 8, 9, 10, 11, 12, 13, 14, 15, 16, 17, 18, 19] (by decide +kernel) (by decide +kernel)) (goodIn_sub (fun _ h => List.mem_cons_of_mem _ (List.mem_append_right _ h)) (by decide +kernel))
set_option maxRecDepth 20000 in
theorem gX1_villageOf_X1_checkDelegate : GoodIn wsX1_villageOf (wsV RX1 69 RX1 yX1_checkDelegate wsX1_checkDelegate) := goodIn_app (goodIn_of _ (by decide +kernel)) ggX1_villageOf_X1_checkDelegate
theorem dX1_villageOf_0 : decode cX1_villageOf 0 = .ok (.aload_n 0, 1) := by decide +kernel
theorem dX1_villageOf_1 : decode cX1_villageOf 1 = .ok (.iload_n 1, 1) := by decide +kernel
theorem dX1_villageOf_2 : decode cX1_villageOf 2 = .ok (.invokevirtual 69, 3) := by decide +kernel
theorem dX1_villageOf_5 : decode cX1_villageOf 5 = .ok (.aload_n 0, 1) := by decide +kernel
theorem dX1_villageOf_6 : decode cX1_villageOf 6 = .ok (.getfield 19, 3) := by decide +kernel
theorem dX1_villageOf_9 : decode cX1_villageOf 9 = .ok (.iload_n 1, 1) := by decide +kernel
theorem dX1_villageOf_10 : decode cX1_villageOf 10 = .ok (.iaload, 1) := by decide +kernel
theorem dX1_villageOf_11 : decode cX1_villageOf 11 = .ok (.ireturn, 1) := by decide +kernel
set_option maxRecDepth 20000 in
theorem ggX1_wishOf_X1_checkDelegate : GoodIn wsX1_wishOf wsX1_checkDelegate := goodIn_ca (goodIn_r _ [6, 7, 8, 9, 10, 11, 12, 13, 14, 15, 16, 17, 18, 19] (by decide +kernel) (by decide +kernel)) (goodIn_sub (fun _ h => List.mem_cons_of_mem _ (List.mem_append_right _ h)) (by decide +kernel))
set_option maxRecDepth 20000 in
theorem gX1_wishOf_X1_checkDelegate : GoodIn wsX1_wishOf (wsV RX1 69 RX1 yX1_checkDelegate wsX1_checkDelegate) := goodIn_app (goodIn_of _ (by decide +kernel)) ggX1_wishOf_X1_checkDelegate
theorem dX1_wishOf_0 : decode cX1_wishOf 0 = .ok (.aload_n 0, 1) := by decide +kernel
theorem dX1_wishOf_1 : decode cX1_wishOf 1 = .ok (.iload_n 1, 1) := by decide +kernel
theorem dX1_wishOf_2 : decode cX1_wishOf 2 = .ok (.invokevirtual 69, 3) := by decide +kernel
theorem dX1_wishOf_5 : decode cX1_wishOf 5 = .ok (.aload_n 0, 1) := by decide +kernel
theorem dX1_wishOf_6 : decode cX1_wishOf 6 = .ok (.getfield 23, 3) := by decide +kernel
theorem dX1_wishOf_9 : decode cX1_wishOf 9 = .ok (.iload_n 1, 1) := by decide +kernel
theorem dX1_wishOf_10 : decode cX1_wishOf 10 = .ok (.iaload, 1) := by decide +kernel
theorem dX1_wishOf_11 : decode cX1_wishOf 11 = .ok (.ireturn, 1) := by decide +kernel
set_option maxRecDepth 20000 in
theorem ggX1_reachOf_X1_checkDelegate : GoodIn wsX1_reachOf wsX1_checkDelegate := goodIn_ca (goodIn_r _ [6, 7, 8, 9, 10, 11, 12, 13, 14, 15, 16, 17, 18, 19] (by decide +kernel) (by decide +kernel)) (goodIn_sub (fun _ h => List.mem_cons_of_mem _ (List.mem_append_right _ h)) (by decide +kernel))
set_option maxRecDepth 20000 in
theorem gX1_reachOf_X1_checkDelegate : GoodIn wsX1_reachOf (wsV RX1 69 RX1 yX1_checkDelegate wsX1_checkDelegate) := goodIn_app (goodIn_of _ (by decide +kernel)) ggX1_reachOf_X1_checkDelegate
theorem dX1_reachOf_0 : decode cX1_reachOf 0 = .ok (.aload_n 0, 1) := by decide +kernel
theorem dX1_reachOf_1 : decode cX1_reachOf 1 = .ok (.iload_n 1, 1) := by decide +kernel
theorem dX1_reachOf_2 : decode cX1_reachOf 2 = .ok (.invokevirtual 69, 3) := by decide +kernel
theorem dX1_reachOf_5 : decode cX1_reachOf 5 = .ok (.aload_n 0, 1) := by decide +kernel
theorem dX1_reachOf_6 : decode cX1_reachOf 6 = .ok (.getfield 26, 3) := by decide +kernel
theorem dX1_reachOf_9 : decode cX1_reachOf 9 = .ok (.iload_n 1, 1) := by decide +kernel
theorem dX1_reachOf_10 : decode cX1_reachOf 10 = .ok (.iaload, 1) := by decide +kernel
theorem dX1_reachOf_11 : decode cX1_reachOf 11 = .ok (.ireturn, 1) := by decide +kernel
set_option maxRecDepth 20000 in
theorem ggX1_paceOf_X1_checkDelegate : GoodIn wsX1_paceOf wsX1_checkDelegate := goodIn_ca (goodIn_r _ [6, 7, 8, 9, 10, 11, 12, 13, 14, 15, 16, 17, 18, 19] (by decide +kernel) (by decide +kernel)) (goodIn_sub (fun _ h => List.mem_cons_of_mem _ (List.mem_append_right _ h)) (by decide +kernel))
set_option maxRecDepth 20000 in
theorem gX1_paceOf_X1_checkDelegate : GoodIn wsX1_paceOf (wsV RX1 69 RX1 yX1_checkDelegate wsX1_checkDelegate) := goodIn_app (goodIn_of _ (by decide +kernel)) ggX1_paceOf_X1_checkDelegate
theorem dX1_paceOf_0 : decode cX1_paceOf 0 = .ok (.aload_n 0, 1) := by decide +kernel
theorem dX1_paceOf_1 : decode cX1_paceOf 1 = .ok (.iload_n 1, 1) := by decide +kernel
theorem dX1_paceOf_2 : decode cX1_paceOf 2 = .ok (.invokevirtual 69, 3) := by decide +kernel
theorem dX1_paceOf_5 : decode cX1_paceOf 5 = .ok (.aload_n 0, 1) := by decide +kernel
theorem dX1_paceOf_6 : decode cX1_paceOf 6 = .ok (.getfield 29, 3) := by decide +kernel
theorem dX1_paceOf_9 : decode cX1_paceOf 9 = .ok (.iload_n 1, 1) := by decide +kernel
theorem dX1_paceOf_10 : decode cX1_paceOf 10 = .ok (.iaload, 1) := by decide +kernel
theorem dX1_paceOf_11 : decode cX1_paceOf 11 = .ok (.ireturn, 1) := by decide +kernel
set_option maxRecDepth 20000 in
theorem ggX1_plankOf_X1_checkDelegate : GoodIn wsX1_plankOf wsX1_checkDelegate := goodIn_ca (goodIn_r _ [6, 7, 8, 9, 10, 11, 12, 13, 14, 15, 16, 17, 18, 19] (by decide +kernel) (by decide +kernel)) (goodIn_sub (fun _ h => List.mem_cons_of_mem _ (List.mem_append_right _ h)) (by decide +kernel))
set_option maxRecDepth 20000 in
theorem gX1_plankOf_X1_checkDelegate : GoodIn wsX1_plankOf (wsV RX1 69 RX1 yX1_checkDelegate wsX1_checkDelegate) := goodIn_app (goodIn_of _ (by decide +kernel)) ggX1_plankOf_X1_checkDelegate
theorem dX1_plankOf_0 : decode cX1_plankOf 0 = .ok (.aload_n 0, 1) := by decide +kernel
theorem dX1_plankOf_1 : decode cX1_plankOf 1 = .ok (.iload_n 1, 1) := by decide +kernel
theorem dX1_plankOf_2 : decode cX1_plankOf 2 = .ok (.invokevirtual 69, 3) := by decide +kernel
theorem dX1_plankOf_5 : decode cX1_plankOf 5 = .ok (.aload_n 0, 1) := by decide +kernel
theorem dX1_plankOf_6 : decode cX1_plankOf 6 = .ok (.getfield 32, 3) := by decide +kernel
theorem dX1_plankOf_9 : decode cX1_plankOf 9 = .ok (.iload_n 1, 1) := by decide +kernel
theorem dX1_plankOf_10 : decode cX1_plankOf 10 = .ok (.iaload, 1) := by decide +kernel
theorem dX1_plankOf_11 : decode cX1_plankOf 11 = .ok (.ireturn, 1) := by decide +kernel
set_option maxRecDepth 20000 in
theorem ggX1_standingOn_X1_checkPlank : GoodIn wsX1_standingOn wsX1_checkPlank := goodIn_ca (goodIn_r _ [5, 6, 7] (by decide +kernel) (by decide +kernel)) (goodIn_sub (fun _ h => List.mem_cons_of_mem _ (List.mem_append_right _ h)) (by decide +kernel))
set_option maxRecDepth 20000 in
theorem gX1_standingOn_X1_checkPlank : GoodIn wsX1_standingOn (va_wsS RX1 49 yX1_checkPlank wsX1_checkPlank) := goodIn_app (goodIn_of _ (by decide +kernel)) ggX1_standingOn_X1_checkPlank
set_option maxRecDepth 20000 in
theorem ggX1_standingOn_X1_crowdOn : GoodIn wsX1_standingOn wsX1_crowdOn := goodIn_r _ [11, 12, 13, 14, 15, 16, 17, 18, 19, 20, 21, 22] (by decide +kernel) (by decide +kernel)
set_option maxRecDepth 20000 in
theorem gX1_standingOn_X1_crowdOn : GoodIn wsX1_standingOn (wsV RX1 97 RX1 yX1_crowdOn wsX1_crowdOn) := goodIn_app (goodIn_of _ (by decide +kernel)) ggX1_standingOn_X1_crowdOn
theorem dX1_standingOn_0 : decode cX1_standingOn 0 = .ok (.iload_n 1, 1) := by decide +kernel
theorem dX1_standingOn_1 : decode cX1_standingOn 1 = .ok (.invokestatic 49, 3) := by decide +kernel
theorem dX1_standingOn_4 : decode cX1_standingOn 4 = .ok (.aload_n 0, 1) := by decide +kernel
theorem dX1_standingOn_5 : decode cX1_standingOn 5 = .ok (.aload_n 0, 1) := by decide +kernel
theorem dX1_standingOn_6 : decode cX1_standingOn 6 = .ok (.getfield 32, 3) := by decide +kernel
theorem dX1_standingOn_9 : decode cX1_standingOn 9 = .ok (.iload_n 1, 1) := by decide +kernel
theorem dX1_standingOn_10 : decode cX1_standingOn 10 = .ok (.invokevirtual 97, 3) := by decide +kernel
theorem dX1_standingOn_13 : decode cX1_standingOn 13 = .ok (.ireturn, 1) := by decide +kernel
set_option maxRecDepth 20000 in
theorem ggX1_spread_X1_distanceOfEnds : GoodIn wsX1_spread wsX1_distanceOfEnds := goodIn_r _ [6, 7, 8, 9, 10, 11, 12, 13, 14, 15, 16, 17, 18, 19, 20, 21, 22, 23, 24] (by decide +kernel) (by decide +kernel)
set_option maxRecDepth 20000 in
theorem gX1_spread_X1_distanceOfEnds : GoodIn wsX1_spread (wsV RX1 100 RX1 yX1_distanceOfEnds wsX1_distanceOfEnds) := goodIn_app (goodIn_of _ (by decide +kernel)) ggX1_spread_X1_distanceOfEnds
theorem dX1_spread_0 : decode cX1_spread 0 = .ok (.aload_n 0, 1) := by decide +kernel
theorem dX1_spread_1 : decode cX1_spread 1 = .ok (.aload_n 0, 1) := by decide +kernel
theorem dX1_spread_2 : decode cX1_spread 2 = .ok (.getfield 32, 3) := by decide +kernel
theorem dX1_spread_5 : decode cX1_spread 5 = .ok (.invokevirtual 100, 3) := by decide +kernel
theorem dX1_spread_8 : decode cX1_spread 8 = .ok (.ireturn, 1) := by decide +kernel
set_option maxRecDepth 20000 in
theorem ggX1_isTreaty_X1_agreesAt : GoodIn wsX1_isTreaty wsX1_agreesAt := goodIn_r _ [6, 7, 8, 9, 5, 10, 11, 12, 13, 14, 15, 16, 17, 18, 19, 20, 21, 22, 23, 24, 25, 26, 27, 28, 29, 30, 31, 32, 33] (by decide +kernel) (by decide +kernel)
set_option maxRecDepth 20000 in
theorem gX1_isTreaty_X1_agreesAt : GoodIn wsX1_isTreaty (wsV RX1 104 RX1 yX1_agreesAt wsX1_agreesAt) := goodIn_app (goodIn_of _ (by decide +kernel)) ggX1_isTreaty_X1_agreesAt
theorem dX1_isTreaty_0 : decode cX1_isTreaty 0 = .ok (.aload_n 0, 1) := by decide +kernel
theorem dX1_isTreaty_1 : decode cX1_isTreaty 1 = .ok (.aload_n 0, 1) := by decide +kernel
theorem dX1_isTreaty_2 : decode cX1_isTreaty 2 = .ok (.getfield 32, 3) := by decide +kernel
theorem dX1_isTreaty_5 : decode cX1_isTreaty 5 = .ok (.invokevirtual 104, 3) := by decide +kernel
theorem dX1_isTreaty_8 : decode cX1_isTreaty 8 = .ok (.ireturn, 1) := by decide +kernel
set_option maxRecDepth 20000 in
theorem ggX1_compromise_X1_checkSomeoneThere : GoodIn wsX1_compromise wsX1_checkSomeoneThere := goodIn_ca (goodIn_r _ [6, 7, 8, 9, 30, 31, 32, 33, 34, 35, 36, 37, 38, 39] (by decide +kernel) (by decide +kernel)) (goodIn_sub (fun _ h => List.mem_cons_of_mem _ (List.mem_append_right _ h)) (by decide +kernel))
set_option maxRecDepth 20000 in
theorem gX1_compromise_X1_checkSomeoneThere : GoodIn wsX1_compromise (wsV RX1 108 RX1 yX1_checkSomeoneThere wsX1_checkSomeoneThere) := goodIn_app (goodIn_of _ (by decide +kernel)) ggX1_compromise_X1_checkSomeoneThere
set_option maxRecDepth 20000 in
theorem ggX1_compromise_X1_middleOfAll : GoodIn wsX1_compromise wsX1_middleOfAll := goodIn_r _ [13, 14, 9, 15, 16, 17, 18, 19, 20, 21, 22, 23, 24, 25, 26, 27, 28, 29, 30, 31, 32, 33, 34, 35, 36, 37, 38, 39, 40, 41] (by decide +kernel) (by decide +kernel)
set_option maxRecDepth 20000 in
theorem gX1_compromise_X1_middleOfAll : GoodIn wsX1_compromise (wsV RX1 111 RX1 yX1_middleOfAll wsX1_middleOfAll) := goodIn_app (goodIn_of _ (by decide +kernel)) ggX1_compromise_X1_middleOfAll
theorem dX1_compromise_0 : decode cX1_compromise 0 = .ok (.aload_n 0, 1) := by decide +kernel
theorem dX1_compromise_1 : decode cX1_compromise 1 = .ok (.invokevirtual 108, 3) := by decide +kernel
theorem dX1_compromise_4 : decode cX1_compromise 4 = .ok (.aload_n 0, 1) := by decide +kernel
theorem dX1_compromise_5 : decode cX1_compromise 5 = .ok (.aload_n 0, 1) := by decide +kernel
theorem dX1_compromise_6 : decode cX1_compromise 6 = .ok (.getfield 32, 3) := by decide +kernel
theorem dX1_compromise_9 : decode cX1_compromise 9 = .ok (.invokevirtual 111, 3) := by decide +kernel
theorem dX1_compromise_12 : decode cX1_compromise 12 = .ok (.ireturn, 1) := by decide +kernel
set_option maxRecDepth 20000 in
theorem ggX1_compromiseOf_X1_checkVillage : GoodIn wsX1_compromiseOf wsX1_checkVillage := goodIn_ca (goodIn_r _ [7, 8, 9] (by decide +kernel) (by decide +kernel)) (goodIn_sub (fun _ h => List.mem_cons_of_mem _ (List.mem_append_right _ h)) (by decide +kernel))
set_option maxRecDepth 20000 in
theorem gX1_compromiseOf_X1_checkVillage : GoodIn wsX1_compromiseOf (va_wsS RX1 45 yX1_checkVillage wsX1_checkVillage) := goodIn_app (goodIn_of _ (by decide +kernel)) ggX1_compromiseOf_X1_checkVillage
set_option maxRecDepth 20000 in
theorem ggX1_compromiseOf_X1_gatherVillage : GoodIn wsX1_compromiseOf wsX1_gatherVillage := goodIn_r _ [13, 3, 14, 15, 16, 17, 18, 19, 20, 21, 22, 23, 24, 25, 26, 27, 36, 37, 38, 39, 40, 41, 42, 43, 44, 45, 46, 47] (by decide +kernel) (by decide +kernel)
set_option maxRecDepth 20000 in
theorem gX1_compromiseOf_X1_gatherVillage : GoodIn wsX1_compromiseOf (wsV RX1 114 RX1 yX1_gatherVillage wsX1_gatherVillage) := goodIn_app (goodIn_of _ (by decide +kernel)) ggX1_compromiseOf_X1_gatherVillage
set_option maxRecDepth 20000 in
theorem ggX1_compromiseOf_X0_isBare : GoodIn wsX1_compromiseOf wsX0_isBare := goodIn_r _ [31, 22, 46, 47] (by decide +kernel) (by decide +kernel)
set_option maxRecDepth 20000 in
theorem gX1_compromiseOf_X0_isBare : GoodIn wsX1_compromiseOf (wsV RX1 117 RX0 yX0_isBare wsX0_isBare) := goodIn_app (goodIn_of _ (by decide +kernel)) ggX1_compromiseOf_X0_isBare
set_option maxRecDepth 20000 in
theorem ggX1_compromiseOf_X0_middle : GoodIn wsX1_compromiseOf wsX0_middle := goodIn_r _ [35, 22, 27, 46, 47] (by decide +kernel) (by decide +kernel)
set_option maxRecDepth 20000 in
theorem gX1_compromiseOf_X0_middle : GoodIn wsX1_compromiseOf (wsV RX1 123 RX0 yX0_middle wsX0_middle) := goodIn_app (goodIn_of _ (by decide +kernel)) ggX1_compromiseOf_X0_middle
theorem dX1_compromiseOf_0 : decode cX1_compromiseOf 0 = .ok (.iload_n 1, 1) := by decide +kernel
theorem dX1_compromiseOf_1 : decode cX1_compromiseOf 1 = .ok (.invokestatic 45, 3) := by decide +kernel
theorem dX1_compromiseOf_4 : decode cX1_compromiseOf 4 = .ok (.aload_n 0, 1) := by decide +kernel
theorem dX1_compromiseOf_5 : decode cX1_compromiseOf 5 = .ok (.iload_n 1, 1) := by decide +kernel
theorem dX1_compromiseOf_6 : decode cX1_compromiseOf 6 = .ok (.invokevirtual 114, 3) := by decide +kernel
theorem dX1_compromiseOf_9 : decode cX1_compromiseOf 9 = .ok (.aload_n 0, 1) := by decide +kernel
theorem dX1_compromiseOf_10 : decode cX1_compromiseOf 10 = .ok (.getfield 41, 3) := by decide +kernel
theorem dX1_compromiseOf_13 : decode cX1_compromiseOf 13 = .ok (.invokevirtual 117, 3) := by decide +kernel
theorem dX1_compromiseOf_16 : decode cX1_compromiseOf 16 = .ok (.ifCond .eq 13, 3) := by decide +kernel
theorem dX1_compromiseOf_19 : decode cX1_compromiseOf 19 = .ok (.new 56, 3) := by decide +kernel
theorem dX1_compromiseOf_22 : decode cX1_compromiseOf 22 = .ok (.dup, 1) := by decide +kernel
theorem dX1_compromiseOf_23 : decode cX1_compromiseOf 23 = .ok (.ldc 121, 2) := by decide +kernel
theorem dX1_compromiseOf_25 : decode cX1_compromiseOf 25 = .ok (.invokespecial 60, 3) := by decide +kernel
theorem dX1_compromiseOf_28 : decode cX1_compromiseOf 28 = .ok (.athrow, 1) := by decide +kernel
theorem dX1_compromiseOf_29 : decode cX1_compromiseOf 29 = .ok (.aload_n 0, 1) := by decide +kernel
theorem dX1_compromiseOf_30 : decode cX1_compromiseOf 30 = .ok (.getfield 41, 3) := by decide +kernel
theorem dX1_compromiseOf_33 : decode cX1_compromiseOf 33 = .ok (.invokevirtual 123, 3) := by decide +kernel
theorem dX1_compromiseOf_36 : decode cX1_compromiseOf 36 = .ok (.ireturn, 1) := by decide +kernel
set_option maxRecDepth 20000 in
theorem ggX1_compromiseWithout_X1_checkDelegate : GoodIn wsX1_compromiseWithout wsX1_checkDelegate := goodIn_ca (goodIn_r _ [8, 9, 10, 11, 36, 37, 38, 39, 40, 41, 42, 43, 44, 45] (by decide +kernel) (by decide +kernel)) (goodIn_sub (fun _ h => List.mem_cons_of_mem _ (List.mem_append_right _ h)) (by decide +kernel))
set_option maxRecDepth 20000 in
theorem gX1_compromiseWithout_X1_checkDelegate : GoodIn wsX1_compromiseWithout (wsV RX1 69 RX1 yX1_checkDelegate wsX1_checkDelegate) := goodIn_app (goodIn_of _ (by decide +kernel)) ggX1_compromiseWithout_X1_checkDelegate
set_option maxRecDepth 20000 in
theorem ggX1_compromiseWithout_X1_gatherOthers : GoodIn wsX1_compromiseWithout wsX1_gatherOthers := goodIn_r _ [15, 3, 11, 16, 17, 18, 19, 20, 21, 22, 23, 24, 25, 26, 27, 36, 37, 38, 39, 40, 41, 42, 43, 44, 45, 46, 47] (by decide +kernel) (by decide +kernel)
set_option maxRecDepth 20000 in
theorem gX1_compromiseWithout_X1_gatherOthers : GoodIn wsX1_compromiseWithout (wsV RX1 127 RX1 yX1_gatherOthers wsX1_gatherOthers) := goodIn_app (goodIn_of _ (by decide +kernel)) ggX1_compromiseWithout_X1_gatherOthers
set_option maxRecDepth 20000 in
theorem ggX1_compromiseWithout_X0_isBare : GoodIn wsX1_compromiseWithout wsX0_isBare := goodIn_r _ [31, 22, 46, 47] (by decide +kernel) (by decide +kernel)
set_option maxRecDepth 20000 in
theorem gX1_compromiseWithout_X0_isBare : GoodIn wsX1_compromiseWithout (wsV RX1 117 RX0 yX0_isBare wsX0_isBare) := goodIn_app (goodIn_of _ (by decide +kernel)) ggX1_compromiseWithout_X0_isBare
set_option maxRecDepth 20000 in
theorem ggX1_compromiseWithout_X0_middle : GoodIn wsX1_compromiseWithout wsX0_middle := goodIn_r _ [35, 22, 27, 46, 47] (by decide +kernel) (by decide +kernel)
set_option maxRecDepth 20000 in
theorem gX1_compromiseWithout_X0_middle : GoodIn wsX1_compromiseWithout (wsV RX1 123 RX0 yX0_middle wsX0_middle) := goodIn_app (goodIn_of _ (by decide +kernel)) ggX1_compromiseWithout_X0_middle
theorem dX1_compromiseWithout_0 : decode cX1_compromiseWithout 0 = .ok (.aload_n 0, 1) := by decide +kernel
theorem dX1_compromiseWithout_1 : decode cX1_compromiseWithout 1 = .ok (.iload_n 1, 1) := by decide +kernel
theorem dX1_compromiseWithout_2 : decode cX1_compromiseWithout 2 = .ok (.invokevirtual 69, 3) := by decide +kernel
theorem dX1_compromiseWithout_5 : decode cX1_compromiseWithout 5 = .ok (.aload_n 0, 1) := by decide +kernel
theorem dX1_compromiseWithout_6 : decode cX1_compromiseWithout 6 = .ok (.iload_n 1, 1) := by decide +kernel
theorem dX1_compromiseWithout_7 : decode cX1_compromiseWithout 7 = .ok (.invokevirtual 127, 3) := by decide +kernel
theorem dX1_compromiseWithout_10 : decode cX1_compromiseWithout 10 = .ok (.aload_n 0, 1) := by decide +kernel
theorem dX1_compromiseWithout_11 : decode cX1_compromiseWithout 11 = .ok (.getfield 41, 3) := by decide +kernel
theorem dX1_compromiseWithout_14 : decode cX1_compromiseWithout 14 = .ok (.invokevirtual 117, 3) := by decide +kernel
theorem dX1_compromiseWithout_17 : decode cX1_compromiseWithout 17 = .ok (.ifCond .eq 13, 3) := by decide +kernel
theorem dX1_compromiseWithout_20 : decode cX1_compromiseWithout 20 = .ok (.new 56, 3) := by decide +kernel
theorem dX1_compromiseWithout_23 : decode cX1_compromiseWithout 23 = .ok (.dup, 1) := by decide +kernel
theorem dX1_compromiseWithout_24 : decode cX1_compromiseWithout 24 = .ok (.ldc 130, 2) := by decide +kernel
theorem dX1_compromiseWithout_26 : decode cX1_compromiseWithout 26 = .ok (.invokespecial 60, 3) := by decide +kernel
theorem dX1_compromiseWithout_29 : decode cX1_compromiseWithout 29 = .ok (.athrow, 1) := by decide +kernel
theorem dX1_compromiseWithout_30 : decode cX1_compromiseWithout 30 = .ok (.aload_n 0, 1) := by decide +kernel
theorem dX1_compromiseWithout_31 : decode cX1_compromiseWithout 31 = .ok (.getfield 41, 3) := by decide +kernel
theorem dX1_compromiseWithout_34 : decode cX1_compromiseWithout 34 = .ok (.invokevirtual 123, 3) := by decide +kernel
theorem dX1_compromiseWithout_37 : decode cX1_compromiseWithout 37 = .ok (.ireturn, 1) := by decide +kernel
set_option maxRecDepth 20000 in
theorem ggX1_decisiveOne_X1_checkSomeoneThere : GoodIn wsX1_decisiveOne wsX1_checkSomeoneThere := goodIn_ca (goodIn_r _ [7, 8, 9, 2, 30, 31, 32, 33, 34, 35, 36, 37, 38, 39] (by decide +kernel) (by decide +kernel)) (goodIn_sub (fun _ h => List.mem_cons_of_mem _ (List.mem_append_right _ h)) (by decide +kernel))
set_option maxRecDepth 20000 in
theorem gX1_decisiveOne_X1_checkSomeoneThere : GoodIn wsX1_decisiveOne (wsV RX1 108 RX1 yX1_checkSomeoneThere wsX1_checkSomeoneThere) := goodIn_app (goodIn_of _ (by decide +kernel)) ggX1_decisiveOne_X1_checkSomeoneThere
set_option maxRecDepth 20000 in
theorem ggX1_decisiveOne_X1_middleOfAll : GoodIn wsX1_decisiveOne wsX1_middleOfAll := goodIn_r _ [13, 14, 2, 15, 16, 17, 18, 19, 20, 21, 22, 23, 24, 25, 26, 27, 28, 29, 30, 31, 32, 33, 34, 35, 36, 37, 38, 39, 40, 41] (by decide +kernel) (by decide +kernel)
set_option maxRecDepth 20000 in
theorem gX1_decisiveOne_X1_middleOfAll : GoodIn wsX1_decisiveOne (wsV RX1 111 RX1 yX1_middleOfAll wsX1_middleOfAll) := goodIn_app (goodIn_of _ (by decide +kernel)) ggX1_decisiveOne_X1_middleOfAll
theorem dX1_decisiveOne_0 : decode cX1_decisiveOne 0 = .ok (.aload_n 0, 1) := by decide +kernel
theorem dX1_decisiveOne_1 : decode cX1_decisiveOne 1 = .ok (.invokevirtual 108, 3) := by decide +kernel
theorem dX1_decisiveOne_4 : decode cX1_decisiveOne 4 = .ok (.aload_n 0, 1) := by decide +kernel
theorem dX1_decisiveOne_5 : decode cX1_decisiveOne 5 = .ok (.aload_n 0, 1) := by decide +kernel
theorem dX1_decisiveOne_6 : decode cX1_decisiveOne 6 = .ok (.getfield 32, 3) := by decide +kernel
theorem dX1_decisiveOne_9 : decode cX1_decisiveOne 9 = .ok (.invokevirtual 111, 3) := by decide +kernel
theorem dX1_decisiveOne_12 : decode cX1_decisiveOne 12 = .ok (.istore_n 1, 1) := by decide +kernel
theorem dX1_decisiveOne_13 : decode cX1_decisiveOne 13 = .ok (.iconst 0, 1) := by decide +kernel
theorem dX1_decisiveOne_14 : decode cX1_decisiveOne 14 = .ok (.istore_n 2, 1) := by decide +kernel
theorem dX1_decisiveOne_15 : decode cX1_decisiveOne 15 = .ok (.iload_n 2, 1) := by decide +kernel
theorem dX1_decisiveOne_16 : decode cX1_decisiveOne 16 = .ok (.aload_n 0, 1) := by decide +kernel
theorem dX1_decisiveOne_17 : decode cX1_decisiveOne 17 = .ok (.getfield 7, 3) := by decide +kernel
theorem dX1_decisiveOne_20 : decode cX1_decisiveOne 20 = .ok (.iconst 1, 1) := by decide +kernel
theorem dX1_decisiveOne_21 : decode cX1_decisiveOne 21 = .ok (.isub, 1) := by decide +kernel
theorem dX1_decisiveOne_22 : decode cX1_decisiveOne 22 = .ok (.if_icmp .ge 19, 3) := by decide +kernel
theorem dX1_decisiveOne_25 : decode cX1_decisiveOne 25 = .ok (.aload_n 0, 1) := by decide +kernel
theorem dX1_decisiveOne_26 : decode cX1_decisiveOne 26 = .ok (.getfield 32, 3) := by decide +kernel
theorem dX1_decisiveOne_29 : decode cX1_decisiveOne 29 = .ok (.iload_n 2, 1) := by decide +kernel
theorem dX1_decisiveOne_30 : decode cX1_decisiveOne 30 = .ok (.iaload, 1) := by decide +kernel
theorem dX1_decisiveOne_31 : decode cX1_decisiveOne 31 = .ok (.iload_n 1, 1) := by decide +kernel
theorem dX1_decisiveOne_32 : decode cX1_decisiveOne 32 = .ok (.if_icmp .eq 9, 3) := by decide +kernel
theorem dX1_decisiveOne_35 : decode cX1_decisiveOne 35 = .ok (.iinc 2 1, 3) := by decide +kernel
theorem dX1_decisiveOne_38 : decode cX1_decisiveOne 38 = .ok (.goto (-23), 3) := by decide +kernel
theorem dX1_decisiveOne_41 : decode cX1_decisiveOne 41 = .ok (.iload_n 2, 1) := by decide +kernel
theorem dX1_decisiveOne_42 : decode cX1_decisiveOne 42 = .ok (.ireturn, 1) := by decide +kernel
set_option maxRecDepth 20000 in
theorem ggX1_discontentOf_X1_checkDelegate : GoodIn wsX1_discontentOf wsX1_checkDelegate := goodIn_ca (goodIn_r _ [6, 7, 8, 9, 39, 40, 41, 42, 43, 44, 45, 46, 47, 48] (by decide +kernel) (by decide +kernel)) (goodIn_sub (fun _ h => List.mem_cons_of_mem _ (List.mem_append_right _ h)) (by decide +kernel))
set_option maxRecDepth 20000 in
theorem gX1_discontentOf_X1_checkDelegate : GoodIn wsX1_discontentOf (wsV RX1 69 RX1 yX1_checkDelegate wsX1_checkDelegate) := goodIn_app (goodIn_of _ (by decide +kernel)) ggX1_discontentOf_X1_checkDelegate
set_option maxRecDepth 20000 in
theorem ggX1_discontentOf_X1_middleOfAll : GoodIn wsX1_discontentOf wsX1_middleOfAll := goodIn_r _ [13, 14, 9, 15, 16, 17, 18, 19, 20, 21, 22, 23, 24, 25, 26, 27, 28, 29, 39, 40, 41, 42, 43, 44, 45, 46, 47, 48, 49, 50] (by decide +kernel) (by decide +kernel)
set_option maxRecDepth 20000 in
theorem gX1_discontentOf_X1_middleOfAll : GoodIn wsX1_discontentOf (wsV RX1 111 RX1 yX1_middleOfAll wsX1_middleOfAll) := goodIn_app (goodIn_of _ (by decide +kernel)) ggX1_discontentOf_X1_middleOfAll
set_option maxRecDepth 20000 in
theorem ggX1_discontentOf_X1_discontent : GoodIn wsX1_discontentOf wsX1_discontent := goodIn_r _ [33, 34, 35, 36, 37, 38, 39, 40, 41, 42, 43, 44, 45, 46, 47, 48] (by decide +kernel) (by decide +kernel)
set_option maxRecDepth 20000 in
theorem gX1_discontentOf_X1_discontent : GoodIn wsX1_discontentOf (wsV RX1 132 RX1 yX1_discontent wsX1_discontent) := goodIn_app (goodIn_of _ (by decide +kernel)) ggX1_discontentOf_X1_discontent
theorem dX1_discontentOf_0 : decode cX1_discontentOf 0 = .ok (.aload_n 0, 1) := by decide +kernel
theorem dX1_discontentOf_1 : decode cX1_discontentOf 1 = .ok (.iload_n 1, 1) := by decide +kernel
theorem dX1_discontentOf_2 : decode cX1_discontentOf 2 = .ok (.invokevirtual 69, 3) := by decide +kernel
theorem dX1_discontentOf_5 : decode cX1_discontentOf 5 = .ok (.aload_n 0, 1) := by decide +kernel
theorem dX1_discontentOf_6 : decode cX1_discontentOf 6 = .ok (.iload_n 1, 1) := by decide +kernel
theorem dX1_discontentOf_7 : decode cX1_discontentOf 7 = .ok (.aload_n 0, 1) := by decide +kernel
theorem dX1_discontentOf_8 : decode cX1_discontentOf 8 = .ok (.aload_n 0, 1) := by decide +kernel
theorem dX1_discontentOf_9 : decode cX1_discontentOf 9 = .ok (.getfield 32, 3) := by decide +kernel
theorem dX1_discontentOf_12 : decode cX1_discontentOf 12 = .ok (.invokevirtual 111, 3) := by decide +kernel
theorem dX1_discontentOf_15 : decode cX1_discontentOf 15 = .ok (.invokevirtual 132, 3) := by decide +kernel
theorem dX1_discontentOf_18 : decode cX1_discontentOf 18 = .ok (.ireturn, 1) := by decide +kernel
set_option maxRecDepth 20000 in
theorem ggX1_allDiscontent_X1_middleOfAll : GoodIn wsX1_allDiscontent wsX1_middleOfAll := goodIn_r _ [6, 7, 8, 9, 10, 11, 12, 13, 14, 15, 16, 17, 18, 19, 20, 21, 22, 23, 37, 38, 39, 40, 41, 42, 43, 44, 45, 46, 47, 48] (by decide +kernel) (by decide +kernel)
set_option maxRecDepth 20000 in
theorem gX1_allDiscontent_X1_middleOfAll : GoodIn wsX1_allDiscontent (wsV RX1 111 RX1 yX1_middleOfAll wsX1_middleOfAll) := goodIn_app (goodIn_of _ (by decide +kernel)) ggX1_allDiscontent_X1_middleOfAll
set_option maxRecDepth 20000 in
theorem ggX1_allDiscontent_X1_discontentOfAll : GoodIn wsX1_allDiscontent wsX1_discontentOfAll := goodIn_r _ [27, 8, 28, 29, 30, 5, 31, 32, 33, 34, 35, 36, 37, 38, 39, 40, 41, 42, 43, 44, 45, 46] (by decide +kernel) (by decide +kernel)
set_option maxRecDepth 20000 in
theorem gX1_allDiscontent_X1_discontentOfAll : GoodIn wsX1_allDiscontent (wsV RX1 136 RX1 yX1_discontentOfAll wsX1_discontentOfAll) := goodIn_app (goodIn_of _ (by decide +kernel)) ggX1_allDiscontent_X1_discontentOfAll
theorem dX1_allDiscontent_0 : decode cX1_allDiscontent 0 = .ok (.aload_n 0, 1) := by decide +kernel
theorem dX1_allDiscontent_1 : decode cX1_allDiscontent 1 = .ok (.aload_n 0, 1) := by decide +kernel
theorem dX1_allDiscontent_2 : decode cX1_allDiscontent 2 = .ok (.aload_n 0, 1) := by decide +kernel
theorem dX1_allDiscontent_3 : decode cX1_allDiscontent 3 = .ok (.getfield 32, 3) := by decide +kernel
theorem dX1_allDiscontent_6 : decode cX1_allDiscontent 6 = .ok (.invokevirtual 111, 3) := by decide +kernel
theorem dX1_allDiscontent_9 : decode cX1_allDiscontent 9 = .ok (.invokevirtual 136, 3) := by decide +kernel
theorem dX1_allDiscontent_12 : decode cX1_allDiscontent 12 = .ok (.ireturn, 1) := by decide +kernel
set_option maxRecDepth 20000 in
theorem ggX1_bestPlank_X1_checkSomeoneThere : GoodIn wsX1_bestPlank wsX1_checkSomeoneThere := goodIn_ca (goodIn_r _ [5, 6, 7, 8, 22, 23, 24, 25, 26, 27, 28, 29, 30, 31] (by decide +kernel) (by decide +kernel)) (goodIn_sub (fun _ h => List.mem_cons_of_mem _ (List.mem_append_right _ h)) (by decide +kernel))
set_option maxRecDepth 20000 in
theorem gX1_bestPlank_X1_checkSomeoneThere : GoodIn wsX1_bestPlank (wsV RX1 108 RX1 yX1_checkSomeoneThere wsX1_checkSomeoneThere) := goodIn_app (goodIn_of _ (by decide +kernel)) ggX1_bestPlank_X1_checkSomeoneThere
set_option maxRecDepth 20000 in
theorem ggX1_bestPlank_X1_discontentOfAll : GoodIn wsX1_bestPlank wsX1_discontentOfAll := goodIn_r _ [12, 8, 13, 14, 15, 4, 16, 17, 18, 19, 20, 21, 22, 23, 24, 25, 26, 27, 28, 29, 30, 31] (by decide +kernel) (by decide +kernel)
set_option maxRecDepth 20000 in
theorem gX1_bestPlank_X1_discontentOfAll : GoodIn wsX1_bestPlank (wsV RX1 136 RX1 yX1_discontentOfAll wsX1_discontentOfAll) := goodIn_app (goodIn_of _ (by decide +kernel)) ggX1_bestPlank_X1_discontentOfAll
theorem dX1_bestPlank_0 : decode cX1_bestPlank 0 = .ok (.aload_n 0, 1) := by decide +kernel
theorem dX1_bestPlank_1 : decode cX1_bestPlank 1 = .ok (.invokevirtual 108, 3) := by decide +kernel
theorem dX1_bestPlank_4 : decode cX1_bestPlank 4 = .ok (.iconst 0, 1) := by decide +kernel
theorem dX1_bestPlank_5 : decode cX1_bestPlank 5 = .ok (.istore_n 1, 1) := by decide +kernel
theorem dX1_bestPlank_6 : decode cX1_bestPlank 6 = .ok (.aload_n 0, 1) := by decide +kernel
theorem dX1_bestPlank_7 : decode cX1_bestPlank 7 = .ok (.iconst 0, 1) := by decide +kernel
theorem dX1_bestPlank_8 : decode cX1_bestPlank 8 = .ok (.invokevirtual 136, 3) := by decide +kernel
theorem dX1_bestPlank_11 : decode cX1_bestPlank 11 = .ok (.istore_n 2, 1) := by decide +kernel
theorem dX1_bestPlank_12 : decode cX1_bestPlank 12 = .ok (.iconst 1, 1) := by decide +kernel
theorem dX1_bestPlank_13 : decode cX1_bestPlank 13 = .ok (.istore_n 3, 1) := by decide +kernel
theorem dX1_bestPlank_14 : decode cX1_bestPlank 14 = .ok (.iload_n 3, 1) := by decide +kernel
theorem dX1_bestPlank_15 : decode cX1_bestPlank 15 = .ok (.bipush 41, 2) := by decide +kernel
theorem dX1_bestPlank_17 : decode cX1_bestPlank 17 = .ok (.if_icmp .ge 27, 3) := by decide +kernel
theorem dX1_bestPlank_20 : decode cX1_bestPlank 20 = .ok (.aload_n 0, 1) := by decide +kernel
theorem dX1_bestPlank_21 : decode cX1_bestPlank 21 = .ok (.iload_n 3, 1) := by decide +kernel
theorem dX1_bestPlank_22 : decode cX1_bestPlank 22 = .ok (.invokevirtual 136, 3) := by decide +kernel
theorem dX1_bestPlank_25 : decode cX1_bestPlank 25 = .ok (.istore 4, 2) := by decide +kernel
theorem dX1_bestPlank_27 : decode cX1_bestPlank 27 = .ok (.iload 4, 2) := by decide +kernel
theorem dX1_bestPlank_29 : decode cX1_bestPlank 29 = .ok (.iload_n 2, 1) := by decide +kernel
theorem dX1_bestPlank_30 : decode cX1_bestPlank 30 = .ok (.if_icmp .ge 8, 3) := by decide +kernel
theorem dX1_bestPlank_33 : decode cX1_bestPlank 33 = .ok (.iload 4, 2) := by decide +kernel
theorem dX1_bestPlank_35 : decode cX1_bestPlank 35 = .ok (.istore_n 2, 1) := by decide +kernel
theorem dX1_bestPlank_36 : decode cX1_bestPlank 36 = .ok (.iload_n 3, 1) := by decide +kernel
theorem dX1_bestPlank_37 : decode cX1_bestPlank 37 = .ok (.istore_n 1, 1) := by decide +kernel
theorem dX1_bestPlank_38 : decode cX1_bestPlank 38 = .ok (.iinc 3 1, 3) := by decide +kernel
theorem dX1_bestPlank_41 : decode cX1_bestPlank 41 = .ok (.goto (-27), 3) := by decide +kernel
theorem dX1_bestPlank_44 : decode cX1_bestPlank 44 = .ok (.iload_n 1, 1) := by decide +kernel
theorem dX1_bestPlank_45 : decode cX1_bestPlank 45 = .ok (.ireturn, 1) := by decide +kernel
set_option maxRecDepth 20000 in
theorem ggX1_votesFor_X1_checkTwoPlanks : GoodIn wsX1_votesFor wsX1_checkTwoPlanks := goodIn_ca (goodIn_ca (goodIn_r _ [4, 5, 6, 7, 8, 3, 9, 10, 11] (by decide +kernel) (by decide +kernel)) (goodIn_sub (fun _ h => List.mem_cons_of_mem _ (List.mem_append_left _ (List.mem_append_right _ h))) (by decide +kernel))) (goodIn_sub (fun _ h => List.mem_cons_of_mem _ (List.mem_append_right _ h)) (by decide +kernel))
set_option maxRecDepth 20000 in
theorem gX1_votesFor_X1_checkTwoPlanks : GoodIn wsX1_votesFor (va_wsS RX1 140 yX1_checkTwoPlanks wsX1_checkTwoPlanks) := goodIn_app (goodIn_of _ (by decide +kernel)) ggX1_votesFor_X1_checkTwoPlanks
set_option maxRecDepth 20000 in
theorem ggX1_votesFor_X1_countVotes : GoodIn wsX1_votesFor wsX1_countVotes := goodIn_r _ [15, 16, 17, 18, 19, 3, 20, 21, 22, 23, 24, 25, 26, 27, 28, 29, 30, 31, 32, 33, 34, 35] (by decide +kernel) (by decide +kernel)
set_option maxRecDepth 20000 in
theorem gX1_votesFor_X1_countVotes : GoodIn wsX1_votesFor (wsV RX1 143 RX1 yX1_countVotes wsX1_countVotes) := goodIn_app (goodIn_of _ (by decide +kernel)) ggX1_votesFor_X1_countVotes
theorem dX1_votesFor_0 : decode cX1_votesFor 0 = .ok (.iload_n 1, 1) := by decide +kernel
theorem dX1_votesFor_1 : decode cX1_votesFor 1 = .ok (.iload_n 2, 1) := by decide +kernel
theorem dX1_votesFor_2 : decode cX1_votesFor 2 = .ok (.invokestatic 140, 3) := by decide +kernel
theorem dX1_votesFor_5 : decode cX1_votesFor 5 = .ok (.aload_n 0, 1) := by decide +kernel
theorem dX1_votesFor_6 : decode cX1_votesFor 6 = .ok (.iload_n 1, 1) := by decide +kernel
theorem dX1_votesFor_7 : decode cX1_votesFor 7 = .ok (.iload_n 2, 1) := by decide +kernel
theorem dX1_votesFor_8 : decode cX1_votesFor 8 = .ok (.invokevirtual 143, 3) := by decide +kernel
theorem dX1_votesFor_11 : decode cX1_votesFor 11 = .ok (.ireturn, 1) := by decide +kernel
set_option maxRecDepth 20000 in
theorem ggX1_winnerOf_X1_checkTwoPlanks : GoodIn wsX1_winnerOf wsX1_checkTwoPlanks := goodIn_ca (goodIn_ca (goodIn_r _ [8, 9, 10, 11, 12, 7, 13, 14, 15] (by decide +kernel) (by decide +kernel)) (goodIn_sub (fun _ h => List.mem_cons_of_mem _ (List.mem_append_left _ (List.mem_append_right _ h))) (by decide +kernel))) (goodIn_sub (fun _ h => List.mem_cons_of_mem _ (List.mem_append_right _ h)) (by decide +kernel))
set_option maxRecDepth 20000 in
theorem gX1_winnerOf_X1_checkTwoPlanks : GoodIn wsX1_winnerOf (va_wsS RX1 140 yX1_checkTwoPlanks wsX1_checkTwoPlanks) := goodIn_app (goodIn_of _ (by decide +kernel)) ggX1_winnerOf_X1_checkTwoPlanks
set_option maxRecDepth 20000 in
theorem ggX1_winnerOf_X1_countVotes : GoodIn wsX1_winnerOf wsX1_countVotes := goodIn_r _ [19, 20, 21, 22, 23, 7, 24, 25, 26, 27, 3, 28, 29, 30, 31, 32, 33, 34, 35, 36, 37, 38] (by decide +kernel) (by decide +kernel)
set_option maxRecDepth 20000 in
theorem gX1_winnerOf_X1_countVotes : GoodIn wsX1_winnerOf (wsV RX1 143 RX1 yX1_countVotes wsX1_countVotes) := goodIn_app (goodIn_of _ (by decide +kernel)) ggX1_winnerOf_X1_countVotes
theorem dX1_winnerOf_0 : decode cX1_winnerOf 0 = .ok (.iload_n 1, 1) := by decide +kernel
theorem dX1_winnerOf_1 : decode cX1_winnerOf 1 = .ok (.iload_n 2, 1) := by decide +kernel
theorem dX1_winnerOf_2 : decode cX1_winnerOf 2 = .ok (.invokestatic 140, 3) := by decide +kernel
theorem dX1_winnerOf_5 : decode cX1_winnerOf 5 = .ok (.aload_n 0, 1) := by decide +kernel
theorem dX1_winnerOf_6 : decode cX1_winnerOf 6 = .ok (.iload_n 1, 1) := by decide +kernel
theorem dX1_winnerOf_7 : decode cX1_winnerOf 7 = .ok (.iload_n 2, 1) := by decide +kernel
theorem dX1_winnerOf_8 : decode cX1_winnerOf 8 = .ok (.invokevirtual 143, 3) := by decide +kernel
theorem dX1_winnerOf_11 : decode cX1_winnerOf 11 = .ok (.istore_n 3, 1) := by decide +kernel
theorem dX1_winnerOf_12 : decode cX1_winnerOf 12 = .ok (.aload_n 0, 1) := by decide +kernel
theorem dX1_winnerOf_13 : decode cX1_winnerOf 13 = .ok (.iload_n 2, 1) := by decide +kernel
theorem dX1_winnerOf_14 : decode cX1_winnerOf 14 = .ok (.iload_n 1, 1) := by decide +kernel
theorem dX1_winnerOf_15 : decode cX1_winnerOf 15 = .ok (.invokevirtual 143, 3) := by decide +kernel
theorem dX1_winnerOf_18 : decode cX1_winnerOf 18 = .ok (.istore 4, 2) := by decide +kernel
theorem dX1_winnerOf_20 : decode cX1_winnerOf 20 = .ok (.iload_n 3, 1) := by decide +kernel
theorem dX1_winnerOf_21 : decode cX1_winnerOf 21 = .ok (.iload 4, 2) := by decide +kernel
theorem dX1_winnerOf_23 : decode cX1_winnerOf 23 = .ok (.if_icmp .ne 9, 3) := by decide +kernel
theorem dX1_winnerOf_26 : decode cX1_winnerOf 26 = .ok (.iload_n 1, 1) := by decide +kernel
theorem dX1_winnerOf_27 : decode cX1_winnerOf 27 = .ok (.iload_n 2, 1) := by decide +kernel
theorem dX1_winnerOf_28 : decode cX1_winnerOf 28 = .ok (.invokestatic 146, 3) := by decide +kernel
theorem dX1_winnerOf_31 : decode cX1_winnerOf 31 = .ok (.ireturn, 1) := by decide +kernel
theorem dX1_winnerOf_32 : decode cX1_winnerOf 32 = .ok (.iload_n 3, 1) := by decide +kernel
theorem dX1_winnerOf_33 : decode cX1_winnerOf 33 = .ok (.iload 4, 2) := by decide +kernel
theorem dX1_winnerOf_35 : decode cX1_winnerOf 35 = .ok (.if_icmp .le 7, 3) := by decide +kernel
theorem dX1_winnerOf_38 : decode cX1_winnerOf 38 = .ok (.iload_n 1, 1) := by decide +kernel
theorem dX1_winnerOf_39 : decode cX1_winnerOf 39 = .ok (.goto 4, 3) := by decide +kernel
theorem dX1_winnerOf_42 : decode cX1_winnerOf 42 = .ok (.iload_n 2, 1) := by decide +kernel
theorem dX1_winnerOf_43 : decode cX1_winnerOf 43 = .ok (.ireturn, 1) := by decide +kernel
set_option maxRecDepth 20000 in
theorem ggX1_canLeadTo_X1_checkDelegate : GoodIn wsX1_canLeadTo wsX1_checkDelegate := goodIn_ca (goodIn_r _ [5, 6, 7, 8, 40, 41, 42, 43, 44, 45, 46, 47, 48, 49] (by decide +kernel) (by decide +kernel)) (goodIn_sub (fun _ h => List.mem_cons_of_mem _ (List.mem_append_right _ h)) (by decide +kernel))
set_option maxRecDepth 20000 in
theorem gX1_canLeadTo_X1_checkDelegate : GoodIn wsX1_canLeadTo (wsV RX1 69 RX1 yX1_checkDelegate wsX1_checkDelegate) := goodIn_app (goodIn_of _ (by decide +kernel)) ggX1_canLeadTo_X1_checkDelegate
set_option maxRecDepth 20000 in
theorem ggX1_canLeadTo_X1_checkPlank : GoodIn wsX1_canLeadTo wsX1_checkPlank := goodIn_ca (goodIn_r _ [11, 6, 7] (by decide +kernel) (by decide +kernel)) (goodIn_sub (fun _ h => List.mem_cons_of_mem _ (List.mem_append_right _ h)) (by decide +kernel))
set_option maxRecDepth 20000 in
theorem gX1_canLeadTo_X1_checkPlank : GoodIn wsX1_canLeadTo (va_wsS RX1 49 yX1_checkPlank wsX1_checkPlank) := goodIn_app (goodIn_of _ (by decide +kernel)) ggX1_canLeadTo_X1_checkPlank
set_option maxRecDepth 20000 in
theorem ggX1_canLeadTo_X1_isWilling : GoodIn wsX1_canLeadTo wsX1_isWilling := goodIn_r _ [15, 16, 17, 18, 19, 4, 20, 21, 22, 23, 24, 25, 40, 41, 42, 43, 44, 45, 46, 47, 48, 49] (by decide +kernel) (by decide +kernel)
set_option maxRecDepth 20000 in
theorem gX1_canLeadTo_X1_isWilling : GoodIn wsX1_canLeadTo (wsV RX1 76 RX1 yX1_isWilling wsX1_isWilling) := goodIn_app (goodIn_of _ (by decide +kernel)) ggX1_canLeadTo_X1_isWilling
set_option maxRecDepth 20000 in
theorem ggX1_canLeadTo_X1_hasPlaceFor : GoodIn wsX1_canLeadTo wsX1_hasPlaceFor := goodIn_r _ [29, 30, 31, 32, 33, 4, 34, 35, 36, 37, 38, 39, 8, 40, 41, 42, 43, 44, 45, 46, 47, 48, 49] (by decide +kernel) (by decide +kernel)
set_option maxRecDepth 20000 in
theorem gX1_canLeadTo_X1_hasPlaceFor : GoodIn wsX1_canLeadTo (wsV RX1 82 RX1 yX1_hasPlaceFor wsX1_hasPlaceFor) := goodIn_app (goodIn_of _ (by decide +kernel)) ggX1_canLeadTo_X1_hasPlaceFor
theorem dX1_canLeadTo_0 : decode cX1_canLeadTo 0 = .ok (.aload_n 0, 1) := by decide +kernel
theorem dX1_canLeadTo_1 : decode cX1_canLeadTo 1 = .ok (.iload_n 1, 1) := by decide +kernel
theorem dX1_canLeadTo_2 : decode cX1_canLeadTo 2 = .ok (.invokevirtual 69, 3) := by decide +kernel
theorem dX1_canLeadTo_5 : decode cX1_canLeadTo 5 = .ok (.iload_n 2, 1) := by decide +kernel
theorem dX1_canLeadTo_6 : decode cX1_canLeadTo 6 = .ok (.invokestatic 49, 3) := by decide +kernel
theorem dX1_canLeadTo_9 : decode cX1_canLeadTo 9 = .ok (.aload_n 0, 1) := by decide +kernel
theorem dX1_canLeadTo_10 : decode cX1_canLeadTo 10 = .ok (.iload_n 1, 1) := by decide +kernel
theorem dX1_canLeadTo_11 : decode cX1_canLeadTo 11 = .ok (.iload_n 2, 1) := by decide +kernel
theorem dX1_canLeadTo_12 : decode cX1_canLeadTo 12 = .ok (.invokevirtual 76, 3) := by decide +kernel
theorem dX1_canLeadTo_15 : decode cX1_canLeadTo 15 = .ok (.ifCond .eq 16, 3) := by decide +kernel
theorem dX1_canLeadTo_18 : decode cX1_canLeadTo 18 = .ok (.aload_n 0, 1) := by decide +kernel
theorem dX1_canLeadTo_19 : decode cX1_canLeadTo 19 = .ok (.iload_n 1, 1) := by decide +kernel
theorem dX1_canLeadTo_20 : decode cX1_canLeadTo 20 = .ok (.iload_n 2, 1) := by decide +kernel
theorem dX1_canLeadTo_21 : decode cX1_canLeadTo 21 = .ok (.invokevirtual 82, 3) := by decide +kernel
theorem dX1_canLeadTo_24 : decode cX1_canLeadTo 24 = .ok (.ifCond .eq 7, 3) := by decide +kernel
theorem dX1_canLeadTo_27 : decode cX1_canLeadTo 27 = .ok (.iconst 1, 1) := by decide +kernel
theorem dX1_canLeadTo_28 : decode cX1_canLeadTo 28 = .ok (.goto 4, 3) := by decide +kernel
theorem dX1_canLeadTo_31 : decode cX1_canLeadTo 31 = .ok (.iconst 0, 1) := by decide +kernel
theorem dX1_canLeadTo_32 : decode cX1_canLeadTo 32 = .ok (.ireturn, 1) := by decide +kernel
set_option maxRecDepth 20000 in
theorem ggX1_wouldStepTo_X1_checkDelegate : GoodIn wsX1_wouldStepTo wsX1_checkDelegate := goodIn_ca (goodIn_r _ [6, 7, 8, 9, 51, 52, 53, 54, 55, 56, 57, 58, 59, 60] (by decide +kernel) (by decide +kernel)) (goodIn_sub (fun _ h => List.mem_cons_of_mem _ (List.mem_append_right _ h)) (by decide +kernel))
set_option maxRecDepth 20000 in
theorem gX1_wouldStepTo_X1_checkDelegate : GoodIn wsX1_wouldStepTo (wsV RX1 69 RX1 yX1_checkDelegate wsX1_checkDelegate) := goodIn_app (goodIn_of _ (by decide +kernel)) ggX1_wouldStepTo_X1_checkDelegate
set_option maxRecDepth 20000 in
theorem ggX1_wouldStepTo_X1_middleOfAll : GoodIn wsX1_wouldStepTo wsX1_middleOfAll := goodIn_r _ [13, 14, 9, 15, 16, 17, 18, 19, 20, 21, 22, 23, 24, 25, 26, 27, 28, 29, 51, 52, 53, 54, 55, 56, 57, 58, 59, 60, 61, 62] (by decide +kernel) (by decide +kernel)
set_option maxRecDepth 20000 in
theorem gX1_wouldStepTo_X1_middleOfAll : GoodIn wsX1_wouldStepTo (wsV RX1 111 RX1 yX1_middleOfAll wsX1_middleOfAll) := goodIn_app (goodIn_of _ (by decide +kernel)) ggX1_wouldStepTo_X1_middleOfAll
set_option maxRecDepth 20000 in
theorem ggX1_wouldStepTo_X1_stepFrom : GoodIn wsX1_wouldStepTo wsX1_stepFrom := goodIn_r _ [33, 34, 35, 36, 37, 5, 38, 39, 40, 41, 42, 43, 44, 45, 46, 47, 48, 49, 50, 51, 52, 53, 54, 55, 56, 57, 58, 59, 60] (by decide +kernel) (by decide +kernel)
set_option maxRecDepth 20000 in
theorem gX1_wouldStepTo_X1_stepFrom : GoodIn wsX1_wouldStepTo (wsV RX1 151 RX1 yX1_stepFrom wsX1_stepFrom) := goodIn_app (goodIn_of _ (by decide +kernel)) ggX1_wouldStepTo_X1_stepFrom
theorem dX1_wouldStepTo_0 : decode cX1_wouldStepTo 0 = .ok (.aload_n 0, 1) := by decide +kernel
theorem dX1_wouldStepTo_1 : decode cX1_wouldStepTo 1 = .ok (.iload_n 1, 1) := by decide +kernel
theorem dX1_wouldStepTo_2 : decode cX1_wouldStepTo 2 = .ok (.invokevirtual 69, 3) := by decide +kernel
theorem dX1_wouldStepTo_5 : decode cX1_wouldStepTo 5 = .ok (.aload_n 0, 1) := by decide +kernel
theorem dX1_wouldStepTo_6 : decode cX1_wouldStepTo 6 = .ok (.iload_n 1, 1) := by decide +kernel
theorem dX1_wouldStepTo_7 : decode cX1_wouldStepTo 7 = .ok (.aload_n 0, 1) := by decide +kernel
theorem dX1_wouldStepTo_8 : decode cX1_wouldStepTo 8 = .ok (.getfield 32, 3) := by decide +kernel
theorem dX1_wouldStepTo_11 : decode cX1_wouldStepTo 11 = .ok (.iload_n 1, 1) := by decide +kernel
theorem dX1_wouldStepTo_12 : decode cX1_wouldStepTo 12 = .ok (.iaload, 1) := by decide +kernel
theorem dX1_wouldStepTo_13 : decode cX1_wouldStepTo 13 = .ok (.aload_n 0, 1) := by decide +kernel
theorem dX1_wouldStepTo_14 : decode cX1_wouldStepTo 14 = .ok (.aload_n 0, 1) := by decide +kernel
theorem dX1_wouldStepTo_15 : decode cX1_wouldStepTo 15 = .ok (.getfield 32, 3) := by decide +kernel
theorem dX1_wouldStepTo_18 : decode cX1_wouldStepTo 18 = .ok (.invokevirtual 111, 3) := by decide +kernel
theorem dX1_wouldStepTo_21 : decode cX1_wouldStepTo 21 = .ok (.invokevirtual 151, 3) := by decide +kernel
theorem dX1_wouldStepTo_24 : decode cX1_wouldStepTo 24 = .ok (.ireturn, 1) := by decide +kernel
set_option maxRecDepth 20000 in
theorem ggX1_isStill_X1_copyPlanksToLater : GoodIn wsX1_isStill wsX1_copyPlanksToLater := goodIn_r _ [6, 7, 1, 8, 63, 64, 65, 66, 67, 68, 69, 70, 71, 72] (by decide +kernel) (by decide +kernel)
set_option maxRecDepth 20000 in
theorem gX1_isStill_X1_copyPlanksToLater : GoodIn wsX1_isStill (wsV RX1 155 RX1 yX1_copyPlanksToLater wsX1_copyPlanksToLater) := goodIn_app (goodIn_of _ (by decide +kernel)) ggX1_isStill_X1_copyPlanksToLater
set_option maxRecDepth 20000 in
theorem ggX1_isStill_X1_goRound : GoodIn wsX1_isStill wsX1_goRound := goodIn_r _ [12, 7, 13, 14, 15, 5, 16, 17, 18, 19, 20, 21, 22, 23, 24, 25, 26, 27, 28, 29, 30, 31, 32, 33, 34, 35, 36, 37, 38, 39, 40, 41, 42, 43, 44, 45, 46, 47, 48, 49, 50, 51, 52, 53, 54, 55, 56, 57, 58, 59, 60, 61, 62, 63, 64, 65, 66, 67, 68, 69, 70, 71, 72, 73, 74] (by decide +kernel) (by decide +kernel)
set_option maxRecDepth 20000 in
theorem gX1_isStill_X1_goRound : GoodIn wsX1_isStill (wsV RX1 158 RX1 yX1_goRound wsX1_goRound) := goodIn_app (goodIn_of _ (by decide +kernel)) ggX1_isStill_X1_goRound
theorem dX1_isStill_0 : decode cX1_isStill 0 = .ok (.aload_n 0, 1) := by decide +kernel
theorem dX1_isStill_1 : decode cX1_isStill 1 = .ok (.invokevirtual 155, 3) := by decide +kernel
theorem dX1_isStill_4 : decode cX1_isStill 4 = .ok (.aload_n 0, 1) := by decide +kernel
theorem dX1_isStill_5 : decode cX1_isStill 5 = .ok (.aload_n 0, 1) := by decide +kernel
theorem dX1_isStill_6 : decode cX1_isStill 6 = .ok (.getfield 35, 3) := by decide +kernel
theorem dX1_isStill_9 : decode cX1_isStill 9 = .ok (.invokevirtual 158, 3) := by decide +kernel
theorem dX1_isStill_12 : decode cX1_isStill 12 = .ok (.ifCond .ne 7, 3) := by decide +kernel
theorem dX1_isStill_15 : decode cX1_isStill 15 = .ok (.iconst 1, 1) := by decide +kernel
theorem dX1_isStill_16 : decode cX1_isStill 16 = .ok (.goto 4, 3) := by decide +kernel
theorem dX1_isStill_19 : decode cX1_isStill 19 = .ok (.iconst 0, 1) := by decide +kernel
theorem dX1_isStill_20 : decode cX1_isStill 20 = .ok (.ireturn, 1) := by decide +kernel
theorem dX1_meanPlank_0 : decode cX1_meanPlank 0 = .ok (.aload_n 0, 1) := by decide +kernel
theorem dX1_meanPlank_1 : decode cX1_meanPlank 1 = .ok (.getfield 7, 3) := by decide +kernel
theorem dX1_meanPlank_4 : decode cX1_meanPlank 4 = .ok (.ifCond .ne 5, 3) := by decide +kernel
theorem dX1_meanPlank_7 : decode cX1_meanPlank 7 = .ok (.dconst 0, 1) := by decide +kernel
theorem dX1_meanPlank_8 : decode cX1_meanPlank 8 = .ok (.dreturn, 1) := by decide +kernel
theorem dX1_meanPlank_9 : decode cX1_meanPlank 9 = .ok (.iconst 0, 1) := by decide +kernel
theorem dX1_meanPlank_10 : decode cX1_meanPlank 10 = .ok (.istore_n 1, 1) := by decide +kernel
theorem dX1_meanPlank_11 : decode cX1_meanPlank 11 = .ok (.iconst 0, 1) := by decide +kernel
theorem dX1_meanPlank_12 : decode cX1_meanPlank 12 = .ok (.istore_n 2, 1) := by decide +kernel
theorem dX1_meanPlank_13 : decode cX1_meanPlank 13 = .ok (.iload_n 2, 1) := by decide +kernel
theorem dX1_meanPlank_14 : decode cX1_meanPlank 14 = .ok (.aload_n 0, 1) := by decide +kernel
theorem dX1_meanPlank_15 : decode cX1_meanPlank 15 = .ok (.getfield 7, 3) := by decide +kernel
theorem dX1_meanPlank_18 : decode cX1_meanPlank 18 = .ok (.if_icmp .ge 18, 3) := by decide +kernel
theorem dX1_meanPlank_21 : decode cX1_meanPlank 21 = .ok (.iload_n 1, 1) := by decide +kernel
theorem dX1_meanPlank_22 : decode cX1_meanPlank 22 = .ok (.aload_n 0, 1) := by decide +kernel
theorem dX1_meanPlank_23 : decode cX1_meanPlank 23 = .ok (.getfield 32, 3) := by decide +kernel
theorem dX1_meanPlank_26 : decode cX1_meanPlank 26 = .ok (.iload_n 2, 1) := by decide +kernel
theorem dX1_meanPlank_27 : decode cX1_meanPlank 27 = .ok (.iaload, 1) := by decide +kernel
theorem dX1_meanPlank_28 : decode cX1_meanPlank 28 = .ok (.iadd, 1) := by decide +kernel
theorem dX1_meanPlank_29 : decode cX1_meanPlank 29 = .ok (.istore_n 1, 1) := by decide +kernel
theorem dX1_meanPlank_30 : decode cX1_meanPlank 30 = .ok (.iinc 2 1, 3) := by decide +kernel
theorem dX1_meanPlank_33 : decode cX1_meanPlank 33 = .ok (.goto (-20), 3) := by decide +kernel
theorem dX1_meanPlank_36 : decode cX1_meanPlank 36 = .ok (.iload_n 1, 1) := by decide +kernel
theorem dX1_meanPlank_37 : decode cX1_meanPlank 37 = .ok (.i2d, 1) := by decide +kernel
theorem dX1_meanPlank_38 : decode cX1_meanPlank 38 = .ok (.aload_n 0, 1) := by decide +kernel
theorem dX1_meanPlank_39 : decode cX1_meanPlank 39 = .ok (.getfield 7, 3) := by decide +kernel
theorem dX1_meanPlank_42 : decode cX1_meanPlank 42 = .ok (.i2d, 1) := by decide +kernel
theorem dX1_meanPlank_43 : decode cX1_meanPlank 43 = .ok (.ddiv, 1) := by decide +kernel
theorem dX1_meanPlank_44 : decode cX1_meanPlank 44 = .ok (.dreturn, 1) := by decide +kernel
theorem dX1_checkDelegate_0 : decode cX1_checkDelegate 0 = .ok (.iload_n 1, 1) := by decide +kernel
theorem dX1_checkDelegate_1 : decode cX1_checkDelegate 1 = .ok (.ifCond .lt 11, 3) := by decide +kernel
theorem dX1_checkDelegate_4 : decode cX1_checkDelegate 4 = .ok (.iload_n 1, 1) := by decide +kernel
theorem dX1_checkDelegate_5 : decode cX1_checkDelegate 5 = .ok (.aload_n 0, 1) := by decide +kernel
theorem dX1_checkDelegate_6 : decode cX1_checkDelegate 6 = .ok (.getfield 7, 3) := by decide +kernel
theorem dX1_checkDelegate_9 : decode cX1_checkDelegate 9 = .ok (.if_icmp .lt 13, 3) := by decide +kernel
theorem dX1_checkDelegate_12 : decode cX1_checkDelegate 12 = .ok (.new 232, 3) := by decide +kernel
theorem dX1_checkDelegate_15 : decode cX1_checkDelegate 15 = .ok (.dup, 1) := by decide +kernel
theorem dX1_checkDelegate_16 : decode cX1_checkDelegate 16 = .ok (.ldc 234, 2) := by decide +kernel
theorem dX1_checkDelegate_18 : decode cX1_checkDelegate 18 = .ok (.invokespecial 236, 3) := by decide +kernel
theorem dX1_checkDelegate_21 : decode cX1_checkDelegate 21 = .ok (.athrow, 1) := by decide +kernel
theorem dX1_checkDelegate_22 : decode cX1_checkDelegate 22 = .ok (.return_, 1) := by decide +kernel
theorem dX1_checkVillage_0 : decode cX1_checkVillage 0 = .ok (.iload_n 0, 1) := by decide +kernel
theorem dX1_checkVillage_1 : decode cX1_checkVillage 1 = .ok (.ifCond .lt 8, 3) := by decide +kernel
theorem dX1_checkVillage_4 : decode cX1_checkVillage 4 = .ok (.iload_n 0, 1) := by decide +kernel
theorem dX1_checkVillage_5 : decode cX1_checkVillage 5 = .ok (.iconst 5, 1) := by decide +kernel
theorem dX1_checkVillage_6 : decode cX1_checkVillage 6 = .ok (.if_icmp .lt 13, 3) := by decide +kernel
theorem dX1_checkVillage_9 : decode cX1_checkVillage 9 = .ok (.new 232, 3) := by decide +kernel
theorem dX1_checkVillage_12 : decode cX1_checkVillage 12 = .ok (.dup, 1) := by decide +kernel
theorem dX1_checkVillage_13 : decode cX1_checkVillage 13 = .ok (.ldc 237, 2) := by decide +kernel
theorem dX1_checkVillage_15 : decode cX1_checkVillage 15 = .ok (.invokespecial 236, 3) := by decide +kernel
theorem dX1_checkVillage_18 : decode cX1_checkVillage 18 = .ok (.athrow, 1) := by decide +kernel
theorem dX1_checkVillage_19 : decode cX1_checkVillage 19 = .ok (.return_, 1) := by decide +kernel
theorem dX1_checkPlank_0 : decode cX1_checkPlank 0 = .ok (.iload_n 0, 1) := by decide +kernel
theorem dX1_checkPlank_1 : decode cX1_checkPlank 1 = .ok (.ifCond .lt 9, 3) := by decide +kernel
theorem dX1_checkPlank_4 : decode cX1_checkPlank 4 = .ok (.iload_n 0, 1) := by decide +kernel
theorem dX1_checkPlank_5 : decode cX1_checkPlank 5 = .ok (.bipush 41, 2) := by decide +kernel
theorem dX1_checkPlank_7 : decode cX1_checkPlank 7 = .ok (.if_icmp .lt 13, 3) := by decide +kernel
theorem dX1_checkPlank_10 : decode cX1_checkPlank 10 = .ok (.new 232, 3) := by decide +kernel
theorem dX1_checkPlank_13 : decode cX1_checkPlank 13 = .ok (.dup, 1) := by decide +kernel
theorem dX1_checkPlank_14 : decode cX1_checkPlank 14 = .ok (.ldc 239, 2) := by decide +kernel
theorem dX1_checkPlank_16 : decode cX1_checkPlank 16 = .ok (.invokespecial 236, 3) := by decide +kernel
theorem dX1_checkPlank_19 : decode cX1_checkPlank 19 = .ok (.athrow, 1) := by decide +kernel
theorem dX1_checkPlank_20 : decode cX1_checkPlank 20 = .ok (.return_, 1) := by decide +kernel
set_option maxRecDepth 20000 in
theorem ggX1_checkTwoPlanks_X1_checkPlank : GoodIn wsX1_checkTwoPlanks wsX1_checkPlank := goodIn_ca (goodIn_r _ [6, 7, 8] (by decide +kernel) (by decide +kernel)) (goodIn_sub (fun _ h => List.mem_cons_of_mem _ (List.mem_append_right _ h)) (by decide +kernel))
set_option maxRecDepth 20000 in
theorem gX1_checkTwoPlanks_X1_checkPlank : GoodIn wsX1_checkTwoPlanks (va_wsS RX1 49 yX1_checkPlank wsX1_checkPlank) := goodIn_app (goodIn_of _ (by decide +kernel)) ggX1_checkTwoPlanks_X1_checkPlank
theorem dX1_checkTwoPlanks_0 : decode cX1_checkTwoPlanks 0 = .ok (.iload_n 0, 1) := by decide +kernel
theorem dX1_checkTwoPlanks_1 : decode cX1_checkTwoPlanks 1 = .ok (.invokestatic 49, 3) := by decide +kernel
theorem dX1_checkTwoPlanks_4 : decode cX1_checkTwoPlanks 4 = .ok (.iload_n 1, 1) := by decide +kernel
theorem dX1_checkTwoPlanks_5 : decode cX1_checkTwoPlanks 5 = .ok (.invokestatic 49, 3) := by decide +kernel
theorem dX1_checkTwoPlanks_8 : decode cX1_checkTwoPlanks 8 = .ok (.iload_n 0, 1) := by decide +kernel
theorem dX1_checkTwoPlanks_9 : decode cX1_checkTwoPlanks 9 = .ok (.iload_n 1, 1) := by decide +kernel
theorem dX1_checkTwoPlanks_10 : decode cX1_checkTwoPlanks 10 = .ok (.if_icmp .ne 13, 3) := by decide +kernel
theorem dX1_checkTwoPlanks_13 : decode cX1_checkTwoPlanks 13 = .ok (.new 85, 3) := by decide +kernel
theorem dX1_checkTwoPlanks_16 : decode cX1_checkTwoPlanks 16 = .ok (.dup, 1) := by decide +kernel
theorem dX1_checkTwoPlanks_17 : decode cX1_checkTwoPlanks 17 = .ok (.ldc 241, 2) := by decide +kernel
theorem dX1_checkTwoPlanks_19 : decode cX1_checkTwoPlanks 19 = .ok (.invokespecial 89, 3) := by decide +kernel
theorem dX1_checkTwoPlanks_22 : decode cX1_checkTwoPlanks 22 = .ok (.athrow, 1) := by decide +kernel
theorem dX1_checkTwoPlanks_23 : decode cX1_checkTwoPlanks 23 = .ok (.return_, 1) := by decide +kernel
theorem dX1_checkReachAndPace_0 : decode cX1_checkReachAndPace 0 = .ok (.iload_n 0, 1) := by decide +kernel
theorem dX1_checkReachAndPace_1 : decode cX1_checkReachAndPace 1 = .ok (.ifCond .lt 9, 3) := by decide +kernel
theorem dX1_checkReachAndPace_4 : decode cX1_checkReachAndPace 4 = .ok (.iload_n 0, 1) := by decide +kernel
theorem dX1_checkReachAndPace_5 : decode cX1_checkReachAndPace 5 = .ok (.bipush 20, 2) := by decide +kernel
theorem dX1_checkReachAndPace_7 : decode cX1_checkReachAndPace 7 = .ok (.if_icmp .le 13, 3) := by decide +kernel
theorem dX1_checkReachAndPace_10 : decode cX1_checkReachAndPace 10 = .ok (.new 85, 3) := by decide +kernel
theorem dX1_checkReachAndPace_13 : decode cX1_checkReachAndPace 13 = .ok (.dup, 1) := by decide +kernel
theorem dX1_checkReachAndPace_14 : decode cX1_checkReachAndPace 14 = .ok (.ldc 243, 2) := by decide +kernel
theorem dX1_checkReachAndPace_16 : decode cX1_checkReachAndPace 16 = .ok (.invokespecial 89, 3) := by decide +kernel
theorem dX1_checkReachAndPace_19 : decode cX1_checkReachAndPace 19 = .ok (.athrow, 1) := by decide +kernel
theorem dX1_checkReachAndPace_20 : decode cX1_checkReachAndPace 20 = .ok (.iload_n 1, 1) := by decide +kernel
theorem dX1_checkReachAndPace_21 : decode cX1_checkReachAndPace 21 = .ok (.iconst 1, 1) := by decide +kernel
theorem dX1_checkReachAndPace_22 : decode cX1_checkReachAndPace 22 = .ok (.if_icmp .lt 8, 3) := by decide +kernel
theorem dX1_checkReachAndPace_25 : decode cX1_checkReachAndPace 25 = .ok (.iload_n 1, 1) := by decide +kernel
theorem dX1_checkReachAndPace_26 : decode cX1_checkReachAndPace 26 = .ok (.iconst 5, 1) := by decide +kernel
theorem dX1_checkReachAndPace_27 : decode cX1_checkReachAndPace 27 = .ok (.if_icmp .le 13, 3) := by decide +kernel
theorem dX1_checkReachAndPace_30 : decode cX1_checkReachAndPace 30 = .ok (.new 85, 3) := by decide +kernel
theorem dX1_checkReachAndPace_33 : decode cX1_checkReachAndPace 33 = .ok (.dup, 1) := by decide +kernel
theorem dX1_checkReachAndPace_34 : decode cX1_checkReachAndPace 34 = .ok (.ldc 245, 2) := by decide +kernel
theorem dX1_checkReachAndPace_36 : decode cX1_checkReachAndPace 36 = .ok (.invokespecial 89, 3) := by decide +kernel
theorem dX1_checkReachAndPace_39 : decode cX1_checkReachAndPace 39 = .ok (.athrow, 1) := by decide +kernel
theorem dX1_checkReachAndPace_40 : decode cX1_checkReachAndPace 40 = .ok (.return_, 1) := by decide +kernel
theorem dX1_checkRounds_0 : decode cX1_checkRounds 0 = .ok (.iload_n 0, 1) := by decide +kernel
theorem dX1_checkRounds_1 : decode cX1_checkRounds 1 = .ok (.iconst 1, 1) := by decide +kernel
theorem dX1_checkRounds_2 : decode cX1_checkRounds 2 = .ok (.if_icmp .lt 9, 3) := by decide +kernel
theorem dX1_checkRounds_5 : decode cX1_checkRounds 5 = .ok (.iload_n 0, 1) := by decide +kernel
theorem dX1_checkRounds_6 : decode cX1_checkRounds 6 = .ok (.bipush 50, 2) := by decide +kernel
theorem dX1_checkRounds_8 : decode cX1_checkRounds 8 = .ok (.if_icmp .le 13, 3) := by decide +kernel
theorem dX1_checkRounds_11 : decode cX1_checkRounds 11 = .ok (.new 85, 3) := by decide +kernel
theorem dX1_checkRounds_14 : decode cX1_checkRounds 14 = .ok (.dup, 1) := by decide +kernel
theorem dX1_checkRounds_15 : decode cX1_checkRounds 15 = .ok (.ldc 247, 2) := by decide +kernel
theorem dX1_checkRounds_17 : decode cX1_checkRounds 17 = .ok (.invokespecial 89, 3) := by decide +kernel
theorem dX1_checkRounds_20 : decode cX1_checkRounds 20 = .ok (.athrow, 1) := by decide +kernel
theorem dX1_checkRounds_21 : decode cX1_checkRounds 21 = .ok (.return_, 1) := by decide +kernel
theorem dX1_checkSomeoneThere_0 : decode cX1_checkSomeoneThere 0 = .ok (.aload_n 0, 1) := by decide +kernel
theorem dX1_checkSomeoneThere_1 : decode cX1_checkSomeoneThere 1 = .ok (.getfield 7, 3) := by decide +kernel
theorem dX1_checkSomeoneThere_4 : decode cX1_checkSomeoneThere 4 = .ok (.ifCond .ne 13, 3) := by decide +kernel
theorem dX1_checkSomeoneThere_7 : decode cX1_checkSomeoneThere 7 = .ok (.new 56, 3) := by decide +kernel
theorem dX1_checkSomeoneThere_10 : decode cX1_checkSomeoneThere 10 = .ok (.dup, 1) := by decide +kernel
theorem dX1_checkSomeoneThere_11 : decode cX1_checkSomeoneThere 11 = .ok (.ldc 249, 2) := by decide +kernel
theorem dX1_checkSomeoneThere_13 : decode cX1_checkSomeoneThere 13 = .ok (.invokespecial 60, 3) := by decide +kernel
theorem dX1_checkSomeoneThere_16 : decode cX1_checkSomeoneThere 16 = .ok (.athrow, 1) := by decide +kernel
theorem dX1_checkSomeoneThere_17 : decode cX1_checkSomeoneThere 17 = .ok (.return_, 1) := by decide +kernel
set_option maxRecDepth 20000 in
theorem ggX1_isWilling_X1_discontent : GoodIn wsX1_isWilling wsX1_discontent := goodIn_r _ [6, 7, 8, 9, 10, 11, 12, 13, 14, 15, 16, 17, 18, 19, 20, 21] (by decide +kernel) (by decide +kernel)
set_option maxRecDepth 20000 in
theorem gX1_isWilling_X1_discontent : GoodIn wsX1_isWilling (wsV RX1 132 RX1 yX1_discontent wsX1_discontent) := goodIn_app (goodIn_of _ (by decide +kernel)) ggX1_isWilling_X1_discontent
theorem dX1_isWilling_0 : decode cX1_isWilling 0 = .ok (.aload_n 0, 1) := by decide +kernel
theorem dX1_isWilling_1 : decode cX1_isWilling 1 = .ok (.iload_n 1, 1) := by decide +kernel
theorem dX1_isWilling_2 : decode cX1_isWilling 2 = .ok (.iload_n 2, 1) := by decide +kernel
theorem dX1_isWilling_3 : decode cX1_isWilling 3 = .ok (.invokevirtual 132, 3) := by decide +kernel
theorem dX1_isWilling_6 : decode cX1_isWilling 6 = .ok (.aload_n 0, 1) := by decide +kernel
theorem dX1_isWilling_7 : decode cX1_isWilling 7 = .ok (.getfield 26, 3) := by decide +kernel
theorem dX1_isWilling_10 : decode cX1_isWilling 10 = .ok (.iload_n 1, 1) := by decide +kernel
theorem dX1_isWilling_11 : decode cX1_isWilling 11 = .ok (.iaload, 1) := by decide +kernel
theorem dX1_isWilling_12 : decode cX1_isWilling 12 = .ok (.if_icmp .gt 7, 3) := by decide +kernel
theorem dX1_isWilling_15 : decode cX1_isWilling 15 = .ok (.iconst 1, 1) := by decide +kernel
theorem dX1_isWilling_16 : decode cX1_isWilling 16 = .ok (.goto 4, 3) := by decide +kernel
theorem dX1_isWilling_19 : decode cX1_isWilling 19 = .ok (.iconst 0, 1) := by decide +kernel
theorem dX1_isWilling_20 : decode cX1_isWilling 20 = .ok (.ireturn, 1) := by decide +kernel
theorem dX1_discontent_0 : decode cX1_discontent 0 = .ok (.iload_n 2, 1) := by decide +kernel
theorem dX1_discontent_1 : decode cX1_discontent 1 = .ok (.aload_n 0, 1) := by decide +kernel
theorem dX1_discontent_2 : decode cX1_discontent 2 = .ok (.getfield 23, 3) := by decide +kernel
theorem dX1_discontent_5 : decode cX1_discontent 5 = .ok (.iload_n 1, 1) := by decide +kernel
theorem dX1_discontent_6 : decode cX1_discontent 6 = .ok (.iaload, 1) := by decide +kernel
theorem dX1_discontent_7 : decode cX1_discontent 7 = .ok (.isub, 1) := by decide +kernel
theorem dX1_discontent_8 : decode cX1_discontent 8 = .ok (.invokestatic 251, 3) := by decide +kernel
theorem dX1_discontent_11 : decode cX1_discontent 11 = .ok (.ireturn, 1) := by decide +kernel
set_option maxRecDepth 20000 in
theorem ggX1_hasPlaceFor_X1_hasRoom : GoodIn wsX1_hasPlaceFor wsX1_hasRoom := goodIn_r _ [6, 7, 8, 9, 10, 5, 11, 12, 13, 14, 15, 16, 17, 18, 19, 20, 21, 22] (by decide +kernel) (by decide +kernel)
set_option maxRecDepth 20000 in
theorem gX1_hasPlaceFor_X1_hasRoom : GoodIn wsX1_hasPlaceFor (wsV RX1 63 RX1 yX1_hasRoom wsX1_hasRoom) := goodIn_app (goodIn_of _ (by decide +kernel)) ggX1_hasPlaceFor_X1_hasRoom
theorem dX1_hasPlaceFor_0 : decode cX1_hasPlaceFor 0 = .ok (.aload_n 0, 1) := by decide +kernel
theorem dX1_hasPlaceFor_1 : decode cX1_hasPlaceFor 1 = .ok (.getfield 32, 3) := by decide +kernel
theorem dX1_hasPlaceFor_4 : decode cX1_hasPlaceFor 4 = .ok (.iload_n 1, 1) := by decide +kernel
theorem dX1_hasPlaceFor_5 : decode cX1_hasPlaceFor 5 = .ok (.iaload, 1) := by decide +kernel
theorem dX1_hasPlaceFor_6 : decode cX1_hasPlaceFor 6 = .ok (.iload_n 2, 1) := by decide +kernel
theorem dX1_hasPlaceFor_7 : decode cX1_hasPlaceFor 7 = .ok (.if_icmp .eq 15, 3) := by decide +kernel
theorem dX1_hasPlaceFor_10 : decode cX1_hasPlaceFor 10 = .ok (.aload_n 0, 1) := by decide +kernel
theorem dX1_hasPlaceFor_11 : decode cX1_hasPlaceFor 11 = .ok (.aload_n 0, 1) := by decide +kernel
theorem dX1_hasPlaceFor_12 : decode cX1_hasPlaceFor 12 = .ok (.getfield 32, 3) := by decide +kernel
theorem dX1_hasPlaceFor_15 : decode cX1_hasPlaceFor 15 = .ok (.iload_n 2, 1) := by decide +kernel
theorem dX1_hasPlaceFor_16 : decode cX1_hasPlaceFor 16 = .ok (.invokevirtual 63, 3) := by decide +kernel
theorem dX1_hasPlaceFor_19 : decode cX1_hasPlaceFor 19 = .ok (.ifCond .eq 7, 3) := by decide +kernel
theorem dX1_hasPlaceFor_22 : decode cX1_hasPlaceFor 22 = .ok (.iconst 1, 1) := by decide +kernel
theorem dX1_hasPlaceFor_23 : decode cX1_hasPlaceFor 23 = .ok (.goto 4, 3) := by decide +kernel
theorem dX1_hasPlaceFor_26 : decode cX1_hasPlaceFor 26 = .ok (.iconst 0, 1) := by decide +kernel
theorem dX1_hasPlaceFor_27 : decode cX1_hasPlaceFor 27 = .ok (.ireturn, 1) := by decide +kernel
set_option maxRecDepth 20000 in
theorem ggX1_stepFrom_X1_nearestWillingPlank : GoodIn wsX1_stepFrom wsX1_nearestWillingPlank := goodIn_r _ [6, 7, 8, 9, 10, 5, 11, 12, 13, 14, 15, 16, 17, 18, 19, 20, 21, 22, 23, 24, 25, 26, 27, 28] (by decide +kernel) (by decide +kernel)
set_option maxRecDepth 20000 in
theorem gX1_stepFrom_X1_nearestWillingPlank : GoodIn wsX1_stepFrom (wsV RX1 254 RX1 yX1_nearestWillingPlank wsX1_nearestWillingPlank) := goodIn_app (goodIn_of _ (by decide +kernel)) ggX1_stepFrom_X1_nearestWillingPlank
set_option maxRecDepth 20000 in
theorem ggX1_stepFrom_X1_cutTo : GoodIn wsX1_stepFrom wsX1_cutTo := goodIn_r _ [11, 12, 13, 14, 15, 16, 17, 18] (by decide +kernel) (by decide +kernel)
set_option maxRecDepth 20000 in
theorem gX1_stepFrom_X1_cutTo : GoodIn wsX1_stepFrom (va_wsS RX1 257 yX1_cutTo wsX1_cutTo) := goodIn_app (goodIn_of _ (by decide +kernel)) ggX1_stepFrom_X1_cutTo
theorem dX1_stepFrom_0 : decode cX1_stepFrom 0 = .ok (.aload_n 0, 1) := by decide +kernel
theorem dX1_stepFrom_1 : decode cX1_stepFrom 1 = .ok (.iload_n 1, 1) := by decide +kernel
theorem dX1_stepFrom_2 : decode cX1_stepFrom 2 = .ok (.iload_n 3, 1) := by decide +kernel
theorem dX1_stepFrom_3 : decode cX1_stepFrom 3 = .ok (.invokevirtual 254, 3) := by decide +kernel
theorem dX1_stepFrom_6 : decode cX1_stepFrom 6 = .ok (.istore 4, 2) := by decide +kernel
theorem dX1_stepFrom_8 : decode cX1_stepFrom 8 = .ok (.iload 4, 2) := by decide +kernel
theorem dX1_stepFrom_10 : decode cX1_stepFrom 10 = .ok (.iload_n 2, 1) := by decide +kernel
theorem dX1_stepFrom_11 : decode cX1_stepFrom 11 = .ok (.aload_n 0, 1) := by decide +kernel
theorem dX1_stepFrom_12 : decode cX1_stepFrom 12 = .ok (.getfield 29, 3) := by decide +kernel
theorem dX1_stepFrom_15 : decode cX1_stepFrom 15 = .ok (.iload_n 1, 1) := by decide +kernel
theorem dX1_stepFrom_16 : decode cX1_stepFrom 16 = .ok (.iaload, 1) := by decide +kernel
theorem dX1_stepFrom_17 : decode cX1_stepFrom 17 = .ok (.isub, 1) := by decide +kernel
theorem dX1_stepFrom_18 : decode cX1_stepFrom 18 = .ok (.iload_n 2, 1) := by decide +kernel
theorem dX1_stepFrom_19 : decode cX1_stepFrom 19 = .ok (.aload_n 0, 1) := by decide +kernel
theorem dX1_stepFrom_20 : decode cX1_stepFrom 20 = .ok (.getfield 29, 3) := by decide +kernel
theorem dX1_stepFrom_23 : decode cX1_stepFrom 23 = .ok (.iload_n 1, 1) := by decide +kernel
theorem dX1_stepFrom_24 : decode cX1_stepFrom 24 = .ok (.iaload, 1) := by decide +kernel
theorem dX1_stepFrom_25 : decode cX1_stepFrom 25 = .ok (.iadd, 1) := by decide +kernel
theorem dX1_stepFrom_26 : decode cX1_stepFrom 26 = .ok (.invokestatic 257, 3) := by decide +kernel
theorem dX1_stepFrom_29 : decode cX1_stepFrom 29 = .ok (.ireturn, 1) := by decide +kernel
set_option maxRecDepth 20000 in
theorem ggX1_nearestWillingPlank_X1_cutTo : GoodIn wsX1_nearestWillingPlank wsX1_cutTo := goodIn_r _ [6, 7, 8, 9, 10, 11, 12, 13] (by decide +kernel) (by decide +kernel)
set_option maxRecDepth 20000 in
theorem gX1_nearestWillingPlank_X1_cutTo : GoodIn wsX1_nearestWillingPlank (va_wsS RX1 257 yX1_cutTo wsX1_cutTo) := goodIn_app (goodIn_of _ (by decide +kernel)) ggX1_nearestWillingPlank_X1_cutTo
theorem dX1_nearestWillingPlank_0 : decode cX1_nearestWillingPlank 0 = .ok (.aload_n 0, 1) := by decide +kernel
theorem dX1_nearestWillingPlank_1 : decode cX1_nearestWillingPlank 1 = .ok (.getfield 23, 3) := by decide +kernel
theorem dX1_nearestWillingPlank_4 : decode cX1_nearestWillingPlank 4 = .ok (.iload_n 1, 1) := by decide +kernel
theorem dX1_nearestWillingPlank_5 : decode cX1_nearestWillingPlank 5 = .ok (.iaload, 1) := by decide +kernel
theorem dX1_nearestWillingPlank_6 : decode cX1_nearestWillingPlank 6 = .ok (.istore_n 3, 1) := by decide +kernel
theorem dX1_nearestWillingPlank_7 : decode cX1_nearestWillingPlank 7 = .ok (.iload_n 2, 1) := by decide +kernel
theorem dX1_nearestWillingPlank_8 : decode cX1_nearestWillingPlank 8 = .ok (.iload_n 3, 1) := by decide +kernel
theorem dX1_nearestWillingPlank_9 : decode cX1_nearestWillingPlank 9 = .ok (.aload_n 0, 1) := by decide +kernel
theorem dX1_nearestWillingPlank_10 : decode cX1_nearestWillingPlank 10 = .ok (.getfield 26, 3) := by decide +kernel
theorem dX1_nearestWillingPlank_13 : decode cX1_nearestWillingPlank 13 = .ok (.iload_n 1, 1) := by decide +kernel
theorem dX1_nearestWillingPlank_14 : decode cX1_nearestWillingPlank 14 = .ok (.iaload, 1) := by decide +kernel
theorem dX1_nearestWillingPlank_15 : decode cX1_nearestWillingPlank 15 = .ok (.isub, 1) := by decide +kernel
theorem dX1_nearestWillingPlank_16 : decode cX1_nearestWillingPlank 16 = .ok (.iload_n 3, 1) := by decide +kernel
theorem dX1_nearestWillingPlank_17 : decode cX1_nearestWillingPlank 17 = .ok (.aload_n 0, 1) := by decide +kernel
theorem dX1_nearestWillingPlank_18 : decode cX1_nearestWillingPlank 18 = .ok (.getfield 26, 3) := by decide +kernel
theorem dX1_nearestWillingPlank_21 : decode cX1_nearestWillingPlank 21 = .ok (.iload_n 1, 1) := by decide +kernel
theorem dX1_nearestWillingPlank_22 : decode cX1_nearestWillingPlank 22 = .ok (.iaload, 1) := by decide +kernel
theorem dX1_nearestWillingPlank_23 : decode cX1_nearestWillingPlank 23 = .ok (.iadd, 1) := by decide +kernel
theorem dX1_nearestWillingPlank_24 : decode cX1_nearestWillingPlank 24 = .ok (.invokestatic 257, 3) := by decide +kernel
theorem dX1_nearestWillingPlank_27 : decode cX1_nearestWillingPlank 27 = .ok (.ireturn, 1) := by decide +kernel
theorem dX1_cutTo_0 : decode cX1_cutTo 0 = .ok (.iload_n 1, 1) := by decide +kernel
theorem dX1_cutTo_1 : decode cX1_cutTo 1 = .ok (.iload_n 0, 1) := by decide +kernel
theorem dX1_cutTo_2 : decode cX1_cutTo 2 = .ok (.iload_n 2, 1) := by decide +kernel
theorem dX1_cutTo_3 : decode cX1_cutTo 3 = .ok (.invokestatic 146, 3) := by decide +kernel
theorem dX1_cutTo_6 : decode cX1_cutTo 6 = .ok (.invokestatic 260, 3) := by decide +kernel
theorem dX1_cutTo_9 : decode cX1_cutTo 9 = .ok (.ireturn, 1) := by decide +kernel
theorem dX1_closeGap_0 : decode cX1_closeGap 0 = .ok (.iload_n 2, 1) := by decide +kernel
theorem dX1_closeGap_1 : decode cX1_closeGap 1 = .ok (.istore_n 3, 1) := by decide +kernel
theorem dX1_closeGap_2 : decode cX1_closeGap 2 = .ok (.iload_n 3, 1) := by decide +kernel
theorem dX1_closeGap_3 : decode cX1_closeGap 3 = .ok (.aload_n 0, 1) := by decide +kernel
theorem dX1_closeGap_4 : decode cX1_closeGap 4 = .ok (.getfield 7, 3) := by decide +kernel
theorem dX1_closeGap_7 : decode cX1_closeGap 7 = .ok (.iconst 1, 1) := by decide +kernel
theorem dX1_closeGap_8 : decode cX1_closeGap 8 = .ok (.isub, 1) := by decide +kernel
theorem dX1_closeGap_9 : decode cX1_closeGap 9 = .ok (.if_icmp .ge 17, 3) := by decide +kernel
theorem dX1_closeGap_12 : decode cX1_closeGap 12 = .ok (.aload_n 1, 1) := by decide +kernel
theorem dX1_closeGap_13 : decode cX1_closeGap 13 = .ok (.iload_n 3, 1) := by decide +kernel
theorem dX1_closeGap_14 : decode cX1_closeGap 14 = .ok (.aload_n 1, 1) := by decide +kernel
theorem dX1_closeGap_15 : decode cX1_closeGap 15 = .ok (.iload_n 3, 1) := by decide +kernel
theorem dX1_closeGap_16 : decode cX1_closeGap 16 = .ok (.iconst 1, 1) := by decide +kernel
theorem dX1_closeGap_17 : decode cX1_closeGap 17 = .ok (.iadd, 1) := by decide +kernel
theorem dX1_closeGap_18 : decode cX1_closeGap 18 = .ok (.iaload, 1) := by decide +kernel
theorem dX1_closeGap_19 : decode cX1_closeGap 19 = .ok (.iastore, 1) := by decide +kernel
theorem dX1_closeGap_20 : decode cX1_closeGap 20 = .ok (.iinc 3 1, 3) := by decide +kernel
theorem dX1_closeGap_23 : decode cX1_closeGap 23 = .ok (.goto (-21), 3) := by decide +kernel
theorem dX1_closeGap_26 : decode cX1_closeGap 26 = .ok (.return_, 1) := by decide +kernel
set_option maxRecDepth 20000 in
theorem ggX1_hasRoom_X1_crowdOn : GoodIn wsX1_hasRoom wsX1_crowdOn := goodIn_r _ [6, 7, 8, 9, 10, 11, 12, 13, 14, 15, 16, 17] (by decide +kernel) (by decide +kernel)
set_option maxRecDepth 20000 in
theorem gX1_hasRoom_X1_crowdOn : GoodIn wsX1_hasRoom (wsV RX1 97 RX1 yX1_crowdOn wsX1_crowdOn) := goodIn_app (goodIn_of _ (by decide +kernel)) ggX1_hasRoom_X1_crowdOn
theorem dX1_hasRoom_0 : decode cX1_hasRoom 0 = .ok (.aload_n 0, 1) := by decide +kernel
theorem dX1_hasRoom_1 : decode cX1_hasRoom 1 = .ok (.aload_n 1, 1) := by decide +kernel
theorem dX1_hasRoom_2 : decode cX1_hasRoom 2 = .ok (.iload_n 2, 1) := by decide +kernel
theorem dX1_hasRoom_3 : decode cX1_hasRoom 3 = .ok (.invokevirtual 97, 3) := by decide +kernel
theorem dX1_hasRoom_6 : decode cX1_hasRoom 6 = .ok (.aload_n 0, 1) := by decide +kernel
theorem dX1_hasRoom_7 : decode cX1_hasRoom 7 = .ok (.getfield 16, 3) := by decide +kernel
theorem dX1_hasRoom_10 : decode cX1_hasRoom 10 = .ok (.if_icmp .ge 7, 3) := by decide +kernel
theorem dX1_hasRoom_13 : decode cX1_hasRoom 13 = .ok (.iconst 1, 1) := by decide +kernel
theorem dX1_hasRoom_14 : decode cX1_hasRoom 14 = .ok (.goto 4, 3) := by decide +kernel
theorem dX1_hasRoom_17 : decode cX1_hasRoom 17 = .ok (.iconst 0, 1) := by decide +kernel
theorem dX1_hasRoom_18 : decode cX1_hasRoom 18 = .ok (.ireturn, 1) := by decide +kernel
theorem dX1_crowdOn_0 : decode cX1_crowdOn 0 = .ok (.iconst 0, 1) := by decide +kernel
theorem dX1_crowdOn_1 : decode cX1_crowdOn 1 = .ok (.istore_n 3, 1) := by decide +kernel
theorem dX1_crowdOn_2 : decode cX1_crowdOn 2 = .ok (.iconst 0, 1) := by decide +kernel
theorem dX1_crowdOn_3 : decode cX1_crowdOn 3 = .ok (.istore 4, 2) := by decide +kernel
theorem dX1_crowdOn_5 : decode cX1_crowdOn 5 = .ok (.iload 4, 2) := by decide +kernel
theorem dX1_crowdOn_7 : decode cX1_crowdOn 7 = .ok (.aload_n 0, 1) := by decide +kernel
theorem dX1_crowdOn_8 : decode cX1_crowdOn 8 = .ok (.getfield 7, 3) := by decide +kernel
theorem dX1_crowdOn_11 : decode cX1_crowdOn 11 = .ok (.if_icmp .ge 20, 3) := by decide +kernel
theorem dX1_crowdOn_14 : decode cX1_crowdOn 14 = .ok (.aload_n 1, 1) := by decide +kernel
theorem dX1_crowdOn_15 : decode cX1_crowdOn 15 = .ok (.iload 4, 2) := by decide +kernel
theorem dX1_crowdOn_17 : decode cX1_crowdOn 17 = .ok (.iaload, 1) := by decide +kernel
theorem dX1_crowdOn_18 : decode cX1_crowdOn 18 = .ok (.iload_n 2, 1) := by decide +kernel
theorem dX1_crowdOn_19 : decode cX1_crowdOn 19 = .ok (.if_icmp .ne 6, 3) := by decide +kernel
theorem dX1_crowdOn_22 : decode cX1_crowdOn 22 = .ok (.iinc 3 1, 3) := by decide +kernel
theorem dX1_crowdOn_25 : decode cX1_crowdOn 25 = .ok (.iinc 4 1, 3) := by decide +kernel
theorem dX1_crowdOn_28 : decode cX1_crowdOn 28 = .ok (.goto (-23), 3) := by decide +kernel
theorem dX1_crowdOn_31 : decode cX1_crowdOn 31 = .ok (.iload_n 3, 1) := by decide +kernel
theorem dX1_crowdOn_32 : decode cX1_crowdOn 32 = .ok (.ireturn, 1) := by decide +kernel
theorem dX1_distanceOfEnds_0 : decode cX1_distanceOfEnds 0 = .ok (.bipush 40, 2) := by decide +kernel
theorem dX1_distanceOfEnds_2 : decode cX1_distanceOfEnds 2 = .ok (.istore_n 2, 1) := by decide +kernel
theorem dX1_distanceOfEnds_3 : decode cX1_distanceOfEnds 3 = .ok (.iconst 0, 1) := by decide +kernel
theorem dX1_distanceOfEnds_4 : decode cX1_distanceOfEnds 4 = .ok (.istore_n 3, 1) := by decide +kernel
theorem dX1_distanceOfEnds_5 : decode cX1_distanceOfEnds 5 = .ok (.iconst 0, 1) := by decide +kernel
theorem dX1_distanceOfEnds_6 : decode cX1_distanceOfEnds 6 = .ok (.istore 4, 2) := by decide +kernel
theorem dX1_distanceOfEnds_8 : decode cX1_distanceOfEnds 8 = .ok (.iload 4, 2) := by decide +kernel
theorem dX1_distanceOfEnds_10 : decode cX1_distanceOfEnds 10 = .ok (.aload_n 0, 1) := by decide +kernel
theorem dX1_distanceOfEnds_11 : decode cX1_distanceOfEnds 11 = .ok (.getfield 7, 3) := by decide +kernel
theorem dX1_distanceOfEnds_14 : decode cX1_distanceOfEnds 14 = .ok (.if_icmp .ge 27, 3) := by decide +kernel
theorem dX1_distanceOfEnds_17 : decode cX1_distanceOfEnds 17 = .ok (.iload_n 2, 1) := by decide +kernel
theorem dX1_distanceOfEnds_18 : decode cX1_distanceOfEnds 18 = .ok (.aload_n 1, 1) := by decide +kernel
theorem dX1_distanceOfEnds_19 : decode cX1_distanceOfEnds 19 = .ok (.iload 4, 2) := by decide +kernel
theorem dX1_distanceOfEnds_21 : decode cX1_distanceOfEnds 21 = .ok (.iaload, 1) := by decide +kernel
theorem dX1_distanceOfEnds_22 : decode cX1_distanceOfEnds 22 = .ok (.invokestatic 146, 3) := by decide +kernel
theorem dX1_distanceOfEnds_25 : decode cX1_distanceOfEnds 25 = .ok (.istore_n 2, 1) := by decide +kernel
theorem dX1_distanceOfEnds_26 : decode cX1_distanceOfEnds 26 = .ok (.iload_n 3, 1) := by decide +kernel
theorem dX1_distanceOfEnds_27 : decode cX1_distanceOfEnds 27 = .ok (.aload_n 1, 1) := by decide +kernel
theorem dX1_distanceOfEnds_28 : decode cX1_distanceOfEnds 28 = .ok (.iload 4, 2) := by decide +kernel
theorem dX1_distanceOfEnds_30 : decode cX1_distanceOfEnds 30 = .ok (.iaload, 1) := by decide +kernel
theorem dX1_distanceOfEnds_31 : decode cX1_distanceOfEnds 31 = .ok (.invokestatic 260, 3) := by decide +kernel
theorem dX1_distanceOfEnds_34 : decode cX1_distanceOfEnds 34 = .ok (.istore_n 3, 1) := by decide +kernel
theorem dX1_distanceOfEnds_35 : decode cX1_distanceOfEnds 35 = .ok (.iinc 4 1, 3) := by decide +kernel
theorem dX1_distanceOfEnds_38 : decode cX1_distanceOfEnds 38 = .ok (.goto (-30), 3) := by decide +kernel
theorem dX1_distanceOfEnds_41 : decode cX1_distanceOfEnds 41 = .ok (.iconst 0, 1) := by decide +kernel
theorem dX1_distanceOfEnds_42 : decode cX1_distanceOfEnds 42 = .ok (.iload_n 3, 1) := by decide +kernel
theorem dX1_distanceOfEnds_43 : decode cX1_distanceOfEnds 43 = .ok (.iload_n 2, 1) := by decide +kernel
theorem dX1_distanceOfEnds_44 : decode cX1_distanceOfEnds 44 = .ok (.isub, 1) := by decide +kernel
theorem dX1_distanceOfEnds_45 : decode cX1_distanceOfEnds 45 = .ok (.invokestatic 260, 3) := by decide +kernel
theorem dX1_distanceOfEnds_48 : decode cX1_distanceOfEnds 48 = .ok (.ireturn, 1) := by decide +kernel
set_option maxRecDepth 20000 in
theorem ggX1_agreesAt_X1_hasTwoVillages : GoodIn wsX1_agreesAt wsX1_hasTwoVillages := goodIn_r _ [5, 6, 7, 19, 20, 21, 22, 23, 24, 25, 26, 27, 28] (by decide +kernel) (by decide +kernel)
set_option maxRecDepth 20000 in
theorem gX1_agreesAt_X1_hasTwoVillages : GoodIn wsX1_agreesAt (wsV RX1 263 RX1 yX1_hasTwoVillages wsX1_hasTwoVillages) := goodIn_app (goodIn_of _ (by decide +kernel)) ggX1_agreesAt_X1_hasTwoVillages
set_option maxRecDepth 20000 in
theorem ggX1_agreesAt_X1_distanceOfEnds : GoodIn wsX1_agreesAt wsX1_distanceOfEnds := goodIn_r _ [11, 6, 12, 13, 14, 15, 16, 17, 18, 19, 20, 21, 22, 23, 24, 25, 26, 27, 28] (by decide +kernel) (by decide +kernel)
set_option maxRecDepth 20000 in
theorem gX1_agreesAt_X1_distanceOfEnds : GoodIn wsX1_agreesAt (wsV RX1 100 RX1 yX1_distanceOfEnds wsX1_distanceOfEnds) := goodIn_app (goodIn_of _ (by decide +kernel)) ggX1_agreesAt_X1_distanceOfEnds
theorem dX1_agreesAt_0 : decode cX1_agreesAt 0 = .ok (.aload_n 0, 1) := by decide +kernel
theorem dX1_agreesAt_1 : decode cX1_agreesAt 1 = .ok (.invokevirtual 263, 3) := by decide +kernel
theorem dX1_agreesAt_4 : decode cX1_agreesAt 4 = .ok (.ifCond .eq 16, 3) := by decide +kernel
theorem dX1_agreesAt_7 : decode cX1_agreesAt 7 = .ok (.aload_n 0, 1) := by decide +kernel
theorem dX1_agreesAt_8 : decode cX1_agreesAt 8 = .ok (.aload_n 1, 1) := by decide +kernel
theorem dX1_agreesAt_9 : decode cX1_agreesAt 9 = .ok (.invokevirtual 100, 3) := by decide +kernel
theorem dX1_agreesAt_12 : decode cX1_agreesAt 12 = .ok (.iconst 2, 1) := by decide +kernel
theorem dX1_agreesAt_13 : decode cX1_agreesAt 13 = .ok (.if_icmp .gt 7, 3) := by decide +kernel
theorem dX1_agreesAt_16 : decode cX1_agreesAt 16 = .ok (.iconst 1, 1) := by decide +kernel
theorem dX1_agreesAt_17 : decode cX1_agreesAt 17 = .ok (.goto 4, 3) := by decide +kernel
theorem dX1_agreesAt_20 : decode cX1_agreesAt 20 = .ok (.iconst 0, 1) := by decide +kernel
theorem dX1_agreesAt_21 : decode cX1_agreesAt 21 = .ok (.ireturn, 1) := by decide +kernel
theorem dX1_hasTwoVillages_0 : decode cX1_hasTwoVillages 0 = .ok (.iconst 1, 1) := by decide +kernel
theorem dX1_hasTwoVillages_1 : decode cX1_hasTwoVillages 1 = .ok (.istore_n 1, 1) := by decide +kernel
theorem dX1_hasTwoVillages_2 : decode cX1_hasTwoVillages 2 = .ok (.iload_n 1, 1) := by decide +kernel
theorem dX1_hasTwoVillages_3 : decode cX1_hasTwoVillages 3 = .ok (.aload_n 0, 1) := by decide +kernel
theorem dX1_hasTwoVillages_4 : decode cX1_hasTwoVillages 4 = .ok (.getfield 7, 3) := by decide +kernel
theorem dX1_hasTwoVillages_7 : decode cX1_hasTwoVillages 7 = .ok (.if_icmp .ge 28, 3) := by decide +kernel
theorem dX1_hasTwoVillages_10 : decode cX1_hasTwoVillages 10 = .ok (.aload_n 0, 1) := by decide +kernel
theorem dX1_hasTwoVillages_11 : decode cX1_hasTwoVillages 11 = .ok (.getfield 19, 3) := by decide +kernel
theorem dX1_hasTwoVillages_14 : decode cX1_hasTwoVillages 14 = .ok (.iload_n 1, 1) := by decide +kernel
theorem dX1_hasTwoVillages_15 : decode cX1_hasTwoVillages 15 = .ok (.iaload, 1) := by decide +kernel
theorem dX1_hasTwoVillages_16 : decode cX1_hasTwoVillages 16 = .ok (.aload_n 0, 1) := by decide +kernel
theorem dX1_hasTwoVillages_17 : decode cX1_hasTwoVillages 17 = .ok (.getfield 19, 3) := by decide +kernel
theorem dX1_hasTwoVillages_20 : decode cX1_hasTwoVillages 20 = .ok (.iload_n 1, 1) := by decide +kernel
theorem dX1_hasTwoVillages_21 : decode cX1_hasTwoVillages 21 = .ok (.iconst 1, 1) := by decide +kernel
theorem dX1_hasTwoVillages_22 : decode cX1_hasTwoVillages 22 = .ok (.isub, 1) := by decide +kernel
theorem dX1_hasTwoVillages_23 : decode cX1_hasTwoVillages 23 = .ok (.iaload, 1) := by decide +kernel
theorem dX1_hasTwoVillages_24 : decode cX1_hasTwoVillages 24 = .ok (.if_icmp .eq 5, 3) := by decide +kernel
theorem dX1_hasTwoVillages_27 : decode cX1_hasTwoVillages 27 = .ok (.iconst 1, 1) := by decide +kernel
theorem dX1_hasTwoVillages_28 : decode cX1_hasTwoVillages 28 = .ok (.ireturn, 1) := by decide +kernel
theorem dX1_hasTwoVillages_29 : decode cX1_hasTwoVillages 29 = .ok (.iinc 1 1, 3) := by decide +kernel
theorem dX1_hasTwoVillages_32 : decode cX1_hasTwoVillages 32 = .ok (.goto (-30), 3) := by decide +kernel
theorem dX1_hasTwoVillages_35 : decode cX1_hasTwoVillages 35 = .ok (.iconst 0, 1) := by decide +kernel
theorem dX1_hasTwoVillages_36 : decode cX1_hasTwoVillages 36 = .ok (.ireturn, 1) := by decide +kernel
set_option maxRecDepth 20000 in
theorem ggX1_discontentOfAll_X1_discontent : GoodIn wsX1_discontentOfAll wsX1_discontent := goodIn_r _ [6, 7, 8, 9, 10, 11, 12, 13, 14, 15, 16, 17, 18, 19, 20, 21] (by decide +kernel) (by decide +kernel)
set_option maxRecDepth 20000 in
theorem gX1_discontentOfAll_X1_discontent : GoodIn wsX1_discontentOfAll (wsV RX1 132 RX1 yX1_discontent wsX1_discontent) := goodIn_app (goodIn_of _ (by decide +kernel)) ggX1_discontentOfAll_X1_discontent
theorem dX1_discontentOfAll_0 : decode cX1_discontentOfAll 0 = .ok (.iconst 0, 1) := by decide +kernel
theorem dX1_discontentOfAll_1 : decode cX1_discontentOfAll 1 = .ok (.istore_n 2, 1) := by decide +kernel
theorem dX1_discontentOfAll_2 : decode cX1_discontentOfAll 2 = .ok (.iconst 0, 1) := by decide +kernel
theorem dX1_discontentOfAll_3 : decode cX1_discontentOfAll 3 = .ok (.istore_n 3, 1) := by decide +kernel
theorem dX1_discontentOfAll_4 : decode cX1_discontentOfAll 4 = .ok (.iload_n 3, 1) := by decide +kernel
theorem dX1_discontentOfAll_5 : decode cX1_discontentOfAll 5 = .ok (.aload_n 0, 1) := by decide +kernel
theorem dX1_discontentOfAll_6 : decode cX1_discontentOfAll 6 = .ok (.getfield 7, 3) := by decide +kernel
theorem dX1_discontentOfAll_9 : decode cX1_discontentOfAll 9 = .ok (.if_icmp .ge 18, 3) := by decide +kernel
theorem dX1_discontentOfAll_12 : decode cX1_discontentOfAll 12 = .ok (.iload_n 2, 1) := by decide +kernel
theorem dX1_discontentOfAll_13 : decode cX1_discontentOfAll 13 = .ok (.aload_n 0, 1) := by decide +kernel
theorem dX1_discontentOfAll_14 : decode cX1_discontentOfAll 14 = .ok (.iload_n 3, 1) := by decide +kernel
theorem dX1_discontentOfAll_15 : decode cX1_discontentOfAll 15 = .ok (.iload_n 1, 1) := by decide +kernel
theorem dX1_discontentOfAll_16 : decode cX1_discontentOfAll 16 = .ok (.invokevirtual 132, 3) := by decide +kernel
theorem dX1_discontentOfAll_19 : decode cX1_discontentOfAll 19 = .ok (.iadd, 1) := by decide +kernel
theorem dX1_discontentOfAll_20 : decode cX1_discontentOfAll 20 = .ok (.istore_n 2, 1) := by decide +kernel
theorem dX1_discontentOfAll_21 : decode cX1_discontentOfAll 21 = .ok (.iinc 3 1, 3) := by decide +kernel
theorem dX1_discontentOfAll_24 : decode cX1_discontentOfAll 24 = .ok (.goto (-20), 3) := by decide +kernel
theorem dX1_discontentOfAll_27 : decode cX1_discontentOfAll 27 = .ok (.iload_n 2, 1) := by decide +kernel
theorem dX1_discontentOfAll_28 : decode cX1_discontentOfAll 28 = .ok (.ireturn, 1) := by decide +kernel
set_option maxRecDepth 20000 in
theorem ggX1_countVotes_X1_discontent : GoodIn wsX1_countVotes wsX1_discontent := goodIn_r _ [6, 7, 8, 9, 10, 11, 12, 13, 14, 15, 16, 17, 18, 19, 20, 21] (by decide +kernel) (by decide +kernel)
set_option maxRecDepth 20000 in
theorem gX1_countVotes_X1_discontent : GoodIn wsX1_countVotes (wsV RX1 132 RX1 yX1_discontent wsX1_discontent) := goodIn_app (goodIn_of _ (by decide +kernel)) ggX1_countVotes_X1_discontent
theorem dX1_countVotes_0 : decode cX1_countVotes 0 = .ok (.iconst 0, 1) := by decide +kernel
theorem dX1_countVotes_1 : decode cX1_countVotes 1 = .ok (.istore_n 3, 1) := by decide +kernel
theorem dX1_countVotes_2 : decode cX1_countVotes 2 = .ok (.iconst 0, 1) := by decide +kernel
theorem dX1_countVotes_3 : decode cX1_countVotes 3 = .ok (.istore 4, 2) := by decide +kernel
theorem dX1_countVotes_5 : decode cX1_countVotes 5 = .ok (.iload 4, 2) := by decide +kernel
theorem dX1_countVotes_7 : decode cX1_countVotes 7 = .ok (.aload_n 0, 1) := by decide +kernel
theorem dX1_countVotes_8 : decode cX1_countVotes 8 = .ok (.getfield 7, 3) := by decide +kernel
theorem dX1_countVotes_11 : decode cX1_countVotes 11 = .ok (.if_icmp .ge 29, 3) := by decide +kernel
theorem dX1_countVotes_14 : decode cX1_countVotes 14 = .ok (.aload_n 0, 1) := by decide +kernel
theorem dX1_countVotes_15 : decode cX1_countVotes 15 = .ok (.iload 4, 2) := by decide +kernel
theorem dX1_countVotes_17 : decode cX1_countVotes 17 = .ok (.iload_n 1, 1) := by decide +kernel
theorem dX1_countVotes_18 : decode cX1_countVotes 18 = .ok (.invokevirtual 132, 3) := by decide +kernel
theorem dX1_countVotes_21 : decode cX1_countVotes 21 = .ok (.aload_n 0, 1) := by decide +kernel
theorem dX1_countVotes_22 : decode cX1_countVotes 22 = .ok (.iload 4, 2) := by decide +kernel
theorem dX1_countVotes_24 : decode cX1_countVotes 24 = .ok (.iload_n 2, 1) := by decide +kernel
theorem dX1_countVotes_25 : decode cX1_countVotes 25 = .ok (.invokevirtual 132, 3) := by decide +kernel
theorem dX1_countVotes_28 : decode cX1_countVotes 28 = .ok (.if_icmp .ge 6, 3) := by decide +kernel
theorem dX1_countVotes_31 : decode cX1_countVotes 31 = .ok (.iinc 3 1, 3) := by decide +kernel
theorem dX1_countVotes_34 : decode cX1_countVotes 34 = .ok (.iinc 4 1, 3) := by decide +kernel
theorem dX1_countVotes_37 : decode cX1_countVotes 37 = .ok (.goto (-32), 3) := by decide +kernel
theorem dX1_countVotes_40 : decode cX1_countVotes 40 = .ok (.iload_n 3, 1) := by decide +kernel
theorem dX1_countVotes_41 : decode cX1_countVotes 41 = .ok (.ireturn, 1) := by decide +kernel
set_option maxRecDepth 20000 in
theorem ggX1_middleOfAll_X0_empty : GoodIn wsX1_middleOfAll wsX0_empty := goodIn_r _ [7, 8, 28, 29] (by decide +kernel) (by decide +kernel)
set_option maxRecDepth 20000 in
theorem gX1_middleOfAll_X0_empty : GoodIn wsX1_middleOfAll (wsV RX1 266 RX0 yX0_empty wsX0_empty) := goodIn_app (goodIn_of _ (by decide +kernel)) ggX1_middleOfAll_X0_empty
set_option maxRecDepth 20000 in
theorem ggX1_middleOfAll_X0_put : GoodIn wsX1_middleOfAll wsX0_put := goodIn_r _ [12, 8, 13, 28, 29] (by decide +kernel) (by decide +kernel)
set_option maxRecDepth 20000 in
theorem gX1_middleOfAll_X0_put : GoodIn wsX1_middleOfAll (wsV RX1 269 RX0 yX0_put wsX0_put) := goodIn_app (goodIn_of _ (by decide +kernel)) ggX1_middleOfAll_X0_put
set_option maxRecDepth 20000 in
theorem ggX1_middleOfAll_X0_middle : GoodIn wsX1_middleOfAll wsX0_middle := goodIn_r _ [17, 8, 13, 28, 29] (by decide +kernel) (by decide +kernel)
set_option maxRecDepth 20000 in
theorem gX1_middleOfAll_X0_middle : GoodIn wsX1_middleOfAll (wsV RX1 123 RX0 yX0_middle wsX0_middle) := goodIn_app (goodIn_of _ (by decide +kernel)) ggX1_middleOfAll_X0_middle
theorem dX1_middleOfAll_0 : decode cX1_middleOfAll 0 = .ok (.aload_n 0, 1) := by decide +kernel
theorem dX1_middleOfAll_1 : decode cX1_middleOfAll 1 = .ok (.getfield 41, 3) := by decide +kernel
theorem dX1_middleOfAll_4 : decode cX1_middleOfAll 4 = .ok (.invokevirtual 266, 3) := by decide +kernel
theorem dX1_middleOfAll_7 : decode cX1_middleOfAll 7 = .ok (.iconst 0, 1) := by decide +kernel
theorem dX1_middleOfAll_8 : decode cX1_middleOfAll 8 = .ok (.istore_n 2, 1) := by decide +kernel
theorem dX1_middleOfAll_9 : decode cX1_middleOfAll 9 = .ok (.iload_n 2, 1) := by decide +kernel
theorem dX1_middleOfAll_10 : decode cX1_middleOfAll 10 = .ok (.aload_n 0, 1) := by decide +kernel
theorem dX1_middleOfAll_11 : decode cX1_middleOfAll 11 = .ok (.getfield 7, 3) := by decide +kernel
theorem dX1_middleOfAll_14 : decode cX1_middleOfAll 14 = .ok (.if_icmp .ge 19, 3) := by decide +kernel
theorem dX1_middleOfAll_17 : decode cX1_middleOfAll 17 = .ok (.aload_n 0, 1) := by decide +kernel
theorem dX1_middleOfAll_18 : decode cX1_middleOfAll 18 = .ok (.getfield 41, 3) := by decide +kernel
theorem dX1_middleOfAll_21 : decode cX1_middleOfAll 21 = .ok (.aload_n 1, 1) := by decide +kernel
theorem dX1_middleOfAll_22 : decode cX1_middleOfAll 22 = .ok (.iload_n 2, 1) := by decide +kernel
theorem dX1_middleOfAll_23 : decode cX1_middleOfAll 23 = .ok (.iaload, 1) := by decide +kernel
theorem dX1_middleOfAll_24 : decode cX1_middleOfAll 24 = .ok (.invokevirtual 269, 3) := by decide +kernel
theorem dX1_middleOfAll_27 : decode cX1_middleOfAll 27 = .ok (.iinc 2 1, 3) := by decide +kernel
theorem dX1_middleOfAll_30 : decode cX1_middleOfAll 30 = .ok (.goto (-21), 3) := by decide +kernel
theorem dX1_middleOfAll_33 : decode cX1_middleOfAll 33 = .ok (.aload_n 0, 1) := by decide +kernel
theorem dX1_middleOfAll_34 : decode cX1_middleOfAll 34 = .ok (.getfield 41, 3) := by decide +kernel
theorem dX1_middleOfAll_37 : decode cX1_middleOfAll 37 = .ok (.invokevirtual 123, 3) := by decide +kernel
theorem dX1_middleOfAll_40 : decode cX1_middleOfAll 40 = .ok (.ireturn, 1) := by decide +kernel
set_option maxRecDepth 20000 in
theorem ggX1_gatherVillage_X0_empty : GoodIn wsX1_gatherVillage wsX0_empty := goodIn_r _ [9, 10, 26, 27] (by decide +kernel) (by decide +kernel)
set_option maxRecDepth 20000 in
theorem gX1_gatherVillage_X0_empty : GoodIn wsX1_gatherVillage (wsV RX1 266 RX0 yX0_empty wsX0_empty) := goodIn_app (goodIn_of _ (by decide +kernel)) ggX1_gatherVillage_X0_empty
set_option maxRecDepth 20000 in
theorem ggX1_gatherVillage_X0_put : GoodIn wsX1_gatherVillage wsX0_put := goodIn_r _ [14, 10, 15, 26, 27] (by decide +kernel) (by decide +kernel)
set_option maxRecDepth 20000 in
theorem gX1_gatherVillage_X0_put : GoodIn wsX1_gatherVillage (wsV RX1 269 RX0 yX0_put wsX0_put) := goodIn_app (goodIn_of _ (by decide +kernel)) ggX1_gatherVillage_X0_put
theorem dX1_gatherVillage_0 : decode cX1_gatherVillage 0 = .ok (.aload_n 0, 1) := by decide +kernel
theorem dX1_gatherVillage_1 : decode cX1_gatherVillage 1 = .ok (.getfield 41, 3) := by decide +kernel
theorem dX1_gatherVillage_4 : decode cX1_gatherVillage 4 = .ok (.invokevirtual 266, 3) := by decide +kernel
theorem dX1_gatherVillage_7 : decode cX1_gatherVillage 7 = .ok (.iconst 0, 1) := by decide +kernel
theorem dX1_gatherVillage_8 : decode cX1_gatherVillage 8 = .ok (.istore_n 2, 1) := by decide +kernel
theorem dX1_gatherVillage_9 : decode cX1_gatherVillage 9 = .ok (.iload_n 2, 1) := by decide +kernel
theorem dX1_gatherVillage_10 : decode cX1_gatherVillage 10 = .ok (.aload_n 0, 1) := by decide +kernel
theorem dX1_gatherVillage_11 : decode cX1_gatherVillage 11 = .ok (.getfield 7, 3) := by decide +kernel
theorem dX1_gatherVillage_14 : decode cX1_gatherVillage 14 = .ok (.if_icmp .ge 32, 3) := by decide +kernel
theorem dX1_gatherVillage_17 : decode cX1_gatherVillage 17 = .ok (.aload_n 0, 1) := by decide +kernel
theorem dX1_gatherVillage_18 : decode cX1_gatherVillage 18 = .ok (.getfield 19, 3) := by decide +kernel
theorem dX1_gatherVillage_21 : decode cX1_gatherVillage 21 = .ok (.iload_n 2, 1) := by decide +kernel
theorem dX1_gatherVillage_22 : decode cX1_gatherVillage 22 = .ok (.iaload, 1) := by decide +kernel
theorem dX1_gatherVillage_23 : decode cX1_gatherVillage 23 = .ok (.iload_n 1, 1) := by decide +kernel
theorem dX1_gatherVillage_24 : decode cX1_gatherVillage 24 = .ok (.if_icmp .ne 16, 3) := by decide +kernel
theorem dX1_gatherVillage_27 : decode cX1_gatherVillage 27 = .ok (.aload_n 0, 1) := by decide +kernel
theorem dX1_gatherVillage_28 : decode cX1_gatherVillage 28 = .ok (.getfield 41, 3) := by decide +kernel
theorem dX1_gatherVillage_31 : decode cX1_gatherVillage 31 = .ok (.aload_n 0, 1) := by decide +kernel
theorem dX1_gatherVillage_32 : decode cX1_gatherVillage 32 = .ok (.getfield 32, 3) := by decide +kernel
theorem dX1_gatherVillage_35 : decode cX1_gatherVillage 35 = .ok (.iload_n 2, 1) := by decide +kernel
theorem dX1_gatherVillage_36 : decode cX1_gatherVillage 36 = .ok (.iaload, 1) := by decide +kernel
theorem dX1_gatherVillage_37 : decode cX1_gatherVillage 37 = .ok (.invokevirtual 269, 3) := by decide +kernel
theorem dX1_gatherVillage_40 : decode cX1_gatherVillage 40 = .ok (.iinc 2 1, 3) := by decide +kernel
theorem dX1_gatherVillage_43 : decode cX1_gatherVillage 43 = .ok (.goto (-34), 3) := by decide +kernel
theorem dX1_gatherVillage_46 : decode cX1_gatherVillage 46 = .ok (.return_, 1) := by decide +kernel
set_option maxRecDepth 20000 in
theorem ggX1_gatherOthers_X0_empty : GoodIn wsX1_gatherOthers wsX0_empty := goodIn_r _ [8, 9, 25, 26] (by decide +kernel) (by decide +kernel)
set_option maxRecDepth 20000 in
theorem gX1_gatherOthers_X0_empty : GoodIn wsX1_gatherOthers (wsV RX1 266 RX0 yX0_empty wsX0_empty) := goodIn_app (goodIn_of _ (by decide +kernel)) ggX1_gatherOthers_X0_empty
set_option maxRecDepth 20000 in
theorem ggX1_gatherOthers_X0_put : GoodIn wsX1_gatherOthers wsX0_put := goodIn_r _ [13, 9, 14, 25, 26] (by decide +kernel) (by decide +kernel)
set_option maxRecDepth 20000 in
theorem gX1_gatherOthers_X0_put : GoodIn wsX1_gatherOthers (wsV RX1 269 RX0 yX0_put wsX0_put) := goodIn_app (goodIn_of _ (by decide +kernel)) ggX1_gatherOthers_X0_put
theorem dX1_gatherOthers_0 : decode cX1_gatherOthers 0 = .ok (.aload_n 0, 1) := by decide +kernel
theorem dX1_gatherOthers_1 : decode cX1_gatherOthers 1 = .ok (.getfield 41, 3) := by decide +kernel
theorem dX1_gatherOthers_4 : decode cX1_gatherOthers 4 = .ok (.invokevirtual 266, 3) := by decide +kernel
theorem dX1_gatherOthers_7 : decode cX1_gatherOthers 7 = .ok (.iconst 0, 1) := by decide +kernel
theorem dX1_gatherOthers_8 : decode cX1_gatherOthers 8 = .ok (.istore_n 2, 1) := by decide +kernel
theorem dX1_gatherOthers_9 : decode cX1_gatherOthers 9 = .ok (.iload_n 2, 1) := by decide +kernel
theorem dX1_gatherOthers_10 : decode cX1_gatherOthers 10 = .ok (.aload_n 0, 1) := by decide +kernel
theorem dX1_gatherOthers_11 : decode cX1_gatherOthers 11 = .ok (.getfield 7, 3) := by decide +kernel
theorem dX1_gatherOthers_14 : decode cX1_gatherOthers 14 = .ok (.if_icmp .ge 27, 3) := by decide +kernel
theorem dX1_gatherOthers_17 : decode cX1_gatherOthers 17 = .ok (.iload_n 2, 1) := by decide +kernel
theorem dX1_gatherOthers_18 : decode cX1_gatherOthers 18 = .ok (.iload_n 1, 1) := by decide +kernel
theorem dX1_gatherOthers_19 : decode cX1_gatherOthers 19 = .ok (.if_icmp .eq 16, 3) := by decide +kernel
theorem dX1_gatherOthers_22 : decode cX1_gatherOthers 22 = .ok (.aload_n 0, 1) := by decide +kernel
theorem dX1_gatherOthers_23 : decode cX1_gatherOthers 23 = .ok (.getfield 41, 3) := by decide +kernel
theorem dX1_gatherOthers_26 : decode cX1_gatherOthers 26 = .ok (.aload_n 0, 1) := by decide +kernel
theorem dX1_gatherOthers_27 : decode cX1_gatherOthers 27 = .ok (.getfield 32, 3) := by decide +kernel
theorem dX1_gatherOthers_30 : decode cX1_gatherOthers 30 = .ok (.iload_n 2, 1) := by decide +kernel
theorem dX1_gatherOthers_31 : decode cX1_gatherOthers 31 = .ok (.iaload, 1) := by decide +kernel
theorem dX1_gatherOthers_32 : decode cX1_gatherOthers 32 = .ok (.invokevirtual 269, 3) := by decide +kernel
theorem dX1_gatherOthers_35 : decode cX1_gatherOthers 35 = .ok (.iinc 2 1, 3) := by decide +kernel
theorem dX1_gatherOthers_38 : decode cX1_gatherOthers 38 = .ok (.goto (-29), 3) := by decide +kernel
theorem dX1_gatherOthers_41 : decode cX1_gatherOthers 41 = .ok (.return_, 1) := by decide +kernel
theorem dX1_copyPlanksToLater_0 : decode cX1_copyPlanksToLater 0 = .ok (.iconst 0, 1) := by decide +kernel
theorem dX1_copyPlanksToLater_1 : decode cX1_copyPlanksToLater 1 = .ok (.istore_n 1, 1) := by decide +kernel
theorem dX1_copyPlanksToLater_2 : decode cX1_copyPlanksToLater 2 = .ok (.iload_n 1, 1) := by decide +kernel
theorem dX1_copyPlanksToLater_3 : decode cX1_copyPlanksToLater 3 = .ok (.aload_n 0, 1) := by decide +kernel
theorem dX1_copyPlanksToLater_4 : decode cX1_copyPlanksToLater 4 = .ok (.getfield 7, 3) := by decide +kernel
theorem dX1_copyPlanksToLater_7 : decode cX1_copyPlanksToLater 7 = .ok (.if_icmp .ge 21, 3) := by decide +kernel
theorem dX1_copyPlanksToLater_10 : decode cX1_copyPlanksToLater 10 = .ok (.aload_n 0, 1) := by decide +kernel
theorem dX1_copyPlanksToLater_11 : decode cX1_copyPlanksToLater 11 = .ok (.getfield 35, 3) := by decide +kernel
theorem dX1_copyPlanksToLater_14 : decode cX1_copyPlanksToLater 14 = .ok (.iload_n 1, 1) := by decide +kernel
theorem dX1_copyPlanksToLater_15 : decode cX1_copyPlanksToLater 15 = .ok (.aload_n 0, 1) := by decide +kernel
theorem dX1_copyPlanksToLater_16 : decode cX1_copyPlanksToLater 16 = .ok (.getfield 32, 3) := by decide +kernel
theorem dX1_copyPlanksToLater_19 : decode cX1_copyPlanksToLater 19 = .ok (.iload_n 1, 1) := by decide +kernel
theorem dX1_copyPlanksToLater_20 : decode cX1_copyPlanksToLater 20 = .ok (.iaload, 1) := by decide +kernel
theorem dX1_copyPlanksToLater_21 : decode cX1_copyPlanksToLater 21 = .ok (.iastore, 1) := by decide +kernel
theorem dX1_copyPlanksToLater_22 : decode cX1_copyPlanksToLater 22 = .ok (.iinc 1 1, 3) := by decide +kernel
theorem dX1_copyPlanksToLater_25 : decode cX1_copyPlanksToLater 25 = .ok (.goto (-23), 3) := by decide +kernel
theorem dX1_copyPlanksToLater_28 : decode cX1_copyPlanksToLater 28 = .ok (.return_, 1) := by decide +kernel
set_option maxRecDepth 20000 in
theorem ggX1_goRounds_X1_goRound : GoodIn wsX1_goRounds wsX1_goRound := goodIn_r _ [5, 6, 7, 8, 9, 4, 10, 11, 12, 13, 14, 15, 16, 17, 18, 19, 20, 21, 22, 23, 24, 25, 26, 27, 28, 29, 30, 31, 32, 33, 34, 35, 36, 37, 38, 39, 40, 41, 42, 43, 44, 45, 46, 47, 48, 49, 50, 51, 52, 53, 54, 55, 56, 57, 58, 59, 60, 61, 62, 63, 64, 65, 66, 67, 68] (by decide +kernel) (by decide +kernel)
set_option maxRecDepth 20000 in
theorem gX1_goRounds_X1_goRound : GoodIn wsX1_goRounds (wsV RX1 158 RX1 yX1_goRound wsX1_goRound) := goodIn_app (goodIn_of _ (by decide +kernel)) ggX1_goRounds_X1_goRound
theorem dX1_goRounds_0 : decode cX1_goRounds 0 = .ok (.iconst 0, 1) := by decide +kernel
theorem dX1_goRounds_1 : decode cX1_goRounds 1 = .ok (.istore_n 3, 1) := by decide +kernel
theorem dX1_goRounds_2 : decode cX1_goRounds 2 = .ok (.iconst 0, 1) := by decide +kernel
theorem dX1_goRounds_3 : decode cX1_goRounds 3 = .ok (.istore 4, 2) := by decide +kernel
theorem dX1_goRounds_5 : decode cX1_goRounds 5 = .ok (.iload 4, 2) := by decide +kernel
theorem dX1_goRounds_7 : decode cX1_goRounds 7 = .ok (.iload_n 2, 1) := by decide +kernel
theorem dX1_goRounds_8 : decode cX1_goRounds 8 = .ok (.if_icmp .ge 17, 3) := by decide +kernel
theorem dX1_goRounds_11 : decode cX1_goRounds 11 = .ok (.iload_n 3, 1) := by decide +kernel
theorem dX1_goRounds_12 : decode cX1_goRounds 12 = .ok (.aload_n 0, 1) := by decide +kernel
theorem dX1_goRounds_13 : decode cX1_goRounds 13 = .ok (.aload_n 1, 1) := by decide +kernel
theorem dX1_goRounds_14 : decode cX1_goRounds 14 = .ok (.invokevirtual 158, 3) := by decide +kernel
theorem dX1_goRounds_17 : decode cX1_goRounds 17 = .ok (.iadd, 1) := by decide +kernel
theorem dX1_goRounds_18 : decode cX1_goRounds 18 = .ok (.istore_n 3, 1) := by decide +kernel
theorem dX1_goRounds_19 : decode cX1_goRounds 19 = .ok (.iinc 4 1, 3) := by decide +kernel
theorem dX1_goRounds_22 : decode cX1_goRounds 22 = .ok (.goto (-17), 3) := by decide +kernel
theorem dX1_goRounds_25 : decode cX1_goRounds 25 = .ok (.iload_n 3, 1) := by decide +kernel
theorem dX1_goRounds_26 : decode cX1_goRounds 26 = .ok (.ireturn, 1) := by decide +kernel
set_option maxRecDepth 20000 in
theorem ggX1_goRound_X1_middleOfAll : GoodIn wsX1_goRound wsX1_middleOfAll := goodIn_r _ [6, 7, 1, 8, 9, 10, 11, 12, 13, 14, 15, 16, 17, 18, 19, 20, 21, 22, 53, 54, 55, 56, 57, 58, 59, 60, 61, 62, 63, 64] (by decide +kernel) (by decide +kernel)
set_option maxRecDepth 20000 in
theorem gX1_goRound_X1_middleOfAll : GoodIn wsX1_goRound (wsV RX1 111 RX1 yX1_middleOfAll wsX1_middleOfAll) := goodIn_app (goodIn_of _ (by decide +kernel)) ggX1_goRound_X1_middleOfAll
set_option maxRecDepth 20000 in
theorem ggX1_goRound_X1_stepFrom : GoodIn wsX1_goRound wsX1_stepFrom := goodIn_r _ [26, 27, 28, 29, 30, 5, 31, 32, 33, 34, 35, 36, 37, 38, 39, 40, 41, 42, 43, 53, 54, 55, 56, 57, 58, 59, 60, 61, 62] (by decide +kernel) (by decide +kernel)
set_option maxRecDepth 20000 in
theorem gX1_goRound_X1_stepFrom : GoodIn wsX1_goRound (wsV RX1 151 RX1 yX1_stepFrom wsX1_stepFrom) := goodIn_app (goodIn_of _ (by decide +kernel)) ggX1_goRound_X1_stepFrom
set_option maxRecDepth 20000 in
theorem ggX1_goRound_X1_hasRoom : GoodIn wsX1_goRound wsX1_hasRoom := goodIn_r _ [47, 48, 49, 50, 51, 5, 52, 1, 53, 54, 55, 56, 57, 58, 59, 60, 61, 62] (by decide +kernel) (by decide +kernel)
set_option maxRecDepth 20000 in
theorem gX1_goRound_X1_hasRoom : GoodIn wsX1_goRound (wsV RX1 63 RX1 yX1_hasRoom wsX1_hasRoom) := goodIn_app (goodIn_of _ (by decide +kernel)) ggX1_goRound_X1_hasRoom
theorem dX1_goRound_0 : decode cX1_goRound 0 = .ok (.aload_n 0, 1) := by decide +kernel
theorem dX1_goRound_1 : decode cX1_goRound 1 = .ok (.aload_n 1, 1) := by decide +kernel
theorem dX1_goRound_2 : decode cX1_goRound 2 = .ok (.invokevirtual 111, 3) := by decide +kernel
theorem dX1_goRound_5 : decode cX1_goRound 5 = .ok (.istore_n 2, 1) := by decide +kernel
theorem dX1_goRound_6 : decode cX1_goRound 6 = .ok (.iconst 0, 1) := by decide +kernel
theorem dX1_goRound_7 : decode cX1_goRound 7 = .ok (.istore_n 3, 1) := by decide +kernel
theorem dX1_goRound_8 : decode cX1_goRound 8 = .ok (.iconst 0, 1) := by decide +kernel
theorem dX1_goRound_9 : decode cX1_goRound 9 = .ok (.istore 4, 2) := by decide +kernel
theorem dX1_goRound_11 : decode cX1_goRound 11 = .ok (.iload 4, 2) := by decide +kernel
theorem dX1_goRound_13 : decode cX1_goRound 13 = .ok (.aload_n 0, 1) := by decide +kernel
theorem dX1_goRound_14 : decode cX1_goRound 14 = .ok (.getfield 7, 3) := by decide +kernel
theorem dX1_goRound_17 : decode cX1_goRound 17 = .ok (.if_icmp .ge 50, 3) := by decide +kernel
theorem dX1_goRound_20 : decode cX1_goRound 20 = .ok (.aload_n 0, 1) := by decide +kernel
theorem dX1_goRound_21 : decode cX1_goRound 21 = .ok (.iload 4, 2) := by decide +kernel
theorem dX1_goRound_23 : decode cX1_goRound 23 = .ok (.aload_n 1, 1) := by decide +kernel
theorem dX1_goRound_24 : decode cX1_goRound 24 = .ok (.iload 4, 2) := by decide +kernel
theorem dX1_goRound_26 : decode cX1_goRound 26 = .ok (.iaload, 1) := by decide +kernel
theorem dX1_goRound_27 : decode cX1_goRound 27 = .ok (.iload_n 2, 1) := by decide +kernel
theorem dX1_goRound_28 : decode cX1_goRound 28 = .ok (.invokevirtual 151, 3) := by decide +kernel
theorem dX1_goRound_31 : decode cX1_goRound 31 = .ok (.istore 5, 2) := by decide +kernel
theorem dX1_goRound_33 : decode cX1_goRound 33 = .ok (.iload 5, 2) := by decide +kernel
theorem dX1_goRound_35 : decode cX1_goRound 35 = .ok (.aload_n 1, 1) := by decide +kernel
theorem dX1_goRound_36 : decode cX1_goRound 36 = .ok (.iload 4, 2) := by decide +kernel
theorem dX1_goRound_38 : decode cX1_goRound 38 = .ok (.iaload, 1) := by decide +kernel
theorem dX1_goRound_39 : decode cX1_goRound 39 = .ok (.if_icmp .eq 22, 3) := by decide +kernel
theorem dX1_goRound_42 : decode cX1_goRound 42 = .ok (.aload_n 0, 1) := by decide +kernel
theorem dX1_goRound_43 : decode cX1_goRound 43 = .ok (.aload_n 1, 1) := by decide +kernel
theorem dX1_goRound_44 : decode cX1_goRound 44 = .ok (.iload 5, 2) := by decide +kernel
theorem dX1_goRound_46 : decode cX1_goRound 46 = .ok (.invokevirtual 63, 3) := by decide +kernel
theorem dX1_goRound_49 : decode cX1_goRound 49 = .ok (.ifCond .eq 12, 3) := by decide +kernel
theorem dX1_goRound_52 : decode cX1_goRound 52 = .ok (.aload_n 1, 1) := by decide +kernel
theorem dX1_goRound_53 : decode cX1_goRound 53 = .ok (.iload 4, 2) := by decide +kernel
theorem dX1_goRound_55 : decode cX1_goRound 55 = .ok (.iload 5, 2) := by decide +kernel
theorem dX1_goRound_57 : decode cX1_goRound 57 = .ok (.iastore, 1) := by decide +kernel
theorem dX1_goRound_58 : decode cX1_goRound 58 = .ok (.iinc 3 1, 3) := by decide +kernel
theorem dX1_goRound_61 : decode cX1_goRound 61 = .ok (.iinc 4 1, 3) := by decide +kernel
theorem dX1_goRound_64 : decode cX1_goRound 64 = .ok (.goto (-53), 3) := by decide +kernel
theorem dX1_goRound_67 : decode cX1_goRound 67 = .ok (.iload_n 3, 1) := by decide +kernel
theorem dX1_goRound_68 : decode cX1_goRound 68 = .ok (.ireturn, 1) := by decide +kernel
theorem dX2_init_0 : decode cX2_init 0 = .ok (.aload_n 0, 1) := by decide +kernel
theorem dX2_init_1 : decode cX2_init 1 = .ok (.invokespecial 1, 3) := by decide +kernel
theorem dX2_init_4 : decode cX2_init 4 = .ok (.aload_n 0, 1) := by decide +kernel
theorem dX2_init_5 : decode cX2_init 5 = .ok (.bipush 12, 2) := by decide +kernel
theorem dX2_init_7 : decode cX2_init 7 = .ok (.putfield 7, 3) := by decide +kernel
theorem dX2_init_10 : decode cX2_init 10 = .ok (.aload_n 0, 1) := by decide +kernel
theorem dX2_init_11 : decode cX2_init 11 = .ok (.iconst 0, 1) := by decide +kernel
theorem dX2_init_12 : decode cX2_init 12 = .ok (.anewarray 13, 3) := by decide +kernel
theorem dX2_init_15 : decode cX2_init 15 = .ok (.putfield 15, 3) := by decide +kernel
theorem dX2_init_18 : decode cX2_init 18 = .ok (.return_, 1) := by decide +kernel
theorem dX2_add_0 : decode cX2_add 0 = .ok (.aload_n 0, 1) := by decide +kernel
theorem dX2_add_1 : decode cX2_add 1 = .ok (.getfield 15, 3) := by decide +kernel
theorem dX2_add_4 : decode cX2_add 4 = .ok (.arraylength, 1) := by decide +kernel
theorem dX2_add_5 : decode cX2_add 5 = .ok (.iconst 1, 1) := by decide +kernel
theorem dX2_add_6 : decode cX2_add 6 = .ok (.iadd, 1) := by decide +kernel
theorem dX2_add_7 : decode cX2_add 7 = .ok (.anewarray 13, 3) := by decide +kernel
theorem dX2_add_10 : decode cX2_add 10 = .ok (.astore_n 2, 1) := by decide +kernel
theorem dX2_add_11 : decode cX2_add 11 = .ok (.iconst 0, 1) := by decide +kernel
theorem dX2_add_12 : decode cX2_add 12 = .ok (.istore_n 3, 1) := by decide +kernel
theorem dX2_add_13 : decode cX2_add 13 = .ok (.iload_n 3, 1) := by decide +kernel
theorem dX2_add_14 : decode cX2_add 14 = .ok (.aload_n 0, 1) := by decide +kernel
theorem dX2_add_15 : decode cX2_add 15 = .ok (.getfield 15, 3) := by decide +kernel
theorem dX2_add_18 : decode cX2_add 18 = .ok (.arraylength, 1) := by decide +kernel
theorem dX2_add_19 : decode cX2_add 19 = .ok (.if_icmp .ge 18, 3) := by decide +kernel
theorem dX2_add_22 : decode cX2_add 22 = .ok (.aload_n 2, 1) := by decide +kernel
theorem dX2_add_23 : decode cX2_add 23 = .ok (.iload_n 3, 1) := by decide +kernel
theorem dX2_add_24 : decode cX2_add 24 = .ok (.aload_n 0, 1) := by decide +kernel
theorem dX2_add_25 : decode cX2_add 25 = .ok (.getfield 15, 3) := by decide +kernel
theorem dX2_add_28 : decode cX2_add 28 = .ok (.iload_n 3, 1) := by decide +kernel
theorem dX2_add_29 : decode cX2_add 29 = .ok (.aaload, 1) := by decide +kernel
theorem dX2_add_30 : decode cX2_add 30 = .ok (.aastore, 1) := by decide +kernel
theorem dX2_add_31 : decode cX2_add 31 = .ok (.iinc 3 1, 3) := by decide +kernel
theorem dX2_add_34 : decode cX2_add 34 = .ok (.goto (-21), 3) := by decide +kernel
theorem dX2_add_37 : decode cX2_add 37 = .ok (.aload_n 2, 1) := by decide +kernel
theorem dX2_add_38 : decode cX2_add 38 = .ok (.aload_n 0, 1) := by decide +kernel
theorem dX2_add_39 : decode cX2_add 39 = .ok (.getfield 15, 3) := by decide +kernel
theorem dX2_add_42 : decode cX2_add 42 = .ok (.arraylength, 1) := by decide +kernel
theorem dX2_add_43 : decode cX2_add 43 = .ok (.aload_n 1, 1) := by decide +kernel
theorem dX2_add_44 : decode cX2_add 44 = .ok (.aastore, 1) := by decide +kernel
theorem dX2_add_45 : decode cX2_add 45 = .ok (.aload_n 0, 1) := by decide +kernel
theorem dX2_add_46 : decode cX2_add 46 = .ok (.aload_n 2, 1) := by decide +kernel
theorem dX2_add_47 : decode cX2_add 47 = .ok (.putfield 15, 3) := by decide +kernel
theorem dX2_add_50 : decode cX2_add 50 = .ok (.return_, 1) := by decide +kernel
theorem dX2_remove_0 : decode cX2_remove 0 = .ok (.aload_n 0, 1) := by decide +kernel
theorem dX2_remove_1 : decode cX2_remove 1 = .ok (.getfield 15, 3) := by decide +kernel
theorem dX2_remove_4 : decode cX2_remove 4 = .ok (.arraylength, 1) := by decide +kernel
theorem dX2_remove_5 : decode cX2_remove 5 = .ok (.iconst 1, 1) := by decide +kernel
theorem dX2_remove_6 : decode cX2_remove 6 = .ok (.isub, 1) := by decide +kernel
theorem dX2_remove_7 : decode cX2_remove 7 = .ok (.anewarray 13, 3) := by decide +kernel
theorem dX2_remove_10 : decode cX2_remove 10 = .ok (.astore_n 2, 1) := by decide +kernel
theorem dX2_remove_11 : decode cX2_remove 11 = .ok (.iconst 0, 1) := by decide +kernel
theorem dX2_remove_12 : decode cX2_remove 12 = .ok (.istore_n 3, 1) := by decide +kernel
theorem dX2_remove_13 : decode cX2_remove 13 = .ok (.iload_n 3, 1) := by decide +kernel
theorem dX2_remove_14 : decode cX2_remove 14 = .ok (.aload_n 2, 1) := by decide +kernel
theorem dX2_remove_15 : decode cX2_remove 15 = .ok (.arraylength, 1) := by decide +kernel
theorem dX2_remove_16 : decode cX2_remove 16 = .ok (.if_icmp .ge 29, 3) := by decide +kernel
theorem dX2_remove_19 : decode cX2_remove 19 = .ok (.aload_n 2, 1) := by decide +kernel
theorem dX2_remove_20 : decode cX2_remove 20 = .ok (.iload_n 3, 1) := by decide +kernel
theorem dX2_remove_21 : decode cX2_remove 21 = .ok (.aload_n 0, 1) := by decide +kernel
theorem dX2_remove_22 : decode cX2_remove 22 = .ok (.getfield 15, 3) := by decide +kernel
theorem dX2_remove_25 : decode cX2_remove 25 = .ok (.iload_n 3, 1) := by decide +kernel
theorem dX2_remove_26 : decode cX2_remove 26 = .ok (.iload_n 1, 1) := by decide +kernel
theorem dX2_remove_27 : decode cX2_remove 27 = .ok (.if_icmp .ge 7, 3) := by decide +kernel
theorem dX2_remove_30 : decode cX2_remove 30 = .ok (.iload_n 3, 1) := by decide +kernel
theorem dX2_remove_31 : decode cX2_remove 31 = .ok (.goto 6, 3) := by decide +kernel
theorem dX2_remove_34 : decode cX2_remove 34 = .ok (.iload_n 3, 1) := by decide +kernel
theorem dX2_remove_35 : decode cX2_remove 35 = .ok (.iconst 1, 1) := by decide +kernel
theorem dX2_remove_36 : decode cX2_remove 36 = .ok (.iadd, 1) := by decide +kernel
theorem dX2_remove_37 : decode cX2_remove 37 = .ok (.aaload, 1) := by decide +kernel
theorem dX2_remove_38 : decode cX2_remove 38 = .ok (.aastore, 1) := by decide +kernel
theorem dX2_remove_39 : decode cX2_remove 39 = .ok (.iinc 3 1, 3) := by decide +kernel
theorem dX2_remove_42 : decode cX2_remove 42 = .ok (.goto (-29), 3) := by decide +kernel
theorem dX2_remove_45 : decode cX2_remove 45 = .ok (.aload_n 0, 1) := by decide +kernel
theorem dX2_remove_46 : decode cX2_remove 46 = .ok (.aload_n 2, 1) := by decide +kernel
theorem dX2_remove_47 : decode cX2_remove 47 = .ok (.putfield 15, 3) := by decide +kernel
theorem dX2_remove_50 : decode cX2_remove 50 = .ok (.return_, 1) := by decide +kernel
theorem dX2_on_0 : decode cX2_on 0 = .ok (.iconst 0, 1) := by decide +kernel
theorem dX2_on_1 : decode cX2_on 1 = .ok (.istore_n 2, 1) := by decide +kernel
theorem dX2_on_2 : decode cX2_on 2 = .ok (.aload_n 0, 1) := by decide +kernel
theorem dX2_on_3 : decode cX2_on 3 = .ok (.getfield 15, 3) := by decide +kernel
theorem dX2_on_6 : decode cX2_on 6 = .ok (.astore_n 3, 1) := by decide +kernel
theorem dX2_on_7 : decode cX2_on 7 = .ok (.aload_n 3, 1) := by decide +kernel
theorem dX2_on_8 : decode cX2_on 8 = .ok (.arraylength, 1) := by decide +kernel
theorem dX2_on_9 : decode cX2_on 9 = .ok (.istore 4, 2) := by decide +kernel
theorem dX2_on_11 : decode cX2_on 11 = .ok (.iconst 0, 1) := by decide +kernel
theorem dX2_on_12 : decode cX2_on 12 = .ok (.istore 5, 2) := by decide +kernel
theorem dX2_on_14 : decode cX2_on 14 = .ok (.iload 5, 2) := by decide +kernel
theorem dX2_on_16 : decode cX2_on 16 = .ok (.iload 4, 2) := by decide +kernel
theorem dX2_on_18 : decode cX2_on 18 = .ok (.if_icmp .ge 31, 3) := by decide +kernel
theorem dX2_on_21 : decode cX2_on 21 = .ok (.aload_n 3, 1) := by decide +kernel
theorem dX2_on_22 : decode cX2_on 22 = .ok (.iload 5, 2) := by decide +kernel
theorem dX2_on_24 : decode cX2_on 24 = .ok (.aaload, 1) := by decide +kernel
theorem dX2_on_25 : decode cX2_on 25 = .ok (.astore 6, 2) := by decide +kernel
theorem dX2_on_27 : decode cX2_on 27 = .ok (.iload_n 2, 1) := by decide +kernel
theorem dX2_on_28 : decode cX2_on 28 = .ok (.aload 6, 2) := by decide +kernel
theorem dX2_on_30 : decode cX2_on 30 = .ok (.iconst 4, 1) := by decide +kernel
theorem dX2_on_31 : decode cX2_on 31 = .ok (.iaload, 1) := by decide +kernel
theorem dX2_on_32 : decode cX2_on 32 = .ok (.iload_n 1, 1) := by decide +kernel
theorem dX2_on_33 : decode cX2_on 33 = .ok (.if_icmp .ne 7, 3) := by decide +kernel
theorem dX2_on_36 : decode cX2_on 36 = .ok (.iconst 1, 1) := by decide +kernel
theorem dX2_on_37 : decode cX2_on 37 = .ok (.goto 4, 3) := by decide +kernel
theorem dX2_on_40 : decode cX2_on 40 = .ok (.iconst 0, 1) := by decide +kernel
theorem dX2_on_41 : decode cX2_on 41 = .ok (.iadd, 1) := by decide +kernel
theorem dX2_on_42 : decode cX2_on 42 = .ok (.istore_n 2, 1) := by decide +kernel
theorem dX2_on_43 : decode cX2_on 43 = .ok (.iinc 5 1, 3) := by decide +kernel
theorem dX2_on_46 : decode cX2_on 46 = .ok (.goto (-32), 3) := by decide +kernel
theorem dX2_on_49 : decode cX2_on 49 = .ok (.iload_n 2, 1) := by decide +kernel
theorem dX2_on_50 : decode cX2_on 50 = .ok (.ireturn, 1) := by decide +kernel
theorem dX2_median_0 : decode cX2_median 0 = .ok (.iconst 0, 1) := by decide +kernel
theorem dX2_median_1 : decode cX2_median 1 = .ok (.istore_n 3, 1) := by decide +kernel
theorem dX2_median_2 : decode cX2_median 2 = .ok (.bipush 41, 2) := by decide +kernel
theorem dX2_median_4 : decode cX2_median 4 = .ok (.newarray .int, 2) := by decide +kernel
theorem dX2_median_6 : decode cX2_median 6 = .ok (.astore 4, 2) := by decide +kernel
theorem dX2_median_8 : decode cX2_median 8 = .ok (.iconst 0, 1) := by decide +kernel
theorem dX2_median_9 : decode cX2_median 9 = .ok (.istore 5, 2) := by decide +kernel
theorem dX2_median_11 : decode cX2_median 11 = .ok (.iload 5, 2) := by decide +kernel
theorem dX2_median_13 : decode cX2_median 13 = .ok (.aload_n 0, 1) := by decide +kernel
theorem dX2_median_14 : decode cX2_median 14 = .ok (.getfield 15, 3) := by decide +kernel
theorem dX2_median_17 : decode cX2_median 17 = .ok (.arraylength, 1) := by decide +kernel
theorem dX2_median_18 : decode cX2_median 18 = .ok (.if_icmp .ge 54, 3) := by decide +kernel
theorem dX2_median_21 : decode cX2_median 21 = .ok (.iload 5, 2) := by decide +kernel
theorem dX2_median_23 : decode cX2_median 23 = .ok (.iload_n 2, 1) := by decide +kernel
theorem dX2_median_24 : decode cX2_median 24 = .ok (.if_icmp .eq 42, 3) := by decide +kernel
theorem dX2_median_27 : decode cX2_median 27 = .ok (.iload_n 1, 1) := by decide +kernel
theorem dX2_median_28 : decode cX2_median 28 = .ok (.ifCond .lt 19, 3) := by decide +kernel
theorem dX2_median_31 : decode cX2_median 31 = .ok (.aload_n 0, 1) := by decide +kernel
theorem dX2_median_32 : decode cX2_median 32 = .ok (.getfield 15, 3) := by decide +kernel
theorem dX2_median_35 : decode cX2_median 35 = .ok (.iload 5, 2) := by decide +kernel
theorem dX2_median_37 : decode cX2_median 37 = .ok (.aaload, 1) := by decide +kernel
theorem dX2_median_38 : decode cX2_median 38 = .ok (.iconst 0, 1) := by decide +kernel
theorem dX2_median_39 : decode cX2_median 39 = .ok (.iaload, 1) := by decide +kernel
theorem dX2_median_40 : decode cX2_median 40 = .ok (.iload_n 1, 1) := by decide +kernel
theorem dX2_median_41 : decode cX2_median 41 = .ok (.if_icmp .eq 6, 3) := by decide +kernel
theorem dX2_median_44 : decode cX2_median 44 = .ok (.goto 22, 3) := by decide +kernel
theorem dX2_median_47 : decode cX2_median 47 = .ok (.aload 4, 2) := by decide +kernel
theorem dX2_median_49 : decode cX2_median 49 = .ok (.aload_n 0, 1) := by decide +kernel
theorem dX2_median_50 : decode cX2_median 50 = .ok (.getfield 15, 3) := by decide +kernel
theorem dX2_median_53 : decode cX2_median 53 = .ok (.iload 5, 2) := by decide +kernel
theorem dX2_median_55 : decode cX2_median 55 = .ok (.aaload, 1) := by decide +kernel
theorem dX2_median_56 : decode cX2_median 56 = .ok (.iconst 4, 1) := by decide +kernel
theorem dX2_median_57 : decode cX2_median 57 = .ok (.iaload, 1) := by decide +kernel
theorem dX2_median_58 : decode cX2_median 58 = .ok (.dup2, 1) := by decide +kernel
theorem dX2_median_59 : decode cX2_median 59 = .ok (.iaload, 1) := by decide +kernel
theorem dX2_median_60 : decode cX2_median 60 = .ok (.iconst 1, 1) := by decide +kernel
theorem dX2_median_61 : decode cX2_median 61 = .ok (.iadd, 1) := by decide +kernel
theorem dX2_median_62 : decode cX2_median 62 = .ok (.iastore, 1) := by decide +kernel
theorem dX2_median_63 : decode cX2_median 63 = .ok (.iinc 3 1, 3) := by decide +kernel
theorem dX2_median_66 : decode cX2_median 66 = .ok (.iinc 5 1, 3) := by decide +kernel
theorem dX2_median_69 : decode cX2_median 69 = .ok (.goto (-58), 3) := by decide +kernel
theorem dX2_median_72 : decode cX2_median 72 = .ok (.iconst 0, 1) := by decide +kernel
theorem dX2_median_73 : decode cX2_median 73 = .ok (.istore 5, 2) := by decide +kernel
theorem dX2_median_75 : decode cX2_median 75 = .ok (.iconst 0, 1) := by decide +kernel
theorem dX2_median_76 : decode cX2_median 76 = .ok (.istore 6, 2) := by decide +kernel
theorem dX2_median_78 : decode cX2_median 78 = .ok (.iload 6, 2) := by decide +kernel
theorem dX2_median_80 : decode cX2_median 80 = .ok (.bipush 41, 2) := by decide +kernel
theorem dX2_median_82 : decode cX2_median 82 = .ok (.if_icmp .ge 34, 3) := by decide +kernel
theorem dX2_median_85 : decode cX2_median 85 = .ok (.iload 5, 2) := by decide +kernel
theorem dX2_median_87 : decode cX2_median 87 = .ok (.aload 4, 2) := by decide +kernel
theorem dX2_median_89 : decode cX2_median 89 = .ok (.iload 6, 2) := by decide +kernel
theorem dX2_median_91 : decode cX2_median 91 = .ok (.iaload, 1) := by decide +kernel
theorem dX2_median_92 : decode cX2_median 92 = .ok (.iadd, 1) := by decide +kernel
theorem dX2_median_93 : decode cX2_median 93 = .ok (.istore 5, 2) := by decide +kernel
theorem dX2_median_95 : decode cX2_median 95 = .ok (.iload_n 3, 1) := by decide +kernel
theorem dX2_median_96 : decode cX2_median 96 = .ok (.ifCond .le 14, 3) := by decide +kernel
theorem dX2_median_99 : decode cX2_median 99 = .ok (.iconst 2, 1) := by decide +kernel
theorem dX2_median_100 : decode cX2_median 100 = .ok (.iload 5, 2) := by decide +kernel
theorem dX2_median_102 : decode cX2_median 102 = .ok (.imul, 1) := by decide +kernel
theorem dX2_median_103 : decode cX2_median 103 = .ok (.iload_n 3, 1) := by decide +kernel
theorem dX2_median_104 : decode cX2_median 104 = .ok (.if_icmp .lt 6, 3) := by decide +kernel
theorem dX2_median_107 : decode cX2_median 107 = .ok (.iload 6, 2) := by decide +kernel
theorem dX2_median_109 : decode cX2_median 109 = .ok (.ireturn, 1) := by decide +kernel
theorem dX2_median_110 : decode cX2_median 110 = .ok (.iinc 6 1, 3) := by decide +kernel
theorem dX2_median_113 : decode cX2_median 113 = .ok (.goto (-35), 3) := by decide +kernel
theorem dX2_median_116 : decode cX2_median 116 = .ok (.iconst (-1), 1) := by decide +kernel
theorem dX2_median_117 : decode cX2_median 117 = .ok (.ireturn, 1) := by decide +kernel
theorem dX2_step_0 : decode cX2_step 0 = .ok (.aload_n 0, 1) := by decide +kernel
theorem dX2_step_1 : decode cX2_step 1 = .ok (.getfield 15, 3) := by decide +kernel
theorem dX2_step_4 : decode cX2_step 4 = .ok (.iload_n 1, 1) := by decide +kernel
theorem dX2_step_5 : decode cX2_step 5 = .ok (.aaload, 1) := by decide +kernel
theorem dX2_step_6 : decode cX2_step 6 = .ok (.astore_n 3, 1) := by decide +kernel
theorem dX2_step_7 : decode cX2_step 7 = .ok (.aload_n 3, 1) := by decide +kernel
theorem dX2_step_8 : decode cX2_step 8 = .ok (.iconst 1, 1) := by decide +kernel
theorem dX2_step_9 : decode cX2_step 9 = .ok (.iaload, 1) := by decide +kernel
theorem dX2_step_10 : decode cX2_step 10 = .ok (.istore 4, 2) := by decide +kernel
theorem dX2_step_12 : decode cX2_step 12 = .ok (.iload 4, 2) := by decide +kernel
theorem dX2_step_14 : decode cX2_step 14 = .ok (.iload_n 2, 1) := by decide +kernel
theorem dX2_step_15 : decode cX2_step 15 = .ok (.if_icmp .eq 49, 3) := by decide +kernel
theorem dX2_step_18 : decode cX2_step 18 = .ok (.iload 4, 2) := by decide +kernel
theorem dX2_step_20 : decode cX2_step 20 = .ok (.iload_n 2, 1) := by decide +kernel
theorem dX2_step_21 : decode cX2_step 21 = .ok (.iload 4, 2) := by decide +kernel
theorem dX2_step_23 : decode cX2_step 23 = .ok (.if_icmp .le 7, 3) := by decide +kernel
theorem dX2_step_26 : decode cX2_step 26 = .ok (.iconst 1, 1) := by decide +kernel
theorem dX2_step_27 : decode cX2_step 27 = .ok (.goto 4, 3) := by decide +kernel
theorem dX2_step_30 : decode cX2_step 30 = .ok (.iconst (-1), 1) := by decide +kernel
theorem dX2_step_31 : decode cX2_step 31 = .ok (.iadd, 1) := by decide +kernel
theorem dX2_step_32 : decode cX2_step 32 = .ok (.aload_n 3, 1) := by decide +kernel
theorem dX2_step_33 : decode cX2_step 33 = .ok (.iconst 1, 1) := by decide +kernel
theorem dX2_step_34 : decode cX2_step 34 = .ok (.iaload, 1) := by decide +kernel
theorem dX2_step_35 : decode cX2_step 35 = .ok (.isub, 1) := by decide +kernel
theorem dX2_step_36 : decode cX2_step 36 = .ok (.invokestatic 19, 3) := by decide +kernel
theorem dX2_step_39 : decode cX2_step 39 = .ok (.aload_n 3, 1) := by decide +kernel
theorem dX2_step_40 : decode cX2_step 40 = .ok (.iconst 2, 1) := by decide +kernel
theorem dX2_step_41 : decode cX2_step 41 = .ok (.iaload, 1) := by decide +kernel
theorem dX2_step_42 : decode cX2_step 42 = .ok (.if_icmp .gt 22, 3) := by decide +kernel
theorem dX2_step_45 : decode cX2_step 45 = .ok (.iload 4, 2) := by decide +kernel
theorem dX2_step_47 : decode cX2_step 47 = .ok (.iload_n 2, 1) := by decide +kernel
theorem dX2_step_48 : decode cX2_step 48 = .ok (.iload 4, 2) := by decide +kernel
theorem dX2_step_50 : decode cX2_step 50 = .ok (.if_icmp .le 7, 3) := by decide +kernel
theorem dX2_step_53 : decode cX2_step 53 = .ok (.iconst 1, 1) := by decide +kernel
theorem dX2_step_54 : decode cX2_step 54 = .ok (.goto 4, 3) := by decide +kernel
theorem dX2_step_57 : decode cX2_step 57 = .ok (.iconst (-1), 1) := by decide +kernel
theorem dX2_step_58 : decode cX2_step 58 = .ok (.iadd, 1) := by decide +kernel
theorem dX2_step_59 : decode cX2_step 59 = .ok (.istore 4, 2) := by decide +kernel
theorem dX2_step_61 : decode cX2_step 61 = .ok (.goto (-49), 3) := by decide +kernel
theorem dX2_step_64 : decode cX2_step 64 = .ok (.aload_n 3, 1) := by decide +kernel
theorem dX2_step_65 : decode cX2_step 65 = .ok (.iconst 4, 1) := by decide +kernel
theorem dX2_step_66 : decode cX2_step 66 = .ok (.iaload, 1) := by decide +kernel
theorem dX2_step_67 : decode cX2_step 67 = .ok (.istore 5, 2) := by decide +kernel
theorem dX2_step_69 : decode cX2_step 69 = .ok (.iconst 0, 1) := by decide +kernel
theorem dX2_step_70 : decode cX2_step 70 = .ok (.istore 6, 2) := by decide +kernel
theorem dX2_step_72 : decode cX2_step 72 = .ok (.iload 6, 2) := by decide +kernel
theorem dX2_step_74 : decode cX2_step 74 = .ok (.aload_n 3, 1) := by decide +kernel
theorem dX2_step_75 : decode cX2_step 75 = .ok (.iconst 3, 1) := by decide +kernel
theorem dX2_step_76 : decode cX2_step 76 = .ok (.iaload, 1) := by decide +kernel
theorem dX2_step_77 : decode cX2_step 77 = .ok (.if_icmp .ge 33, 3) := by decide +kernel
theorem dX2_step_80 : decode cX2_step 80 = .ok (.iload 5, 2) := by decide +kernel
theorem dX2_step_82 : decode cX2_step 82 = .ok (.iload 4, 2) := by decide +kernel
theorem dX2_step_84 : decode cX2_step 84 = .ok (.if_icmp .eq 26, 3) := by decide +kernel
theorem dX2_step_87 : decode cX2_step 87 = .ok (.iload 5, 2) := by decide +kernel
theorem dX2_step_89 : decode cX2_step 89 = .ok (.iload 4, 2) := by decide +kernel
theorem dX2_step_91 : decode cX2_step 91 = .ok (.iload 5, 2) := by decide +kernel
theorem dX2_step_93 : decode cX2_step 93 = .ok (.if_icmp .le 7, 3) := by decide +kernel
theorem dX2_step_96 : decode cX2_step 96 = .ok (.iconst 1, 1) := by decide +kernel
theorem dX2_step_97 : decode cX2_step 97 = .ok (.goto 4, 3) := by decide +kernel
theorem dX2_step_100 : decode cX2_step 100 = .ok (.iconst (-1), 1) := by decide +kernel
theorem dX2_step_101 : decode cX2_step 101 = .ok (.iadd, 1) := by decide +kernel
theorem dX2_step_102 : decode cX2_step 102 = .ok (.istore 5, 2) := by decide +kernel
theorem dX2_step_104 : decode cX2_step 104 = .ok (.iinc 6 1, 3) := by decide +kernel
theorem dX2_step_107 : decode cX2_step 107 = .ok (.goto (-35), 3) := by decide +kernel
theorem dX2_step_110 : decode cX2_step 110 = .ok (.iload 5, 2) := by decide +kernel
theorem dX2_step_112 : decode cX2_step 112 = .ok (.ireturn, 1) := by decide +kernel
set_option maxRecDepth 20000 in
theorem ggX2_pass_X2_median : GoodIn wsX2_pass wsX2_median := goodIn_r _ [8, 9, 1, 22, 23, 24] (by decide +kernel) (by decide +kernel)
set_option maxRecDepth 20000 in
theorem gX2_pass_X2_median : GoodIn wsX2_pass (wsV RX2 25 RX2 yX2_median wsX2_median) := goodIn_app (goodIn_of _ (by decide +kernel)) ggX2_pass_X2_median
set_option maxRecDepth 20000 in
theorem ggX2_pass_X2_step : GoodIn wsX2_pass wsX2_step := goodIn_r _ [13, 1, 14, 15, 16, 17, 22, 23, 24] (by decide +kernel) (by decide +kernel)
set_option maxRecDepth 20000 in
theorem gX2_pass_X2_step : GoodIn wsX2_pass (wsV RX2 29 RX2 yX2_step wsX2_step) := goodIn_app (goodIn_of _ (by decide +kernel)) ggX2_pass_X2_step
set_option maxRecDepth 20000 in
theorem ggX2_pass_X2_on : GoodIn wsX2_pass wsX2_on := goodIn_r _ [21, 1, 22, 23, 24] (by decide +kernel) (by decide +kernel)
set_option maxRecDepth 20000 in
theorem gX2_pass_X2_on : GoodIn wsX2_pass (wsV RX2 32 RX2 yX2_on wsX2_on) := goodIn_app (goodIn_of _ (by decide +kernel)) ggX2_pass_X2_on
theorem dX2_pass_0 : decode cX2_pass 0 = .ok (.aload_n 0, 1) := by decide +kernel
theorem dX2_pass_1 : decode cX2_pass 1 = .ok (.iconst (-1), 1) := by decide +kernel
theorem dX2_pass_2 : decode cX2_pass 2 = .ok (.iconst (-1), 1) := by decide +kernel
theorem dX2_pass_3 : decode cX2_pass 3 = .ok (.invokevirtual 25, 3) := by decide +kernel
theorem dX2_pass_6 : decode cX2_pass 6 = .ok (.istore_n 1, 1) := by decide +kernel
theorem dX2_pass_7 : decode cX2_pass 7 = .ok (.iconst 0, 1) := by decide +kernel
theorem dX2_pass_8 : decode cX2_pass 8 = .ok (.istore_n 2, 1) := by decide +kernel
theorem dX2_pass_9 : decode cX2_pass 9 = .ok (.iconst 0, 1) := by decide +kernel
theorem dX2_pass_10 : decode cX2_pass 10 = .ok (.istore_n 3, 1) := by decide +kernel
theorem dX2_pass_11 : decode cX2_pass 11 = .ok (.iload_n 3, 1) := by decide +kernel
theorem dX2_pass_12 : decode cX2_pass 12 = .ok (.aload_n 0, 1) := by decide +kernel
theorem dX2_pass_13 : decode cX2_pass 13 = .ok (.getfield 15, 3) := by decide +kernel
theorem dX2_pass_16 : decode cX2_pass 16 = .ok (.arraylength, 1) := by decide +kernel
theorem dX2_pass_17 : decode cX2_pass 17 = .ok (.if_icmp .ge 59, 3) := by decide +kernel
theorem dX2_pass_20 : decode cX2_pass 20 = .ok (.aload_n 0, 1) := by decide +kernel
theorem dX2_pass_21 : decode cX2_pass 21 = .ok (.iload_n 3, 1) := by decide +kernel
theorem dX2_pass_22 : decode cX2_pass 22 = .ok (.iload_n 1, 1) := by decide +kernel
theorem dX2_pass_23 : decode cX2_pass 23 = .ok (.invokevirtual 29, 3) := by decide +kernel
theorem dX2_pass_26 : decode cX2_pass 26 = .ok (.istore 4, 2) := by decide +kernel
theorem dX2_pass_28 : decode cX2_pass 28 = .ok (.iload 4, 2) := by decide +kernel
theorem dX2_pass_30 : decode cX2_pass 30 = .ok (.aload_n 0, 1) := by decide +kernel
theorem dX2_pass_31 : decode cX2_pass 31 = .ok (.getfield 15, 3) := by decide +kernel
theorem dX2_pass_34 : decode cX2_pass 34 = .ok (.iload_n 3, 1) := by decide +kernel
theorem dX2_pass_35 : decode cX2_pass 35 = .ok (.aaload, 1) := by decide +kernel
theorem dX2_pass_36 : decode cX2_pass 36 = .ok (.iconst 4, 1) := by decide +kernel
theorem dX2_pass_37 : decode cX2_pass 37 = .ok (.iaload, 1) := by decide +kernel
theorem dX2_pass_38 : decode cX2_pass 38 = .ok (.if_icmp .eq 32, 3) := by decide +kernel
theorem dX2_pass_41 : decode cX2_pass 41 = .ok (.aload_n 0, 1) := by decide +kernel
theorem dX2_pass_42 : decode cX2_pass 42 = .ok (.iload 4, 2) := by decide +kernel
theorem dX2_pass_44 : decode cX2_pass 44 = .ok (.invokevirtual 32, 3) := by decide +kernel
theorem dX2_pass_47 : decode cX2_pass 47 = .ok (.aload_n 0, 1) := by decide +kernel
theorem dX2_pass_48 : decode cX2_pass 48 = .ok (.getfield 7, 3) := by decide +kernel
theorem dX2_pass_51 : decode cX2_pass 51 = .ok (.if_icmp .lt 6, 3) := by decide +kernel
theorem dX2_pass_54 : decode cX2_pass 54 = .ok (.goto 16, 3) := by decide +kernel
theorem dX2_pass_57 : decode cX2_pass 57 = .ok (.aload_n 0, 1) := by decide +kernel
theorem dX2_pass_58 : decode cX2_pass 58 = .ok (.getfield 15, 3) := by decide +kernel
theorem dX2_pass_61 : decode cX2_pass 61 = .ok (.iload_n 3, 1) := by decide +kernel
theorem dX2_pass_62 : decode cX2_pass 62 = .ok (.aaload, 1) := by decide +kernel
theorem dX2_pass_63 : decode cX2_pass 63 = .ok (.iconst 4, 1) := by decide +kernel
theorem dX2_pass_64 : decode cX2_pass 64 = .ok (.iload 4, 2) := by decide +kernel
theorem dX2_pass_66 : decode cX2_pass 66 = .ok (.iastore, 1) := by decide +kernel
theorem dX2_pass_67 : decode cX2_pass 67 = .ok (.iinc 2 1, 3) := by decide +kernel
theorem dX2_pass_70 : decode cX2_pass 70 = .ok (.iinc 3 1, 3) := by decide +kernel
theorem dX2_pass_73 : decode cX2_pass 73 = .ok (.goto (-62), 3) := by decide +kernel
theorem dX2_pass_76 : decode cX2_pass 76 = .ok (.aload_n 0, 1) := by decide +kernel
theorem dX2_pass_77 : decode cX2_pass 77 = .ok (.dup, 1) := by decide +kernel
theorem dX2_pass_78 : decode cX2_pass 78 = .ok (.getfield 35, 3) := by decide +kernel
theorem dX2_pass_81 : decode cX2_pass 81 = .ok (.iconst 1, 1) := by decide +kernel
theorem dX2_pass_82 : decode cX2_pass 82 = .ok (.iadd, 1) := by decide +kernel
theorem dX2_pass_83 : decode cX2_pass 83 = .ok (.putfield 35, 3) := by decide +kernel
theorem dX2_pass_86 : decode cX2_pass 86 = .ok (.iload_n 2, 1) := by decide +kernel
theorem dX2_pass_87 : decode cX2_pass 87 = .ok (.ireturn, 1) := by decide +kernel
set_option maxRecDepth 20000 in
theorem ggX2_behind_X2_pass : GoodIn wsX2_behind wsX2_pass := goodIn_r _ [5, 6, 7, 8, 9, 10, 11, 4, 12, 13, 14, 15, 16, 17, 18, 19, 20, 21, 22, 23, 24, 25, 26, 27, 28] (by decide +kernel) (by decide +kernel)
set_option maxRecDepth 20000 in
theorem gX2_behind_X2_pass : GoodIn wsX2_behind (wsV RX2 38 RX2 yX2_pass wsX2_pass) := goodIn_app (goodIn_of _ (by decide +kernel)) ggX2_behind_X2_pass
theorem dX2_behind_0 : decode cX2_behind 0 = .ok (.iconst 0, 1) := by decide +kernel
theorem dX2_behind_1 : decode cX2_behind 1 = .ok (.istore_n 2, 1) := by decide +kernel
theorem dX2_behind_2 : decode cX2_behind 2 = .ok (.iconst 0, 1) := by decide +kernel
theorem dX2_behind_3 : decode cX2_behind 3 = .ok (.istore_n 3, 1) := by decide +kernel
theorem dX2_behind_4 : decode cX2_behind 4 = .ok (.iload_n 3, 1) := by decide +kernel
theorem dX2_behind_5 : decode cX2_behind 5 = .ok (.iload_n 1, 1) := by decide +kernel
theorem dX2_behind_6 : decode cX2_behind 6 = .ok (.if_icmp .ge 16, 3) := by decide +kernel
theorem dX2_behind_9 : decode cX2_behind 9 = .ok (.iload_n 2, 1) := by decide +kernel
theorem dX2_behind_10 : decode cX2_behind 10 = .ok (.aload_n 0, 1) := by decide +kernel
theorem dX2_behind_11 : decode cX2_behind 11 = .ok (.invokevirtual 38, 3) := by decide +kernel
theorem dX2_behind_14 : decode cX2_behind 14 = .ok (.iadd, 1) := by decide +kernel
theorem dX2_behind_15 : decode cX2_behind 15 = .ok (.istore_n 2, 1) := by decide +kernel
theorem dX2_behind_16 : decode cX2_behind 16 = .ok (.iinc 3 1, 3) := by decide +kernel
theorem dX2_behind_19 : decode cX2_behind 19 = .ok (.goto (-15), 3) := by decide +kernel
theorem dX2_behind_22 : decode cX2_behind 22 = .ok (.iload_n 2, 1) := by decide +kernel
theorem dX2_behind_23 : decode cX2_behind 23 = .ok (.ireturn, 1) := by decide +kernel
set_option maxRecDepth 20000 in
theorem ggX2_copy_X2_init : GoodIn wsX2_copy wsX2_init := goodIn_r _ [15, 16, 17, 18, 5, 7, 6, 19, 20, 21] (by decide +kernel) (by decide +kernel)
set_option maxRecDepth 20000 in
theorem gX2_copy_X2_init : GoodIn wsX2_copy (wsX2_init) := ggX2_copy_X2_init
theorem dX2_copy_0 : decode cX2_copy 0 = .ok (.new 8, 3) := by decide +kernel
theorem dX2_copy_3 : decode cX2_copy 3 = .ok (.dup, 1) := by decide +kernel
theorem dX2_copy_4 : decode cX2_copy 4 = .ok (.invokespecial 42, 3) := by decide +kernel
theorem dX2_copy_7 : decode cX2_copy 7 = .ok (.astore_n 1, 1) := by decide +kernel
theorem dX2_copy_8 : decode cX2_copy 8 = .ok (.aload_n 1, 1) := by decide +kernel
theorem dX2_copy_9 : decode cX2_copy 9 = .ok (.aload_n 0, 1) := by decide +kernel
theorem dX2_copy_10 : decode cX2_copy 10 = .ok (.getfield 35, 3) := by decide +kernel
theorem dX2_copy_13 : decode cX2_copy 13 = .ok (.putfield 35, 3) := by decide +kernel
theorem dX2_copy_16 : decode cX2_copy 16 = .ok (.aload_n 1, 1) := by decide +kernel
theorem dX2_copy_17 : decode cX2_copy 17 = .ok (.aload_n 0, 1) := by decide +kernel
theorem dX2_copy_18 : decode cX2_copy 18 = .ok (.getfield 7, 3) := by decide +kernel
theorem dX2_copy_21 : decode cX2_copy 21 = .ok (.putfield 7, 3) := by decide +kernel
theorem dX2_copy_24 : decode cX2_copy 24 = .ok (.aload_n 1, 1) := by decide +kernel
theorem dX2_copy_25 : decode cX2_copy 25 = .ok (.aload_n 0, 1) := by decide +kernel
theorem dX2_copy_26 : decode cX2_copy 26 = .ok (.getfield 15, 3) := by decide +kernel
theorem dX2_copy_29 : decode cX2_copy 29 = .ok (.arraylength, 1) := by decide +kernel
theorem dX2_copy_30 : decode cX2_copy 30 = .ok (.anewarray 13, 3) := by decide +kernel
theorem dX2_copy_33 : decode cX2_copy 33 = .ok (.putfield 15, 3) := by decide +kernel
theorem dX2_copy_36 : decode cX2_copy 36 = .ok (.iconst 0, 1) := by decide +kernel
theorem dX2_copy_37 : decode cX2_copy 37 = .ok (.istore_n 2, 1) := by decide +kernel
theorem dX2_copy_38 : decode cX2_copy 38 = .ok (.iload_n 2, 1) := by decide +kernel
theorem dX2_copy_39 : decode cX2_copy 39 = .ok (.aload_n 0, 1) := by decide +kernel
theorem dX2_copy_40 : decode cX2_copy 40 = .ok (.getfield 15, 3) := by decide +kernel
theorem dX2_copy_43 : decode cX2_copy 43 = .ok (.arraylength, 1) := by decide +kernel
theorem dX2_copy_44 : decode cX2_copy 44 = .ok (.if_icmp .ge 27, 3) := by decide +kernel
theorem dX2_copy_47 : decode cX2_copy 47 = .ok (.aload_n 1, 1) := by decide +kernel
theorem dX2_copy_48 : decode cX2_copy 48 = .ok (.getfield 15, 3) := by decide +kernel
theorem dX2_copy_51 : decode cX2_copy 51 = .ok (.iload_n 2, 1) := by decide +kernel
theorem dX2_copy_52 : decode cX2_copy 52 = .ok (.aload_n 0, 1) := by decide +kernel
theorem dX2_copy_53 : decode cX2_copy 53 = .ok (.getfield 15, 3) := by decide +kernel
theorem dX2_copy_56 : decode cX2_copy 56 = .ok (.iload_n 2, 1) := by decide +kernel
theorem dX2_copy_57 : decode cX2_copy 57 = .ok (.aaload, 1) := by decide +kernel
theorem dX2_copy_58 : decode cX2_copy 58 = .ok (.invokevirtual 43, 3) := by decide +kernel
theorem dX2_copy_61 : decode cX2_copy 61 = .ok (.checkcast 13, 3) := by decide +kernel
theorem dX2_copy_64 : decode cX2_copy 64 = .ok (.aastore, 1) := by decide +kernel
theorem dX2_copy_65 : decode cX2_copy 65 = .ok (.iinc 2 1, 3) := by decide +kernel
theorem dX2_copy_68 : decode cX2_copy 68 = .ok (.goto (-30), 3) := by decide +kernel
theorem dX2_copy_71 : decode cX2_copy 71 = .ok (.aload_n 1, 1) := by decide +kernel
theorem dX2_copy_72 : decode cX2_copy 72 = .ok (.areturn, 1) := by decide +kernel
theorem dX2_spread_0 : decode cX2_spread 0 = .ok (.iconst 0, 1) := by decide +kernel
theorem dX2_spread_1 : decode cX2_spread 1 = .ok (.istore_n 1, 1) := by decide +kernel
theorem dX2_spread_2 : decode cX2_spread 2 = .ok (.aload_n 0, 1) := by decide +kernel
theorem dX2_spread_3 : decode cX2_spread 3 = .ok (.getfield 15, 3) := by decide +kernel
theorem dX2_spread_6 : decode cX2_spread 6 = .ok (.astore_n 2, 1) := by decide +kernel
theorem dX2_spread_7 : decode cX2_spread 7 = .ok (.aload_n 2, 1) := by decide +kernel
theorem dX2_spread_8 : decode cX2_spread 8 = .ok (.arraylength, 1) := by decide +kernel
theorem dX2_spread_9 : decode cX2_spread 9 = .ok (.istore_n 3, 1) := by decide +kernel
theorem dX2_spread_10 : decode cX2_spread 10 = .ok (.iconst 0, 1) := by decide +kernel
theorem dX2_spread_11 : decode cX2_spread 11 = .ok (.istore 4, 2) := by decide +kernel
theorem dX2_spread_13 : decode cX2_spread 13 = .ok (.iload 4, 2) := by decide +kernel
theorem dX2_spread_15 : decode cX2_spread 15 = .ok (.iload_n 3, 1) := by decide +kernel
theorem dX2_spread_16 : decode cX2_spread 16 = .ok (.if_icmp .ge 63, 3) := by decide +kernel
theorem dX2_spread_19 : decode cX2_spread 19 = .ok (.aload_n 2, 1) := by decide +kernel
theorem dX2_spread_20 : decode cX2_spread 20 = .ok (.iload 4, 2) := by decide +kernel
theorem dX2_spread_22 : decode cX2_spread 22 = .ok (.aaload, 1) := by decide +kernel
theorem dX2_spread_23 : decode cX2_spread 23 = .ok (.astore 5, 2) := by decide +kernel
theorem dX2_spread_25 : decode cX2_spread 25 = .ok (.aload_n 0, 1) := by decide +kernel
theorem dX2_spread_26 : decode cX2_spread 26 = .ok (.getfield 15, 3) := by decide +kernel
theorem dX2_spread_29 : decode cX2_spread 29 = .ok (.astore 6, 2) := by decide +kernel
theorem dX2_spread_31 : decode cX2_spread 31 = .ok (.aload 6, 2) := by decide +kernel
theorem dX2_spread_33 : decode cX2_spread 33 = .ok (.arraylength, 1) := by decide +kernel
theorem dX2_spread_34 : decode cX2_spread 34 = .ok (.istore 7, 2) := by decide +kernel
theorem dX2_spread_36 : decode cX2_spread 36 = .ok (.iconst 0, 1) := by decide +kernel
theorem dX2_spread_37 : decode cX2_spread 37 = .ok (.istore 8, 2) := by decide +kernel
theorem dX2_spread_39 : decode cX2_spread 39 = .ok (.iload 8, 2) := by decide +kernel
theorem dX2_spread_41 : decode cX2_spread 41 = .ok (.iload 7, 2) := by decide +kernel
theorem dX2_spread_43 : decode cX2_spread 43 = .ok (.if_icmp .ge 30, 3) := by decide +kernel
theorem dX2_spread_46 : decode cX2_spread 46 = .ok (.aload 6, 2) := by decide +kernel
theorem dX2_spread_48 : decode cX2_spread 48 = .ok (.iload 8, 2) := by decide +kernel
theorem dX2_spread_50 : decode cX2_spread 50 = .ok (.aaload, 1) := by decide +kernel
theorem dX2_spread_51 : decode cX2_spread 51 = .ok (.astore 9, 2) := by decide +kernel
theorem dX2_spread_53 : decode cX2_spread 53 = .ok (.iload_n 1, 1) := by decide +kernel
theorem dX2_spread_54 : decode cX2_spread 54 = .ok (.aload 5, 2) := by decide +kernel
theorem dX2_spread_56 : decode cX2_spread 56 = .ok (.iconst 4, 1) := by decide +kernel
theorem dX2_spread_57 : decode cX2_spread 57 = .ok (.iaload, 1) := by decide +kernel
theorem dX2_spread_58 : decode cX2_spread 58 = .ok (.aload 9, 2) := by decide +kernel
theorem dX2_spread_60 : decode cX2_spread 60 = .ok (.iconst 4, 1) := by decide +kernel
theorem dX2_spread_61 : decode cX2_spread 61 = .ok (.iaload, 1) := by decide +kernel
theorem dX2_spread_62 : decode cX2_spread 62 = .ok (.isub, 1) := by decide +kernel
theorem dX2_spread_63 : decode cX2_spread 63 = .ok (.invokestatic 47, 3) := by decide +kernel
theorem dX2_spread_66 : decode cX2_spread 66 = .ok (.istore_n 1, 1) := by decide +kernel
theorem dX2_spread_67 : decode cX2_spread 67 = .ok (.iinc 8 1, 3) := by decide +kernel
theorem dX2_spread_70 : decode cX2_spread 70 = .ok (.goto (-31), 3) := by decide +kernel
theorem dX2_spread_73 : decode cX2_spread 73 = .ok (.iinc 4 1, 3) := by decide +kernel
theorem dX2_spread_76 : decode cX2_spread 76 = .ok (.goto (-63), 3) := by decide +kernel
theorem dX2_spread_79 : decode cX2_spread 79 = .ok (.iload_n 1, 1) := by decide +kernel
theorem dX2_spread_80 : decode cX2_spread 80 = .ok (.ireturn, 1) := by decide +kernel
set_option maxRecDepth 20000 in
theorem ggX2_isTreaty_X2_spread : GoodIn wsX2_isTreaty wsX2_spread := goodIn_r _ [6, 1, 7, 8, 9, 10, 11, 12, 13] (by decide +kernel) (by decide +kernel)
set_option maxRecDepth 20000 in
theorem gX2_isTreaty_X2_spread : GoodIn wsX2_isTreaty (wsV RX2 50 RX2 yX2_spread wsX2_spread) := goodIn_app (goodIn_of _ (by decide +kernel)) ggX2_isTreaty_X2_spread
theorem dX2_isTreaty_0 : decode cX2_isTreaty 0 = .ok (.iconst 0, 1) := by decide +kernel
theorem dX2_isTreaty_1 : decode cX2_isTreaty 1 = .ok (.istore_n 1, 1) := by decide +kernel
theorem dX2_isTreaty_2 : decode cX2_isTreaty 2 = .ok (.aload_n 0, 1) := by decide +kernel
theorem dX2_isTreaty_3 : decode cX2_isTreaty 3 = .ok (.getfield 15, 3) := by decide +kernel
theorem dX2_isTreaty_6 : decode cX2_isTreaty 6 = .ok (.astore_n 2, 1) := by decide +kernel
theorem dX2_isTreaty_7 : decode cX2_isTreaty 7 = .ok (.aload_n 2, 1) := by decide +kernel
theorem dX2_isTreaty_8 : decode cX2_isTreaty 8 = .ok (.arraylength, 1) := by decide +kernel
theorem dX2_isTreaty_9 : decode cX2_isTreaty 9 = .ok (.istore_n 3, 1) := by decide +kernel
theorem dX2_isTreaty_10 : decode cX2_isTreaty 10 = .ok (.iconst 0, 1) := by decide +kernel
theorem dX2_isTreaty_11 : decode cX2_isTreaty 11 = .ok (.istore 4, 2) := by decide +kernel
theorem dX2_isTreaty_13 : decode cX2_isTreaty 13 = .ok (.iload 4, 2) := by decide +kernel
theorem dX2_isTreaty_15 : decode cX2_isTreaty 15 = .ok (.iload_n 3, 1) := by decide +kernel
theorem dX2_isTreaty_16 : decode cX2_isTreaty 16 = .ok (.if_icmp .ge 70, 3) := by decide +kernel
theorem dX2_isTreaty_19 : decode cX2_isTreaty 19 = .ok (.aload_n 2, 1) := by decide +kernel
theorem dX2_isTreaty_20 : decode cX2_isTreaty 20 = .ok (.iload 4, 2) := by decide +kernel
theorem dX2_isTreaty_22 : decode cX2_isTreaty 22 = .ok (.aaload, 1) := by decide +kernel
theorem dX2_isTreaty_23 : decode cX2_isTreaty 23 = .ok (.astore 5, 2) := by decide +kernel
theorem dX2_isTreaty_25 : decode cX2_isTreaty 25 = .ok (.aload_n 0, 1) := by decide +kernel
theorem dX2_isTreaty_26 : decode cX2_isTreaty 26 = .ok (.getfield 15, 3) := by decide +kernel
theorem dX2_isTreaty_29 : decode cX2_isTreaty 29 = .ok (.astore 6, 2) := by decide +kernel
theorem dX2_isTreaty_31 : decode cX2_isTreaty 31 = .ok (.aload 6, 2) := by decide +kernel
theorem dX2_isTreaty_33 : decode cX2_isTreaty 33 = .ok (.arraylength, 1) := by decide +kernel
theorem dX2_isTreaty_34 : decode cX2_isTreaty 34 = .ok (.istore 7, 2) := by decide +kernel
theorem dX2_isTreaty_36 : decode cX2_isTreaty 36 = .ok (.iconst 0, 1) := by decide +kernel
theorem dX2_isTreaty_37 : decode cX2_isTreaty 37 = .ok (.istore 8, 2) := by decide +kernel
theorem dX2_isTreaty_39 : decode cX2_isTreaty 39 = .ok (.iload 8, 2) := by decide +kernel
theorem dX2_isTreaty_41 : decode cX2_isTreaty 41 = .ok (.iload 7, 2) := by decide +kernel
theorem dX2_isTreaty_43 : decode cX2_isTreaty 43 = .ok (.if_icmp .ge 37, 3) := by decide +kernel
theorem dX2_isTreaty_46 : decode cX2_isTreaty 46 = .ok (.aload 6, 2) := by decide +kernel
theorem dX2_isTreaty_48 : decode cX2_isTreaty 48 = .ok (.iload 8, 2) := by decide +kernel
theorem dX2_isTreaty_50 : decode cX2_isTreaty 50 = .ok (.aaload, 1) := by decide +kernel
theorem dX2_isTreaty_51 : decode cX2_isTreaty 51 = .ok (.astore 9, 2) := by decide +kernel
theorem dX2_isTreaty_53 : decode cX2_isTreaty 53 = .ok (.iload_n 1, 1) := by decide +kernel
theorem dX2_isTreaty_54 : decode cX2_isTreaty 54 = .ok (.ifCond .ne 14, 3) := by decide +kernel
theorem dX2_isTreaty_57 : decode cX2_isTreaty 57 = .ok (.aload 5, 2) := by decide +kernel
theorem dX2_isTreaty_59 : decode cX2_isTreaty 59 = .ok (.iconst 0, 1) := by decide +kernel
theorem dX2_isTreaty_60 : decode cX2_isTreaty 60 = .ok (.iaload, 1) := by decide +kernel
theorem dX2_isTreaty_61 : decode cX2_isTreaty 61 = .ok (.aload 9, 2) := by decide +kernel
theorem dX2_isTreaty_63 : decode cX2_isTreaty 63 = .ok (.iconst 0, 1) := by decide +kernel
theorem dX2_isTreaty_64 : decode cX2_isTreaty 64 = .ok (.iaload, 1) := by decide +kernel
theorem dX2_isTreaty_65 : decode cX2_isTreaty 65 = .ok (.if_icmp .eq 7, 3) := by decide +kernel
theorem dX2_isTreaty_68 : decode cX2_isTreaty 68 = .ok (.iconst 1, 1) := by decide +kernel
theorem dX2_isTreaty_69 : decode cX2_isTreaty 69 = .ok (.goto 4, 3) := by decide +kernel
theorem dX2_isTreaty_72 : decode cX2_isTreaty 72 = .ok (.iconst 0, 1) := by decide +kernel
theorem dX2_isTreaty_73 : decode cX2_isTreaty 73 = .ok (.istore_n 1, 1) := by decide +kernel
theorem dX2_isTreaty_74 : decode cX2_isTreaty 74 = .ok (.iinc 8 1, 3) := by decide +kernel
theorem dX2_isTreaty_77 : decode cX2_isTreaty 77 = .ok (.goto (-38), 3) := by decide +kernel
theorem dX2_isTreaty_80 : decode cX2_isTreaty 80 = .ok (.iinc 4 1, 3) := by decide +kernel
theorem dX2_isTreaty_83 : decode cX2_isTreaty 83 = .ok (.goto (-70), 3) := by decide +kernel
theorem dX2_isTreaty_86 : decode cX2_isTreaty 86 = .ok (.iload_n 1, 1) := by decide +kernel
theorem dX2_isTreaty_87 : decode cX2_isTreaty 87 = .ok (.ifCond .eq 15, 3) := by decide +kernel
theorem dX2_isTreaty_90 : decode cX2_isTreaty 90 = .ok (.aload_n 0, 1) := by decide +kernel
theorem dX2_isTreaty_91 : decode cX2_isTreaty 91 = .ok (.invokevirtual 50, 3) := by decide +kernel
theorem dX2_isTreaty_94 : decode cX2_isTreaty 94 = .ok (.iconst 3, 1) := by decide +kernel
theorem dX2_isTreaty_95 : decode cX2_isTreaty 95 = .ok (.if_icmp .ge 7, 3) := by decide +kernel
theorem dX2_isTreaty_98 : decode cX2_isTreaty 98 = .ok (.iconst 1, 1) := by decide +kernel
theorem dX2_isTreaty_99 : decode cX2_isTreaty 99 = .ok (.goto 4, 3) := by decide +kernel
theorem dX2_isTreaty_102 : decode cX2_isTreaty 102 = .ok (.iconst 0, 1) := by decide +kernel
theorem dX2_isTreaty_103 : decode cX2_isTreaty 103 = .ok (.ireturn, 1) := by decide +kernel
theorem dX2_discontent_0 : decode cX2_discontent 0 = .ok (.iconst 0, 1) := by decide +kernel
theorem dX2_discontent_1 : decode cX2_discontent 1 = .ok (.istore_n 2, 1) := by decide +kernel
theorem dX2_discontent_2 : decode cX2_discontent 2 = .ok (.aload_n 0, 1) := by decide +kernel
theorem dX2_discontent_3 : decode cX2_discontent 3 = .ok (.getfield 15, 3) := by decide +kernel
theorem dX2_discontent_6 : decode cX2_discontent 6 = .ok (.astore_n 3, 1) := by decide +kernel
theorem dX2_discontent_7 : decode cX2_discontent 7 = .ok (.aload_n 3, 1) := by decide +kernel
theorem dX2_discontent_8 : decode cX2_discontent 8 = .ok (.arraylength, 1) := by decide +kernel
theorem dX2_discontent_9 : decode cX2_discontent 9 = .ok (.istore 4, 2) := by decide +kernel
theorem dX2_discontent_11 : decode cX2_discontent 11 = .ok (.iconst 0, 1) := by decide +kernel
theorem dX2_discontent_12 : decode cX2_discontent 12 = .ok (.istore 5, 2) := by decide +kernel
theorem dX2_discontent_14 : decode cX2_discontent 14 = .ok (.iload 5, 2) := by decide +kernel
theorem dX2_discontent_16 : decode cX2_discontent 16 = .ok (.iload 4, 2) := by decide +kernel
theorem dX2_discontent_18 : decode cX2_discontent 18 = .ok (.if_icmp .ge 27, 3) := by decide +kernel
theorem dX2_discontent_21 : decode cX2_discontent 21 = .ok (.aload_n 3, 1) := by decide +kernel
theorem dX2_discontent_22 : decode cX2_discontent 22 = .ok (.iload 5, 2) := by decide +kernel
theorem dX2_discontent_24 : decode cX2_discontent 24 = .ok (.aaload, 1) := by decide +kernel
theorem dX2_discontent_25 : decode cX2_discontent 25 = .ok (.astore 6, 2) := by decide +kernel
theorem dX2_discontent_27 : decode cX2_discontent 27 = .ok (.iload_n 2, 1) := by decide +kernel
theorem dX2_discontent_28 : decode cX2_discontent 28 = .ok (.aload 6, 2) := by decide +kernel
theorem dX2_discontent_30 : decode cX2_discontent 30 = .ok (.iconst 1, 1) := by decide +kernel
theorem dX2_discontent_31 : decode cX2_discontent 31 = .ok (.iaload, 1) := by decide +kernel
theorem dX2_discontent_32 : decode cX2_discontent 32 = .ok (.iload_n 1, 1) := by decide +kernel
theorem dX2_discontent_33 : decode cX2_discontent 33 = .ok (.isub, 1) := by decide +kernel
theorem dX2_discontent_34 : decode cX2_discontent 34 = .ok (.invokestatic 19, 3) := by decide +kernel
theorem dX2_discontent_37 : decode cX2_discontent 37 = .ok (.iadd, 1) := by decide +kernel
theorem dX2_discontent_38 : decode cX2_discontent 38 = .ok (.istore_n 2, 1) := by decide +kernel
theorem dX2_discontent_39 : decode cX2_discontent 39 = .ok (.iinc 5 1, 3) := by decide +kernel
theorem dX2_discontent_42 : decode cX2_discontent 42 = .ok (.goto (-28), 3) := by decide +kernel
theorem dX2_discontent_45 : decode cX2_discontent 45 = .ok (.iload_n 2, 1) := by decide +kernel
theorem dX2_discontent_46 : decode cX2_discontent 46 = .ok (.ireturn, 1) := by decide +kernel
set_option maxRecDepth 20000 in
theorem ggX2_isSame_X1_delegates : GoodIn wsX2_isSame wsX1_delegates := goodIn_r _ [12, 13, 251, 252, 253, 254, 255, 256, 257, 258, 259, 260] (by decide +kernel) (by decide +kernel)
set_option maxRecDepth 20000 in
theorem gX2_isSame_X1_delegates : GoodIn wsX2_isSame (wsV RX2 53 RX1 yX1_delegates wsX1_delegates) := goodIn_app (goodIn_of _ (by decide +kernel)) ggX2_isSame_X1_delegates
set_option maxRecDepth 20000 in
theorem ggX2_isSame_X1_rounds : GoodIn wsX2_isSame wsX1_rounds := goodIn_r _ [17, 18, 251, 252, 253, 254, 255, 256, 257, 258, 259, 260] (by decide +kernel) (by decide +kernel)
set_option maxRecDepth 20000 in
theorem gX2_isSame_X1_rounds : GoodIn wsX2_isSame (wsV RX2 57 RX1 yX1_rounds wsX1_rounds) := goodIn_app (goodIn_of _ (by decide +kernel)) ggX2_isSame_X1_rounds
set_option maxRecDepth 20000 in
theorem ggX2_isSame_X1_strength : GoodIn wsX2_isSame wsX1_strength := goodIn_r _ [22, 23, 251, 252, 253, 254, 255, 256, 257, 258, 259, 260] (by decide +kernel) (by decide +kernel)
set_option maxRecDepth 20000 in
theorem gX2_isSame_X1_strength : GoodIn wsX2_isSame (wsV RX2 59 RX1 yX1_strength wsX1_strength) := goodIn_app (goodIn_of _ (by decide +kernel)) ggX2_isSame_X1_strength
set_option maxRecDepth 20000 in
theorem ggX2_isSame_X1_spread : GoodIn wsX2_isSame wsX1_spread := goodIn_r _ [27, 28, 29, 30, 31, 11, 32, 13, 33, 34, 6, 35, 36, 37, 38, 251, 252, 253, 254, 255, 256, 257, 258, 259, 260] (by decide +kernel) (by decide +kernel)
set_option maxRecDepth 20000 in
theorem gX2_isSame_X1_spread : GoodIn wsX2_isSame (wsV RX2 61 RX1 yX1_spread wsX1_spread) := goodIn_app (goodIn_of _ (by decide +kernel)) ggX2_isSame_X1_spread
set_option maxRecDepth 20000 in
theorem ggX2_isSame_X2_spread : GoodIn wsX2_isSame wsX2_spread := goodIn_r _ [43, 1, 44, 37, 6, 38, 248, 249, 250] (by decide +kernel) (by decide +kernel)
set_option maxRecDepth 20000 in
theorem gX2_isSame_X2_spread : GoodIn wsX2_isSame (wsV RX2 50 RX2 yX2_spread wsX2_spread) := goodIn_app (goodIn_of _ (by decide +kernel)) ggX2_isSame_X2_spread
set_option maxRecDepth 20000 in
theorem ggX2_isSame_X1_isTreaty : GoodIn wsX2_isSame wsX1_isTreaty := goodIn_r _ [48, 28, 49, 50, 51, 11, 52, 53, 54, 55, 56, 13, 57, 29, 30, 31, 32, 33, 34, 6, 35, 36, 37, 38, 251, 252, 253, 254, 255, 256, 257, 258, 259, 260] (by decide +kernel) (by decide +kernel)
set_option maxRecDepth 20000 in
theorem gX2_isSame_X1_isTreaty : GoodIn wsX2_isSame (wsV RX2 62 RX1 yX1_isTreaty wsX1_isTreaty) := goodIn_app (goodIn_of _ (by decide +kernel)) ggX2_isSame_X1_isTreaty
set_option maxRecDepth 20000 in
theorem ggX2_isSame_X2_isTreaty : GoodIn wsX2_isSame wsX2_isTreaty := goodIn_r _ [61, 1, 39, 40, 41, 42, 43, 44, 37, 6, 38, 248, 249, 250] (by decide +kernel) (by decide +kernel)
set_option maxRecDepth 20000 in
theorem gX2_isSame_X2_isTreaty : GoodIn wsX2_isSame (wsV RX2 66 RX2 yX2_isTreaty wsX2_isTreaty) := goodIn_app (goodIn_of _ (by decide +kernel)) ggX2_isSame_X2_isTreaty
set_option maxRecDepth 20000 in
theorem ggX2_isSame_X1_isStill : GoodIn wsX2_isSame wsX1_isStill := goodIn_r _ [65, 66, 67, 68, 69, 11, 70, 13, 28, 71, 72, 73, 74, 75, 76, 77, 78, 79, 80, 81, 82, 83, 84, 85, 86, 87, 88, 89, 90, 91, 92, 93, 94, 95, 96, 97, 98, 99, 100, 101, 102, 103, 104, 105, 106, 107, 108, 33, 34, 6, 35, 36, 37, 38, 109, 110, 111, 112, 23, 113, 114, 115, 116, 251, 252, 253, 254, 255, 256, 257, 258, 259, 260, 261, 262] (by decide +kernel) (by decide +kernel)
set_option maxRecDepth 20000 in
theorem gX2_isSame_X1_isStill : GoodIn wsX2_isSame (wsV RX2 67 RX1 yX1_isStill wsX1_isStill) := goodIn_app (goodIn_of _ (by decide +kernel)) ggX2_isSame_X1_isStill
set_option maxRecDepth 20000 in
theorem ggX2_isSame_X2_copy : GoodIn wsX2_isSame wsX2_copy := goodIn_r _ [120, 121, 122, 42, 2, 3, 1, 123, 124, 125, 126, 127, 128, 129, 130, 131, 132, 133, 134, 248, 249, 250] (by decide +kernel) (by decide +kernel)
set_option maxRecDepth 20000 in
theorem gX2_isSame_X2_copy : GoodIn wsX2_isSame (wsV RX2 70 RX2 yX2_copy wsX2_copy) := goodIn_app (goodIn_of _ (by decide +kernel)) ggX2_isSame_X2_copy
set_option maxRecDepth 20000 in
theorem ggX2_isSame_X2_pass : GoodIn wsX2_isSame wsX2_pass := goodIn_r _ [138, 1, 3, 2, 139, 140, 141, 42, 142, 143, 144, 145, 146, 147, 4, 5, 6, 7, 148, 149, 150, 151, 248, 249, 250] (by decide +kernel) (by decide +kernel)
set_option maxRecDepth 20000 in
theorem gX2_isSame_X2_pass : GoodIn wsX2_isSame (wsV RX2 38 RX2 yX2_pass wsX2_pass) := goodIn_app (goodIn_of _ (by decide +kernel)) ggX2_isSame_X2_pass
set_option maxRecDepth 20000 in
theorem ggX2_isSame_X2_median : GoodIn wsX2_isSame wsX2_median := goodIn_r _ [142, 143, 1, 248, 249, 250] (by decide +kernel) (by decide +kernel)
set_option maxRecDepth 20000 in
theorem gX2_isSame_X2_median : GoodIn wsX2_isSame (wsV RX2 25 RX2 yX2_median wsX2_median) := goodIn_app (goodIn_of _ (by decide +kernel)) ggX2_isSame_X2_median
set_option maxRecDepth 20000 in
theorem ggX2_isSame_X1_villageOf : GoodIn wsX2_isSame wsX1_villageOf := goodIn_ca (goodIn_r _ [155, 57, 156, 157, 158, 11, 159, 160, 161, 13, 251, 252, 253, 254, 255, 256, 257, 258, 259, 260] (by decide +kernel) (by decide +kernel)) (goodIn_sub (fun _ h => List.mem_cons_of_mem _ (List.mem_append_left _ (List.mem_append_right _ h))) (by decide +kernel))
set_option maxRecDepth 20000 in
theorem gX2_isSame_X1_villageOf : GoodIn wsX2_isSame (wsV RX2 74 RX1 yX1_villageOf wsX1_villageOf) := goodIn_app (goodIn_of _ (by decide +kernel)) ggX2_isSame_X1_villageOf
set_option maxRecDepth 20000 in
theorem ggX2_isSame_X1_wishOf : GoodIn wsX2_isSame wsX1_wishOf := goodIn_ca (goodIn_r _ [165, 104, 156, 157, 158, 11, 159, 160, 161, 13, 251, 252, 253, 254, 255, 256, 257, 258, 259, 260] (by decide +kernel) (by decide +kernel)) (goodIn_sub (fun _ h => List.mem_cons_of_mem _ (List.mem_append_left _ (List.mem_append_right _ h))) (by decide +kernel))
set_option maxRecDepth 20000 in
theorem gX2_isSame_X1_wishOf : GoodIn wsX2_isSame (wsV RX2 77 RX1 yX1_wishOf wsX1_wishOf) := goodIn_app (goodIn_of _ (by decide +kernel)) ggX2_isSame_X1_wishOf
set_option maxRecDepth 20000 in
theorem ggX2_isSame_X1_reachOf : GoodIn wsX2_isSame wsX1_reachOf := goodIn_ca (goodIn_r _ [169, 105, 156, 157, 158, 11, 159, 160, 161, 13, 251, 252, 253, 254, 255, 256, 257, 258, 259, 260] (by decide +kernel) (by decide +kernel)) (goodIn_sub (fun _ h => List.mem_cons_of_mem _ (List.mem_append_left _ (List.mem_append_right _ h))) (by decide +kernel))
set_option maxRecDepth 20000 in
theorem gX2_isSame_X1_reachOf : GoodIn wsX2_isSame (wsV RX2 80 RX1 yX1_reachOf wsX1_reachOf) := goodIn_app (goodIn_of _ (by decide +kernel)) ggX2_isSame_X1_reachOf
set_option maxRecDepth 20000 in
theorem ggX2_isSame_X1_paceOf : GoodIn wsX2_isSame wsX1_paceOf := goodIn_ca (goodIn_r _ [173, 99, 156, 157, 158, 11, 159, 160, 161, 13, 251, 252, 253, 254, 255, 256, 257, 258, 259, 260] (by decide +kernel) (by decide +kernel)) (goodIn_sub (fun _ h => List.mem_cons_of_mem _ (List.mem_append_left _ (List.mem_append_right _ h))) (by decide +kernel))
set_option maxRecDepth 20000 in
theorem gX2_isSame_X1_paceOf : GoodIn wsX2_isSame (wsV RX2 83 RX1 yX1_paceOf wsX1_paceOf) := goodIn_app (goodIn_of _ (by decide +kernel)) ggX2_isSame_X1_paceOf
set_option maxRecDepth 20000 in
theorem ggX2_isSame_X1_plankOf : GoodIn wsX2_isSame wsX1_plankOf := goodIn_ca (goodIn_r _ [177, 28, 156, 157, 158, 11, 159, 160, 161, 13, 251, 252, 253, 254, 255, 256, 257, 258, 259, 260] (by decide +kernel) (by decide +kernel)) (goodIn_sub (fun _ h => List.mem_cons_of_mem _ (List.mem_append_left _ (List.mem_append_right _ h))) (by decide +kernel))
set_option maxRecDepth 20000 in
theorem gX2_isSame_X1_plankOf : GoodIn wsX2_isSame (wsV RX2 86 RX1 yX1_plankOf wsX1_plankOf) := goodIn_app (goodIn_of _ (by decide +kernel)) ggX2_isSame_X1_plankOf
set_option maxRecDepth 20000 in
theorem ggX2_isSame_X1_wouldStepTo : GoodIn wsX2_isSame wsX1_wouldStepTo := goodIn_ca (goodIn_r _ [181, 28, 156, 157, 158, 11, 159, 160, 161, 13, 75, 76, 77, 78, 79, 80, 81, 82, 83, 84, 85, 86, 87, 88, 89, 90, 91, 92, 93, 94, 95, 96, 97, 98, 99, 100, 101, 102, 103, 104, 105, 106, 107, 108, 33, 34, 6, 35, 36, 37, 38, 251, 252, 253, 254, 255, 256, 257, 258, 259, 260, 261, 262] (by decide +kernel) (by decide +kernel)) (goodIn_sub (fun _ h => List.mem_cons_of_mem _ (List.mem_append_left _ (List.mem_append_right _ h))) (by decide +kernel))
set_option maxRecDepth 20000 in
theorem gX2_isSame_X1_wouldStepTo : GoodIn wsX2_isSame (wsV RX2 89 RX1 yX1_wouldStepTo wsX1_wouldStepTo) := goodIn_app (goodIn_of _ (by decide +kernel)) ggX2_isSame_X1_wouldStepTo
set_option maxRecDepth 20000 in
theorem ggX2_isSame_X2_step : GoodIn wsX2_isSame wsX2_step := goodIn_r _ [147, 1, 4, 5, 6, 7, 248, 249, 250] (by decide +kernel) (by decide +kernel)
set_option maxRecDepth 20000 in
theorem gX2_isSame_X2_step : GoodIn wsX2_isSame (wsV RX2 29 RX2 yX2_step wsX2_step) := goodIn_app (goodIn_of _ (by decide +kernel)) ggX2_isSame_X2_step
set_option maxRecDepth 20000 in
theorem ggX2_isSame_X1_discontentOf : GoodIn wsX2_isSame wsX1_discontentOf := goodIn_ca (goodIn_r _ [185, 28, 156, 157, 158, 11, 159, 160, 161, 13, 75, 76, 77, 78, 79, 80, 81, 82, 83, 84, 85, 86, 87, 88, 89, 90, 91, 92, 93, 94, 186, 187, 188, 189, 104, 190, 5, 6, 7, 251, 252, 253, 254, 255, 256, 257, 258, 259, 260, 261, 262] (by decide +kernel) (by decide +kernel)) (goodIn_sub (fun _ h => List.mem_cons_of_mem _ (List.mem_append_left _ (List.mem_append_right _ h))) (by decide +kernel))
set_option maxRecDepth 20000 in
theorem gX2_isSame_X1_discontentOf : GoodIn wsX2_isSame (wsV RX2 92 RX1 yX1_discontentOf wsX1_discontentOf) := goodIn_app (goodIn_of _ (by decide +kernel)) ggX2_isSame_X1_discontentOf
set_option maxRecDepth 20000 in
theorem ggX2_isSame_X1_compromiseWithout : GoodIn wsX2_isSame wsX1_compromiseWithout := goodIn_ca (goodIn_ca (goodIn_r _ [194, 195, 196, 79, 156, 157, 158, 11, 159, 160, 161, 13, 197, 198, 199, 200, 28, 80, 81, 82, 83, 84, 85, 86, 87, 88, 89, 90, 201, 202, 203, 204, 91, 92, 93, 94, 251, 252, 253, 254, 255, 256, 257, 258, 259, 260, 261, 262] (by decide +kernel) (by decide +kernel)) (goodIn_sub (fun _ h => List.mem_cons_of_mem _ (List.mem_append_right _ h)) (by decide +kernel))) (goodIn_sub (fun _ h => List.mem_cons_of_mem _ (List.mem_append_left _ (List.mem_append_right _ h))) (by decide +kernel))
set_option maxRecDepth 20000 in
theorem gX2_isSame_X1_compromiseWithout : GoodIn wsX2_isSame (wsV RX2 95 RX1 yX1_compromiseWithout wsX1_compromiseWithout) := goodIn_app (goodIn_of _ (by decide +kernel)) ggX2_isSame_X1_compromiseWithout
set_option maxRecDepth 20000 in
theorem ggX2_isSame_X1_compromiseOf : GoodIn wsX2_isSame wsX1_compromiseOf := goodIn_ca (goodIn_ca (goodIn_r _ [208, 195, 196, 79, 209, 210, 11, 211, 160, 161, 212, 213, 214, 215, 13, 57, 28, 80, 81, 82, 83, 84, 85, 86, 87, 88, 89, 90, 201, 202, 203, 204, 91, 92, 93, 94, 251, 252, 253, 254, 255, 256, 257, 258, 259, 260, 261, 262] (by decide +kernel) (by decide +kernel)) (goodIn_sub (fun _ h => List.mem_cons_of_mem _ (List.mem_append_right _ h)) (by decide +kernel))) (goodIn_sub (fun _ h => List.mem_cons_of_mem _ (List.mem_append_left _ (List.mem_append_right _ h))) (by decide +kernel))
set_option maxRecDepth 20000 in
theorem gX2_isSame_X1_compromiseOf : GoodIn wsX2_isSame (wsV RX2 98 RX1 yX1_compromiseOf wsX1_compromiseOf) := goodIn_app (goodIn_of _ (by decide +kernel)) ggX2_isSame_X1_compromiseOf
set_option maxRecDepth 20000 in
theorem ggX2_isSame_X1_allDiscontent : GoodIn wsX2_isSame wsX1_allDiscontent := goodIn_r _ [219, 28, 75, 76, 77, 11, 78, 79, 13, 80, 81, 82, 83, 84, 85, 86, 87, 88, 89, 90, 91, 92, 93, 94, 220, 221, 222, 223, 186, 187, 188, 189, 104, 190, 5, 6, 7, 251, 252, 253, 254, 255, 256, 257, 258, 259, 260, 261, 262] (by decide +kernel) (by decide +kernel)
set_option maxRecDepth 20000 in
theorem gX2_isSame_X1_allDiscontent : GoodIn wsX2_isSame (wsV RX2 101 RX1 yX1_allDiscontent wsX1_allDiscontent) := goodIn_app (goodIn_of _ (by decide +kernel)) ggX2_isSame_X1_allDiscontent
set_option maxRecDepth 20000 in
theorem ggX2_isSame_X2_discontent : GoodIn wsX2_isSame wsX2_discontent := goodIn_r _ [227, 1, 4, 5, 6, 7, 248, 249, 250] (by decide +kernel) (by decide +kernel)
set_option maxRecDepth 20000 in
theorem gX2_isSame_X2_discontent : GoodIn wsX2_isSame (wsV RX2 104 RX2 yX2_discontent wsX2_discontent) := goodIn_app (goodIn_of _ (by decide +kernel)) ggX2_isSame_X2_discontent
set_option maxRecDepth 20000 in
theorem ggX2_isSame_X1_meanPlank : GoodIn wsX2_isSame wsX1_meanPlank := goodIn_r _ [231, 13, 28, 251, 252, 253, 254, 255, 256, 257, 258, 259, 260] (by decide +kernel) (by decide +kernel)
set_option maxRecDepth 20000 in
theorem gX2_isSame_X1_meanPlank : GoodIn wsX2_isSame (wsV RX2 107 RX1 yX1_meanPlank wsX1_meanPlank) := goodIn_app (goodIn_of _ (by decide +kernel)) ggX2_isSame_X1_meanPlank
set_option maxRecDepth 20000 in
theorem ggX2_isSame_X1_compromise : GoodIn wsX2_isSame wsX1_compromise := goodIn_ca (goodIn_r _ [235, 28, 236, 237, 238, 11, 239, 195, 196, 13, 75, 76, 77, 78, 79, 80, 81, 82, 83, 84, 85, 86, 87, 88, 89, 90, 91, 92, 93, 94, 251, 252, 253, 254, 255, 256, 257, 258, 259, 260, 261, 262] (by decide +kernel) (by decide +kernel)) (goodIn_sub (fun _ h => List.mem_cons_of_mem _ (List.mem_append_right _ h)) (by decide +kernel))
set_option maxRecDepth 20000 in
theorem gX2_isSame_X1_compromise : GoodIn wsX2_isSame (wsV RX2 111 RX1 yX1_compromise wsX1_compromise) := goodIn_app (goodIn_of _ (by decide +kernel)) ggX2_isSame_X1_compromise
set_option maxRecDepth 20000 in
theorem ggX2_isSame_X1_decisiveOne : GoodIn wsX2_isSame wsX1_decisiveOne := goodIn_ca (goodIn_r _ [243, 28, 13, 236, 237, 238, 11, 239, 195, 196, 75, 76, 77, 78, 79, 80, 81, 82, 83, 84, 85, 86, 87, 88, 89, 90, 91, 92, 93, 94, 251, 252, 253, 254, 255, 256, 257, 258, 259, 260, 261, 262] (by decide +kernel) (by decide +kernel)) (goodIn_sub (fun _ h => List.mem_cons_of_mem _ (List.mem_append_right _ h)) (by decide +kernel))
set_option maxRecDepth 20000 in
theorem gX2_isSame_X1_decisiveOne : GoodIn wsX2_isSame (wsV RX2 114 RX1 yX1_decisiveOne wsX1_decisiveOne) := goodIn_app (goodIn_of _ (by decide +kernel)) ggX2_isSame_X1_decisiveOne
set_option maxRecDepth 20000 in
theorem ggX2_isSame_X1_bestPlank : GoodIn wsX2_isSame wsX1_bestPlank := goodIn_ca (goodIn_r _ [247, 236, 237, 238, 11, 239, 195, 196, 13, 220, 221, 222, 223, 186, 187, 188, 189, 104, 190, 5, 6, 7, 251, 252, 253, 254, 255, 256, 257, 258, 259, 260] (by decide +kernel) (by decide +kernel)) (goodIn_sub (fun _ h => List.mem_cons_of_mem _ (List.mem_append_right _ h)) (by decide +kernel))
set_option maxRecDepth 20000 in
theorem gX2_isSame_X1_bestPlank : GoodIn wsX2_isSame (wsV RX2 117 RX1 yX1_bestPlank wsX1_bestPlank) := goodIn_app (goodIn_of _ (by decide +kernel)) ggX2_isSame_X1_bestPlank
theorem dX2_isSame_0 : decode cX2_isSame 0 = .ok (.aload_n 0, 1) := by decide +kernel
theorem dX2_isSame_1 : decode cX2_isSame 1 = .ok (.getfield 15, 3) := by decide +kernel
theorem dX2_isSame_4 : decode cX2_isSame 4 = .ok (.arraylength, 1) := by decide +kernel
theorem dX2_isSame_5 : decode cX2_isSame 5 = .ok (.istore_n 2, 1) := by decide +kernel
theorem dX2_isSame_6 : decode cX2_isSame 6 = .ok (.aload_n 1, 1) := by decide +kernel
theorem dX2_isSame_7 : decode cX2_isSame 7 = .ok (.invokevirtual 53, 3) := by decide +kernel
theorem dX2_isSame_10 : decode cX2_isSame 10 = .ok (.iload_n 2, 1) := by decide +kernel
theorem dX2_isSame_11 : decode cX2_isSame 11 = .ok (.if_icmp .ne 69, 3) := by decide +kernel
theorem dX2_isSame_14 : decode cX2_isSame 14 = .ok (.aload_n 1, 1) := by decide +kernel
theorem dX2_isSame_15 : decode cX2_isSame 15 = .ok (.invokevirtual 57, 3) := by decide +kernel
theorem dX2_isSame_18 : decode cX2_isSame 18 = .ok (.aload_n 0, 1) := by decide +kernel
theorem dX2_isSame_19 : decode cX2_isSame 19 = .ok (.getfield 35, 3) := by decide +kernel
theorem dX2_isSame_22 : decode cX2_isSame 22 = .ok (.if_icmp .ne 58, 3) := by decide +kernel
theorem dX2_isSame_25 : decode cX2_isSame 25 = .ok (.aload_n 1, 1) := by decide +kernel
theorem dX2_isSame_26 : decode cX2_isSame 26 = .ok (.invokevirtual 59, 3) := by decide +kernel
theorem dX2_isSame_29 : decode cX2_isSame 29 = .ok (.aload_n 0, 1) := by decide +kernel
theorem dX2_isSame_30 : decode cX2_isSame 30 = .ok (.getfield 7, 3) := by decide +kernel
theorem dX2_isSame_33 : decode cX2_isSame 33 = .ok (.if_icmp .ne 47, 3) := by decide +kernel
theorem dX2_isSame_36 : decode cX2_isSame 36 = .ok (.aload_n 1, 1) := by decide +kernel
theorem dX2_isSame_37 : decode cX2_isSame 37 = .ok (.invokevirtual 61, 3) := by decide +kernel
theorem dX2_isSame_40 : decode cX2_isSame 40 = .ok (.aload_n 0, 1) := by decide +kernel
theorem dX2_isSame_41 : decode cX2_isSame 41 = .ok (.invokevirtual 50, 3) := by decide +kernel
theorem dX2_isSame_44 : decode cX2_isSame 44 = .ok (.if_icmp .ne 36, 3) := by decide +kernel
theorem dX2_isSame_47 : decode cX2_isSame 47 = .ok (.aload_n 1, 1) := by decide +kernel
theorem dX2_isSame_48 : decode cX2_isSame 48 = .ok (.invokevirtual 62, 3) := by decide +kernel
theorem dX2_isSame_51 : decode cX2_isSame 51 = .ok (.aload_n 0, 1) := by decide +kernel
theorem dX2_isSame_52 : decode cX2_isSame 52 = .ok (.invokevirtual 66, 3) := by decide +kernel
theorem dX2_isSame_55 : decode cX2_isSame 55 = .ok (.if_icmp .ne 25, 3) := by decide +kernel
theorem dX2_isSame_58 : decode cX2_isSame 58 = .ok (.aload_n 1, 1) := by decide +kernel
theorem dX2_isSame_59 : decode cX2_isSame 59 = .ok (.invokevirtual 67, 3) := by decide +kernel
theorem dX2_isSame_62 : decode cX2_isSame 62 = .ok (.aload_n 0, 1) := by decide +kernel
theorem dX2_isSame_63 : decode cX2_isSame 63 = .ok (.invokevirtual 70, 3) := by decide +kernel
theorem dX2_isSame_66 : decode cX2_isSame 66 = .ok (.invokevirtual 38, 3) := by decide +kernel
theorem dX2_isSame_69 : decode cX2_isSame 69 = .ok (.ifCond .ne 7, 3) := by decide +kernel
theorem dX2_isSame_72 : decode cX2_isSame 72 = .ok (.iconst 1, 1) := by decide +kernel
theorem dX2_isSame_73 : decode cX2_isSame 73 = .ok (.goto 4, 3) := by decide +kernel
theorem dX2_isSame_76 : decode cX2_isSame 76 = .ok (.iconst 0, 1) := by decide +kernel
theorem dX2_isSame_77 : decode cX2_isSame 77 = .ok (.if_icmp .eq 5, 3) := by decide +kernel
theorem dX2_isSame_80 : decode cX2_isSame 80 = .ok (.iconst 0, 1) := by decide +kernel
theorem dX2_isSame_81 : decode cX2_isSame 81 = .ok (.ireturn, 1) := by decide +kernel
theorem dX2_isSame_82 : decode cX2_isSame 82 = .ok (.aload_n 0, 1) := by decide +kernel
theorem dX2_isSame_83 : decode cX2_isSame 83 = .ok (.iconst (-1), 1) := by decide +kernel
theorem dX2_isSame_84 : decode cX2_isSame 84 = .ok (.iconst (-1), 1) := by decide +kernel
theorem dX2_isSame_85 : decode cX2_isSame 85 = .ok (.invokevirtual 25, 3) := by decide +kernel
theorem dX2_isSame_88 : decode cX2_isSame 88 = .ok (.istore_n 3, 1) := by decide +kernel
theorem dX2_isSame_89 : decode cX2_isSame 89 = .ok (.iconst 0, 1) := by decide +kernel
theorem dX2_isSame_90 : decode cX2_isSame 90 = .ok (.istore 4, 2) := by decide +kernel
theorem dX2_isSame_92 : decode cX2_isSame 92 = .ok (.iconst 0, 1) := by decide +kernel
theorem dX2_isSame_93 : decode cX2_isSame 93 = .ok (.istore 5, 2) := by decide +kernel
theorem dX2_isSame_95 : decode cX2_isSame 95 = .ok (.iload 5, 2) := by decide +kernel
theorem dX2_isSame_97 : decode cX2_isSame 97 = .ok (.iload_n 2, 1) := by decide +kernel
theorem dX2_isSame_98 : decode cX2_isSame 98 = .ok (.if_icmp .ge 169, 3) := by decide +kernel
theorem dX2_isSame_101 : decode cX2_isSame 101 = .ok (.aload_n 0, 1) := by decide +kernel
theorem dX2_isSame_102 : decode cX2_isSame 102 = .ok (.getfield 15, 3) := by decide +kernel
theorem dX2_isSame_105 : decode cX2_isSame 105 = .ok (.iload 5, 2) := by decide +kernel
theorem dX2_isSame_107 : decode cX2_isSame 107 = .ok (.aaload, 1) := by decide +kernel
theorem dX2_isSame_108 : decode cX2_isSame 108 = .ok (.astore 6, 2) := by decide +kernel
theorem dX2_isSame_110 : decode cX2_isSame 110 = .ok (.aload_n 1, 1) := by decide +kernel
theorem dX2_isSame_111 : decode cX2_isSame 111 = .ok (.iload 5, 2) := by decide +kernel
theorem dX2_isSame_113 : decode cX2_isSame 113 = .ok (.invokevirtual 74, 3) := by decide +kernel
theorem dX2_isSame_116 : decode cX2_isSame 116 = .ok (.aload 6, 2) := by decide +kernel
theorem dX2_isSame_118 : decode cX2_isSame 118 = .ok (.iconst 0, 1) := by decide +kernel
theorem dX2_isSame_119 : decode cX2_isSame 119 = .ok (.iaload, 1) := by decide +kernel
theorem dX2_isSame_120 : decode cX2_isSame 120 = .ok (.if_icmp .ne 130, 3) := by decide +kernel
theorem dX2_isSame_123 : decode cX2_isSame 123 = .ok (.aload_n 1, 1) := by decide +kernel
theorem dX2_isSame_124 : decode cX2_isSame 124 = .ok (.iload 5, 2) := by decide +kernel
theorem dX2_isSame_126 : decode cX2_isSame 126 = .ok (.invokevirtual 77, 3) := by decide +kernel
theorem dX2_isSame_129 : decode cX2_isSame 129 = .ok (.aload 6, 2) := by decide +kernel
theorem dX2_isSame_131 : decode cX2_isSame 131 = .ok (.iconst 1, 1) := by decide +kernel
theorem dX2_isSame_132 : decode cX2_isSame 132 = .ok (.iaload, 1) := by decide +kernel
theorem dX2_isSame_133 : decode cX2_isSame 133 = .ok (.if_icmp .ne 117, 3) := by decide +kernel
theorem dX2_isSame_136 : decode cX2_isSame 136 = .ok (.aload_n 1, 1) := by decide +kernel
theorem dX2_isSame_137 : decode cX2_isSame 137 = .ok (.iload 5, 2) := by decide +kernel
theorem dX2_isSame_139 : decode cX2_isSame 139 = .ok (.invokevirtual 80, 3) := by decide +kernel
theorem dX2_isSame_142 : decode cX2_isSame 142 = .ok (.aload 6, 2) := by decide +kernel
theorem dX2_isSame_144 : decode cX2_isSame 144 = .ok (.iconst 2, 1) := by decide +kernel
theorem dX2_isSame_145 : decode cX2_isSame 145 = .ok (.iaload, 1) := by decide +kernel
theorem dX2_isSame_146 : decode cX2_isSame 146 = .ok (.if_icmp .ne 104, 3) := by decide +kernel
theorem dX2_isSame_149 : decode cX2_isSame 149 = .ok (.aload_n 1, 1) := by decide +kernel
theorem dX2_isSame_150 : decode cX2_isSame 150 = .ok (.iload 5, 2) := by decide +kernel
theorem dX2_isSame_152 : decode cX2_isSame 152 = .ok (.invokevirtual 83, 3) := by decide +kernel
theorem dX2_isSame_155 : decode cX2_isSame 155 = .ok (.aload 6, 2) := by decide +kernel
theorem dX2_isSame_157 : decode cX2_isSame 157 = .ok (.iconst 3, 1) := by decide +kernel
theorem dX2_isSame_158 : decode cX2_isSame 158 = .ok (.iaload, 1) := by decide +kernel
theorem dX2_isSame_159 : decode cX2_isSame 159 = .ok (.if_icmp .ne 91, 3) := by decide +kernel
theorem dX2_isSame_162 : decode cX2_isSame 162 = .ok (.aload_n 1, 1) := by decide +kernel
theorem dX2_isSame_163 : decode cX2_isSame 163 = .ok (.iload 5, 2) := by decide +kernel
theorem dX2_isSame_165 : decode cX2_isSame 165 = .ok (.invokevirtual 86, 3) := by decide +kernel
theorem dX2_isSame_168 : decode cX2_isSame 168 = .ok (.aload 6, 2) := by decide +kernel
theorem dX2_isSame_170 : decode cX2_isSame 170 = .ok (.iconst 4, 1) := by decide +kernel
theorem dX2_isSame_171 : decode cX2_isSame 171 = .ok (.iaload, 1) := by decide +kernel
theorem dX2_isSame_172 : decode cX2_isSame 172 = .ok (.if_icmp .ne 78, 3) := by decide +kernel
theorem dX2_isSame_175 : decode cX2_isSame 175 = .ok (.aload_n 1, 1) := by decide +kernel
theorem dX2_isSame_176 : decode cX2_isSame 176 = .ok (.iload 5, 2) := by decide +kernel
theorem dX2_isSame_178 : decode cX2_isSame 178 = .ok (.invokevirtual 89, 3) := by decide +kernel
theorem dX2_isSame_181 : decode cX2_isSame 181 = .ok (.aload_n 0, 1) := by decide +kernel
theorem dX2_isSame_182 : decode cX2_isSame 182 = .ok (.iload 5, 2) := by decide +kernel
theorem dX2_isSame_184 : decode cX2_isSame 184 = .ok (.iload_n 3, 1) := by decide +kernel
theorem dX2_isSame_185 : decode cX2_isSame 185 = .ok (.invokevirtual 29, 3) := by decide +kernel
theorem dX2_isSame_188 : decode cX2_isSame 188 = .ok (.if_icmp .ne 62, 3) := by decide +kernel
theorem dX2_isSame_191 : decode cX2_isSame 191 = .ok (.aload_n 1, 1) := by decide +kernel
theorem dX2_isSame_192 : decode cX2_isSame 192 = .ok (.iload 5, 2) := by decide +kernel
theorem dX2_isSame_194 : decode cX2_isSame 194 = .ok (.invokevirtual 92, 3) := by decide +kernel
theorem dX2_isSame_197 : decode cX2_isSame 197 = .ok (.aload 6, 2) := by decide +kernel
theorem dX2_isSame_199 : decode cX2_isSame 199 = .ok (.iconst 1, 1) := by decide +kernel
theorem dX2_isSame_200 : decode cX2_isSame 200 = .ok (.iaload, 1) := by decide +kernel
theorem dX2_isSame_201 : decode cX2_isSame 201 = .ok (.iload_n 3, 1) := by decide +kernel
theorem dX2_isSame_202 : decode cX2_isSame 202 = .ok (.isub, 1) := by decide +kernel
theorem dX2_isSame_203 : decode cX2_isSame 203 = .ok (.invokestatic 19, 3) := by decide +kernel
theorem dX2_isSame_206 : decode cX2_isSame 206 = .ok (.if_icmp .ne 44, 3) := by decide +kernel
theorem dX2_isSame_209 : decode cX2_isSame 209 = .ok (.iload_n 2, 1) := by decide +kernel
theorem dX2_isSame_210 : decode cX2_isSame 210 = .ok (.iconst 1, 1) := by decide +kernel
theorem dX2_isSame_211 : decode cX2_isSame 211 = .ok (.if_icmp .le 19, 3) := by decide +kernel
theorem dX2_isSame_214 : decode cX2_isSame 214 = .ok (.aload_n 1, 1) := by decide +kernel
theorem dX2_isSame_215 : decode cX2_isSame 215 = .ok (.iload 5, 2) := by decide +kernel
theorem dX2_isSame_217 : decode cX2_isSame 217 = .ok (.invokevirtual 95, 3) := by decide +kernel
theorem dX2_isSame_220 : decode cX2_isSame 220 = .ok (.aload_n 0, 1) := by decide +kernel
theorem dX2_isSame_221 : decode cX2_isSame 221 = .ok (.iconst (-1), 1) := by decide +kernel
theorem dX2_isSame_222 : decode cX2_isSame 222 = .ok (.iload 5, 2) := by decide +kernel
theorem dX2_isSame_224 : decode cX2_isSame 224 = .ok (.invokevirtual 25, 3) := by decide +kernel
theorem dX2_isSame_227 : decode cX2_isSame 227 = .ok (.if_icmp .ne 23, 3) := by decide +kernel
theorem dX2_isSame_230 : decode cX2_isSame 230 = .ok (.aload_n 1, 1) := by decide +kernel
theorem dX2_isSame_231 : decode cX2_isSame 231 = .ok (.aload 6, 2) := by decide +kernel
theorem dX2_isSame_233 : decode cX2_isSame 233 = .ok (.iconst 0, 1) := by decide +kernel
theorem dX2_isSame_234 : decode cX2_isSame 234 = .ok (.iaload, 1) := by decide +kernel
theorem dX2_isSame_235 : decode cX2_isSame 235 = .ok (.invokevirtual 98, 3) := by decide +kernel
theorem dX2_isSame_238 : decode cX2_isSame 238 = .ok (.aload_n 0, 1) := by decide +kernel
theorem dX2_isSame_239 : decode cX2_isSame 239 = .ok (.aload 6, 2) := by decide +kernel
theorem dX2_isSame_241 : decode cX2_isSame 241 = .ok (.iconst 0, 1) := by decide +kernel
theorem dX2_isSame_242 : decode cX2_isSame 242 = .ok (.iaload, 1) := by decide +kernel
theorem dX2_isSame_243 : decode cX2_isSame 243 = .ok (.iconst (-1), 1) := by decide +kernel
theorem dX2_isSame_244 : decode cX2_isSame 244 = .ok (.invokevirtual 25, 3) := by decide +kernel
theorem dX2_isSame_247 : decode cX2_isSame 247 = .ok (.if_icmp .eq 5, 3) := by decide +kernel
theorem dX2_isSame_250 : decode cX2_isSame 250 = .ok (.iconst 0, 1) := by decide +kernel
theorem dX2_isSame_251 : decode cX2_isSame 251 = .ok (.ireturn, 1) := by decide +kernel
theorem dX2_isSame_252 : decode cX2_isSame 252 = .ok (.iload 4, 2) := by decide +kernel
theorem dX2_isSame_254 : decode cX2_isSame 254 = .ok (.aload 6, 2) := by decide +kernel
theorem dX2_isSame_256 : decode cX2_isSame 256 = .ok (.iconst 4, 1) := by decide +kernel
theorem dX2_isSame_257 : decode cX2_isSame 257 = .ok (.iaload, 1) := by decide +kernel
theorem dX2_isSame_258 : decode cX2_isSame 258 = .ok (.iadd, 1) := by decide +kernel
theorem dX2_isSame_259 : decode cX2_isSame 259 = .ok (.istore 4, 2) := by decide +kernel
theorem dX2_isSame_261 : decode cX2_isSame 261 = .ok (.iinc 5 1, 3) := by decide +kernel
theorem dX2_isSame_264 : decode cX2_isSame 264 = .ok (.goto (-169), 3) := by decide +kernel
theorem dX2_isSame_267 : decode cX2_isSame 267 = .ok (.aload_n 1, 1) := by decide +kernel
theorem dX2_isSame_268 : decode cX2_isSame 268 = .ok (.invokevirtual 101, 3) := by decide +kernel
theorem dX2_isSame_271 : decode cX2_isSame 271 = .ok (.iload_n 2, 1) := by decide +kernel
theorem dX2_isSame_272 : decode cX2_isSame 272 = .ok (.ifCond .ne 7, 3) := by decide +kernel
theorem dX2_isSame_275 : decode cX2_isSame 275 = .ok (.iconst 0, 1) := by decide +kernel
theorem dX2_isSame_276 : decode cX2_isSame 276 = .ok (.goto 8, 3) := by decide +kernel
theorem dX2_isSame_279 : decode cX2_isSame 279 = .ok (.aload_n 0, 1) := by decide +kernel
theorem dX2_isSame_280 : decode cX2_isSame 280 = .ok (.iload_n 3, 1) := by decide +kernel
theorem dX2_isSame_281 : decode cX2_isSame 281 = .ok (.invokevirtual 104, 3) := by decide +kernel
theorem dX2_isSame_284 : decode cX2_isSame 284 = .ok (.if_icmp .ne 25, 3) := by decide +kernel
theorem dX2_isSame_287 : decode cX2_isSame 287 = .ok (.aload_n 1, 1) := by decide +kernel
theorem dX2_isSame_288 : decode cX2_isSame 288 = .ok (.invokevirtual 107, 3) := by decide +kernel
theorem dX2_isSame_291 : decode cX2_isSame 291 = .ok (.iload_n 2, 1) := by decide +kernel
theorem dX2_isSame_292 : decode cX2_isSame 292 = .ok (.ifCond .ne 7, 3) := by decide +kernel
theorem dX2_isSame_295 : decode cX2_isSame 295 = .ok (.dconst 0, 1) := by decide +kernel
theorem dX2_isSame_296 : decode cX2_isSame 296 = .ok (.goto 9, 3) := by decide +kernel
theorem dX2_isSame_299 : decode cX2_isSame 299 = .ok (.iload 4, 2) := by decide +kernel
theorem dX2_isSame_301 : decode cX2_isSame 301 = .ok (.i2d, 1) := by decide +kernel
theorem dX2_isSame_302 : decode cX2_isSame 302 = .ok (.iload_n 2, 1) := by decide +kernel
theorem dX2_isSame_303 : decode cX2_isSame 303 = .ok (.i2d, 1) := by decide +kernel
theorem dX2_isSame_304 : decode cX2_isSame 304 = .ok (.ddiv, 1) := by decide +kernel
theorem dX2_isSame_305 : decode cX2_isSame 305 = .ok (.dcmp .l, 1) := by decide +kernel
theorem dX2_isSame_306 : decode cX2_isSame 306 = .ok (.ifCond .eq 5, 3) := by decide +kernel
theorem dX2_isSame_309 : decode cX2_isSame 309 = .ok (.iconst 0, 1) := by decide +kernel
theorem dX2_isSame_310 : decode cX2_isSame 310 = .ok (.ireturn, 1) := by decide +kernel
theorem dX2_isSame_311 : decode cX2_isSame 311 = .ok (.iload_n 2, 1) := by decide +kernel
theorem dX2_isSame_312 : decode cX2_isSame 312 = .ok (.ifCond .ne 5, 3) := by decide +kernel
theorem dX2_isSame_315 : decode cX2_isSame 315 = .ok (.iconst 1, 1) := by decide +kernel
theorem dX2_isSame_316 : decode cX2_isSame 316 = .ok (.ireturn, 1) := by decide +kernel
theorem dX2_isSame_317 : decode cX2_isSame 317 = .ok (.bipush 40, 2) := by decide +kernel
theorem dX2_isSame_319 : decode cX2_isSame 319 = .ok (.istore 5, 2) := by decide +kernel
theorem dX2_isSame_321 : decode cX2_isSame 321 = .ok (.bipush 40, 2) := by decide +kernel
theorem dX2_isSame_323 : decode cX2_isSame 323 = .ok (.istore 6, 2) := by decide +kernel
theorem dX2_isSame_325 : decode cX2_isSame 325 = .ok (.iload 6, 2) := by decide +kernel
theorem dX2_isSame_327 : decode cX2_isSame 327 = .ok (.ifCond .lt 28, 3) := by decide +kernel
theorem dX2_isSame_330 : decode cX2_isSame 330 = .ok (.aload_n 0, 1) := by decide +kernel
theorem dX2_isSame_331 : decode cX2_isSame 331 = .ok (.iload 6, 2) := by decide +kernel
theorem dX2_isSame_333 : decode cX2_isSame 333 = .ok (.invokevirtual 104, 3) := by decide +kernel
theorem dX2_isSame_336 : decode cX2_isSame 336 = .ok (.aload_n 0, 1) := by decide +kernel
theorem dX2_isSame_337 : decode cX2_isSame 337 = .ok (.iload 5, 2) := by decide +kernel
theorem dX2_isSame_339 : decode cX2_isSame 339 = .ok (.invokevirtual 104, 3) := by decide +kernel
theorem dX2_isSame_342 : decode cX2_isSame 342 = .ok (.if_icmp .gt 7, 3) := by decide +kernel
theorem dX2_isSame_345 : decode cX2_isSame 345 = .ok (.iload 6, 2) := by decide +kernel
theorem dX2_isSame_347 : decode cX2_isSame 347 = .ok (.istore 5, 2) := by decide +kernel
theorem dX2_isSame_349 : decode cX2_isSame 349 = .ok (.iinc 6 (-1), 3) := by decide +kernel
theorem dX2_isSame_352 : decode cX2_isSame 352 = .ok (.goto (-27), 3) := by decide +kernel
theorem dX2_isSame_355 : decode cX2_isSame 355 = .ok (.iconst 0, 1) := by decide +kernel
theorem dX2_isSame_356 : decode cX2_isSame 356 = .ok (.istore 6, 2) := by decide +kernel
theorem dX2_isSame_358 : decode cX2_isSame 358 = .ok (.aload_n 0, 1) := by decide +kernel
theorem dX2_isSame_359 : decode cX2_isSame 359 = .ok (.getfield 15, 3) := by decide +kernel
theorem dX2_isSame_362 : decode cX2_isSame 362 = .ok (.iload 6, 2) := by decide +kernel
theorem dX2_isSame_364 : decode cX2_isSame 364 = .ok (.aaload, 1) := by decide +kernel
theorem dX2_isSame_365 : decode cX2_isSame 365 = .ok (.iconst 4, 1) := by decide +kernel
theorem dX2_isSame_366 : decode cX2_isSame 366 = .ok (.iaload, 1) := by decide +kernel
theorem dX2_isSame_367 : decode cX2_isSame 367 = .ok (.iload_n 3, 1) := by decide +kernel
theorem dX2_isSame_368 : decode cX2_isSame 368 = .ok (.if_icmp .eq 9, 3) := by decide +kernel
theorem dX2_isSame_371 : decode cX2_isSame 371 = .ok (.iinc 6 1, 3) := by decide +kernel
theorem dX2_isSame_374 : decode cX2_isSame 374 = .ok (.goto (-16), 3) := by decide +kernel
theorem dX2_isSame_377 : decode cX2_isSame 377 = .ok (.aload_n 1, 1) := by decide +kernel
theorem dX2_isSame_378 : decode cX2_isSame 378 = .ok (.invokevirtual 111, 3) := by decide +kernel
theorem dX2_isSame_381 : decode cX2_isSame 381 = .ok (.iload_n 3, 1) := by decide +kernel
theorem dX2_isSame_382 : decode cX2_isSame 382 = .ok (.if_icmp .ne 25, 3) := by decide +kernel
theorem dX2_isSame_385 : decode cX2_isSame 385 = .ok (.aload_n 1, 1) := by decide +kernel
theorem dX2_isSame_386 : decode cX2_isSame 386 = .ok (.invokevirtual 114, 3) := by decide +kernel
theorem dX2_isSame_389 : decode cX2_isSame 389 = .ok (.iload 6, 2) := by decide +kernel
theorem dX2_isSame_391 : decode cX2_isSame 391 = .ok (.if_icmp .ne 16, 3) := by decide +kernel
theorem dX2_isSame_394 : decode cX2_isSame 394 = .ok (.aload_n 1, 1) := by decide +kernel
theorem dX2_isSame_395 : decode cX2_isSame 395 = .ok (.invokevirtual 117, 3) := by decide +kernel
theorem dX2_isSame_398 : decode cX2_isSame 398 = .ok (.iload 5, 2) := by decide +kernel
theorem dX2_isSame_400 : decode cX2_isSame 400 = .ok (.if_icmp .ne 7, 3) := by decide +kernel
theorem dX2_isSame_403 : decode cX2_isSame 403 = .ok (.iconst 1, 1) := by decide +kernel
theorem dX2_isSame_404 : decode cX2_isSame 404 = .ok (.goto 4, 3) := by decide +kernel
theorem dX2_isSame_407 : decode cX2_isSame 407 = .ok (.iconst 0, 1) := by decide +kernel
theorem dX2_isSame_408 : decode cX2_isSame 408 = .ok (.ireturn, 1) := by decide +kernel
theorem dJ9_abs_0f7a4_0 : decode cJ9_abs_0f7a4 0 = .ok (.iload_n 0, 1) := by decide +kernel
theorem dJ9_abs_0f7a4_1 : decode cJ9_abs_0f7a4 1 = .ok (.ifCond .ge 8, 3) := by decide +kernel
theorem dJ9_abs_0f7a4_4 : decode cJ9_abs_0f7a4 4 = .ok (.iload_n 0, 1) := by decide +kernel
theorem dJ9_abs_0f7a4_5 : decode cJ9_abs_0f7a4 5 = .ok (.ineg, 1) := by decide +kernel
theorem dJ9_abs_0f7a4_6 : decode cJ9_abs_0f7a4 6 = .ok (.goto 4, 3) := by decide +kernel
theorem dJ9_abs_0f7a4_9 : decode cJ9_abs_0f7a4 9 = .ok (.iload_n 0, 1) := by decide +kernel
theorem dJ9_abs_0f7a4_10 : decode cJ9_abs_0f7a4 10 = .ok (.ireturn, 1) := by decide +kernel
theorem dJ9_max_7cf53_0 : decode cJ9_max_7cf53 0 = .ok (.iload_n 0, 1) := by decide +kernel
theorem dJ9_max_7cf53_1 : decode cJ9_max_7cf53 1 = .ok (.iload_n 1, 1) := by decide +kernel
theorem dJ9_max_7cf53_2 : decode cJ9_max_7cf53 2 = .ok (.if_icmp .lt 7, 3) := by decide +kernel
theorem dJ9_max_7cf53_5 : decode cJ9_max_7cf53 5 = .ok (.iload_n 0, 1) := by decide +kernel
theorem dJ9_max_7cf53_6 : decode cJ9_max_7cf53 6 = .ok (.goto 4, 3) := by decide +kernel
theorem dJ9_max_7cf53_9 : decode cJ9_max_7cf53 9 = .ok (.iload_n 1, 1) := by decide +kernel
theorem dJ9_max_7cf53_10 : decode cJ9_max_7cf53 10 = .ok (.ireturn, 1) := by decide +kernel
theorem dJ9_min_7cf53_0 : decode cJ9_min_7cf53 0 = .ok (.iload_n 0, 1) := by decide +kernel
theorem dJ9_min_7cf53_1 : decode cJ9_min_7cf53 1 = .ok (.iload_n 1, 1) := by decide +kernel
theorem dJ9_min_7cf53_2 : decode cJ9_min_7cf53 2 = .ok (.if_icmp .gt 7, 3) := by decide +kernel
theorem dJ9_min_7cf53_5 : decode cJ9_min_7cf53 5 = .ok (.iload_n 0, 1) := by decide +kernel
theorem dJ9_min_7cf53_6 : decode cJ9_min_7cf53 6 = .ok (.goto 4, 3) := by decide +kernel
theorem dJ9_min_7cf53_9 : decode cJ9_min_7cf53 9 = .ok (.iload_n 1, 1) := by decide +kernel
theorem dJ9_min_7cf53_10 : decode cJ9_min_7cf53 10 = .ok (.ireturn, 1) := by decide +kernel
