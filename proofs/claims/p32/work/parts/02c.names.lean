theorem dX7_cancel_54 : decode cX7_cancel 54 = .ok (.aload_n 2, 1) := by decide +kernel
theorem dX7_cancel_55 : decode cX7_cancel 55 = .ok (.iconst 0, 1) := by decide +kernel
theorem dX7_cancel_56 : decode cX7_cancel 56 = .ok (.iload_n 3, 1) := by decide +kernel
theorem dX7_cancel_57 : decode cX7_cancel 57 = .ok (.aload_n 2, 1) := by decide +kernel
theorem dX7_cancel_58 : decode cX7_cancel 58 = .ok (.getfield 260, 3) := by decide +kernel
theorem dX7_cancel_61 : decode cX7_cancel 61 = .ok (.isub, 1) := by decide +kernel
theorem dX7_cancel_62 : decode cX7_cancel 62 = .ok (.invokestatic 263, 3) := by decide +kernel
theorem dX7_cancel_65 : decode cX7_cancel 65 = .ok (.invokevirtual 250, 3) := by decide +kernel
theorem dX7_cancel_68 : decode cX7_cancel 68 = .ok (.aload_n 2, 1) := by decide +kernel
theorem dX7_cancel_69 : decode cX7_cancel 69 = .ok (.iconst 3, 1) := by decide +kernel
theorem dX7_cancel_70 : decode cX7_cancel 70 = .ok (.putfield 233, 3) := by decide +kernel
theorem dX7_cancel_73 : decode cX7_cancel 73 = .ok (.iload_n 3, 1) := by decide +kernel
theorem dX7_cancel_74 : decode cX7_cancel 74 = .ok (.ireturn, 1) := by decide +kernel
set_option maxRecDepth 20000 in
theorem ggX7_ill_X7_checkPlayer : GoodIn wsX7_ill wsX7_checkPlayer := goodIn_ca (goodIn_r _ [10, 11, 12, 13, 147, 148, 149, 150, 151, 152, 153, 154, 155, 156, 157, 158, 159, 160, 161] (by decide +kernel) (by decide +kernel)) (goodIn_sub (fun _ h => List.mem_cons_of_mem _ (List.mem_append_left _ (List.mem_append_right _ h))) (by decide +kernel))
set_option maxRecDepth 20000 in
theorem gX7_ill_X7_checkPlayer : GoodIn wsX7_ill (wsV RX7 123 RX7 yX7_checkPlayer wsX7_checkPlayer) := goodIn_app (goodIn_of _ (by decide +kernel)) ggX7_ill_X7_checkPlayer
set_option maxRecDepth 20000 in
theorem ggX7_ill_X7_checkDayToCome : GoodIn wsX7_ill wsX7_checkDayToCome := goodIn_ca (goodIn_r _ [17, 18, 19, 20, 147, 148, 149, 150, 151, 152, 153, 154, 155, 156, 157, 158, 159, 160, 161] (by decide +kernel) (by decide +kernel)) (goodIn_sub (fun _ h => List.mem_cons_of_mem _ (List.mem_append_right _ h)) (by decide +kernel))
set_option maxRecDepth 20000 in
theorem gX7_ill_X7_checkDayToCome : GoodIn wsX7_ill (wsV RX7 268 RX7 yX7_checkDayToCome wsX7_checkDayToCome) := goodIn_app (goodIn_of _ (by decide +kernel)) ggX7_ill_X7_checkDayToCome
set_option maxRecDepth 20000 in
theorem ggX7_ill_X7_stageWithout : GoodIn wsX7_ill wsX7_stageWithout := goodIn_r _ [24, 2, 3, 4, 5, 25, 26, 27, 28, 29, 30, 9, 31, 32, 33, 34, 35, 36, 37, 38, 39, 40, 13, 41, 42, 43, 44, 1, 45, 46, 47, 48, 49, 50, 51, 52, 53, 54, 55, 56, 57, 58, 59, 60, 61, 62, 63, 64, 65, 66, 67, 68, 69, 70, 71, 72, 73, 74, 75, 76, 77, 78, 79, 80, 81, 82, 83, 84, 85, 86, 87, 88, 89, 90, 91, 92, 93, 94, 95, 96, 97, 98, 99, 100, 101, 102, 103, 104, 105, 106, 107, 108, 109, 110, 111, 112, 113, 114, 115, 116, 117, 118, 119, 120, 121, 122, 123, 124, 125, 126, 127, 128, 147, 148, 149, 150, 151, 152, 153, 154, 155, 156, 157, 158, 159, 160, 161, 162, 163, 164, 165, 166, 167, 168, 169, 170, 171, 172, 173, 174, 175, 176, 177, 178, 179, 180, 181, 182, 183, 184, 185, 186, 187, 188, 189, 190, 191, 192] (by decide +kernel) (by decide +kernel)
set_option maxRecDepth 20000 in
theorem gX7_ill_X7_stageWithout : GoodIn wsX7_ill (wsV RX7 271 RX7 yX7_stageWithout wsX7_stageWithout) := goodIn_app (goodIn_of _ (by decide +kernel)) ggX7_ill_X7_stageWithout
set_option maxRecDepth 20000 in
theorem ggX7_ill_X6_isFixedWith : GoodIn wsX7_ill wsX6_isFixedWith := goodIn_r _ [133, 134, 135, 35, 9, 36, 162, 163, 164, 165, 166, 167, 168, 169, 170, 171, 172, 173] (by decide +kernel) (by decide +kernel)
set_option maxRecDepth 20000 in
theorem gX7_ill_X6_isFixedWith : GoodIn wsX7_ill (wsV RX7 274 RX6 yX6_isFixedWith wsX6_isFixedWith) := goodIn_app (goodIn_of _ (by decide +kernel)) ggX7_ill_X6_isFixedWith
set_option maxRecDepth 20000 in
theorem ggX7_ill_X7_putOnStage : GoodIn wsX7_ill wsX7_putOnStage := goodIn_r _ [139, 33, 32, 140, 141, 142, 143, 9, 144, 145, 146, 162, 163, 164, 165, 166, 167, 168, 169, 170, 171, 172, 173, 147, 148, 149, 150, 151, 152, 153, 154, 155, 156, 157, 158, 159, 160, 161] (by decide +kernel) (by decide +kernel)
set_option maxRecDepth 20000 in
theorem gX7_ill_X7_putOnStage : GoodIn wsX7_ill (wsV RX7 277 RX7 yX7_putOnStage wsX7_putOnStage) := goodIn_app (goodIn_of _ (by decide +kernel)) ggX7_ill_X7_putOnStage
theorem dX7_ill_0 : decode cX7_ill 0 = .ok (.aload_n 0, 1) := by decide +kernel
theorem dX7_ill_1 : decode cX7_ill 1 = .ok (.iload_n 1, 1) := by decide +kernel
theorem dX7_ill_2 : decode cX7_ill 2 = .ok (.invokevirtual 123, 3) := by decide +kernel
theorem dX7_ill_5 : decode cX7_ill 5 = .ok (.aload_n 0, 1) := by decide +kernel
theorem dX7_ill_6 : decode cX7_ill 6 = .ok (.iload_n 2, 1) := by decide +kernel
theorem dX7_ill_7 : decode cX7_ill 7 = .ok (.invokevirtual 268, 3) := by decide +kernel
theorem dX7_ill_10 : decode cX7_ill 10 = .ok (.aload_n 0, 1) := by decide +kernel
theorem dX7_ill_11 : decode cX7_ill 11 = .ok (.iload_n 1, 1) := by decide +kernel
theorem dX7_ill_12 : decode cX7_ill 12 = .ok (.iload_n 2, 1) := by decide +kernel
theorem dX7_ill_13 : decode cX7_ill 13 = .ok (.invokevirtual 271, 3) := by decide +kernel
theorem dX7_ill_16 : decode cX7_ill 16 = .ok (.istore_n 3, 1) := by decide +kernel
theorem dX7_ill_17 : decode cX7_ill 17 = .ok (.aload_n 0, 1) := by decide +kernel
theorem dX7_ill_18 : decode cX7_ill 18 = .ok (.getfield 40, 3) := by decide +kernel
theorem dX7_ill_21 : decode cX7_ill 21 = .ok (.iload_n 2, 1) := by decide +kernel
theorem dX7_ill_22 : decode cX7_ill 22 = .ok (.dup2, 1) := by decide +kernel
theorem dX7_ill_23 : decode cX7_ill 23 = .ok (.iaload, 1) := by decide +kernel
theorem dX7_ill_24 : decode cX7_ill 24 = .ok (.iconst 1, 1) := by decide +kernel
theorem dX7_ill_25 : decode cX7_ill 25 = .ok (.iload_n 1, 1) := by decide +kernel
theorem dX7_ill_26 : decode cX7_ill 26 = .ok (.ishl, 1) := by decide +kernel
theorem dX7_ill_27 : decode cX7_ill 27 = .ok (.ior, 1) := by decide +kernel
theorem dX7_ill_28 : decode cX7_ill 28 = .ok (.iastore, 1) := by decide +kernel
theorem dX7_ill_29 : decode cX7_ill 29 = .ok (.iconst 0, 1) := by decide +kernel
theorem dX7_ill_30 : decode cX7_ill 30 = .ok (.istore 4, 2) := by decide +kernel
theorem dX7_ill_32 : decode cX7_ill 32 = .ok (.iload 4, 2) := by decide +kernel
theorem dX7_ill_34 : decode cX7_ill 34 = .ok (.aload_n 0, 1) := by decide +kernel
theorem dX7_ill_35 : decode cX7_ill 35 = .ok (.getfield 51, 3) := by decide +kernel
theorem dX7_ill_38 : decode cX7_ill 38 = .ok (.if_icmp .ge 49, 3) := by decide +kernel
theorem dX7_ill_41 : decode cX7_ill 41 = .ok (.aload_n 0, 1) := by decide +kernel
theorem dX7_ill_42 : decode cX7_ill 42 = .ok (.getfield 29, 3) := by decide +kernel
theorem dX7_ill_45 : decode cX7_ill 45 = .ok (.iload 4, 2) := by decide +kernel
theorem dX7_ill_47 : decode cX7_ill 47 = .ok (.aaload, 1) := by decide +kernel
theorem dX7_ill_48 : decode cX7_ill 48 = .ok (.astore 5, 2) := by decide +kernel
theorem dX7_ill_50 : decode cX7_ill 50 = .ok (.aload 5, 2) := by decide +kernel
theorem dX7_ill_52 : decode cX7_ill 52 = .ok (.getfield 196, 3) := by decide +kernel
theorem dX7_ill_55 : decode cX7_ill 55 = .ok (.iload_n 2, 1) := by decide +kernel
theorem dX7_ill_56 : decode cX7_ill 56 = .ok (.if_icmp .ne 25, 3) := by decide +kernel
theorem dX7_ill_59 : decode cX7_ill 59 = .ok (.aload 5, 2) := by decide +kernel
theorem dX7_ill_61 : decode cX7_ill 61 = .ok (.iload_n 1, 1) := by decide +kernel
theorem dX7_ill_62 : decode cX7_ill 62 = .ok (.invokevirtual 274, 3) := by decide +kernel
theorem dX7_ill_65 : decode cX7_ill 65 = .ok (.ifCond .eq 16, 3) := by decide +kernel
theorem dX7_ill_68 : decode cX7_ill 68 = .ok (.aload_n 0, 1) := by decide +kernel
theorem dX7_ill_69 : decode cX7_ill 69 = .ok (.aload 5, 2) := by decide +kernel
theorem dX7_ill_71 : decode cX7_ill 71 = .ok (.aload_n 0, 1) := by decide +kernel
theorem dX7_ill_72 : decode cX7_ill 72 = .ok (.getfield 60, 3) := by decide +kernel
theorem dX7_ill_75 : decode cX7_ill 75 = .ok (.iload 4, 2) := by decide +kernel
theorem dX7_ill_77 : decode cX7_ill 77 = .ok (.iaload, 1) := by decide +kernel
theorem dX7_ill_78 : decode cX7_ill 78 = .ok (.invokevirtual 277, 3) := by decide +kernel
theorem dX7_ill_81 : decode cX7_ill 81 = .ok (.iinc 4 1, 3) := by decide +kernel
theorem dX7_ill_84 : decode cX7_ill 84 = .ok (.goto (-52), 3) := by decide +kernel
theorem dX7_ill_87 : decode cX7_ill 87 = .ok (.iload_n 3, 1) := by decide +kernel
theorem dX7_ill_88 : decode cX7_ill 88 = .ok (.ireturn, 1) := by decide +kernel
set_option maxRecDepth 20000 in
theorem ggX7_late_X7_checkWedding : GoodIn wsX7_late wsX7_checkWedding := goodIn_ca (goodIn_r _ [12, 13, 14, 15, 28, 29, 30, 31, 32, 33, 34, 35, 36, 37, 38, 39, 40, 41, 42] (by decide +kernel) (by decide +kernel)) (goodIn_sub (fun _ h => List.mem_cons_of_mem _ (List.mem_append_right _ h)) (by decide +kernel))
set_option maxRecDepth 20000 in
theorem gX7_late_X7_checkWedding : GoodIn wsX7_late (wsV RX7 214 RX7 yX7_checkWedding wsX7_checkWedding) := goodIn_app (goodIn_of _ (by decide +kernel)) ggX7_late_X7_checkWedding
set_option maxRecDepth 20000 in
theorem ggX7_late_X6_quarters : GoodIn wsX7_late wsX6_quarters := goodIn_r _ [20, 21, 22, 23, 24, 25, 26, 27, 43, 44, 45, 46, 47, 48, 49, 50, 51, 52, 53, 54] (by decide +kernel) (by decide +kernel)
set_option maxRecDepth 20000 in
theorem gX7_late_X6_quarters : GoodIn wsX7_late (wsV RX7 287 RX6 yX6_quarters wsX6_quarters) := goodIn_app (goodIn_of _ (by decide +kernel)) ggX7_late_X6_quarters
theorem dX7_late_0 : decode cX7_late 0 = .ok (.aload_n 0, 1) := by decide +kernel
theorem dX7_late_1 : decode cX7_late 1 = .ok (.iload_n 1, 1) := by decide +kernel
theorem dX7_late_2 : decode cX7_late 2 = .ok (.invokevirtual 214, 3) := by decide +kernel
theorem dX7_late_5 : decode cX7_late 5 = .ok (.iload_n 2, 1) := by decide +kernel
theorem dX7_late_6 : decode cX7_late 6 = .ok (.ifCond .lt 10, 3) := by decide +kernel
theorem dX7_late_9 : decode cX7_late 9 = .ok (.iload_n 2, 1) := by decide +kernel
theorem dX7_late_10 : decode cX7_late 10 = .ok (.sipush 240, 3) := by decide +kernel
theorem dX7_late_13 : decode cX7_late 13 = .ok (.if_icmp .le 14, 3) := by decide +kernel
theorem dX7_late_16 : decode cX7_late 16 = .ok (.new 101, 3) := by decide +kernel
theorem dX7_late_19 : decode cX7_late 19 = .ok (.dup, 1) := by decide +kernel
theorem dX7_late_20 : decode cX7_late 20 = .ok (.ldc_w 280, 3) := by decide +kernel
theorem dX7_late_23 : decode cX7_late 23 = .ok (.invokespecial 105, 3) := by decide +kernel
theorem dX7_late_26 : decode cX7_late 26 = .ok (.athrow, 1) := by decide +kernel
theorem dX7_late_27 : decode cX7_late 27 = .ok (.aload_n 0, 1) := by decide +kernel
theorem dX7_late_28 : decode cX7_late 28 = .ok (.getfield 29, 3) := by decide +kernel
theorem dX7_late_31 : decode cX7_late 31 = .ok (.iload_n 1, 1) := by decide +kernel
theorem dX7_late_32 : decode cX7_late 32 = .ok (.aaload, 1) := by decide +kernel
theorem dX7_late_33 : decode cX7_late 33 = .ok (.getfield 233, 3) := by decide +kernel
theorem dX7_late_36 : decode cX7_late 36 = .ok (.iconst 1, 1) := by decide +kernel
theorem dX7_late_37 : decode cX7_late 37 = .ok (.if_icmp .eq 14, 3) := by decide +kernel
theorem dX7_late_40 : decode cX7_late 40 = .ok (.new 106, 3) := by decide +kernel
theorem dX7_late_43 : decode cX7_late 43 = .ok (.dup, 1) := by decide +kernel
theorem dX7_late_44 : decode cX7_late 44 = .ok (.ldc_w 282, 3) := by decide +kernel
theorem dX7_late_47 : decode cX7_late 47 = .ok (.invokespecial 110, 3) := by decide +kernel
theorem dX7_late_50 : decode cX7_late 50 = .ok (.athrow, 1) := by decide +kernel
theorem dX7_late_51 : decode cX7_late 51 = .ok (.aload_n 0, 1) := by decide +kernel
theorem dX7_late_52 : decode cX7_late 52 = .ok (.getfield 29, 3) := by decide +kernel
theorem dX7_late_55 : decode cX7_late 55 = .ok (.iload_n 1, 1) := by decide +kernel
theorem dX7_late_56 : decode cX7_late 56 = .ok (.aaload, 1) := by decide +kernel
theorem dX7_late_57 : decode cX7_late 57 = .ok (.iload_n 2, 1) := by decide +kernel
theorem dX7_late_58 : decode cX7_late 58 = .ok (.putfield 284, 3) := by decide +kernel
theorem dX7_late_61 : decode cX7_late 61 = .ok (.aload_n 0, 1) := by decide +kernel
theorem dX7_late_62 : decode cX7_late 62 = .ok (.getfield 29, 3) := by decide +kernel
theorem dX7_late_65 : decode cX7_late 65 = .ok (.iload_n 1, 1) := by decide +kernel
theorem dX7_late_66 : decode cX7_late 66 = .ok (.aaload, 1) := by decide +kernel
theorem dX7_late_67 : decode cX7_late 67 = .ok (.invokevirtual 287, 3) := by decide +kernel
theorem dX7_late_70 : decode cX7_late 70 = .ok (.ireturn, 1) := by decide +kernel
set_option maxRecDepth 20000 in
theorem ggX7_pass_X7_endToday : GoodIn wsX7_pass wsX7_endToday := goodIn_r _ [10, 11, 12, 13, 5, 14, 15, 16, 17, 9, 18, 19, 20, 21, 22, 23, 24, 25, 26, 27, 28, 29, 30, 31, 32, 33, 34, 35, 36, 37, 38, 39, 40, 41, 42, 43, 44, 45, 46, 47, 48, 49, 50, 51, 52, 53, 54, 55, 56, 57, 58, 59, 60, 61, 62, 63, 64, 65, 66, 67, 68, 69, 70, 71, 72, 73, 74, 75, 76, 77, 78, 79, 80, 81, 82, 83, 84, 85, 86, 87, 88, 89, 90, 91, 92, 93, 94, 95, 96, 97, 98, 99, 100, 101, 102, 103, 104, 105, 106, 107, 108, 109, 110, 111, 112, 113, 114, 115, 116, 117, 118, 119, 120, 121, 122, 123, 124, 130, 131, 132, 133, 134, 135, 136, 137, 138, 139, 140, 141, 142, 143, 144, 145, 146, 147, 148, 149, 150, 151, 152, 153, 154, 155, 156, 157, 158, 159, 160, 161, 162, 163, 164, 165, 166, 167, 168, 169, 170, 171, 172, 173, 174, 175, 176, 177] (by decide +kernel) (by decide +kernel)
set_option maxRecDepth 20000 in
theorem gX7_pass_X7_endToday : GoodIn wsX7_pass (wsV RX7 295 RX7 yX7_endToday wsX7_endToday) := goodIn_app (goodIn_of _ (by decide +kernel)) ggX7_pass_X7_endToday
set_option maxRecDepth 20000 in
theorem ggX7_pass_X7_loseThoseWhoWaited : GoodIn wsX7_pass wsX7_loseThoseWhoWaited := goodIn_r _ [128, 11, 12, 14, 129, 5, 130, 131, 132, 133, 134, 135, 136, 137, 138, 139, 140, 141, 142, 143, 144, 145, 146, 147, 148, 149, 150, 151, 152, 153, 154, 155, 156] (by decide +kernel) (by decide +kernel)
set_option maxRecDepth 20000 in
theorem gX7_pass_X7_loseThoseWhoWaited : GoodIn wsX7_pass (wsV RX7 298 RX7 yX7_loseThoseWhoWaited wsX7_loseThoseWhoWaited) := goodIn_app (goodIn_of _ (by decide +kernel)) ggX7_pass_X7_loseThoseWhoWaited
theorem dX7_pass_0 : decode cX7_pass 0 = .ok (.iload_n 1, 1) := by decide +kernel
theorem dX7_pass_1 : decode cX7_pass 1 = .ok (.iconst 1, 1) := by decide +kernel
theorem dX7_pass_2 : decode cX7_pass 2 = .ok (.if_icmp .lt 9, 3) := by decide +kernel
theorem dX7_pass_5 : decode cX7_pass 5 = .ok (.iload_n 1, 1) := by decide +kernel
theorem dX7_pass_6 : decode cX7_pass 6 = .ok (.bipush 60, 2) := by decide +kernel
theorem dX7_pass_8 : decode cX7_pass 8 = .ok (.if_icmp .le 14, 3) := by decide +kernel
theorem dX7_pass_11 : decode cX7_pass 11 = .ok (.new 101, 3) := by decide +kernel
theorem dX7_pass_14 : decode cX7_pass 14 = .ok (.dup, 1) := by decide +kernel
theorem dX7_pass_15 : decode cX7_pass 15 = .ok (.ldc_w 291, 3) := by decide +kernel
theorem dX7_pass_18 : decode cX7_pass 18 = .ok (.invokespecial 105, 3) := by decide +kernel
theorem dX7_pass_21 : decode cX7_pass 21 = .ok (.athrow, 1) := by decide +kernel
theorem dX7_pass_22 : decode cX7_pass 22 = .ok (.aload_n 0, 1) := by decide +kernel
theorem dX7_pass_23 : decode cX7_pass 23 = .ok (.getfield 54, 3) := by decide +kernel
theorem dX7_pass_26 : decode cX7_pass 26 = .ok (.iload_n 1, 1) := by decide +kernel
theorem dX7_pass_27 : decode cX7_pass 27 = .ok (.iadd, 1) := by decide +kernel
theorem dX7_pass_28 : decode cX7_pass 28 = .ok (.sipush 365, 3) := by decide +kernel
theorem dX7_pass_31 : decode cX7_pass 31 = .ok (.if_icmp .le 14, 3) := by decide +kernel
theorem dX7_pass_34 : decode cX7_pass 34 = .ok (.new 106, 3) := by decide +kernel
theorem dX7_pass_37 : decode cX7_pass 37 = .ok (.dup, 1) := by decide +kernel
theorem dX7_pass_38 : decode cX7_pass 38 = .ok (.ldc_w 293, 3) := by decide +kernel
theorem dX7_pass_41 : decode cX7_pass 41 = .ok (.invokespecial 110, 3) := by decide +kernel
theorem dX7_pass_44 : decode cX7_pass 44 = .ok (.athrow, 1) := by decide +kernel
theorem dX7_pass_45 : decode cX7_pass 45 = .ok (.iconst 0, 1) := by decide +kernel
theorem dX7_pass_46 : decode cX7_pass 46 = .ok (.istore_n 2, 1) := by decide +kernel
theorem dX7_pass_47 : decode cX7_pass 47 = .ok (.iload_n 2, 1) := by decide +kernel
theorem dX7_pass_48 : decode cX7_pass 48 = .ok (.iload_n 1, 1) := by decide +kernel
theorem dX7_pass_49 : decode cX7_pass 49 = .ok (.if_icmp .ge 27, 3) := by decide +kernel
theorem dX7_pass_52 : decode cX7_pass 52 = .ok (.aload_n 0, 1) := by decide +kernel
theorem dX7_pass_53 : decode cX7_pass 53 = .ok (.invokevirtual 295, 3) := by decide +kernel
theorem dX7_pass_56 : decode cX7_pass 56 = .ok (.aload_n 0, 1) := by decide +kernel
theorem dX7_pass_57 : decode cX7_pass 57 = .ok (.dup, 1) := by decide +kernel
theorem dX7_pass_58 : decode cX7_pass 58 = .ok (.getfield 54, 3) := by decide +kernel
theorem dX7_pass_61 : decode cX7_pass 61 = .ok (.iconst 1, 1) := by decide +kernel
theorem dX7_pass_62 : decode cX7_pass 62 = .ok (.iadd, 1) := by decide +kernel
theorem dX7_pass_63 : decode cX7_pass 63 = .ok (.putfield 54, 3) := by decide +kernel
theorem dX7_pass_66 : decode cX7_pass 66 = .ok (.aload_n 0, 1) := by decide +kernel
theorem dX7_pass_67 : decode cX7_pass 67 = .ok (.invokevirtual 298, 3) := by decide +kernel
theorem dX7_pass_70 : decode cX7_pass 70 = .ok (.iinc 2 1, 3) := by decide +kernel
theorem dX7_pass_73 : decode cX7_pass 73 = .ok (.goto (-26), 3) := by decide +kernel
theorem dX7_pass_76 : decode cX7_pass 76 = .ok (.aload_n 0, 1) := by decide +kernel
theorem dX7_pass_77 : decode cX7_pass 77 = .ok (.getfield 54, 3) := by decide +kernel
theorem dX7_pass_80 : decode cX7_pass 80 = .ok (.ireturn, 1) := by decide +kernel
set_option maxRecDepth 20000 in
theorem ggX7_ofPlayer_X7_checkPlayer : GoodIn wsX7_ofPlayer wsX7_checkPlayer := goodIn_ca (goodIn_r _ [16, 17, 18, 19, 35, 36, 37, 38, 39, 40, 41, 42, 43, 44, 45, 46, 47, 48, 49] (by decide +kernel) (by decide +kernel)) (goodIn_sub (fun _ h => List.mem_cons_of_mem _ (List.mem_append_right _ h)) (by decide +kernel))
set_option maxRecDepth 20000 in
theorem gX7_ofPlayer_X7_checkPlayer : GoodIn wsX7_ofPlayer (wsV RX7 123 RX7 yX7_checkPlayer wsX7_checkPlayer) := goodIn_app (goodIn_of _ (by decide +kernel)) ggX7_ofPlayer_X7_checkPlayer
set_option maxRecDepth 20000 in
theorem ggX7_ofPlayer_X7_countFixedWith : GoodIn wsX7_ofPlayer wsX7_countFixedWith := goodIn_r _ [23, 24, 25, 26, 27, 28, 29, 30, 31, 32, 33, 15, 34, 35, 36, 37, 38, 39, 40, 41, 42, 43, 44, 45, 46, 47, 48, 49, 58, 59, 60, 61, 62, 63, 64, 65, 66, 67, 68, 69] (by decide +kernel) (by decide +kernel)
set_option maxRecDepth 20000 in
theorem gX7_ofPlayer_X7_countFixedWith : GoodIn wsX7_ofPlayer (wsV RX7 304 RX7 yX7_countFixedWith wsX7_countFixedWith) := goodIn_app (goodIn_of _ (by decide +kernel)) ggX7_ofPlayer_X7_countFixedWith
theorem dX7_ofPlayer_0 : decode cX7_ofPlayer 0 = .ok (.aload_n 0, 1) := by decide +kernel
theorem dX7_ofPlayer_1 : decode cX7_ofPlayer 1 = .ok (.iload_n 1, 1) := by decide +kernel
theorem dX7_ofPlayer_2 : decode cX7_ofPlayer 2 = .ok (.invokevirtual 123, 3) := by decide +kernel
theorem dX7_ofPlayer_5 : decode cX7_ofPlayer 5 = .ok (.aload_n 0, 1) := by decide +kernel
theorem dX7_ofPlayer_6 : decode cX7_ofPlayer 6 = .ok (.getfield 11, 3) := by decide +kernel
theorem dX7_ofPlayer_9 : decode cX7_ofPlayer 9 = .ok (.iload_n 1, 1) := by decide +kernel
theorem dX7_ofPlayer_10 : decode cX7_ofPlayer 10 = .ok (.aaload, 1) := by decide +kernel
theorem dX7_ofPlayer_11 : decode cX7_ofPlayer 11 = .ok (.astore_n 3, 1) := by decide +kernel
theorem dX7_ofPlayer_12 : decode cX7_ofPlayer 12 = .ok (.iload_n 2, 1) := by decide +kernel
theorem dX7_ofPlayer_13 : decode cX7_ofPlayer 13 = .ok (.tableswitch 97 0 8 #[51, 56, 61, 66, 71, 76, 81, 87, 92], 51) := by decide +kernel
theorem dX7_ofPlayer_64 : decode cX7_ofPlayer 64 = .ok (.aload_n 3, 1) := by decide +kernel
theorem dX7_ofPlayer_65 : decode cX7_ofPlayer 65 = .ok (.getfield 111, 3) := by decide +kernel
theorem dX7_ofPlayer_68 : decode cX7_ofPlayer 68 = .ok (.ireturn, 1) := by decide +kernel
theorem dX7_ofPlayer_69 : decode cX7_ofPlayer 69 = .ok (.aload_n 3, 1) := by decide +kernel
theorem dX7_ofPlayer_70 : decode cX7_ofPlayer 70 = .ok (.getfield 114, 3) := by decide +kernel
theorem dX7_ofPlayer_73 : decode cX7_ofPlayer 73 = .ok (.ireturn, 1) := by decide +kernel
theorem dX7_ofPlayer_74 : decode cX7_ofPlayer 74 = .ok (.aload_n 3, 1) := by decide +kernel
theorem dX7_ofPlayer_75 : decode cX7_ofPlayer 75 = .ok (.getfield 117, 3) := by decide +kernel
theorem dX7_ofPlayer_78 : decode cX7_ofPlayer 78 = .ok (.ireturn, 1) := by decide +kernel
theorem dX7_ofPlayer_79 : decode cX7_ofPlayer 79 = .ok (.aload_n 3, 1) := by decide +kernel
theorem dX7_ofPlayer_80 : decode cX7_ofPlayer 80 = .ok (.getfield 120, 3) := by decide +kernel
theorem dX7_ofPlayer_83 : decode cX7_ofPlayer 83 = .ok (.ireturn, 1) := by decide +kernel
theorem dX7_ofPlayer_84 : decode cX7_ofPlayer 84 = .ok (.aload_n 3, 1) := by decide +kernel
theorem dX7_ofPlayer_85 : decode cX7_ofPlayer 85 = .ok (.getfield 150, 3) := by decide +kernel
theorem dX7_ofPlayer_88 : decode cX7_ofPlayer 88 = .ok (.ireturn, 1) := by decide +kernel
theorem dX7_ofPlayer_89 : decode cX7_ofPlayer 89 = .ok (.aload_n 3, 1) := by decide +kernel
theorem dX7_ofPlayer_90 : decode cX7_ofPlayer 90 = .ok (.getfield 301, 3) := by decide +kernel
theorem dX7_ofPlayer_93 : decode cX7_ofPlayer 93 = .ok (.ireturn, 1) := by decide +kernel
theorem dX7_ofPlayer_94 : decode cX7_ofPlayer 94 = .ok (.aload_n 0, 1) := by decide +kernel
theorem dX7_ofPlayer_95 : decode cX7_ofPlayer 95 = .ok (.iload_n 1, 1) := by decide +kernel
theorem dX7_ofPlayer_96 : decode cX7_ofPlayer 96 = .ok (.invokevirtual 304, 3) := by decide +kernel
theorem dX7_ofPlayer_99 : decode cX7_ofPlayer 99 = .ok (.ireturn, 1) := by decide +kernel
theorem dX7_ofPlayer_100 : decode cX7_ofPlayer 100 = .ok (.aload_n 3, 1) := by decide +kernel
theorem dX7_ofPlayer_101 : decode cX7_ofPlayer 101 = .ok (.getfield 307, 3) := by decide +kernel
theorem dX7_ofPlayer_104 : decode cX7_ofPlayer 104 = .ok (.ireturn, 1) := by decide +kernel
theorem dX7_ofPlayer_105 : decode cX7_ofPlayer 105 = .ok (.aload_n 3, 1) := by decide +kernel
theorem dX7_ofPlayer_106 : decode cX7_ofPlayer 106 = .ok (.getfield 310, 3) := by decide +kernel
theorem dX7_ofPlayer_109 : decode cX7_ofPlayer 109 = .ok (.ireturn, 1) := by decide +kernel
theorem dX7_ofPlayer_110 : decode cX7_ofPlayer 110 = .ok (.new 101, 3) := by decide +kernel
theorem dX7_ofPlayer_113 : decode cX7_ofPlayer 113 = .ok (.dup, 1) := by decide +kernel
theorem dX7_ofPlayer_114 : decode cX7_ofPlayer 114 = .ok (.ldc_w 313, 3) := by decide +kernel
theorem dX7_ofPlayer_117 : decode cX7_ofPlayer 117 = .ok (.invokespecial 105, 3) := by decide +kernel
theorem dX7_ofPlayer_120 : decode cX7_ofPlayer 120 = .ok (.athrow, 1) := by decide +kernel
set_option maxRecDepth 20000 in
theorem ggX7_ofSong_X7_checkSong : GoodIn wsX7_ofSong wsX7_checkSong := goodIn_ca (goodIn_r _ [11, 12, 13] (by decide +kernel) (by decide +kernel)) (goodIn_sub (fun _ h => List.mem_cons_of_mem _ (List.mem_append_right _ h)) (by decide +kernel))
set_option maxRecDepth 20000 in
theorem gX7_ofSong_X7_checkSong : GoodIn wsX7_ofSong (va_wsS RX7 134 yX7_checkSong wsX7_checkSong) := goodIn_app (goodIn_of _ (by decide +kernel)) ggX7_ofSong_X7_checkSong
set_option maxRecDepth 20000 in
theorem ggX7_ofSong_X7_shareOf : GoodIn wsX7_ofSong wsX7_shareOf := goodIn_r _ [17, 3, 6, 7, 28, 29, 30, 31, 32, 33, 34, 35, 36, 37, 38, 39, 40, 41, 42, 43, 44, 45, 46] (by decide +kernel) (by decide +kernel)
set_option maxRecDepth 20000 in
theorem gX7_ofSong_X7_shareOf : GoodIn wsX7_ofSong (wsV RX7 316 RX7 yX7_shareOf wsX7_shareOf) := goodIn_app (goodIn_of _ (by decide +kernel)) ggX7_ofSong_X7_shareOf
set_option maxRecDepth 20000 in
theorem ggX7_ofSong_X7_countKnowing : GoodIn wsX7_ofSong wsX7_countKnowing := goodIn_r _ [21, 22, 23, 24, 25, 26, 10, 27, 28, 29, 30, 31, 32, 33, 34, 35, 36, 37, 38, 39, 40, 41, 42, 47, 48, 49, 50, 51, 52, 53, 54] (by decide +kernel) (by decide +kernel)
set_option maxRecDepth 20000 in
theorem gX7_ofSong_X7_countKnowing : GoodIn wsX7_ofSong (wsV RX7 320 RX7 yX7_countKnowing wsX7_countKnowing) := goodIn_app (goodIn_of _ (by decide +kernel)) ggX7_ofSong_X7_countKnowing
theorem dX7_ofSong_0 : decode cX7_ofSong 0 = .ok (.iload_n 1, 1) := by decide +kernel
theorem dX7_ofSong_1 : decode cX7_ofSong 1 = .ok (.invokestatic 134, 3) := by decide +kernel
theorem dX7_ofSong_4 : decode cX7_ofSong 4 = .ok (.aload_n 0, 1) := by decide +kernel
theorem dX7_ofSong_5 : decode cX7_ofSong 5 = .ok (.getfield 17, 3) := by decide +kernel
theorem dX7_ofSong_8 : decode cX7_ofSong 8 = .ok (.iload_n 1, 1) := by decide +kernel
theorem dX7_ofSong_9 : decode cX7_ofSong 9 = .ok (.aaload, 1) := by decide +kernel
theorem dX7_ofSong_10 : decode cX7_ofSong 10 = .ok (.astore_n 3, 1) := by decide +kernel
theorem dX7_ofSong_11 : decode cX7_ofSong 11 = .ok (.iload_n 2, 1) := by decide +kernel
theorem dX7_ofSong_12 : decode cX7_ofSong 12 = .ok (.tableswitch 72 0 5 #[40, 45, 50, 55, 60, 66], 40) := by decide +kernel
theorem dX7_ofSong_52 : decode cX7_ofSong 52 = .ok (.aload_n 3, 1) := by decide +kernel
theorem dX7_ofSong_53 : decode cX7_ofSong 53 = .ok (.getfield 142, 3) := by decide +kernel
theorem dX7_ofSong_56 : decode cX7_ofSong 56 = .ok (.ireturn, 1) := by decide +kernel
theorem dX7_ofSong_57 : decode cX7_ofSong 57 = .ok (.aload_n 3, 1) := by decide +kernel
theorem dX7_ofSong_58 : decode cX7_ofSong 58 = .ok (.getfield 145, 3) := by decide +kernel
theorem dX7_ofSong_61 : decode cX7_ofSong 61 = .ok (.ireturn, 1) := by decide +kernel
theorem dX7_ofSong_62 : decode cX7_ofSong 62 = .ok (.aload_n 3, 1) := by decide +kernel
theorem dX7_ofSong_63 : decode cX7_ofSong 63 = .ok (.getfield 139, 3) := by decide +kernel
theorem dX7_ofSong_66 : decode cX7_ofSong 66 = .ok (.ireturn, 1) := by decide +kernel
theorem dX7_ofSong_67 : decode cX7_ofSong 67 = .ok (.aload_n 3, 1) := by decide +kernel
theorem dX7_ofSong_68 : decode cX7_ofSong 68 = .ok (.getfield 315, 3) := by decide +kernel
theorem dX7_ofSong_71 : decode cX7_ofSong 71 = .ok (.ireturn, 1) := by decide +kernel
theorem dX7_ofSong_72 : decode cX7_ofSong 72 = .ok (.aload_n 0, 1) := by decide +kernel
theorem dX7_ofSong_73 : decode cX7_ofSong 73 = .ok (.aload_n 3, 1) := by decide +kernel
theorem dX7_ofSong_74 : decode cX7_ofSong 74 = .ok (.invokevirtual 316, 3) := by decide +kernel
theorem dX7_ofSong_77 : decode cX7_ofSong 77 = .ok (.ireturn, 1) := by decide +kernel
theorem dX7_ofSong_78 : decode cX7_ofSong 78 = .ok (.aload_n 0, 1) := by decide +kernel
theorem dX7_ofSong_79 : decode cX7_ofSong 79 = .ok (.iload_n 1, 1) := by decide +kernel
theorem dX7_ofSong_80 : decode cX7_ofSong 80 = .ok (.invokevirtual 320, 3) := by decide +kernel
theorem dX7_ofSong_83 : decode cX7_ofSong 83 = .ok (.ireturn, 1) := by decide +kernel
theorem dX7_ofSong_84 : decode cX7_ofSong 84 = .ok (.new 101, 3) := by decide +kernel
theorem dX7_ofSong_87 : decode cX7_ofSong 87 = .ok (.dup, 1) := by decide +kernel
theorem dX7_ofSong_88 : decode cX7_ofSong 88 = .ok (.ldc_w 323, 3) := by decide +kernel
theorem dX7_ofSong_91 : decode cX7_ofSong 91 = .ok (.invokespecial 105, 3) := by decide +kernel
theorem dX7_ofSong_94 : decode cX7_ofSong 94 = .ok (.athrow, 1) := by decide +kernel
set_option maxRecDepth 20000 in
theorem ggX7_ofBand_X7_checkBand : GoodIn wsX7_ofBand wsX7_checkBand := goodIn_ca (goodIn_r _ [10, 11, 12, 13, 22, 23, 24, 25, 26, 27, 28, 29, 30, 31, 32, 33, 34, 35, 36] (by decide +kernel) (by decide +kernel)) (goodIn_sub (fun _ h => List.mem_cons_of_mem _ (List.mem_append_right _ h)) (by decide +kernel))
set_option maxRecDepth 20000 in
theorem gX7_ofBand_X7_checkBand : GoodIn wsX7_ofBand (wsV RX7 180 RX7 yX7_checkBand wsX7_checkBand) := goodIn_app (goodIn_of _ (by decide +kernel)) ggX7_ofBand_X7_checkBand
set_option maxRecDepth 20000 in
theorem ggX7_ofBand_X7_countOfBand : GoodIn wsX7_ofBand wsX7_countOfBand := goodIn_r _ [17, 18, 19, 20, 21, 22, 23, 24, 25, 26, 27, 28, 29, 30, 31, 32, 33, 34, 35, 36, 40, 41, 42, 43, 44, 45, 46, 47, 48, 49, 50, 51] (by decide +kernel) (by decide +kernel)
set_option maxRecDepth 20000 in
theorem gX7_ofBand_X7_countOfBand : GoodIn wsX7_ofBand (wsV RX7 333 RX7 yX7_countOfBand wsX7_countOfBand) := goodIn_app (goodIn_of _ (by decide +kernel)) ggX7_ofBand_X7_countOfBand
theorem dX7_ofBand_0 : decode cX7_ofBand 0 = .ok (.aload_n 0, 1) := by decide +kernel
theorem dX7_ofBand_1 : decode cX7_ofBand 1 = .ok (.iload_n 1, 1) := by decide +kernel
theorem dX7_ofBand_2 : decode cX7_ofBand 2 = .ok (.invokevirtual 180, 3) := by decide +kernel
theorem dX7_ofBand_5 : decode cX7_ofBand 5 = .ok (.iload_n 2, 1) := by decide +kernel
theorem dX7_ofBand_6 : decode cX7_ofBand 6 = .ok (.ifCond .lt 9, 3) := by decide +kernel
theorem dX7_ofBand_9 : decode cX7_ofBand 9 = .ok (.iload_n 2, 1) := by decide +kernel
theorem dX7_ofBand_10 : decode cX7_ofBand 10 = .ok (.bipush 8, 2) := by decide +kernel
theorem dX7_ofBand_12 : decode cX7_ofBand 12 = .ok (.if_icmp .le 14, 3) := by decide +kernel
theorem dX7_ofBand_15 : decode cX7_ofBand 15 = .ok (.new 101, 3) := by decide +kernel
theorem dX7_ofBand_18 : decode cX7_ofBand 18 = .ok (.dup, 1) := by decide +kernel
theorem dX7_ofBand_19 : decode cX7_ofBand 19 = .ok (.ldc_w 325, 3) := by decide +kernel
theorem dX7_ofBand_22 : decode cX7_ofBand 22 = .ok (.invokespecial 105, 3) := by decide +kernel
theorem dX7_ofBand_25 : decode cX7_ofBand 25 = .ok (.athrow, 1) := by decide +kernel
theorem dX7_ofBand_26 : decode cX7_ofBand 26 = .ok (.iload_n 2, 1) := by decide +kernel
theorem dX7_ofBand_27 : decode cX7_ofBand 27 = .ok (.bipush 6, 2) := by decide +kernel
theorem dX7_ofBand_29 : decode cX7_ofBand 29 = .ok (.if_icmp .ge 15, 3) := by decide +kernel
theorem dX7_ofBand_32 : decode cX7_ofBand 32 = .ok (.aload_n 0, 1) := by decide +kernel
theorem dX7_ofBand_33 : decode cX7_ofBand 33 = .ok (.getfield 23, 3) := by decide +kernel
theorem dX7_ofBand_36 : decode cX7_ofBand 36 = .ok (.iload_n 1, 1) := by decide +kernel
theorem dX7_ofBand_37 : decode cX7_ofBand 37 = .ok (.aaload, 1) := by decide +kernel
theorem dX7_ofBand_38 : decode cX7_ofBand 38 = .ok (.getfield 327, 3) := by decide +kernel
theorem dX7_ofBand_41 : decode cX7_ofBand 41 = .ok (.iload_n 2, 1) := by decide +kernel
theorem dX7_ofBand_42 : decode cX7_ofBand 42 = .ok (.iaload, 1) := by decide +kernel
theorem dX7_ofBand_43 : decode cX7_ofBand 43 = .ok (.ireturn, 1) := by decide +kernel
theorem dX7_ofBand_44 : decode cX7_ofBand 44 = .ok (.iload_n 2, 1) := by decide +kernel
theorem dX7_ofBand_45 : decode cX7_ofBand 45 = .ok (.bipush 6, 2) := by decide +kernel
theorem dX7_ofBand_47 : decode cX7_ofBand 47 = .ok (.if_icmp .ne 13, 3) := by decide +kernel
theorem dX7_ofBand_50 : decode cX7_ofBand 50 = .ok (.aload_n 0, 1) := by decide +kernel
theorem dX7_ofBand_51 : decode cX7_ofBand 51 = .ok (.getfield 23, 3) := by decide +kernel
theorem dX7_ofBand_54 : decode cX7_ofBand 54 = .ok (.iload_n 1, 1) := by decide +kernel
theorem dX7_ofBand_55 : decode cX7_ofBand 55 = .ok (.aaload, 1) := by decide +kernel
theorem dX7_ofBand_56 : decode cX7_ofBand 56 = .ok (.getfield 330, 3) := by decide +kernel
theorem dX7_ofBand_59 : decode cX7_ofBand 59 = .ok (.ireturn, 1) := by decide +kernel
theorem dX7_ofBand_60 : decode cX7_ofBand 60 = .ok (.aload_n 0, 1) := by decide +kernel
theorem dX7_ofBand_61 : decode cX7_ofBand 61 = .ok (.iload_n 1, 1) := by decide +kernel
theorem dX7_ofBand_62 : decode cX7_ofBand 62 = .ok (.iload_n 2, 1) := by decide +kernel
theorem dX7_ofBand_63 : decode cX7_ofBand 63 = .ok (.bipush 8, 2) := by decide +kernel
theorem dX7_ofBand_65 : decode cX7_ofBand 65 = .ok (.if_icmp .ne 7, 3) := by decide +kernel
theorem dX7_ofBand_68 : decode cX7_ofBand 68 = .ok (.iconst 1, 1) := by decide +kernel
theorem dX7_ofBand_69 : decode cX7_ofBand 69 = .ok (.goto 4, 3) := by decide +kernel
theorem dX7_ofBand_72 : decode cX7_ofBand 72 = .ok (.iconst 0, 1) := by decide +kernel
theorem dX7_ofBand_73 : decode cX7_ofBand 73 = .ok (.invokevirtual 333, 3) := by decide +kernel
theorem dX7_ofBand_76 : decode cX7_ofBand 76 = .ok (.ireturn, 1) := by decide +kernel
set_option maxRecDepth 20000 in
theorem ggX7_ofWedding_X7_checkWedding : GoodIn wsX7_ofWedding wsX7_checkWedding := goodIn_ca (goodIn_r _ [19, 20, 21, 22, 43, 44, 45, 46, 47, 48, 49, 50, 51, 52, 53, 54, 55, 56, 57] (by decide +kernel) (by decide +kernel)) (goodIn_sub (fun _ h => List.mem_cons_of_mem _ (List.mem_append_right _ h)) (by decide +kernel))
set_option maxRecDepth 20000 in
theorem gX7_ofWedding_X7_checkWedding : GoodIn wsX7_ofWedding (wsV RX7 214 RX7 yX7_checkWedding wsX7_checkWedding) := goodIn_app (goodIn_of _ (by decide +kernel)) ggX7_ofWedding_X7_checkWedding
set_option maxRecDepth 20000 in
theorem ggX7_ofWedding_X7_placeInQueue : GoodIn wsX7_ofWedding wsX7_placeInQueue := goodIn_r _ [26, 3, 10, 27, 28, 29, 18, 30, 4, 5, 43, 44, 45, 46, 47, 48, 49, 50, 51, 52, 53, 54, 55, 56, 57, 58, 59, 60, 61, 62, 63, 64, 65, 66, 67, 68, 69] (by decide +kernel) (by decide +kernel)
set_option maxRecDepth 20000 in
theorem gX7_ofWedding_X7_placeInQueue : GoodIn wsX7_ofWedding (wsV RX7 337 RX7 yX7_placeInQueue wsX7_placeInQueue) := goodIn_app (goodIn_of _ (by decide +kernel)) ggX7_ofWedding_X7_placeInQueue
set_option maxRecDepth 20000 in
theorem ggX7_ofWedding_X6_quarters : GoodIn wsX7_ofWedding wsX6_quarters := goodIn_r _ [35, 36, 37, 38, 39, 40, 41, 42, 58, 59, 60, 61, 62, 63, 64, 65, 66, 67, 68, 69] (by decide +kernel) (by decide +kernel)
set_option maxRecDepth 20000 in
theorem gX7_ofWedding_X6_quarters : GoodIn wsX7_ofWedding (wsV RX7 287 RX6 yX6_quarters wsX6_quarters) := goodIn_app (goodIn_of _ (by decide +kernel)) ggX7_ofWedding_X6_quarters
theorem dX7_ofWedding_0 : decode cX7_ofWedding 0 = .ok (.aload_n 0, 1) := by decide +kernel
theorem dX7_ofWedding_1 : decode cX7_ofWedding 1 = .ok (.iload_n 1, 1) := by decide +kernel
theorem dX7_ofWedding_2 : decode cX7_ofWedding 2 = .ok (.invokevirtual 214, 3) := by decide +kernel
theorem dX7_ofWedding_5 : decode cX7_ofWedding 5 = .ok (.aload_n 0, 1) := by decide +kernel
theorem dX7_ofWedding_6 : decode cX7_ofWedding 6 = .ok (.getfield 29, 3) := by decide +kernel
theorem dX7_ofWedding_9 : decode cX7_ofWedding 9 = .ok (.iload_n 1, 1) := by decide +kernel
theorem dX7_ofWedding_10 : decode cX7_ofWedding 10 = .ok (.aaload, 1) := by decide +kernel
theorem dX7_ofWedding_11 : decode cX7_ofWedding 11 = .ok (.astore_n 3, 1) := by decide +kernel
theorem dX7_ofWedding_12 : decode cX7_ofWedding 12 = .ok (.iload_n 2, 1) := by decide +kernel
theorem dX7_ofWedding_13 : decode cX7_ofWedding 13 = .ok (.tableswitch 133 0 12 #[67, 72, 77, 82, 87, 92, 97, 102, 107, 112, 117, 122, 128], 67) := by decide +kernel
theorem dX7_ofWedding_80 : decode cX7_ofWedding 80 = .ok (.aload_n 3, 1) := by decide +kernel
theorem dX7_ofWedding_81 : decode cX7_ofWedding 81 = .ok (.getfield 193, 3) := by decide +kernel
theorem dX7_ofWedding_84 : decode cX7_ofWedding 84 = .ok (.ireturn, 1) := by decide +kernel
theorem dX7_ofWedding_85 : decode cX7_ofWedding 85 = .ok (.aload_n 3, 1) := by decide +kernel
theorem dX7_ofWedding_86 : decode cX7_ofWedding 86 = .ok (.getfield 196, 3) := by decide +kernel
theorem dX7_ofWedding_89 : decode cX7_ofWedding 89 = .ok (.ireturn, 1) := by decide +kernel
theorem dX7_ofWedding_90 : decode cX7_ofWedding 90 = .ok (.aload_n 3, 1) := by decide +kernel
theorem dX7_ofWedding_91 : decode cX7_ofWedding 91 = .ok (.getfield 199, 3) := by decide +kernel
theorem dX7_ofWedding_94 : decode cX7_ofWedding 94 = .ok (.ireturn, 1) := by decide +kernel
theorem dX7_ofWedding_95 : decode cX7_ofWedding 95 = .ok (.aload_n 3, 1) := by decide +kernel
theorem dX7_ofWedding_96 : decode cX7_ofWedding 96 = .ok (.getfield 202, 3) := by decide +kernel
theorem dX7_ofWedding_99 : decode cX7_ofWedding 99 = .ok (.ireturn, 1) := by decide +kernel
theorem dX7_ofWedding_100 : decode cX7_ofWedding 100 = .ok (.aload_n 3, 1) := by decide +kernel
theorem dX7_ofWedding_101 : decode cX7_ofWedding 101 = .ok (.getfield 205, 3) := by decide +kernel
theorem dX7_ofWedding_104 : decode cX7_ofWedding 104 = .ok (.ireturn, 1) := by decide +kernel
theorem dX7_ofWedding_105 : decode cX7_ofWedding 105 = .ok (.aload_n 3, 1) := by decide +kernel
theorem dX7_ofWedding_106 : decode cX7_ofWedding 106 = .ok (.getfield 208, 3) := by decide +kernel
theorem dX7_ofWedding_109 : decode cX7_ofWedding 109 = .ok (.ireturn, 1) := by decide +kernel
theorem dX7_ofWedding_110 : decode cX7_ofWedding 110 = .ok (.aload_n 3, 1) := by decide +kernel
theorem dX7_ofWedding_111 : decode cX7_ofWedding 111 = .ok (.getfield 233, 3) := by decide +kernel
theorem dX7_ofWedding_114 : decode cX7_ofWedding 114 = .ok (.ireturn, 1) := by decide +kernel
theorem dX7_ofWedding_115 : decode cX7_ofWedding 115 = .ok (.aload_n 3, 1) := by decide +kernel
theorem dX7_ofWedding_116 : decode cX7_ofWedding 116 = .ok (.getfield 239, 3) := by decide +kernel
theorem dX7_ofWedding_119 : decode cX7_ofWedding 119 = .ok (.ireturn, 1) := by decide +kernel
theorem dX7_ofWedding_120 : decode cX7_ofWedding 120 = .ok (.aload_n 3, 1) := by decide +kernel
theorem dX7_ofWedding_121 : decode cX7_ofWedding 121 = .ok (.getfield 247, 3) := by decide +kernel
theorem dX7_ofWedding_124 : decode cX7_ofWedding 124 = .ok (.ireturn, 1) := by decide +kernel
theorem dX7_ofWedding_125 : decode cX7_ofWedding 125 = .ok (.aload_n 3, 1) := by decide +kernel
theorem dX7_ofWedding_126 : decode cX7_ofWedding 126 = .ok (.getfield 284, 3) := by decide +kernel
theorem dX7_ofWedding_129 : decode cX7_ofWedding 129 = .ok (.ireturn, 1) := by decide +kernel
theorem dX7_ofWedding_130 : decode cX7_ofWedding 130 = .ok (.aload_n 3, 1) := by decide +kernel
theorem dX7_ofWedding_131 : decode cX7_ofWedding 131 = .ok (.getfield 260, 3) := by decide +kernel
theorem dX7_ofWedding_134 : decode cX7_ofWedding 134 = .ok (.ireturn, 1) := by decide +kernel
theorem dX7_ofWedding_135 : decode cX7_ofWedding 135 = .ok (.aload_n 0, 1) := by decide +kernel
theorem dX7_ofWedding_136 : decode cX7_ofWedding 136 = .ok (.iload_n 1, 1) := by decide +kernel
theorem dX7_ofWedding_137 : decode cX7_ofWedding 137 = .ok (.invokevirtual 337, 3) := by decide +kernel
theorem dX7_ofWedding_140 : decode cX7_ofWedding 140 = .ok (.ireturn, 1) := by decide +kernel
theorem dX7_ofWedding_141 : decode cX7_ofWedding 141 = .ok (.aload_n 3, 1) := by decide +kernel
theorem dX7_ofWedding_142 : decode cX7_ofWedding 142 = .ok (.invokevirtual 287, 3) := by decide +kernel
theorem dX7_ofWedding_145 : decode cX7_ofWedding 145 = .ok (.ireturn, 1) := by decide +kernel
theorem dX7_ofWedding_146 : decode cX7_ofWedding 146 = .ok (.new 101, 3) := by decide +kernel
theorem dX7_ofWedding_149 : decode cX7_ofWedding 149 = .ok (.dup, 1) := by decide +kernel
theorem dX7_ofWedding_150 : decode cX7_ofWedding 150 = .ok (.ldc_w 340, 3) := by decide +kernel
theorem dX7_ofWedding_153 : decode cX7_ofWedding 153 = .ok (.invokespecial 105, 3) := by decide +kernel
theorem dX7_ofWedding_156 : decode cX7_ofWedding 156 = .ok (.athrow, 1) := by decide +kernel
set_option maxRecDepth 20000 in
theorem ggX7_drive_X7_checkTown : GoodIn wsX7_drive wsX7_checkTown := goodIn_ca (goodIn_r _ [5, 6, 7, 8, 9, 4, 10] (by decide +kernel) (by decide +kernel)) (goodIn_sub (fun _ h => List.mem_cons_of_mem _ (List.mem_append_right _ h)) (by decide +kernel))
set_option maxRecDepth 20000 in
theorem gX7_drive_X7_checkTown : GoodIn wsX7_drive (va_wsS RX7 157 yX7_checkTown wsX7_checkTown) := goodIn_app (goodIn_of _ (by decide +kernel)) ggX7_drive_X7_checkTown
set_option maxRecDepth 20000 in
theorem ggX7_drive_X4_between : GoodIn wsX7_drive wsX4_between := goodIn_r _ [15, 16, 32, 33] (by decide +kernel) (by decide +kernel)
set_option maxRecDepth 20000 in
theorem gX7_drive_X4_between : GoodIn wsX7_drive (wsV RX7 166 RX4 yX4_between wsX4_between) := goodIn_app (goodIn_of _ (by decide +kernel)) ggX7_drive_X4_between
theorem dX7_drive_0 : decode cX7_drive 0 = .ok (.iload_n 1, 1) := by decide +kernel
theorem dX7_drive_1 : decode cX7_drive 1 = .ok (.invokestatic 157, 3) := by decide +kernel
theorem dX7_drive_4 : decode cX7_drive 4 = .ok (.iload_n 2, 1) := by decide +kernel
theorem dX7_drive_5 : decode cX7_drive 5 = .ok (.invokestatic 157, 3) := by decide +kernel
theorem dX7_drive_8 : decode cX7_drive 8 = .ok (.aload_n 0, 1) := by decide +kernel
theorem dX7_drive_9 : decode cX7_drive 9 = .ok (.getfield 36, 3) := by decide +kernel
theorem dX7_drive_12 : decode cX7_drive 12 = .ok (.iload_n 1, 1) := by decide +kernel
theorem dX7_drive_13 : decode cX7_drive 13 = .ok (.iload_n 2, 1) := by decide +kernel
theorem dX7_drive_14 : decode cX7_drive 14 = .ok (.invokevirtual 166, 3) := by decide +kernel
theorem dX7_drive_17 : decode cX7_drive 17 = .ok (.ireturn, 1) := by decide +kernel
set_option maxRecDepth 20000 in
theorem ggX7_set_X7_playableFor : GoodIn wsX7_set wsX7_playableFor := goodIn_r _ [12, 3, 13, 14, 15, 16, 11, 17, 18, 19, 20, 21, 22, 23, 24, 61, 62, 63, 64, 65, 66, 67, 68, 69, 70, 71, 72, 73, 74, 75, 83, 84, 85, 86, 87, 88, 89, 90] (by decide +kernel) (by decide +kernel)
set_option maxRecDepth 20000 in
theorem gX7_set_X7_playableFor : GoodIn wsX7_set (wsV RX7 355 RX7 yX7_playableFor wsX7_playableFor) := goodIn_app (goodIn_of _ (by decide +kernel)) ggX7_set_X7_playableFor
set_option maxRecDepth 20000 in
theorem ggX7_set_X1_choose : GoodIn wsX7_set wsX1_choose := goodIn_r _ [29, 30, 31, 32, 33, 34, 35, 36, 37, 38, 28, 39, 40, 16, 11, 17, 41, 42, 43, 44, 45, 46, 47, 48, 49, 50, 51, 52, 53, 54, 55, 56, 57, 58, 59, 60, 76, 77, 78, 79, 80, 81, 82, 91, 92, 93, 94] (by decide +kernel) (by decide +kernel)
set_option maxRecDepth 20000 in
theorem gX7_set_X1_choose : GoodIn wsX7_set (wsV RX7 358 RX1 yX1_choose wsX1_choose) := goodIn_app (goodIn_of _ (by decide +kernel)) ggX7_set_X1_choose
theorem dX7_set_0 : decode cX7_set 0 = .ok (.iload_n 1, 1) := by decide +kernel
theorem dX7_set_1 : decode cX7_set 1 = .ok (.ifCond .lt 13, 3) := by decide +kernel
theorem dX7_set_4 : decode cX7_set 4 = .ok (.iload_n 1, 1) := by decide +kernel
theorem dX7_set_5 : decode cX7_set 5 = .ok (.iconst 1, 1) := by decide +kernel
theorem dX7_set_6 : decode cX7_set 6 = .ok (.aload_n 0, 1) := by decide +kernel
theorem dX7_set_7 : decode cX7_set 7 = .ok (.getfield 44, 3) := by decide +kernel
theorem dX7_set_10 : decode cX7_set 10 = .ok (.ishl, 1) := by decide +kernel
theorem dX7_set_11 : decode cX7_set 11 = .ok (.if_icmp .lt 14, 3) := by decide +kernel
theorem dX7_set_14 : decode cX7_set 14 = .ok (.new 101, 3) := by decide +kernel
theorem dX7_set_17 : decode cX7_set 17 = .ok (.dup, 1) := by decide +kernel
theorem dX7_set_18 : decode cX7_set 18 = .ok (.ldc_w 353, 3) := by decide +kernel
theorem dX7_set_21 : decode cX7_set 21 = .ok (.invokespecial 105, 3) := by decide +kernel
theorem dX7_set_24 : decode cX7_set 24 = .ok (.athrow, 1) := by decide +kernel
theorem dX7_set_25 : decode cX7_set 25 = .ok (.aload_n 0, 1) := by decide +kernel
theorem dX7_set_26 : decode cX7_set 26 = .ok (.getfield 77, 3) := by decide +kernel
theorem dX7_set_29 : decode cX7_set 29 = .ok (.aload_n 0, 1) := by decide +kernel
theorem dX7_set_30 : decode cX7_set 30 = .ok (.getfield 17, 3) := by decide +kernel
theorem dX7_set_33 : decode cX7_set 33 = .ok (.aload_n 0, 1) := by decide +kernel
theorem dX7_set_34 : decode cX7_set 34 = .ok (.iload_n 1, 1) := by decide +kernel
theorem dX7_set_35 : decode cX7_set 35 = .ok (.invokevirtual 355, 3) := by decide +kernel
theorem dX7_set_38 : decode cX7_set 38 = .ok (.invokevirtual 358, 3) := by decide +kernel
theorem dX7_set_41 : decode cX7_set 41 = .ok (.iload_n 2, 1) := by decide +kernel
theorem dX7_set_42 : decode cX7_set 42 = .ok (.ifCond .eq 13, 3) := by decide +kernel
theorem dX7_set_45 : decode cX7_set 45 = .ok (.aload_n 0, 1) := by decide +kernel
theorem dX7_set_46 : decode cX7_set 46 = .ok (.getfield 77, 3) := by decide +kernel
theorem dX7_set_49 : decode cX7_set 49 = .ok (.getfield 362, 3) := by decide +kernel
theorem dX7_set_52 : decode cX7_set 52 = .ok (.goto 10, 3) := by decide +kernel
theorem dX7_set_55 : decode cX7_set 55 = .ok (.aload_n 0, 1) := by decide +kernel
theorem dX7_set_56 : decode cX7_set 56 = .ok (.getfield 77, 3) := by decide +kernel
theorem dX7_set_59 : decode cX7_set 59 = .ok (.getfield 363, 3) := by decide +kernel
theorem dX7_set_62 : decode cX7_set 62 = .ok (.ireturn, 1) := by decide +kernel
set_option maxRecDepth 20000 in
theorem ggX7_desk_X7_countInState : GoodIn wsX7_desk wsX7_countInState := goodIn_r _ [12, 6, 13, 14, 50, 51, 52, 53, 54, 55, 56, 57, 58, 59, 60, 61, 62, 63, 64, 65, 66, 67, 68, 69, 70, 71, 72, 73, 74, 75, 76] (by decide +kernel) (by decide +kernel)
set_option maxRecDepth 20000 in
theorem gX7_desk_X7_countInState : GoodIn wsX7_desk (wsV RX7 383 RX7 yX7_countInState wsX7_countInState) := goodIn_app (goodIn_of _ (by decide +kernel)) ggX7_desk_X7_countInState
set_option maxRecDepth 20000 in
theorem ggX7_desk_X7_countFeuds : GoodIn wsX7_desk wsX7_countFeuds := goodIn_r _ [18, 4, 19, 20, 21, 22, 23, 24, 25, 26, 27, 50, 51, 52, 53, 54, 55, 56, 57, 58, 59, 60, 61, 62, 63, 64, 77, 78, 79, 80, 81, 82, 83, 84] (by decide +kernel) (by decide +kernel)
set_option maxRecDepth 20000 in
theorem gX7_desk_X7_countFeuds : GoodIn wsX7_desk (wsV RX7 386 RX7 yX7_countFeuds wsX7_countFeuds) := goodIn_app (goodIn_of _ (by decide +kernel)) ggX7_desk_X7_countFeuds
set_option maxRecDepth 20000 in
theorem ggX7_desk_X7_allEarned : GoodIn wsX7_desk wsX7_allEarned := goodIn_r _ [31, 4, 19, 32, 50, 51, 52, 53, 54, 55, 56, 57, 58, 59, 60, 61, 62, 63, 64, 77, 78, 79, 80, 81, 82, 83, 84] (by decide +kernel) (by decide +kernel)
set_option maxRecDepth 20000 in
theorem gX7_desk_X7_allEarned : GoodIn wsX7_desk (wsV RX7 389 RX7 yX7_allEarned wsX7_allEarned) := goodIn_app (goodIn_of _ (by decide +kernel)) ggX7_desk_X7_allEarned
set_option maxRecDepth 20000 in
theorem ggX7_desk_X7_countDaysOff : GoodIn wsX7_desk wsX7_countDaysOff := goodIn_r _ [36, 37, 21, 22, 23, 24, 25, 26, 27, 50, 51, 52, 53, 54, 55, 56, 57, 58, 59, 60, 61, 62, 63, 64] (by decide +kernel) (by decide +kernel)
set_option maxRecDepth 20000 in
theorem gX7_desk_X7_countDaysOff : GoodIn wsX7_desk (wsV RX7 392 RX7 yX7_countDaysOff wsX7_countDaysOff) := goodIn_app (goodIn_of _ (by decide +kernel)) ggX7_desk_X7_countDaysOff
set_option maxRecDepth 20000 in
theorem ggX7_desk_X7_gapOfHours : GoodIn wsX7_desk wsX7_gapOfHours := goodIn_r _ [41, 4, 19, 42, 43, 44, 45, 46, 47, 48, 49, 50, 51, 52, 53, 54, 55, 56, 57, 58, 59, 60, 61, 62, 63, 64, 77, 78, 79, 80, 81, 82, 83, 84] (by decide +kernel) (by decide +kernel)
set_option maxRecDepth 20000 in
theorem gX7_desk_X7_gapOfHours : GoodIn wsX7_desk (wsV RX7 395 RX7 yX7_gapOfHours wsX7_gapOfHours) := goodIn_app (goodIn_of _ (by decide +kernel)) ggX7_desk_X7_gapOfHours
theorem dX7_desk_0 : decode cX7_desk 0 = .ok (.iload_n 1, 1) := by decide +kernel
theorem dX7_desk_1 : decode cX7_desk 1 = .ok (.tableswitch 136 0 12 #[67, 72, 77, 82, 87, 93, 99, 105, 111, 116, 121, 126, 131], 67) := by decide +kernel
theorem dX7_desk_68 : decode cX7_desk 68 = .ok (.aload_n 0, 1) := by decide +kernel
theorem dX7_desk_69 : decode cX7_desk 69 = .ok (.getfield 54, 3) := by decide +kernel
theorem dX7_desk_72 : decode cX7_desk 72 = .ok (.ireturn, 1) := by decide +kernel
theorem dX7_desk_73 : decode cX7_desk 73 = .ok (.aload_n 0, 1) := by decide +kernel
theorem dX7_desk_74 : decode cX7_desk 74 = .ok (.getfield 44, 3) := by decide +kernel
theorem dX7_desk_77 : decode cX7_desk 77 = .ok (.ireturn, 1) := by decide +kernel
theorem dX7_desk_78 : decode cX7_desk 78 = .ok (.aload_n 0, 1) := by decide +kernel
theorem dX7_desk_79 : decode cX7_desk 79 = .ok (.getfield 48, 3) := by decide +kernel
theorem dX7_desk_82 : decode cX7_desk 82 = .ok (.ireturn, 1) := by decide +kernel
theorem dX7_desk_83 : decode cX7_desk 83 = .ok (.aload_n 0, 1) := by decide +kernel
theorem dX7_desk_84 : decode cX7_desk 84 = .ok (.getfield 51, 3) := by decide +kernel
theorem dX7_desk_87 : decode cX7_desk 87 = .ok (.ireturn, 1) := by decide +kernel
theorem dX7_desk_88 : decode cX7_desk 88 = .ok (.aload_n 0, 1) := by decide +kernel
theorem dX7_desk_89 : decode cX7_desk 89 = .ok (.iconst 0, 1) := by decide +kernel
theorem dX7_desk_90 : decode cX7_desk 90 = .ok (.invokevirtual 383, 3) := by decide +kernel
theorem dX7_desk_93 : decode cX7_desk 93 = .ok (.ireturn, 1) := by decide +kernel
theorem dX7_desk_94 : decode cX7_desk 94 = .ok (.aload_n 0, 1) := by decide +kernel
theorem dX7_desk_95 : decode cX7_desk 95 = .ok (.iconst 1, 1) := by decide +kernel
theorem dX7_desk_96 : decode cX7_desk 96 = .ok (.invokevirtual 383, 3) := by decide +kernel
theorem dX7_desk_99 : decode cX7_desk 99 = .ok (.ireturn, 1) := by decide +kernel
theorem dX7_desk_100 : decode cX7_desk 100 = .ok (.aload_n 0, 1) := by decide +kernel
theorem dX7_desk_101 : decode cX7_desk 101 = .ok (.iconst 2, 1) := by decide +kernel
theorem dX7_desk_102 : decode cX7_desk 102 = .ok (.invokevirtual 383, 3) := by decide +kernel
theorem dX7_desk_105 : decode cX7_desk 105 = .ok (.ireturn, 1) := by decide +kernel
theorem dX7_desk_106 : decode cX7_desk 106 = .ok (.aload_n 0, 1) := by decide +kernel
theorem dX7_desk_107 : decode cX7_desk 107 = .ok (.iconst 3, 1) := by decide +kernel
theorem dX7_desk_108 : decode cX7_desk 108 = .ok (.invokevirtual 383, 3) := by decide +kernel
theorem dX7_desk_111 : decode cX7_desk 111 = .ok (.ireturn, 1) := by decide +kernel
theorem dX7_desk_112 : decode cX7_desk 112 = .ok (.aload_n 0, 1) := by decide +kernel
theorem dX7_desk_113 : decode cX7_desk 113 = .ok (.getfield 57, 3) := by decide +kernel
theorem dX7_desk_116 : decode cX7_desk 116 = .ok (.ireturn, 1) := by decide +kernel
theorem dX7_desk_117 : decode cX7_desk 117 = .ok (.aload_n 0, 1) := by decide +kernel
theorem dX7_desk_118 : decode cX7_desk 118 = .ok (.invokevirtual 386, 3) := by decide +kernel
theorem dX7_desk_121 : decode cX7_desk 121 = .ok (.ireturn, 1) := by decide +kernel
theorem dX7_desk_122 : decode cX7_desk 122 = .ok (.aload_n 0, 1) := by decide +kernel
theorem dX7_desk_123 : decode cX7_desk 123 = .ok (.invokevirtual 389, 3) := by decide +kernel
theorem dX7_desk_126 : decode cX7_desk 126 = .ok (.ireturn, 1) := by decide +kernel
theorem dX7_desk_127 : decode cX7_desk 127 = .ok (.aload_n 0, 1) := by decide +kernel
theorem dX7_desk_128 : decode cX7_desk 128 = .ok (.invokevirtual 392, 3) := by decide +kernel
theorem dX7_desk_131 : decode cX7_desk 131 = .ok (.ireturn, 1) := by decide +kernel
theorem dX7_desk_132 : decode cX7_desk 132 = .ok (.aload_n 0, 1) := by decide +kernel
theorem dX7_desk_133 : decode cX7_desk 133 = .ok (.invokevirtual 395, 3) := by decide +kernel
theorem dX7_desk_136 : decode cX7_desk 136 = .ok (.ireturn, 1) := by decide +kernel
theorem dX7_desk_137 : decode cX7_desk 137 = .ok (.new 101, 3) := by decide +kernel
theorem dX7_desk_140 : decode cX7_desk 140 = .ok (.dup, 1) := by decide +kernel
theorem dX7_desk_141 : decode cX7_desk 141 = .ok (.ldc_w 398, 3) := by decide +kernel
theorem dX7_desk_144 : decode cX7_desk 144 = .ok (.invokespecial 105, 3) := by decide +kernel
theorem dX7_desk_147 : decode cX7_desk 147 = .ok (.athrow, 1) := by decide +kernel
set_option maxRecDepth 20000 in
theorem ggX7_isSound_X7_areFixedOnesSound : GoodIn wsX7_isSound wsX7_areFixedOnesSound := goodIn_r _ [5, 6, 7, 8, 9, 10, 11, 4, 12, 13, 14, 15, 16, 17, 18, 19, 20, 21, 22, 23, 24, 55, 56, 57, 58, 59, 60, 61, 62, 63, 64, 65, 66, 67, 68, 69, 70, 71, 72, 73, 74, 75, 76, 77, 78, 79, 80, 81, 82, 83, 84] (by decide +kernel) (by decide +kernel)
set_option maxRecDepth 20000 in
theorem gX7_isSound_X7_areFixedOnesSound : GoodIn wsX7_isSound (wsV RX7 437 RX7 yX7_areFixedOnesSound wsX7_areFixedOnesSound) := goodIn_app (goodIn_of _ (by decide +kernel)) ggX7_isSound_X7_areFixedOnesSound
set_option maxRecDepth 20000 in
theorem ggX7_isSound_X7_isCashSound : GoodIn wsX7_isSound wsX7_isCashSound := goodIn_r _ [28, 6, 7, 29, 30, 31, 32, 33, 4, 34, 35, 36, 37, 55, 56, 57, 58, 59, 60, 61, 62, 63, 64, 65, 66, 67, 68, 69, 70, 71, 72, 73, 74, 75, 76, 77, 78, 79, 80, 81, 85, 86, 87, 88, 89, 90, 91, 92] (by decide +kernel) (by decide +kernel)
set_option maxRecDepth 20000 in
theorem gX7_isSound_X7_isCashSound : GoodIn wsX7_isSound (wsV RX7 441 RX7 yX7_isCashSound wsX7_isCashSound) := goodIn_app (goodIn_of _ (by decide +kernel)) ggX7_isSound_X7_isCashSound
set_option maxRecDepth 20000 in
theorem ggX7_isSound_X7_areHoursSound : GoodIn wsX7_isSound wsX7_areHoursSound := goodIn_r _ [41, 35, 36, 42, 6, 7, 8, 43, 13, 18, 19, 20, 21, 22, 23, 24, 55, 56, 57, 58, 59, 60, 61, 62, 63, 64, 65, 66, 67, 68, 69, 85, 86, 87, 88, 89, 90, 91, 92, 70, 71, 72, 73, 74, 75, 76, 77, 78, 79, 80, 81] (by decide +kernel) (by decide +kernel)
set_option maxRecDepth 20000 in
theorem gX7_isSound_X7_areHoursSound : GoodIn wsX7_isSound (wsV RX7 444 RX7 yX7_areHoursSound wsX7_areHoursSound) := goodIn_app (goodIn_of _ (by decide +kernel)) ggX7_isSound_X7_areHoursSound
set_option maxRecDepth 20000 in
theorem ggX7_isSound_X7_areSharesSound : GoodIn wsX7_isSound wsX7_areSharesSound := goodIn_r _ [47, 48, 49, 50, 51, 4, 52, 53, 54, 55, 56, 57, 58, 59, 60, 61, 62, 63, 64, 65, 66, 67, 68, 69, 93, 94, 95, 96] (by decide +kernel) (by decide +kernel)
set_option maxRecDepth 20000 in
theorem gX7_isSound_X7_areSharesSound : GoodIn wsX7_isSound (wsV RX7 447 RX7 yX7_areSharesSound wsX7_areSharesSound) := goodIn_app (goodIn_of _ (by decide +kernel)) ggX7_isSound_X7_areSharesSound
theorem dX7_isSound_0 : decode cX7_isSound 0 = .ok (.aload_n 0, 1) := by decide +kernel
theorem dX7_isSound_1 : decode cX7_isSound 1 = .ok (.invokevirtual 437, 3) := by decide +kernel
theorem dX7_isSound_4 : decode cX7_isSound 4 = .ok (.ifCond .eq 28, 3) := by decide +kernel
theorem dX7_isSound_7 : decode cX7_isSound 7 = .ok (.aload_n 0, 1) := by decide +kernel
theorem dX7_isSound_8 : decode cX7_isSound 8 = .ok (.invokevirtual 441, 3) := by decide +kernel
theorem dX7_isSound_11 : decode cX7_isSound 11 = .ok (.ifCond .eq 21, 3) := by decide +kernel
theorem dX7_isSound_14 : decode cX7_isSound 14 = .ok (.aload_n 0, 1) := by decide +kernel
theorem dX7_isSound_15 : decode cX7_isSound 15 = .ok (.invokevirtual 444, 3) := by decide +kernel
theorem dX7_isSound_18 : decode cX7_isSound 18 = .ok (.ifCond .eq 14, 3) := by decide +kernel
theorem dX7_isSound_21 : decode cX7_isSound 21 = .ok (.aload_n 0, 1) := by decide +kernel
theorem dX7_isSound_22 : decode cX7_isSound 22 = .ok (.invokevirtual 447, 3) := by decide +kernel
theorem dX7_isSound_25 : decode cX7_isSound 25 = .ok (.ifCond .eq 7, 3) := by decide +kernel
theorem dX7_isSound_28 : decode cX7_isSound 28 = .ok (.iconst 1, 1) := by decide +kernel
theorem dX7_isSound_29 : decode cX7_isSound 29 = .ok (.goto 4, 3) := by decide +kernel
theorem dX7_isSound_32 : decode cX7_isSound 32 = .ok (.iconst 0, 1) := by decide +kernel
theorem dX7_isSound_33 : decode cX7_isSound 33 = .ok (.ireturn, 1) := by decide +kernel
set_option maxRecDepth 20000 in
theorem ggX7_digest_X7_desk : GoodIn wsX7_digest wsX7_desk := goodIn_ca (goodIn_r _ [10, 11, 12, 13, 3, 4, 5, 14, 15, 16, 17, 9, 18, 19, 20, 21, 22, 23, 24, 25, 26, 27, 28, 29, 30, 31, 32, 33, 34, 35, 36, 37, 38, 39, 40, 41, 42, 43, 44, 45, 46, 47, 48, 49, 50, 51, 52, 53, 54, 55, 312, 313, 314, 315, 316, 317, 318, 319, 320, 321, 322, 323, 324, 325, 326, 327, 328, 329, 330, 331, 332, 333, 334, 335, 336, 337, 338, 339, 340, 341, 342, 343, 344, 345, 346] (by decide +kernel) (by decide +kernel)) (goodIn_sub (fun _ h => List.mem_cons_of_mem _ (List.mem_append_left _ (List.mem_append_right _ h))) (by decide +kernel))
set_option maxRecDepth 20000 in
theorem gX7_digest_X7_desk : GoodIn wsX7_digest (wsV RX7 454 RX7 yX7_desk wsX7_desk) := goodIn_app (goodIn_of _ (by decide +kernel)) ggX7_digest_X7_desk
set_option maxRecDepth 20000 in
theorem ggX7_digest_X7_ofPlayer : GoodIn wsX7_digest wsX7_ofPlayer := goodIn_ca (goodIn_ca (goodIn_r _ [59, 11, 12, 25, 60, 61, 62, 63, 26, 38, 64, 48, 65, 66, 67, 9, 68, 69, 70, 3, 71, 72, 73, 74, 5, 19, 75, 76, 77, 78, 79, 80, 81, 82, 83, 312, 313, 314, 315, 316, 317, 318, 319, 320, 321, 322, 323, 324, 325, 326, 339, 340, 341, 342, 343, 344, 345, 346, 327, 328, 329, 330, 331, 332, 333, 334, 335, 336, 337, 338] (by decide +kernel) (by decide +kernel)) (goodIn_sub (fun _ h => List.mem_cons_of_mem _ (List.mem_append_left _ (List.mem_append_right _ h))) (by decide +kernel))) (goodIn_sub (fun _ h => List.mem_cons_of_mem _ (List.mem_append_right _ h)) (by decide +kernel))
set_option maxRecDepth 20000 in
theorem gX7_digest_X7_ofPlayer : GoodIn wsX7_digest (wsV RX7 457 RX7 yX7_ofPlayer wsX7_ofPlayer) := goodIn_app (goodIn_of _ (by decide +kernel)) ggX7_digest_X7_ofPlayer
set_option maxRecDepth 20000 in
theorem ggX7_digest_X7_ofSong : GoodIn wsX7_digest wsX7_ofSong := goodIn_ca (goodIn_ca (goodIn_r _ [87, 11, 12, 88, 89, 90, 91, 92, 93, 94, 9, 95, 69, 70, 96, 97, 98, 99, 100, 101, 102, 103, 3, 25, 61, 104, 82, 83, 312, 313, 314, 315, 316, 317, 318, 319, 320, 321, 322, 323, 324, 325, 326, 347, 348, 349, 350, 339, 340, 341, 342, 343, 344, 345, 346] (by decide +kernel) (by decide +kernel)) (goodIn_sub (fun _ h => List.mem_cons_of_mem _ (List.mem_append_left _ (List.mem_append_right _ h))) (by decide +kernel))) (goodIn_sub (fun _ h => List.mem_cons_of_mem _ (List.mem_append_right _ h)) (by decide +kernel))
set_option maxRecDepth 20000 in
theorem gX7_digest_X7_ofSong : GoodIn wsX7_digest (wsV RX7 460 RX7 yX7_ofSong wsX7_ofSong) := goodIn_app (goodIn_of _ (by decide +kernel)) ggX7_digest_X7_ofSong
set_option maxRecDepth 20000 in
theorem ggX7_digest_X7_ofBand : GoodIn wsX7_digest wsX7_ofBand := goodIn_ca (goodIn_ca (goodIn_r _ [108, 11, 12, 109, 110, 111, 112, 113, 114, 9, 115, 69, 70, 4, 116, 117, 118, 119, 5, 19, 120, 20, 312, 313, 314, 315, 316, 317, 318, 319, 320, 321, 322, 323, 324, 325, 326, 351, 352, 353, 327, 328, 329, 330, 331, 332, 333, 334, 335, 336, 337, 338] (by decide +kernel) (by decide +kernel)) (goodIn_sub (fun _ h => List.mem_cons_of_mem _ (List.mem_append_left _ (List.mem_append_right _ h))) (by decide +kernel))) (goodIn_sub (fun _ h => List.mem_cons_of_mem _ (List.mem_append_right _ h)) (by decide +kernel))
set_option maxRecDepth 20000 in
theorem gX7_digest_X7_ofBand : GoodIn wsX7_digest (wsV RX7 463 RX7 yX7_ofBand wsX7_ofBand) := goodIn_app (goodIn_of _ (by decide +kernel)) ggX7_digest_X7_ofBand
set_option maxRecDepth 20000 in
theorem ggX7_digest_X7_digestWedding : GoodIn wsX7_digest wsX7_digestWedding := goodIn_ca (goodIn_ca (goodIn_r _ [124, 2, 19, 20, 125, 126, 127, 128, 129, 130, 131, 132, 133, 9, 134, 11, 12, 120, 135, 136, 137, 138, 139, 140, 141, 142, 143, 144, 145, 146, 69, 70, 5, 147, 148, 149, 150, 151, 152, 153, 154, 155, 156, 157, 78, 158, 159, 160, 161, 162, 54, 51, 55, 163, 164, 165, 166, 167, 168, 169, 170, 171, 172, 173, 174, 175, 3, 176, 177, 178, 179, 43, 180, 25, 62, 53, 49, 50, 52, 104, 82, 83, 181, 182, 183, 184, 185, 186, 187, 188, 189, 190, 191, 192, 193, 194, 109, 111, 195, 196, 197, 198, 199, 200, 201, 202, 203, 204, 205, 206, 207, 208, 209, 210, 211, 212, 213, 214, 60, 215, 27, 28, 29, 30, 31, 32, 33, 216, 217, 218, 219, 61, 220, 221, 222, 223, 26, 224, 225, 226, 227, 228, 229, 230, 231, 63, 232, 233, 234, 235, 236, 237, 238, 239, 240, 88, 241, 242, 243, 244, 245, 246, 247, 248, 249, 250, 251, 252, 253, 254, 255, 256, 257, 258, 259, 260, 261, 262, 263, 264, 265, 266, 267, 268, 269, 270, 271, 272, 273, 274, 275, 276, 277, 312, 313, 314, 315, 316, 317, 318, 319, 320, 321, 322, 323, 324, 325, 326, 327, 328, 329, 330, 331, 332, 333, 334, 335, 336, 337, 338, 354, 355, 356, 357, 358, 359, 339, 340, 341, 342, 343, 344, 345, 346, 360, 361, 351, 352, 353, 362, 363, 364, 365, 366, 367, 368, 347, 348, 349, 350] (by decide +kernel) (by decide +kernel)) (goodIn_sub (fun _ h => List.mem_cons_of_mem _ (List.mem_append_left _ (List.mem_append_right _ h))) (by decide +kernel))) (goodIn_sub (fun _ h => List.mem_cons_of_mem _ (List.mem_append_right _ h)) (by decide +kernel))
set_option maxRecDepth 20000 in
theorem gX7_digest_X7_digestWedding : GoodIn wsX7_digest (wsV RX7 466 RX7 yX7_digestWedding wsX7_digestWedding) := goodIn_app (goodIn_of _ (by decide +kernel)) ggX7_digest_X7_digestWedding
set_option maxRecDepth 20000 in
theorem ggX7_digest_X7_set : GoodIn wsX7_digest wsX7_set := goodIn_ca (goodIn_r _ [239, 11, 12, 3, 240, 88, 241, 242, 216, 217, 218, 9, 219, 25, 61, 104, 82, 83, 27, 28, 29, 30, 31, 32, 33, 243, 244, 245, 246, 247, 248, 249, 250, 251, 252, 253, 254, 255, 256, 257, 258, 259, 260, 261, 262, 263, 264, 265, 266, 51, 267, 268, 269, 270, 271, 272, 273, 274, 275, 276, 277, 312, 313, 314, 315, 316, 317, 318, 319, 320, 321, 322, 323, 324, 325, 326, 362, 363, 364, 365, 366, 367, 368, 339, 340, 341, 342, 343, 344, 345, 346, 347, 348, 349, 350] (by decide +kernel) (by decide +kernel)) (goodIn_sub (fun _ h => List.mem_cons_of_mem _ (List.mem_append_left _ (List.mem_append_right _ h))) (by decide +kernel))
set_option maxRecDepth 20000 in
theorem gX7_digest_X7_set : GoodIn wsX7_digest (wsV RX7 470 RX7 yX7_set wsX7_set) := goodIn_app (goodIn_of _ (by decide +kernel)) ggX7_digest_X7_set
set_option maxRecDepth 20000 in
theorem ggX7_digest_X7_drive : GoodIn wsX7_digest wsX7_drive := goodIn_ca (goodIn_r _ [281, 180, 282, 283, 9, 284, 69, 70, 285, 286, 287, 181, 182, 183, 184, 185, 186, 312, 313, 314, 315, 316, 317, 318, 319, 320, 321, 322, 323, 324, 325, 326, 360, 361] (by decide +kernel) (by decide +kernel)) (goodIn_sub (fun _ h => List.mem_cons_of_mem _ (List.mem_append_right _ h)) (by decide +kernel))
set_option maxRecDepth 20000 in
theorem gX7_digest_X7_drive : GoodIn wsX7_digest (wsV RX7 473 RX7 yX7_drive wsX7_drive) := goodIn_app (goodIn_of _ (by decide +kernel)) ggX7_digest_X7_drive
set_option maxRecDepth 20000 in
theorem ggX7_digest_X7_isSound : GoodIn wsX7_digest wsX7_isSound := goodIn_r _ [291, 292, 293, 294, 9, 295, 5, 19, 20, 296, 297, 298, 299, 130, 109, 120, 111, 135, 27, 28, 29, 30, 31, 32, 33, 300, 301, 302, 303, 142, 14, 34, 35, 36, 37, 3, 25, 38, 304, 305, 306, 307, 48, 138, 308, 309, 310, 311, 88, 96, 97, 98, 99, 91, 92, 312, 313, 314, 315, 316, 317, 318, 319, 320, 321, 322, 323, 324, 325, 326, 327, 328, 329, 330, 331, 332, 333, 334, 335, 336, 337, 338, 351, 352, 353, 339, 340, 341, 342, 343, 344, 345, 346, 347, 348, 349, 350] (by decide +kernel) (by decide +kernel)
set_option maxRecDepth 20000 in
theorem gX7_digest_X7_isSound : GoodIn wsX7_digest (wsV RX7 476 RX7 yX7_isSound wsX7_isSound) := goodIn_app (goodIn_of _ (by decide +kernel)) ggX7_digest_X7_isSound
theorem dX7_digest_0 : decode cX7_digest 0 = .ok (.ldc2_w 450, 3) := by decide +kernel
theorem dX7_digest_3 : decode cX7_digest 3 = .ok (.lstore_n 1, 1) := by decide +kernel
theorem dX7_digest_4 : decode cX7_digest 4 = .ok (.iconst 0, 1) := by decide +kernel
theorem dX7_digest_5 : decode cX7_digest 5 = .ok (.istore_n 3, 1) := by decide +kernel
theorem dX7_digest_6 : decode cX7_digest 6 = .ok (.iload_n 3, 1) := by decide +kernel
theorem dX7_digest_7 : decode cX7_digest 7 = .ok (.bipush 12, 2) := by decide +kernel
theorem dX7_digest_9 : decode cX7_digest 9 = .ok (.if_icmp .gt 22, 3) := by decide +kernel
theorem dX7_digest_12 : decode cX7_digest 12 = .ok (.lload_n 1, 1) := by decide +kernel
theorem dX7_digest_13 : decode cX7_digest 13 = .ok (.ldc2_w 452, 3) := by decide +kernel
theorem dX7_digest_16 : decode cX7_digest 16 = .ok (.lmul, 1) := by decide +kernel
theorem dX7_digest_17 : decode cX7_digest 17 = .ok (.aload_n 0, 1) := by decide +kernel
theorem dX7_digest_18 : decode cX7_digest 18 = .ok (.iload_n 3, 1) := by decide +kernel
theorem dX7_digest_19 : decode cX7_digest 19 = .ok (.invokevirtual 454, 3) := by decide +kernel
theorem dX7_digest_22 : decode cX7_digest 22 = .ok (.i2l, 1) := by decide +kernel
theorem dX7_digest_23 : decode cX7_digest 23 = .ok (.ladd, 1) := by decide +kernel
theorem dX7_digest_24 : decode cX7_digest 24 = .ok (.lstore_n 1, 1) := by decide +kernel
theorem dX7_digest_25 : decode cX7_digest 25 = .ok (.iinc 3 1, 3) := by decide +kernel
theorem dX7_digest_28 : decode cX7_digest 28 = .ok (.goto (-22), 3) := by decide +kernel
theorem dX7_digest_31 : decode cX7_digest 31 = .ok (.iconst 0, 1) := by decide +kernel
theorem dX7_digest_32 : decode cX7_digest 32 = .ok (.istore_n 3, 1) := by decide +kernel
theorem dX7_digest_33 : decode cX7_digest 33 = .ok (.iload_n 3, 1) := by decide +kernel
theorem dX7_digest_34 : decode cX7_digest 34 = .ok (.aload_n 0, 1) := by decide +kernel
theorem dX7_digest_35 : decode cX7_digest 35 = .ok (.getfield 44, 3) := by decide +kernel
theorem dX7_digest_38 : decode cX7_digest 38 = .ok (.if_icmp .ge 40, 3) := by decide +kernel
theorem dX7_digest_41 : decode cX7_digest 41 = .ok (.iconst 0, 1) := by decide +kernel
theorem dX7_digest_42 : decode cX7_digest 42 = .ok (.istore 4, 2) := by decide +kernel
theorem dX7_digest_44 : decode cX7_digest 44 = .ok (.iload 4, 2) := by decide +kernel
theorem dX7_digest_46 : decode cX7_digest 46 = .ok (.bipush 8, 2) := by decide +kernel
theorem dX7_digest_48 : decode cX7_digest 48 = .ok (.if_icmp .gt 24, 3) := by decide +kernel
theorem dX7_digest_51 : decode cX7_digest 51 = .ok (.lload_n 1, 1) := by decide +kernel
theorem dX7_digest_52 : decode cX7_digest 52 = .ok (.ldc2_w 452, 3) := by decide +kernel
theorem dX7_digest_55 : decode cX7_digest 55 = .ok (.lmul, 1) := by decide +kernel
theorem dX7_digest_56 : decode cX7_digest 56 = .ok (.aload_n 0, 1) := by decide +kernel
theorem dX7_digest_57 : decode cX7_digest 57 = .ok (.iload_n 3, 1) := by decide +kernel
theorem dX7_digest_58 : decode cX7_digest 58 = .ok (.iload 4, 2) := by decide +kernel
theorem dX7_digest_60 : decode cX7_digest 60 = .ok (.invokevirtual 457, 3) := by decide +kernel
theorem dX7_digest_63 : decode cX7_digest 63 = .ok (.i2l, 1) := by decide +kernel
theorem dX7_digest_64 : decode cX7_digest 64 = .ok (.ladd, 1) := by decide +kernel
theorem dX7_digest_65 : decode cX7_digest 65 = .ok (.lstore_n 1, 1) := by decide +kernel
theorem dX7_digest_66 : decode cX7_digest 66 = .ok (.iinc 4 1, 3) := by decide +kernel
theorem dX7_digest_69 : decode cX7_digest 69 = .ok (.goto (-25), 3) := by decide +kernel
theorem dX7_digest_72 : decode cX7_digest 72 = .ok (.iinc 3 1, 3) := by decide +kernel
theorem dX7_digest_75 : decode cX7_digest 75 = .ok (.goto (-42), 3) := by decide +kernel
theorem dX7_digest_78 : decode cX7_digest 78 = .ok (.iconst 0, 1) := by decide +kernel
theorem dX7_digest_79 : decode cX7_digest 79 = .ok (.istore_n 3, 1) := by decide +kernel
theorem dX7_digest_80 : decode cX7_digest 80 = .ok (.iload_n 3, 1) := by decide +kernel
theorem dX7_digest_81 : decode cX7_digest 81 = .ok (.bipush 16, 2) := by decide +kernel
theorem dX7_digest_83 : decode cX7_digest 83 = .ok (.if_icmp .ge 39, 3) := by decide +kernel
theorem dX7_digest_86 : decode cX7_digest 86 = .ok (.iconst 0, 1) := by decide +kernel
theorem dX7_digest_87 : decode cX7_digest 87 = .ok (.istore 4, 2) := by decide +kernel
theorem dX7_digest_89 : decode cX7_digest 89 = .ok (.iload 4, 2) := by decide +kernel
theorem dX7_digest_91 : decode cX7_digest 91 = .ok (.iconst 5, 1) := by decide +kernel
theorem dX7_digest_92 : decode cX7_digest 92 = .ok (.if_icmp .gt 24, 3) := by decide +kernel
theorem dX7_digest_95 : decode cX7_digest 95 = .ok (.lload_n 1, 1) := by decide +kernel
theorem dX7_digest_96 : decode cX7_digest 96 = .ok (.ldc2_w 452, 3) := by decide +kernel
theorem dX7_digest_99 : decode cX7_digest 99 = .ok (.lmul, 1) := by decide +kernel
theorem dX7_digest_100 : decode cX7_digest 100 = .ok (.aload_n 0, 1) := by decide +kernel
theorem dX7_digest_101 : decode cX7_digest 101 = .ok (.iload_n 3, 1) := by decide +kernel
theorem dX7_digest_102 : decode cX7_digest 102 = .ok (.iload 4, 2) := by decide +kernel
theorem dX7_digest_104 : decode cX7_digest 104 = .ok (.invokevirtual 460, 3) := by decide +kernel
theorem dX7_digest_107 : decode cX7_digest 107 = .ok (.i2l, 1) := by decide +kernel
theorem dX7_digest_108 : decode cX7_digest 108 = .ok (.ladd, 1) := by decide +kernel
theorem dX7_digest_109 : decode cX7_digest 109 = .ok (.lstore_n 1, 1) := by decide +kernel
theorem dX7_digest_110 : decode cX7_digest 110 = .ok (.iinc 4 1, 3) := by decide +kernel
theorem dX7_digest_113 : decode cX7_digest 113 = .ok (.goto (-24), 3) := by decide +kernel
theorem dX7_digest_116 : decode cX7_digest 116 = .ok (.iinc 3 1, 3) := by decide +kernel
theorem dX7_digest_119 : decode cX7_digest 119 = .ok (.goto (-39), 3) := by decide +kernel
theorem dX7_digest_122 : decode cX7_digest 122 = .ok (.iconst 0, 1) := by decide +kernel
theorem dX7_digest_123 : decode cX7_digest 123 = .ok (.istore_n 3, 1) := by decide +kernel
theorem dX7_digest_124 : decode cX7_digest 124 = .ok (.iload_n 3, 1) := by decide +kernel
theorem dX7_digest_125 : decode cX7_digest 125 = .ok (.aload_n 0, 1) := by decide +kernel
theorem dX7_digest_126 : decode cX7_digest 126 = .ok (.getfield 48, 3) := by decide +kernel
theorem dX7_digest_129 : decode cX7_digest 129 = .ok (.if_icmp .ge 40, 3) := by decide +kernel
theorem dX7_digest_132 : decode cX7_digest 132 = .ok (.iconst 0, 1) := by decide +kernel
theorem dX7_digest_133 : decode cX7_digest 133 = .ok (.istore 4, 2) := by decide +kernel
theorem dX7_digest_135 : decode cX7_digest 135 = .ok (.iload 4, 2) := by decide +kernel
theorem dX7_digest_137 : decode cX7_digest 137 = .ok (.bipush 8, 2) := by decide +kernel
theorem dX7_digest_139 : decode cX7_digest 139 = .ok (.if_icmp .gt 24, 3) := by decide +kernel
theorem dX7_digest_142 : decode cX7_digest 142 = .ok (.lload_n 1, 1) := by decide +kernel
theorem dX7_digest_143 : decode cX7_digest 143 = .ok (.ldc2_w 452, 3) := by decide +kernel
theorem dX7_digest_146 : decode cX7_digest 146 = .ok (.lmul, 1) := by decide +kernel
theorem dX7_digest_147 : decode cX7_digest 147 = .ok (.aload_n 0, 1) := by decide +kernel
theorem dX7_digest_148 : decode cX7_digest 148 = .ok (.iload_n 3, 1) := by decide +kernel
theorem dX7_digest_149 : decode cX7_digest 149 = .ok (.iload 4, 2) := by decide +kernel
theorem dX7_digest_151 : decode cX7_digest 151 = .ok (.invokevirtual 463, 3) := by decide +kernel
theorem dX7_digest_154 : decode cX7_digest 154 = .ok (.i2l, 1) := by decide +kernel
theorem dX7_digest_155 : decode cX7_digest 155 = .ok (.ladd, 1) := by decide +kernel
theorem dX7_digest_156 : decode cX7_digest 156 = .ok (.lstore_n 1, 1) := by decide +kernel
theorem dX7_digest_157 : decode cX7_digest 157 = .ok (.iinc 4 1, 3) := by decide +kernel
theorem dX7_digest_160 : decode cX7_digest 160 = .ok (.goto (-25), 3) := by decide +kernel
theorem dX7_digest_163 : decode cX7_digest 163 = .ok (.iinc 3 1, 3) := by decide +kernel
theorem dX7_digest_166 : decode cX7_digest 166 = .ok (.goto (-42), 3) := by decide +kernel
theorem dX7_digest_169 : decode cX7_digest 169 = .ok (.iconst 0, 1) := by decide +kernel
theorem dX7_digest_170 : decode cX7_digest 170 = .ok (.istore_n 3, 1) := by decide +kernel
theorem dX7_digest_171 : decode cX7_digest 171 = .ok (.iload_n 3, 1) := by decide +kernel
theorem dX7_digest_172 : decode cX7_digest 172 = .ok (.aload_n 0, 1) := by decide +kernel
theorem dX7_digest_173 : decode cX7_digest 173 = .ok (.getfield 51, 3) := by decide +kernel
theorem dX7_digest_176 : decode cX7_digest 176 = .ok (.if_icmp .ge 16, 3) := by decide +kernel
theorem dX7_digest_179 : decode cX7_digest 179 = .ok (.aload_n 0, 1) := by decide +kernel
theorem dX7_digest_180 : decode cX7_digest 180 = .ok (.lload_n 1, 1) := by decide +kernel
theorem dX7_digest_181 : decode cX7_digest 181 = .ok (.iload_n 3, 1) := by decide +kernel
theorem dX7_digest_182 : decode cX7_digest 182 = .ok (.invokevirtual 466, 3) := by decide +kernel
theorem dX7_digest_185 : decode cX7_digest 185 = .ok (.lstore_n 1, 1) := by decide +kernel
theorem dX7_digest_186 : decode cX7_digest 186 = .ok (.iinc 3 1, 3) := by decide +kernel
theorem dX7_digest_189 : decode cX7_digest 189 = .ok (.goto (-18), 3) := by decide +kernel
theorem dX7_digest_192 : decode cX7_digest 192 = .ok (.lload_n 1, 1) := by decide +kernel
theorem dX7_digest_193 : decode cX7_digest 193 = .ok (.ldc2_w 452, 3) := by decide +kernel
theorem dX7_digest_196 : decode cX7_digest 196 = .ok (.lmul, 1) := by decide +kernel
theorem dX7_digest_197 : decode cX7_digest 197 = .ok (.aload_n 0, 1) := by decide +kernel
theorem dX7_digest_198 : decode cX7_digest 198 = .ok (.iconst 1, 1) := by decide +kernel
theorem dX7_digest_199 : decode cX7_digest 199 = .ok (.aload_n 0, 1) := by decide +kernel
theorem dX7_digest_200 : decode cX7_digest 200 = .ok (.getfield 44, 3) := by decide +kernel
theorem dX7_digest_203 : decode cX7_digest 203 = .ok (.ishl, 1) := by decide +kernel
theorem dX7_digest_204 : decode cX7_digest 204 = .ok (.iconst 1, 1) := by decide +kernel
theorem dX7_digest_205 : decode cX7_digest 205 = .ok (.isub, 1) := by decide +kernel
theorem dX7_digest_206 : decode cX7_digest 206 = .ok (.iconst 1, 1) := by decide +kernel
theorem dX7_digest_207 : decode cX7_digest 207 = .ok (.invokevirtual 470, 3) := by decide +kernel
theorem dX7_digest_210 : decode cX7_digest 210 = .ok (.i2l, 1) := by decide +kernel
theorem dX7_digest_211 : decode cX7_digest 211 = .ok (.ladd, 1) := by decide +kernel
theorem dX7_digest_212 : decode cX7_digest 212 = .ok (.lstore_n 1, 1) := by decide +kernel
theorem dX7_digest_213 : decode cX7_digest 213 = .ok (.lload_n 1, 1) := by decide +kernel
theorem dX7_digest_214 : decode cX7_digest 214 = .ok (.ldc2_w 452, 3) := by decide +kernel
theorem dX7_digest_217 : decode cX7_digest 217 = .ok (.lmul, 1) := by decide +kernel
theorem dX7_digest_218 : decode cX7_digest 218 = .ok (.aload_n 0, 1) := by decide +kernel
theorem dX7_digest_219 : decode cX7_digest 219 = .ok (.iconst 0, 1) := by decide +kernel
theorem dX7_digest_220 : decode cX7_digest 220 = .ok (.iconst 5, 1) := by decide +kernel
theorem dX7_digest_221 : decode cX7_digest 221 = .ok (.invokevirtual 473, 3) := by decide +kernel
theorem dX7_digest_224 : decode cX7_digest 224 = .ok (.i2l, 1) := by decide +kernel
theorem dX7_digest_225 : decode cX7_digest 225 = .ok (.ladd, 1) := by decide +kernel
theorem dX7_digest_226 : decode cX7_digest 226 = .ok (.lstore_n 1, 1) := by decide +kernel
theorem dX7_digest_227 : decode cX7_digest 227 = .ok (.lload_n 1, 1) := by decide +kernel
theorem dX7_digest_228 : decode cX7_digest 228 = .ok (.ldc2_w 452, 3) := by decide +kernel
theorem dX7_digest_231 : decode cX7_digest 231 = .ok (.lmul, 1) := by decide +kernel
theorem dX7_digest_232 : decode cX7_digest 232 = .ok (.aload_n 0, 1) := by decide +kernel
theorem dX7_digest_233 : decode cX7_digest 233 = .ok (.invokevirtual 476, 3) := by decide +kernel
theorem dX7_digest_236 : decode cX7_digest 236 = .ok (.ifCond .eq 7, 3) := by decide +kernel
theorem dX7_digest_239 : decode cX7_digest 239 = .ok (.iconst 1, 1) := by decide +kernel
theorem dX7_digest_240 : decode cX7_digest 240 = .ok (.goto 4, 3) := by decide +kernel
theorem dX7_digest_243 : decode cX7_digest 243 = .ok (.iconst 0, 1) := by decide +kernel
theorem dX7_digest_244 : decode cX7_digest 244 = .ok (.i2l, 1) := by decide +kernel
theorem dX7_digest_245 : decode cX7_digest 245 = .ok (.ladd, 1) := by decide +kernel
theorem dX7_digest_246 : decode cX7_digest 246 = .ok (.lreturn, 1) := by decide +kernel
set_option maxRecDepth 20000 in
theorem ggX7_digestWedding_X7_ofWedding : GoodIn wsX7_digestWedding wsX7_ofWedding := goodIn_ca (goodIn_ca (goodIn_r _ [14, 15, 16, 2, 17, 18, 19, 20, 21, 22, 3, 9, 23, 24, 25, 26, 27, 28, 13, 29, 30, 31, 32, 33, 34, 35, 36, 37, 38, 39, 40, 41, 42, 43, 44, 45, 46, 47, 48, 49, 50, 51, 52, 193, 194, 195, 196, 197, 198, 199, 200, 201, 202, 203, 204, 205, 206, 207, 208, 209, 210, 211, 212, 213, 214, 215, 216, 217, 218, 219] (by decide +kernel) (by decide +kernel)) (goodIn_sub (fun _ h => List.mem_cons_of_mem _ (List.mem_append_left _ (List.mem_append_right _ h))) (by decide +kernel))) (goodIn_sub (fun _ h => List.mem_cons_of_mem _ (List.mem_append_right _ h)) (by decide +kernel))
set_option maxRecDepth 20000 in
theorem gX7_digestWedding_X7_ofWedding : GoodIn wsX7_digestWedding (wsV RX7 479 RX7 yX7_ofWedding wsX7_ofWedding) := goodIn_app (goodIn_of _ (by decide +kernel)) ggX7_digestWedding_X7_ofWedding
set_option maxRecDepth 20000 in
theorem ggX7_digestWedding_X7_surveyNow : GoodIn wsX7_digestWedding wsX7_surveyNow := goodIn_r _ [56, 57, 58, 59, 13, 60, 32, 61, 2, 3, 9, 62, 63, 64, 65, 66, 67, 68, 69, 70, 71, 18, 72, 73, 74, 19, 75, 50, 51, 52, 76, 77, 78, 79, 80, 81, 82, 83, 84, 85, 86, 87, 88, 89, 90, 91, 20, 21, 92, 93, 94, 95, 96, 17, 97, 4, 98, 22, 7, 8, 99, 100, 101, 102, 103, 104, 105, 106, 107, 108, 109, 110, 111, 112, 113, 114, 115, 116, 117, 118, 119, 120, 121, 122, 123, 124, 125, 126, 127, 128, 129, 130, 131, 132, 133, 134, 135, 136, 137, 138, 139, 140, 141, 142, 143, 144, 145, 146, 147, 148, 149, 193, 194, 195, 196, 197, 198, 199, 200, 201, 202, 203, 204, 205, 206, 207, 208, 209, 210, 211, 212, 213, 214, 215, 216, 217, 218, 219, 226, 227, 228, 229, 230, 231, 232, 233, 234, 235, 236, 237, 238, 220, 221, 222, 223, 224, 225] (by decide +kernel) (by decide +kernel)
set_option maxRecDepth 20000 in
theorem gX7_digestWedding_X7_surveyNow : GoodIn wsX7_digestWedding (wsV RX7 222 RX7 yX7_surveyNow wsX7_surveyNow) := goodIn_app (goodIn_of _ (by decide +kernel)) ggX7_digestWedding_X7_surveyNow
set_option maxRecDepth 20000 in
theorem ggX7_digestWedding_X7_set : GoodIn wsX7_digestWedding wsX7_set := goodIn_ca (goodIn_r _ [153, 15, 16, 66, 154, 155, 156, 157, 127, 128, 129, 13, 130, 73, 131, 79, 80, 81, 120, 121, 122, 123, 124, 125, 126, 158, 159, 160, 161, 162, 163, 164, 165, 166, 167, 168, 169, 170, 171, 172, 173, 174, 175, 176, 177, 178, 179, 180, 181, 51, 182, 183, 184, 185, 186, 187, 188, 189, 190, 191, 192, 193, 194, 195, 196, 197, 198, 199, 200, 201, 202, 203, 204, 205, 206, 207, 239, 240, 241, 242, 243, 244, 245, 226, 227, 228, 229, 230, 231, 232, 233, 246, 247, 248, 249] (by decide +kernel) (by decide +kernel)) (goodIn_sub (fun _ h => List.mem_cons_of_mem _ (List.mem_append_left _ (List.mem_append_right _ h))) (by decide +kernel))
set_option maxRecDepth 20000 in
theorem gX7_digestWedding_X7_set : GoodIn wsX7_digestWedding (wsV RX7 470 RX7 yX7_set wsX7_set) := goodIn_app (goodIn_of _ (by decide +kernel)) ggX7_digestWedding_X7_set
theorem dX7_digestWedding_0 : decode cX7_digestWedding 0 = .ok (.lload_n 1, 1) := by decide +kernel
theorem dX7_digestWedding_1 : decode cX7_digestWedding 1 = .ok (.lstore 4, 2) := by decide +kernel
theorem dX7_digestWedding_3 : decode cX7_digestWedding 3 = .ok (.iconst 0, 1) := by decide +kernel
theorem dX7_digestWedding_4 : decode cX7_digestWedding 4 = .ok (.istore 6, 2) := by decide +kernel
theorem dX7_digestWedding_6 : decode cX7_digestWedding 6 = .ok (.iload 6, 2) := by decide +kernel
theorem dX7_digestWedding_8 : decode cX7_digestWedding 8 = .ok (.bipush 12, 2) := by decide +kernel
theorem dX7_digestWedding_10 : decode cX7_digestWedding 10 = .ok (.if_icmp .gt 26, 3) := by decide +kernel
theorem dX7_digestWedding_13 : decode cX7_digestWedding 13 = .ok (.lload 4, 2) := by decide +kernel
theorem dX7_digestWedding_15 : decode cX7_digestWedding 15 = .ok (.ldc2_w 452, 3) := by decide +kernel
theorem dX7_digestWedding_18 : decode cX7_digestWedding 18 = .ok (.lmul, 1) := by decide +kernel
theorem dX7_digestWedding_19 : decode cX7_digestWedding 19 = .ok (.aload_n 0, 1) := by decide +kernel
theorem dX7_digestWedding_20 : decode cX7_digestWedding 20 = .ok (.iload_n 3, 1) := by decide +kernel
theorem dX7_digestWedding_21 : decode cX7_digestWedding 21 = .ok (.iload 6, 2) := by decide +kernel
theorem dX7_digestWedding_23 : decode cX7_digestWedding 23 = .ok (.invokevirtual 479, 3) := by decide +kernel
theorem dX7_digestWedding_26 : decode cX7_digestWedding 26 = .ok (.i2l, 1) := by decide +kernel
theorem dX7_digestWedding_27 : decode cX7_digestWedding 27 = .ok (.ladd, 1) := by decide +kernel
theorem dX7_digestWedding_28 : decode cX7_digestWedding 28 = .ok (.lstore 4, 2) := by decide +kernel
theorem dX7_digestWedding_30 : decode cX7_digestWedding 30 = .ok (.iinc 6 1, 3) := by decide +kernel
theorem dX7_digestWedding_33 : decode cX7_digestWedding 33 = .ok (.goto (-27), 3) := by decide +kernel
theorem dX7_digestWedding_36 : decode cX7_digestWedding 36 = .ok (.aload_n 0, 1) := by decide +kernel
theorem dX7_digestWedding_37 : decode cX7_digestWedding 37 = .ok (.getfield 29, 3) := by decide +kernel
theorem dX7_digestWedding_40 : decode cX7_digestWedding 40 = .ok (.iload_n 3, 1) := by decide +kernel
theorem dX7_digestWedding_41 : decode cX7_digestWedding 41 = .ok (.aaload, 1) := by decide +kernel
theorem dX7_digestWedding_42 : decode cX7_digestWedding 42 = .ok (.getfield 233, 3) := by decide +kernel
theorem dX7_digestWedding_45 : decode cX7_digestWedding 45 = .ok (.ifCond .ne 76, 3) := by decide +kernel
theorem dX7_digestWedding_48 : decode cX7_digestWedding 48 = .ok (.aload_n 0, 1) := by decide +kernel
theorem dX7_digestWedding_49 : decode cX7_digestWedding 49 = .ok (.iload_n 3, 1) := by decide +kernel
theorem dX7_digestWedding_50 : decode cX7_digestWedding 50 = .ok (.invokevirtual 222, 3) := by decide +kernel
theorem dX7_digestWedding_53 : decode cX7_digestWedding 53 = .ok (.lload 4, 2) := by decide +kernel
theorem dX7_digestWedding_55 : decode cX7_digestWedding 55 = .ok (.ldc2_w 452, 3) := by decide +kernel
theorem dX7_digestWedding_58 : decode cX7_digestWedding 58 = .ok (.lmul, 1) := by decide +kernel
theorem dX7_digestWedding_59 : decode cX7_digestWedding 59 = .ok (.aload_n 0, 1) := by decide +kernel
theorem dX7_digestWedding_60 : decode cX7_digestWedding 60 = .ok (.getfield 70, 3) := by decide +kernel
theorem dX7_digestWedding_63 : decode cX7_digestWedding 63 = .ok (.getfield 236, 3) := by decide +kernel
theorem dX7_digestWedding_66 : decode cX7_digestWedding 66 = .ok (.i2l, 1) := by decide +kernel
theorem dX7_digestWedding_67 : decode cX7_digestWedding 67 = .ok (.ladd, 1) := by decide +kernel
theorem dX7_digestWedding_68 : decode cX7_digestWedding 68 = .ok (.lstore 4, 2) := by decide +kernel
theorem dX7_digestWedding_70 : decode cX7_digestWedding 70 = .ok (.lload 4, 2) := by decide +kernel
theorem dX7_digestWedding_72 : decode cX7_digestWedding 72 = .ok (.ldc2_w 452, 3) := by decide +kernel
theorem dX7_digestWedding_75 : decode cX7_digestWedding 75 = .ok (.lmul, 1) := by decide +kernel
theorem dX7_digestWedding_76 : decode cX7_digestWedding 76 = .ok (.aload_n 0, 1) := by decide +kernel
theorem dX7_digestWedding_77 : decode cX7_digestWedding 77 = .ok (.getfield 70, 3) := by decide +kernel
theorem dX7_digestWedding_80 : decode cX7_digestWedding 80 = .ok (.getfield 241, 3) := by decide +kernel
theorem dX7_digestWedding_83 : decode cX7_digestWedding 83 = .ok (.i2l, 1) := by decide +kernel
theorem dX7_digestWedding_84 : decode cX7_digestWedding 84 = .ok (.ladd, 1) := by decide +kernel
theorem dX7_digestWedding_85 : decode cX7_digestWedding 85 = .ok (.lstore 4, 2) := by decide +kernel
theorem dX7_digestWedding_87 : decode cX7_digestWedding 87 = .ok (.lload 4, 2) := by decide +kernel
theorem dX7_digestWedding_89 : decode cX7_digestWedding 89 = .ok (.ldc2_w 452, 3) := by decide +kernel
theorem dX7_digestWedding_92 : decode cX7_digestWedding 92 = .ok (.lmul, 1) := by decide +kernel
theorem dX7_digestWedding_93 : decode cX7_digestWedding 93 = .ok (.aload_n 0, 1) := by decide +kernel
theorem dX7_digestWedding_94 : decode cX7_digestWedding 94 = .ok (.getfield 70, 3) := by decide +kernel
theorem dX7_digestWedding_97 : decode cX7_digestWedding 97 = .ok (.getfield 225, 3) := by decide +kernel
theorem dX7_digestWedding_100 : decode cX7_digestWedding 100 = .ok (.i2l, 1) := by decide +kernel
theorem dX7_digestWedding_101 : decode cX7_digestWedding 101 = .ok (.ladd, 1) := by decide +kernel
theorem dX7_digestWedding_102 : decode cX7_digestWedding 102 = .ok (.lstore 4, 2) := by decide +kernel
theorem dX7_digestWedding_104 : decode cX7_digestWedding 104 = .ok (.lload 4, 2) := by decide +kernel
theorem dX7_digestWedding_106 : decode cX7_digestWedding 106 = .ok (.ldc2_w 452, 3) := by decide +kernel
theorem dX7_digestWedding_109 : decode cX7_digestWedding 109 = .ok (.lmul, 1) := by decide +kernel
theorem dX7_digestWedding_110 : decode cX7_digestWedding 110 = .ok (.aload_n 0, 1) := by decide +kernel
theorem dX7_digestWedding_111 : decode cX7_digestWedding 111 = .ok (.getfield 70, 3) := by decide +kernel
theorem dX7_digestWedding_114 : decode cX7_digestWedding 114 = .ok (.getfield 350, 3) := by decide +kernel
theorem dX7_digestWedding_117 : decode cX7_digestWedding 117 = .ok (.i2l, 1) := by decide +kernel
theorem dX7_digestWedding_118 : decode cX7_digestWedding 118 = .ok (.ladd, 1) := by decide +kernel
theorem dX7_digestWedding_119 : decode cX7_digestWedding 119 = .ok (.lstore 4, 2) := by decide +kernel
theorem dX7_digestWedding_121 : decode cX7_digestWedding 121 = .ok (.lload 4, 2) := by decide +kernel
theorem dX7_digestWedding_123 : decode cX7_digestWedding 123 = .ok (.ldc2_w 452, 3) := by decide +kernel
theorem dX7_digestWedding_126 : decode cX7_digestWedding 126 = .ok (.lmul, 1) := by decide +kernel
theorem dX7_digestWedding_127 : decode cX7_digestWedding 127 = .ok (.aload_n 0, 1) := by decide +kernel
theorem dX7_digestWedding_128 : decode cX7_digestWedding 128 = .ok (.aload_n 0, 1) := by decide +kernel
theorem dX7_digestWedding_129 : decode cX7_digestWedding 129 = .ok (.getfield 29, 3) := by decide +kernel
theorem dX7_digestWedding_132 : decode cX7_digestWedding 132 = .ok (.iload_n 3, 1) := by decide +kernel
theorem dX7_digestWedding_133 : decode cX7_digestWedding 133 = .ok (.aaload, 1) := by decide +kernel
theorem dX7_digestWedding_134 : decode cX7_digestWedding 134 = .ok (.getfield 239, 3) := by decide +kernel
theorem dX7_digestWedding_137 : decode cX7_digestWedding 137 = .ok (.iconst 0, 1) := by decide +kernel
theorem dX7_digestWedding_138 : decode cX7_digestWedding 138 = .ok (.invokevirtual 470, 3) := by decide +kernel
theorem dX7_digestWedding_141 : decode cX7_digestWedding 141 = .ok (.i2l, 1) := by decide +kernel
theorem dX7_digestWedding_142 : decode cX7_digestWedding 142 = .ok (.ladd, 1) := by decide +kernel
theorem dX7_digestWedding_143 : decode cX7_digestWedding 143 = .ok (.lreturn, 1) := by decide +kernel
theorem dX7_has_0 : decode cX7_has 0 = .ok (.iload_n 0, 1) := by decide +kernel
theorem dX7_has_1 : decode cX7_has 1 = .ok (.iload_n 1, 1) := by decide +kernel
theorem dX7_has_2 : decode cX7_has 2 = .ok (.ishr, 1) := by decide +kernel
theorem dX7_has_3 : decode cX7_has 3 = .ok (.iconst 1, 1) := by decide +kernel
theorem dX7_has_4 : decode cX7_has 4 = .ok (.iand, 1) := by decide +kernel
theorem dX7_has_5 : decode cX7_has 5 = .ok (.ifCond .eq 7, 3) := by decide +kernel
theorem dX7_has_8 : decode cX7_has 8 = .ok (.iconst 1, 1) := by decide +kernel
theorem dX7_has_9 : decode cX7_has 9 = .ok (.goto 4, 3) := by decide +kernel
theorem dX7_has_12 : decode cX7_has 12 = .ok (.iconst 0, 1) := by decide +kernel
theorem dX7_has_13 : decode cX7_has 13 = .ok (.ireturn, 1) := by decide +kernel
theorem dX7_isTown_0 : decode cX7_isTown 0 = .ok (.iload_n 0, 1) := by decide +kernel
theorem dX7_isTown_1 : decode cX7_isTown 1 = .ok (.ifCond .lt 13, 3) := by decide +kernel
theorem dX7_isTown_4 : decode cX7_isTown 4 = .ok (.iload_n 0, 1) := by decide +kernel
theorem dX7_isTown_5 : decode cX7_isTown 5 = .ok (.bipush 6, 2) := by decide +kernel
theorem dX7_isTown_7 : decode cX7_isTown 7 = .ok (.if_icmp .ge 7, 3) := by decide +kernel
theorem dX7_isTown_10 : decode cX7_isTown 10 = .ok (.iconst 1, 1) := by decide +kernel
theorem dX7_isTown_11 : decode cX7_isTown 11 = .ok (.goto 4, 3) := by decide +kernel
theorem dX7_isTown_14 : decode cX7_isTown 14 = .ok (.iconst 0, 1) := by decide +kernel
theorem dX7_isTown_15 : decode cX7_isTown 15 = .ok (.ireturn, 1) := by decide +kernel
theorem dX7_isSetOfSongs_0 : decode cX7_isSetOfSongs 0 = .ok (.iload_n 0, 1) := by decide +kernel
theorem dX7_isSetOfSongs_1 : decode cX7_isSetOfSongs 1 = .ok (.ifCond .lt 14, 3) := by decide +kernel
theorem dX7_isSetOfSongs_4 : decode cX7_isSetOfSongs 4 = .ok (.iload_n 0, 1) := by decide +kernel
theorem dX7_isSetOfSongs_5 : decode cX7_isSetOfSongs 5 = .ok (.ldc_w 482, 3) := by decide +kernel
theorem dX7_isSetOfSongs_8 : decode cX7_isSetOfSongs 8 = .ok (.if_icmp .ge 7, 3) := by decide +kernel
theorem dX7_isSetOfSongs_11 : decode cX7_isSetOfSongs 11 = .ok (.iconst 1, 1) := by decide +kernel
theorem dX7_isSetOfSongs_12 : decode cX7_isSetOfSongs 12 = .ok (.goto 4, 3) := by decide +kernel
theorem dX7_isSetOfSongs_15 : decode cX7_isSetOfSongs 15 = .ok (.iconst 0, 1) := by decide +kernel
theorem dX7_isSetOfSongs_16 : decode cX7_isSetOfSongs 16 = .ok (.ireturn, 1) := by decide +kernel
theorem dX7_areHours_0 : decode cX7_areHours 0 = .ok (.iload_n 0, 1) := by decide +kernel
theorem dX7_areHours_1 : decode cX7_areHours 1 = .ok (.bipush 10, 2) := by decide +kernel
theorem dX7_areHours_3 : decode cX7_areHours 3 = .ok (.if_icmp .lt 32, 3) := by decide +kernel
theorem dX7_areHours_6 : decode cX7_areHours 6 = .ok (.iload_n 0, 1) := by decide +kernel
theorem dX7_areHours_7 : decode cX7_areHours 7 = .ok (.bipush 22, 2) := by decide +kernel
theorem dX7_areHours_9 : decode cX7_areHours 9 = .ok (.if_icmp .gt 26, 3) := by decide +kernel
theorem dX7_areHours_12 : decode cX7_areHours 12 = .ok (.iload_n 1, 1) := by decide +kernel
theorem dX7_areHours_13 : decode cX7_areHours 13 = .ok (.iconst 1, 1) := by decide +kernel
theorem dX7_areHours_14 : decode cX7_areHours 14 = .ok (.if_icmp .lt 21, 3) := by decide +kernel
theorem dX7_areHours_17 : decode cX7_areHours 17 = .ok (.iload_n 1, 1) := by decide +kernel
theorem dX7_areHours_18 : decode cX7_areHours 18 = .ok (.bipush 6, 2) := by decide +kernel
theorem dX7_areHours_20 : decode cX7_areHours 20 = .ok (.if_icmp .gt 15, 3) := by decide +kernel
theorem dX7_areHours_23 : decode cX7_areHours 23 = .ok (.iload_n 0, 1) := by decide +kernel
theorem dX7_areHours_24 : decode cX7_areHours 24 = .ok (.iload_n 1, 1) := by decide +kernel
theorem dX7_areHours_25 : decode cX7_areHours 25 = .ok (.iadd, 1) := by decide +kernel
theorem dX7_areHours_26 : decode cX7_areHours 26 = .ok (.bipush 24, 2) := by decide +kernel
theorem dX7_areHours_28 : decode cX7_areHours 28 = .ok (.if_icmp .gt 7, 3) := by decide +kernel
theorem dX7_areHours_31 : decode cX7_areHours 31 = .ok (.iconst 1, 1) := by decide +kernel
theorem dX7_areHours_32 : decode cX7_areHours 32 = .ok (.goto 4, 3) := by decide +kernel
theorem dX7_areHours_35 : decode cX7_areHours 35 = .ok (.iconst 0, 1) := by decide +kernel
theorem dX7_areHours_36 : decode cX7_areHours 36 = .ok (.ireturn, 1) := by decide +kernel
set_option maxRecDepth 20000 in
theorem ggX7_checkTown_X7_isTown : GoodIn wsX7_checkTown wsX7_isTown := goodIn_r _ [6] (by decide +kernel) (by decide +kernel)
set_option maxRecDepth 20000 in
theorem gX7_checkTown_X7_isTown : GoodIn wsX7_checkTown (va_wsS RX7 87 yX7_isTown wsX7_isTown) := goodIn_app (goodIn_of _ (by decide +kernel)) ggX7_checkTown_X7_isTown
theorem dX7_checkTown_0 : decode cX7_checkTown 0 = .ok (.iload_n 0, 1) := by decide +kernel
theorem dX7_checkTown_1 : decode cX7_checkTown 1 = .ok (.invokestatic 87, 3) := by decide +kernel
theorem dX7_checkTown_4 : decode cX7_checkTown 4 = .ok (.ifCond .ne 13, 3) := by decide +kernel
theorem dX7_checkTown_7 : decode cX7_checkTown 7 = .ok (.new 91, 3) := by decide +kernel
theorem dX7_checkTown_10 : decode cX7_checkTown 10 = .ok (.dup, 1) := by decide +kernel
theorem dX7_checkTown_11 : decode cX7_checkTown 11 = .ok (.ldc 93, 2) := by decide +kernel
theorem dX7_checkTown_13 : decode cX7_checkTown 13 = .ok (.invokespecial 95, 3) := by decide +kernel
theorem dX7_checkTown_16 : decode cX7_checkTown 16 = .ok (.athrow, 1) := by decide +kernel
theorem dX7_checkTown_17 : decode cX7_checkTown 17 = .ok (.return_, 1) := by decide +kernel
theorem dX7_checkSong_0 : decode cX7_checkSong 0 = .ok (.iload_n 0, 1) := by decide +kernel
theorem dX7_checkSong_1 : decode cX7_checkSong 1 = .ok (.ifCond .lt 9, 3) := by decide +kernel
theorem dX7_checkSong_4 : decode cX7_checkSong 4 = .ok (.iload_n 0, 1) := by decide +kernel
theorem dX7_checkSong_5 : decode cX7_checkSong 5 = .ok (.bipush 16, 2) := by decide +kernel
theorem dX7_checkSong_7 : decode cX7_checkSong 7 = .ok (.if_icmp .lt 14, 3) := by decide +kernel
theorem dX7_checkSong_10 : decode cX7_checkSong 10 = .ok (.new 91, 3) := by decide +kernel
theorem dX7_checkSong_13 : decode cX7_checkSong 13 = .ok (.dup, 1) := by decide +kernel
theorem dX7_checkSong_14 : decode cX7_checkSong 14 = .ok (.ldc_w 483, 3) := by decide +kernel
theorem dX7_checkSong_17 : decode cX7_checkSong 17 = .ok (.invokespecial 95, 3) := by decide +kernel
theorem dX7_checkSong_20 : decode cX7_checkSong 20 = .ok (.athrow, 1) := by decide +kernel
theorem dX7_checkSong_21 : decode cX7_checkSong 21 = .ok (.return_, 1) := by decide +kernel
theorem dX7_checkPlayer_0 : decode cX7_checkPlayer 0 = .ok (.iload_n 1, 1) := by decide +kernel
theorem dX7_checkPlayer_1 : decode cX7_checkPlayer 1 = .ok (.ifCond .lt 11, 3) := by decide +kernel
theorem dX7_checkPlayer_4 : decode cX7_checkPlayer 4 = .ok (.iload_n 1, 1) := by decide +kernel
theorem dX7_checkPlayer_5 : decode cX7_checkPlayer 5 = .ok (.aload_n 0, 1) := by decide +kernel
theorem dX7_checkPlayer_6 : decode cX7_checkPlayer 6 = .ok (.getfield 44, 3) := by decide +kernel
theorem dX7_checkPlayer_9 : decode cX7_checkPlayer 9 = .ok (.if_icmp .lt 14, 3) := by decide +kernel
theorem dX7_checkPlayer_12 : decode cX7_checkPlayer 12 = .ok (.new 91, 3) := by decide +kernel
theorem dX7_checkPlayer_15 : decode cX7_checkPlayer 15 = .ok (.dup, 1) := by decide +kernel
theorem dX7_checkPlayer_16 : decode cX7_checkPlayer 16 = .ok (.ldc_w 485, 3) := by decide +kernel
theorem dX7_checkPlayer_19 : decode cX7_checkPlayer 19 = .ok (.invokespecial 95, 3) := by decide +kernel
theorem dX7_checkPlayer_22 : decode cX7_checkPlayer 22 = .ok (.athrow, 1) := by decide +kernel
theorem dX7_checkPlayer_23 : decode cX7_checkPlayer 23 = .ok (.return_, 1) := by decide +kernel
theorem dX7_checkBand_0 : decode cX7_checkBand 0 = .ok (.iload_n 1, 1) := by decide +kernel
theorem dX7_checkBand_1 : decode cX7_checkBand 1 = .ok (.ifCond .lt 11, 3) := by decide +kernel
theorem dX7_checkBand_4 : decode cX7_checkBand 4 = .ok (.iload_n 1, 1) := by decide +kernel
theorem dX7_checkBand_5 : decode cX7_checkBand 5 = .ok (.aload_n 0, 1) := by decide +kernel
theorem dX7_checkBand_6 : decode cX7_checkBand 6 = .ok (.getfield 48, 3) := by decide +kernel
theorem dX7_checkBand_9 : decode cX7_checkBand 9 = .ok (.if_icmp .lt 14, 3) := by decide +kernel
theorem dX7_checkBand_12 : decode cX7_checkBand 12 = .ok (.new 91, 3) := by decide +kernel
theorem dX7_checkBand_15 : decode cX7_checkBand 15 = .ok (.dup, 1) := by decide +kernel
theorem dX7_checkBand_16 : decode cX7_checkBand 16 = .ok (.ldc_w 487, 3) := by decide +kernel
theorem dX7_checkBand_19 : decode cX7_checkBand 19 = .ok (.invokespecial 95, 3) := by decide +kernel
theorem dX7_checkBand_22 : decode cX7_checkBand 22 = .ok (.athrow, 1) := by decide +kernel
theorem dX7_checkBand_23 : decode cX7_checkBand 23 = .ok (.return_, 1) := by decide +kernel
theorem dX7_checkWedding_0 : decode cX7_checkWedding 0 = .ok (.iload_n 1, 1) := by decide +kernel
theorem dX7_checkWedding_1 : decode cX7_checkWedding 1 = .ok (.ifCond .lt 11, 3) := by decide +kernel
theorem dX7_checkWedding_4 : decode cX7_checkWedding 4 = .ok (.iload_n 1, 1) := by decide +kernel
theorem dX7_checkWedding_5 : decode cX7_checkWedding 5 = .ok (.aload_n 0, 1) := by decide +kernel
theorem dX7_checkWedding_6 : decode cX7_checkWedding 6 = .ok (.getfield 51, 3) := by decide +kernel
theorem dX7_checkWedding_9 : decode cX7_checkWedding 9 = .ok (.if_icmp .lt 14, 3) := by decide +kernel
theorem dX7_checkWedding_12 : decode cX7_checkWedding 12 = .ok (.new 91, 3) := by decide +kernel
theorem dX7_checkWedding_15 : decode cX7_checkWedding 15 = .ok (.dup, 1) := by decide +kernel
theorem dX7_checkWedding_16 : decode cX7_checkWedding 16 = .ok (.ldc_w 489, 3) := by decide +kernel
theorem dX7_checkWedding_19 : decode cX7_checkWedding 19 = .ok (.invokespecial 95, 3) := by decide +kernel
theorem dX7_checkWedding_22 : decode cX7_checkWedding 22 = .ok (.athrow, 1) := by decide +kernel
theorem dX7_checkWedding_23 : decode cX7_checkWedding 23 = .ok (.return_, 1) := by decide +kernel
theorem dX7_checkDayToCome_0 : decode cX7_checkDayToCome 0 = .ok (.iload_n 1, 1) := by decide +kernel
theorem dX7_checkDayToCome_1 : decode cX7_checkDayToCome 1 = .ok (.aload_n 0, 1) := by decide +kernel
theorem dX7_checkDayToCome_2 : decode cX7_checkDayToCome 2 = .ok (.getfield 54, 3) := by decide +kernel
theorem dX7_checkDayToCome_5 : decode cX7_checkDayToCome 5 = .ok (.if_icmp .lt 10, 3) := by decide +kernel
theorem dX7_checkDayToCome_8 : decode cX7_checkDayToCome 8 = .ok (.iload_n 1, 1) := by decide +kernel
theorem dX7_checkDayToCome_9 : decode cX7_checkDayToCome 9 = .ok (.sipush 365, 3) := by decide +kernel
theorem dX7_checkDayToCome_12 : decode cX7_checkDayToCome 12 = .ok (.if_icmp .le 14, 3) := by decide +kernel
theorem dX7_checkDayToCome_15 : decode cX7_checkDayToCome 15 = .ok (.new 101, 3) := by decide +kernel
theorem dX7_checkDayToCome_18 : decode cX7_checkDayToCome 18 = .ok (.dup, 1) := by decide +kernel
theorem dX7_checkDayToCome_19 : decode cX7_checkDayToCome 19 = .ok (.ldc_w 491, 3) := by decide +kernel
theorem dX7_checkDayToCome_22 : decode cX7_checkDayToCome 22 = .ok (.invokespecial 105, 3) := by decide +kernel
theorem dX7_checkDayToCome_25 : decode cX7_checkDayToCome 25 = .ok (.athrow, 1) := by decide +kernel
theorem dX7_checkDayToCome_26 : decode cX7_checkDayToCome 26 = .ok (.return_, 1) := by decide +kernel
theorem dX7_sizeOf_0 : decode cX7_sizeOf 0 = .ok (.iconst 0, 1) := by decide +kernel
theorem dX7_sizeOf_1 : decode cX7_sizeOf 1 = .ok (.istore_n 1, 1) := by decide +kernel
theorem dX7_sizeOf_2 : decode cX7_sizeOf 2 = .ok (.iload_n 0, 1) := by decide +kernel
theorem dX7_sizeOf_3 : decode cX7_sizeOf 3 = .ok (.istore_n 2, 1) := by decide +kernel
theorem dX7_sizeOf_4 : decode cX7_sizeOf 4 = .ok (.iconst 0, 1) := by decide +kernel
theorem dX7_sizeOf_5 : decode cX7_sizeOf 5 = .ok (.istore_n 3, 1) := by decide +kernel
theorem dX7_sizeOf_6 : decode cX7_sizeOf 6 = .ok (.iload_n 3, 1) := by decide +kernel
theorem dX7_sizeOf_7 : decode cX7_sizeOf 7 = .ok (.bipush 6, 2) := by decide +kernel
theorem dX7_sizeOf_9 : decode cX7_sizeOf 9 = .ok (.if_icmp .ge 19, 3) := by decide +kernel
theorem dX7_sizeOf_12 : decode cX7_sizeOf 12 = .ok (.iload_n 1, 1) := by decide +kernel
theorem dX7_sizeOf_13 : decode cX7_sizeOf 13 = .ok (.iload_n 2, 1) := by decide +kernel
theorem dX7_sizeOf_14 : decode cX7_sizeOf 14 = .ok (.iconst 3, 1) := by decide +kernel
theorem dX7_sizeOf_15 : decode cX7_sizeOf 15 = .ok (.irem, 1) := by decide +kernel
theorem dX7_sizeOf_16 : decode cX7_sizeOf 16 = .ok (.iadd, 1) := by decide +kernel
theorem dX7_sizeOf_17 : decode cX7_sizeOf 17 = .ok (.istore_n 1, 1) := by decide +kernel
theorem dX7_sizeOf_18 : decode cX7_sizeOf 18 = .ok (.iload_n 2, 1) := by decide +kernel
theorem dX7_sizeOf_19 : decode cX7_sizeOf 19 = .ok (.iconst 3, 1) := by decide +kernel
theorem dX7_sizeOf_20 : decode cX7_sizeOf 20 = .ok (.idiv, 1) := by decide +kernel
theorem dX7_sizeOf_21 : decode cX7_sizeOf 21 = .ok (.istore_n 2, 1) := by decide +kernel
theorem dX7_sizeOf_22 : decode cX7_sizeOf 22 = .ok (.iinc 3 1, 3) := by decide +kernel
theorem dX7_sizeOf_25 : decode cX7_sizeOf 25 = .ok (.goto (-19), 3) := by decide +kernel
theorem dX7_sizeOf_28 : decode cX7_sizeOf 28 = .ok (.iload_n 1, 1) := by decide +kernel
theorem dX7_sizeOf_29 : decode cX7_sizeOf 29 = .ok (.ireturn, 1) := by decide +kernel
theorem dX7_isTaken_0 : decode cX7_isTaken 0 = .ok (.iconst 0, 1) := by decide +kernel
theorem dX7_isTaken_1 : decode cX7_isTaken 1 = .ok (.istore_n 3, 1) := by decide +kernel
theorem dX7_isTaken_2 : decode cX7_isTaken 2 = .ok (.iload_n 3, 1) := by decide +kernel
theorem dX7_isTaken_3 : decode cX7_isTaken 3 = .ok (.aload_n 0, 1) := by decide +kernel
theorem dX7_isTaken_4 : decode cX7_isTaken 4 = .ok (.getfield 51, 3) := by decide +kernel
theorem dX7_isTaken_7 : decode cX7_isTaken 7 = .ok (.if_icmp .ge 46, 3) := by decide +kernel
theorem dX7_isTaken_10 : decode cX7_isTaken 10 = .ok (.aload_n 0, 1) := by decide +kernel
theorem dX7_isTaken_11 : decode cX7_isTaken 11 = .ok (.getfield 29, 3) := by decide +kernel
theorem dX7_isTaken_14 : decode cX7_isTaken 14 = .ok (.iload_n 3, 1) := by decide +kernel
theorem dX7_isTaken_15 : decode cX7_isTaken 15 = .ok (.aaload, 1) := by decide +kernel
theorem dX7_isTaken_16 : decode cX7_isTaken 16 = .ok (.astore 4, 2) := by decide +kernel
theorem dX7_isTaken_18 : decode cX7_isTaken 18 = .ok (.aload 4, 2) := by decide +kernel
theorem dX7_isTaken_20 : decode cX7_isTaken 20 = .ok (.getfield 233, 3) := by decide +kernel
theorem dX7_isTaken_23 : decode cX7_isTaken 23 = .ok (.iconst 1, 1) := by decide +kernel
theorem dX7_isTaken_24 : decode cX7_isTaken 24 = .ok (.if_icmp .ne 23, 3) := by decide +kernel
theorem dX7_isTaken_27 : decode cX7_isTaken 27 = .ok (.aload 4, 2) := by decide +kernel
theorem dX7_isTaken_29 : decode cX7_isTaken 29 = .ok (.getfield 193, 3) := by decide +kernel
theorem dX7_isTaken_32 : decode cX7_isTaken 32 = .ok (.iload_n 1, 1) := by decide +kernel
theorem dX7_isTaken_33 : decode cX7_isTaken 33 = .ok (.if_icmp .ne 14, 3) := by decide +kernel
theorem dX7_isTaken_36 : decode cX7_isTaken 36 = .ok (.aload 4, 2) := by decide +kernel
theorem dX7_isTaken_38 : decode cX7_isTaken 38 = .ok (.getfield 196, 3) := by decide +kernel
theorem dX7_isTaken_41 : decode cX7_isTaken 41 = .ok (.iload_n 2, 1) := by decide +kernel
theorem dX7_isTaken_42 : decode cX7_isTaken 42 = .ok (.if_icmp .ne 5, 3) := by decide +kernel
theorem dX7_isTaken_45 : decode cX7_isTaken 45 = .ok (.iconst 1, 1) := by decide +kernel
theorem dX7_isTaken_46 : decode cX7_isTaken 46 = .ok (.ireturn, 1) := by decide +kernel
theorem dX7_isTaken_47 : decode cX7_isTaken 47 = .ok (.iinc 3 1, 3) := by decide +kernel
theorem dX7_isTaken_50 : decode cX7_isTaken 50 = .ok (.goto (-48), 3) := by decide +kernel
theorem dX7_isTaken_53 : decode cX7_isTaken 53 = .ok (.iconst 0, 1) := by decide +kernel
theorem dX7_isTaken_54 : decode cX7_isTaken 54 = .ok (.ireturn, 1) := by decide +kernel
theorem dX7_areInOneQueue_0 : decode cX7_areInOneQueue 0 = .ok (.aload_n 0, 1) := by decide +kernel
theorem dX7_areInOneQueue_1 : decode cX7_areInOneQueue 1 = .ok (.getfield 29, 3) := by decide +kernel
theorem dX7_areInOneQueue_4 : decode cX7_areInOneQueue 4 = .ok (.iload_n 1, 1) := by decide +kernel
theorem dX7_areInOneQueue_5 : decode cX7_areInOneQueue 5 = .ok (.aaload, 1) := by decide +kernel
theorem dX7_areInOneQueue_6 : decode cX7_areInOneQueue 6 = .ok (.astore_n 3, 1) := by decide +kernel
theorem dX7_areInOneQueue_7 : decode cX7_areInOneQueue 7 = .ok (.aload_n 0, 1) := by decide +kernel
theorem dX7_areInOneQueue_8 : decode cX7_areInOneQueue 8 = .ok (.getfield 29, 3) := by decide +kernel
theorem dX7_areInOneQueue_11 : decode cX7_areInOneQueue 11 = .ok (.iload_n 2, 1) := by decide +kernel
theorem dX7_areInOneQueue_12 : decode cX7_areInOneQueue 12 = .ok (.aaload, 1) := by decide +kernel
theorem dX7_areInOneQueue_13 : decode cX7_areInOneQueue 13 = .ok (.astore 4, 2) := by decide +kernel
theorem dX7_areInOneQueue_15 : decode cX7_areInOneQueue 15 = .ok (.aload_n 3, 1) := by decide +kernel
theorem dX7_areInOneQueue_16 : decode cX7_areInOneQueue 16 = .ok (.getfield 233, 3) := by decide +kernel
theorem dX7_areInOneQueue_19 : decode cX7_areInOneQueue 19 = .ok (.ifCond .ne 39, 3) := by decide +kernel
theorem dX7_areInOneQueue_22 : decode cX7_areInOneQueue 22 = .ok (.aload 4, 2) := by decide +kernel
theorem dX7_areInOneQueue_24 : decode cX7_areInOneQueue 24 = .ok (.getfield 233, 3) := by decide +kernel
theorem dX7_areInOneQueue_27 : decode cX7_areInOneQueue 27 = .ok (.ifCond .ne 31, 3) := by decide +kernel
theorem dX7_areInOneQueue_30 : decode cX7_areInOneQueue 30 = .ok (.aload_n 3, 1) := by decide +kernel
theorem dX7_areInOneQueue_31 : decode cX7_areInOneQueue 31 = .ok (.getfield 193, 3) := by decide +kernel
theorem dX7_areInOneQueue_34 : decode cX7_areInOneQueue 34 = .ok (.aload 4, 2) := by decide +kernel
theorem dX7_areInOneQueue_36 : decode cX7_areInOneQueue 36 = .ok (.getfield 193, 3) := by decide +kernel
theorem dX7_areInOneQueue_39 : decode cX7_areInOneQueue 39 = .ok (.if_icmp .ne 19, 3) := by decide +kernel
theorem dX7_areInOneQueue_42 : decode cX7_areInOneQueue 42 = .ok (.aload_n 3, 1) := by decide +kernel
theorem dX7_areInOneQueue_43 : decode cX7_areInOneQueue 43 = .ok (.getfield 196, 3) := by decide +kernel
theorem dX7_areInOneQueue_46 : decode cX7_areInOneQueue 46 = .ok (.aload 4, 2) := by decide +kernel
theorem dX7_areInOneQueue_48 : decode cX7_areInOneQueue 48 = .ok (.getfield 196, 3) := by decide +kernel
theorem dX7_areInOneQueue_51 : decode cX7_areInOneQueue 51 = .ok (.if_icmp .ne 7, 3) := by decide +kernel
theorem dX7_areInOneQueue_54 : decode cX7_areInOneQueue 54 = .ok (.iconst 1, 1) := by decide +kernel
theorem dX7_areInOneQueue_55 : decode cX7_areInOneQueue 55 = .ok (.goto 4, 3) := by decide +kernel
theorem dX7_areInOneQueue_58 : decode cX7_areInOneQueue 58 = .ok (.iconst 0, 1) := by decide +kernel
theorem dX7_areInOneQueue_59 : decode cX7_areInOneQueue 59 = .ok (.ireturn, 1) := by decide +kernel
set_option maxRecDepth 20000 in
theorem ggX7_placeInQueue_X7_areInOneQueue : GoodIn wsX7_placeInQueue wsX7_areInOneQueue := goodIn_r _ [7, 1, 2, 8, 9, 10, 11, 12, 13, 14, 15, 16, 17, 18, 19, 20, 21, 22, 23, 24, 25, 26, 27, 28, 29, 30, 31, 32, 33, 34, 35, 36] (by decide +kernel) (by decide +kernel)
set_option maxRecDepth 20000 in
theorem gX7_placeInQueue_X7_areInOneQueue : GoodIn wsX7_placeInQueue (wsV RX7 493 RX7 yX7_areInOneQueue wsX7_areInOneQueue) := goodIn_app (goodIn_of _ (by decide +kernel)) ggX7_placeInQueue_X7_areInOneQueue
theorem dX7_placeInQueue_0 : decode cX7_placeInQueue 0 = .ok (.aload_n 0, 1) := by decide +kernel
theorem dX7_placeInQueue_1 : decode cX7_placeInQueue 1 = .ok (.getfield 29, 3) := by decide +kernel
theorem dX7_placeInQueue_4 : decode cX7_placeInQueue 4 = .ok (.iload_n 1, 1) := by decide +kernel
theorem dX7_placeInQueue_5 : decode cX7_placeInQueue 5 = .ok (.aaload, 1) := by decide +kernel
theorem dX7_placeInQueue_6 : decode cX7_placeInQueue 6 = .ok (.getfield 233, 3) := by decide +kernel
theorem dX7_placeInQueue_9 : decode cX7_placeInQueue 9 = .ok (.ifCond .eq 5, 3) := by decide +kernel
theorem dX7_placeInQueue_12 : decode cX7_placeInQueue 12 = .ok (.iconst (-1), 1) := by decide +kernel
theorem dX7_placeInQueue_13 : decode cX7_placeInQueue 13 = .ok (.ireturn, 1) := by decide +kernel
theorem dX7_placeInQueue_14 : decode cX7_placeInQueue 14 = .ok (.iconst 0, 1) := by decide +kernel
theorem dX7_placeInQueue_15 : decode cX7_placeInQueue 15 = .ok (.istore_n 2, 1) := by decide +kernel
theorem dX7_placeInQueue_16 : decode cX7_placeInQueue 16 = .ok (.iconst 0, 1) := by decide +kernel
theorem dX7_placeInQueue_17 : decode cX7_placeInQueue 17 = .ok (.istore_n 3, 1) := by decide +kernel
theorem dX7_placeInQueue_18 : decode cX7_placeInQueue 18 = .ok (.iload_n 3, 1) := by decide +kernel
theorem dX7_placeInQueue_19 : decode cX7_placeInQueue 19 = .ok (.iload_n 1, 1) := by decide +kernel
theorem dX7_placeInQueue_20 : decode cX7_placeInQueue 20 = .ok (.if_icmp .ge 21, 3) := by decide +kernel
theorem dX7_placeInQueue_23 : decode cX7_placeInQueue 23 = .ok (.aload_n 0, 1) := by decide +kernel
theorem dX7_placeInQueue_24 : decode cX7_placeInQueue 24 = .ok (.iload_n 3, 1) := by decide +kernel
theorem dX7_placeInQueue_25 : decode cX7_placeInQueue 25 = .ok (.iload_n 1, 1) := by decide +kernel
theorem dX7_placeInQueue_26 : decode cX7_placeInQueue 26 = .ok (.invokevirtual 493, 3) := by decide +kernel
theorem dX7_placeInQueue_29 : decode cX7_placeInQueue 29 = .ok (.ifCond .eq 6, 3) := by decide +kernel
theorem dX7_placeInQueue_32 : decode cX7_placeInQueue 32 = .ok (.iinc 2 1, 3) := by decide +kernel
theorem dX7_placeInQueue_35 : decode cX7_placeInQueue 35 = .ok (.iinc 3 1, 3) := by decide +kernel
theorem dX7_placeInQueue_38 : decode cX7_placeInQueue 38 = .ok (.goto (-20), 3) := by decide +kernel
theorem dX7_placeInQueue_41 : decode cX7_placeInQueue 41 = .ok (.iload_n 2, 1) := by decide +kernel
theorem dX7_placeInQueue_42 : decode cX7_placeInQueue 42 = .ok (.ireturn, 1) := by decide +kernel
set_option maxRecDepth 20000 in
theorem ggX7_isFirst_X7_placeInQueue : GoodIn wsX7_isFirst wsX7_placeInQueue := goodIn_r _ [5, 6, 7, 8, 9, 10, 4, 11, 12, 13, 14, 15, 16, 17, 18, 19, 20, 21, 22, 23, 24, 25, 26, 27, 28, 29, 30, 31, 32, 33, 34, 35, 36, 37, 38, 39, 40] (by decide +kernel) (by decide +kernel)
set_option maxRecDepth 20000 in
theorem gX7_isFirst_X7_placeInQueue : GoodIn wsX7_isFirst (wsV RX7 337 RX7 yX7_placeInQueue wsX7_placeInQueue) := goodIn_app (goodIn_of _ (by decide +kernel)) ggX7_isFirst_X7_placeInQueue
theorem dX7_isFirst_0 : decode cX7_isFirst 0 = .ok (.aload_n 0, 1) := by decide +kernel
theorem dX7_isFirst_1 : decode cX7_isFirst 1 = .ok (.iload_n 1, 1) := by decide +kernel
theorem dX7_isFirst_2 : decode cX7_isFirst 2 = .ok (.invokevirtual 337, 3) := by decide +kernel
theorem dX7_isFirst_5 : decode cX7_isFirst 5 = .ok (.ifCond .ne 7, 3) := by decide +kernel
theorem dX7_isFirst_8 : decode cX7_isFirst 8 = .ok (.iconst 1, 1) := by decide +kernel
theorem dX7_isFirst_9 : decode cX7_isFirst 9 = .ok (.goto 4, 3) := by decide +kernel
theorem dX7_isFirst_12 : decode cX7_isFirst 12 = .ok (.iconst 0, 1) := by decide +kernel
theorem dX7_isFirst_13 : decode cX7_isFirst 13 = .ok (.ireturn, 1) := by decide +kernel
set_option maxRecDepth 20000 in
theorem ggX7_loseQueueOf_X7_areInOneQueue : GoodIn wsX7_loseQueueOf wsX7_areInOneQueue := goodIn_r _ [8, 2, 3, 9, 10, 11, 12, 13, 14, 15, 16, 17, 18, 19, 20, 21, 22, 23, 24, 25, 26, 27, 28, 29, 30, 31, 32, 33, 34, 35, 36, 37] (by decide +kernel) (by decide +kernel)
set_option maxRecDepth 20000 in
theorem gX7_loseQueueOf_X7_areInOneQueue : GoodIn wsX7_loseQueueOf (wsV RX7 493 RX7 yX7_areInOneQueue wsX7_areInOneQueue) := goodIn_app (goodIn_of _ (by decide +kernel)) ggX7_loseQueueOf_X7_areInOneQueue
theorem dX7_loseQueueOf_0 : decode cX7_loseQueueOf 0 = .ok (.iconst 0, 1) := by decide +kernel
theorem dX7_loseQueueOf_1 : decode cX7_loseQueueOf 1 = .ok (.istore_n 2, 1) := by decide +kernel
theorem dX7_loseQueueOf_2 : decode cX7_loseQueueOf 2 = .ok (.iload_n 2, 1) := by decide +kernel
theorem dX7_loseQueueOf_3 : decode cX7_loseQueueOf 3 = .ok (.aload_n 0, 1) := by decide +kernel
theorem dX7_loseQueueOf_4 : decode cX7_loseQueueOf 4 = .ok (.getfield 51, 3) := by decide +kernel
theorem dX7_loseQueueOf_7 : decode cX7_loseQueueOf 7 = .ok (.if_icmp .ge 33, 3) := by decide +kernel
theorem dX7_loseQueueOf_10 : decode cX7_loseQueueOf 10 = .ok (.iload_n 2, 1) := by decide +kernel
theorem dX7_loseQueueOf_11 : decode cX7_loseQueueOf 11 = .ok (.iload_n 1, 1) := by decide +kernel
theorem dX7_loseQueueOf_12 : decode cX7_loseQueueOf 12 = .ok (.if_icmp .eq 22, 3) := by decide +kernel
theorem dX7_loseQueueOf_15 : decode cX7_loseQueueOf 15 = .ok (.aload_n 0, 1) := by decide +kernel
theorem dX7_loseQueueOf_16 : decode cX7_loseQueueOf 16 = .ok (.iload_n 2, 1) := by decide +kernel
theorem dX7_loseQueueOf_17 : decode cX7_loseQueueOf 17 = .ok (.iload_n 1, 1) := by decide +kernel
theorem dX7_loseQueueOf_18 : decode cX7_loseQueueOf 18 = .ok (.invokevirtual 493, 3) := by decide +kernel
theorem dX7_loseQueueOf_21 : decode cX7_loseQueueOf 21 = .ok (.ifCond .eq 13, 3) := by decide +kernel
theorem dX7_loseQueueOf_24 : decode cX7_loseQueueOf 24 = .ok (.aload_n 0, 1) := by decide +kernel
theorem dX7_loseQueueOf_25 : decode cX7_loseQueueOf 25 = .ok (.getfield 29, 3) := by decide +kernel
theorem dX7_loseQueueOf_28 : decode cX7_loseQueueOf 28 = .ok (.iload_n 2, 1) := by decide +kernel
theorem dX7_loseQueueOf_29 : decode cX7_loseQueueOf 29 = .ok (.aaload, 1) := by decide +kernel
theorem dX7_loseQueueOf_30 : decode cX7_loseQueueOf 30 = .ok (.iconst 3, 1) := by decide +kernel
theorem dX7_loseQueueOf_31 : decode cX7_loseQueueOf 31 = .ok (.putfield 233, 3) := by decide +kernel
theorem dX7_loseQueueOf_34 : decode cX7_loseQueueOf 34 = .ok (.iinc 2 1, 3) := by decide +kernel
theorem dX7_loseQueueOf_37 : decode cX7_loseQueueOf 37 = .ok (.goto (-35), 3) := by decide +kernel
theorem dX7_loseQueueOf_40 : decode cX7_loseQueueOf 40 = .ok (.return_, 1) := by decide +kernel
set_option maxRecDepth 20000 in
theorem ggX7_endToday_X7_playOut : GoodIn wsX7_endToday wsX7_playOut := goodIn_r _ [10, 11, 12, 13, 14, 15, 16, 17, 18, 19, 20, 21, 22, 23, 24, 25, 5, 26, 27, 28, 9, 29, 30, 31, 32, 33, 34, 35, 36, 37, 38, 39, 40, 41, 42, 43, 44, 45, 46, 47, 48, 49, 50, 51, 52, 53, 54, 55, 56, 57, 58, 59, 60, 61, 62, 63, 64, 65, 66, 67, 68, 69, 70, 71, 72, 73, 74, 75, 76, 77, 78, 79, 80, 81, 82, 83, 84, 85, 86, 87, 88, 89, 90, 91, 92, 93, 94, 95, 96, 97, 98, 99, 100, 101, 102, 103, 104, 105, 106, 107, 108, 109, 110, 111, 112, 113, 114, 115, 116, 132, 133, 134, 135, 136, 137, 138, 139, 140, 141, 142, 143, 117, 118, 119, 120, 121, 122, 123, 124, 125, 126, 127, 128, 129, 130, 131, 144, 145, 146, 147, 148, 149, 150, 151, 152, 153, 154, 155, 156, 157, 158, 159, 160, 161, 162, 163, 164] (by decide +kernel) (by decide +kernel)
set_option maxRecDepth 20000 in
theorem gX7_endToday_X7_playOut : GoodIn wsX7_endToday (wsV RX7 496 RX7 yX7_playOut wsX7_playOut) := goodIn_app (goodIn_of _ (by decide +kernel)) ggX7_endToday_X7_playOut
theorem dX7_endToday_0 : decode cX7_endToday 0 = .ok (.iconst 0, 1) := by decide +kernel
theorem dX7_endToday_1 : decode cX7_endToday 1 = .ok (.istore_n 1, 1) := by decide +kernel
theorem dX7_endToday_2 : decode cX7_endToday 2 = .ok (.iload_n 1, 1) := by decide +kernel
theorem dX7_endToday_3 : decode cX7_endToday 3 = .ok (.aload_n 0, 1) := by decide +kernel
theorem dX7_endToday_4 : decode cX7_endToday 4 = .ok (.getfield 51, 3) := by decide +kernel
theorem dX7_endToday_7 : decode cX7_endToday 7 = .ok (.if_icmp .ge 48, 3) := by decide +kernel
theorem dX7_endToday_10 : decode cX7_endToday 10 = .ok (.aload_n 0, 1) := by decide +kernel
theorem dX7_endToday_11 : decode cX7_endToday 11 = .ok (.getfield 29, 3) := by decide +kernel
theorem dX7_endToday_14 : decode cX7_endToday 14 = .ok (.iload_n 1, 1) := by decide +kernel
theorem dX7_endToday_15 : decode cX7_endToday 15 = .ok (.aaload, 1) := by decide +kernel
theorem dX7_endToday_16 : decode cX7_endToday 16 = .ok (.getfield 196, 3) := by decide +kernel
theorem dX7_endToday_19 : decode cX7_endToday 19 = .ok (.aload_n 0, 1) := by decide +kernel
theorem dX7_endToday_20 : decode cX7_endToday 20 = .ok (.getfield 54, 3) := by decide +kernel
theorem dX7_endToday_23 : decode cX7_endToday 23 = .ok (.if_icmp .ne 26, 3) := by decide +kernel
theorem dX7_endToday_26 : decode cX7_endToday 26 = .ok (.aload_n 0, 1) := by decide +kernel
theorem dX7_endToday_27 : decode cX7_endToday 27 = .ok (.getfield 29, 3) := by decide +kernel
theorem dX7_endToday_30 : decode cX7_endToday 30 = .ok (.iload_n 1, 1) := by decide +kernel
theorem dX7_endToday_31 : decode cX7_endToday 31 = .ok (.aaload, 1) := by decide +kernel
theorem dX7_endToday_32 : decode cX7_endToday 32 = .ok (.getfield 233, 3) := by decide +kernel
theorem dX7_endToday_35 : decode cX7_endToday 35 = .ok (.iconst 1, 1) := by decide +kernel
theorem dX7_endToday_36 : decode cX7_endToday 36 = .ok (.if_icmp .ne 13, 3) := by decide +kernel
theorem dX7_endToday_39 : decode cX7_endToday 39 = .ok (.aload_n 0, 1) := by decide +kernel
theorem dX7_endToday_40 : decode cX7_endToday 40 = .ok (.aload_n 0, 1) := by decide +kernel
theorem dX7_endToday_41 : decode cX7_endToday 41 = .ok (.getfield 29, 3) := by decide +kernel
theorem dX7_endToday_44 : decode cX7_endToday 44 = .ok (.iload_n 1, 1) := by decide +kernel
theorem dX7_endToday_45 : decode cX7_endToday 45 = .ok (.aaload, 1) := by decide +kernel
theorem dX7_endToday_46 : decode cX7_endToday 46 = .ok (.invokevirtual 496, 3) := by decide +kernel
theorem dX7_endToday_49 : decode cX7_endToday 49 = .ok (.iinc 1 1, 3) := by decide +kernel
theorem dX7_endToday_52 : decode cX7_endToday 52 = .ok (.goto (-50), 3) := by decide +kernel
theorem dX7_endToday_55 : decode cX7_endToday 55 = .ok (.iconst 0, 1) := by decide +kernel
theorem dX7_endToday_56 : decode cX7_endToday 56 = .ok (.istore_n 1, 1) := by decide +kernel
theorem dX7_endToday_57 : decode cX7_endToday 57 = .ok (.iload_n 1, 1) := by decide +kernel
theorem dX7_endToday_58 : decode cX7_endToday 58 = .ok (.aload_n 0, 1) := by decide +kernel
theorem dX7_endToday_59 : decode cX7_endToday 59 = .ok (.getfield 51, 3) := by decide +kernel
theorem dX7_endToday_62 : decode cX7_endToday 62 = .ok (.if_icmp .ge 47, 3) := by decide +kernel
theorem dX7_endToday_65 : decode cX7_endToday 65 = .ok (.aload_n 0, 1) := by decide +kernel
theorem dX7_endToday_66 : decode cX7_endToday 66 = .ok (.getfield 29, 3) := by decide +kernel
theorem dX7_endToday_69 : decode cX7_endToday 69 = .ok (.iload_n 1, 1) := by decide +kernel
theorem dX7_endToday_70 : decode cX7_endToday 70 = .ok (.aaload, 1) := by decide +kernel
theorem dX7_endToday_71 : decode cX7_endToday 71 = .ok (.getfield 196, 3) := by decide +kernel
theorem dX7_endToday_74 : decode cX7_endToday 74 = .ok (.aload_n 0, 1) := by decide +kernel
theorem dX7_endToday_75 : decode cX7_endToday 75 = .ok (.getfield 54, 3) := by decide +kernel
theorem dX7_endToday_78 : decode cX7_endToday 78 = .ok (.if_icmp .ne 25, 3) := by decide +kernel
theorem dX7_endToday_81 : decode cX7_endToday 81 = .ok (.aload_n 0, 1) := by decide +kernel
theorem dX7_endToday_82 : decode cX7_endToday 82 = .ok (.getfield 29, 3) := by decide +kernel
theorem dX7_endToday_85 : decode cX7_endToday 85 = .ok (.iload_n 1, 1) := by decide +kernel
theorem dX7_endToday_86 : decode cX7_endToday 86 = .ok (.aaload, 1) := by decide +kernel
theorem dX7_endToday_87 : decode cX7_endToday 87 = .ok (.getfield 233, 3) := by decide +kernel
theorem dX7_endToday_90 : decode cX7_endToday 90 = .ok (.ifCond .ne 13, 3) := by decide +kernel
theorem dX7_endToday_93 : decode cX7_endToday 93 = .ok (.aload_n 0, 1) := by decide +kernel
theorem dX7_endToday_94 : decode cX7_endToday 94 = .ok (.getfield 29, 3) := by decide +kernel
theorem dX7_endToday_97 : decode cX7_endToday 97 = .ok (.iload_n 1, 1) := by decide +kernel
theorem dX7_endToday_98 : decode cX7_endToday 98 = .ok (.aaload, 1) := by decide +kernel
theorem dX7_endToday_99 : decode cX7_endToday 99 = .ok (.iconst 3, 1) := by decide +kernel
theorem dX7_endToday_100 : decode cX7_endToday 100 = .ok (.putfield 233, 3) := by decide +kernel
theorem dX7_endToday_103 : decode cX7_endToday 103 = .ok (.iinc 1 1, 3) := by decide +kernel
theorem dX7_endToday_106 : decode cX7_endToday 106 = .ok (.goto (-49), 3) := by decide +kernel
theorem dX7_endToday_109 : decode cX7_endToday 109 = .ok (.return_, 1) := by decide +kernel
theorem dX7_loseThoseWhoWaited_0 : decode cX7_loseThoseWhoWaited 0 = .ok (.iconst 0, 1) := by decide +kernel
theorem dX7_loseThoseWhoWaited_1 : decode cX7_loseThoseWhoWaited 1 = .ok (.istore_n 1, 1) := by decide +kernel
theorem dX7_loseThoseWhoWaited_2 : decode cX7_loseThoseWhoWaited 2 = .ok (.iload_n 1, 1) := by decide +kernel
theorem dX7_loseThoseWhoWaited_3 : decode cX7_loseThoseWhoWaited 3 = .ok (.aload_n 0, 1) := by decide +kernel
theorem dX7_loseThoseWhoWaited_4 : decode cX7_loseThoseWhoWaited 4 = .ok (.getfield 51, 3) := by decide +kernel
theorem dX7_loseThoseWhoWaited_7 : decode cX7_loseThoseWhoWaited 7 = .ok (.if_icmp .ge 49, 3) := by decide +kernel
theorem dX7_loseThoseWhoWaited_10 : decode cX7_loseThoseWhoWaited 10 = .ok (.aload_n 0, 1) := by decide +kernel
theorem dX7_loseThoseWhoWaited_11 : decode cX7_loseThoseWhoWaited 11 = .ok (.getfield 29, 3) := by decide +kernel
theorem dX7_loseThoseWhoWaited_14 : decode cX7_loseThoseWhoWaited 14 = .ok (.iload_n 1, 1) := by decide +kernel
theorem dX7_loseThoseWhoWaited_15 : decode cX7_loseThoseWhoWaited 15 = .ok (.aaload, 1) := by decide +kernel
theorem dX7_loseThoseWhoWaited_16 : decode cX7_loseThoseWhoWaited 16 = .ok (.getfield 233, 3) := by decide +kernel
theorem dX7_loseThoseWhoWaited_19 : decode cX7_loseThoseWhoWaited 19 = .ok (.ifCond .ne 31, 3) := by decide +kernel
theorem dX7_loseThoseWhoWaited_22 : decode cX7_loseThoseWhoWaited 22 = .ok (.aload_n 0, 1) := by decide +kernel
theorem dX7_loseThoseWhoWaited_23 : decode cX7_loseThoseWhoWaited 23 = .ok (.getfield 29, 3) := by decide +kernel
theorem dX7_loseThoseWhoWaited_26 : decode cX7_loseThoseWhoWaited 26 = .ok (.iload_n 1, 1) := by decide +kernel
theorem dX7_loseThoseWhoWaited_27 : decode cX7_loseThoseWhoWaited 27 = .ok (.aaload, 1) := by decide +kernel
theorem dX7_loseThoseWhoWaited_28 : decode cX7_loseThoseWhoWaited 28 = .ok (.getfield 211, 3) := by decide +kernel
theorem dX7_loseThoseWhoWaited_31 : decode cX7_loseThoseWhoWaited 31 = .ok (.iconst 5, 1) := by decide +kernel
theorem dX7_loseThoseWhoWaited_32 : decode cX7_loseThoseWhoWaited 32 = .ok (.iadd, 1) := by decide +kernel
theorem dX7_loseThoseWhoWaited_33 : decode cX7_loseThoseWhoWaited 33 = .ok (.aload_n 0, 1) := by decide +kernel
theorem dX7_loseThoseWhoWaited_34 : decode cX7_loseThoseWhoWaited 34 = .ok (.getfield 54, 3) := by decide +kernel
theorem dX7_loseThoseWhoWaited_37 : decode cX7_loseThoseWhoWaited 37 = .ok (.if_icmp .gt 13, 3) := by decide +kernel
theorem dX7_loseThoseWhoWaited_40 : decode cX7_loseThoseWhoWaited 40 = .ok (.aload_n 0, 1) := by decide +kernel
theorem dX7_loseThoseWhoWaited_41 : decode cX7_loseThoseWhoWaited 41 = .ok (.getfield 29, 3) := by decide +kernel
theorem dX7_loseThoseWhoWaited_44 : decode cX7_loseThoseWhoWaited 44 = .ok (.iload_n 1, 1) := by decide +kernel
theorem dX7_loseThoseWhoWaited_45 : decode cX7_loseThoseWhoWaited 45 = .ok (.aaload, 1) := by decide +kernel
theorem dX7_loseThoseWhoWaited_46 : decode cX7_loseThoseWhoWaited 46 = .ok (.iconst 3, 1) := by decide +kernel
theorem dX7_loseThoseWhoWaited_47 : decode cX7_loseThoseWhoWaited 47 = .ok (.putfield 233, 3) := by decide +kernel
theorem dX7_loseThoseWhoWaited_50 : decode cX7_loseThoseWhoWaited 50 = .ok (.iinc 1 1, 3) := by decide +kernel
theorem dX7_loseThoseWhoWaited_53 : decode cX7_loseThoseWhoWaited 53 = .ok (.goto (-51), 3) := by decide +kernel
theorem dX7_loseThoseWhoWaited_56 : decode cX7_loseThoseWhoWaited 56 = .ok (.return_, 1) := by decide +kernel
set_option maxRecDepth 20000 in
theorem ggX7_playOut_X7_extraOf : GoodIn wsX7_playOut wsX7_extraOf := goodIn_r _ [21, 3, 4, 5, 22, 23, 24, 20, 25, 26, 27, 28, 29, 30, 31, 32, 33, 34, 35, 36, 37, 121, 122, 123, 124, 125, 126, 127, 128, 129, 130, 131, 132, 133, 134, 135, 109, 110, 111, 112, 113, 114, 115, 116, 117, 118, 119, 120, 136, 137, 138, 139, 140, 141, 142, 143] (by decide +kernel) (by decide +kernel)
set_option maxRecDepth 20000 in
theorem gX7_playOut_X7_extraOf : GoodIn wsX7_playOut (wsV RX7 428 RX7 yX7_extraOf wsX7_extraOf) := goodIn_app (goodIn_of _ (by decide +kernel)) ggX7_playOut_X7_extraOf
set_option maxRecDepth 20000 in
theorem ggX7_playOut_X7_getPaid : GoodIn wsX7_playOut wsX7_getPaid := goodIn_r _ [41, 2, 6, 109, 110, 111, 112, 113, 114, 115, 116, 117, 118, 119, 120, 121, 122, 123, 124, 125, 126, 127, 128, 129, 130, 131, 132, 133, 134, 135] (by decide +kernel) (by decide +kernel)
set_option maxRecDepth 20000 in
theorem gX7_playOut_X7_getPaid : GoodIn wsX7_playOut (wsV RX7 250 RX7 yX7_getPaid wsX7_getPaid) := goodIn_app (goodIn_of _ (by decide +kernel)) ggX7_playOut_X7_getPaid
set_option maxRecDepth 20000 in
theorem ggX7_playOut_X7_has : GoodIn wsX7_playOut wsX7_has := goodIn_r _ [25] (by decide +kernel) (by decide +kernel)
set_option maxRecDepth 20000 in
theorem gX7_playOut_X7_has : GoodIn wsX7_playOut (va_wsS RX7 153 yX7_has wsX7_has) := goodIn_app (goodIn_of _ (by decide +kernel)) ggX7_playOut_X7_has
set_option maxRecDepth 20000 in
theorem ggX7_playOut_X7_wageAt : GoodIn wsX7_playOut wsX7_wageAt := goodIn_r _ [45, 22, 46, 47, 48, 20, 49, 50, 51, 52, 10, 53, 54, 36, 55, 56, 57, 58, 59, 60, 61, 26, 27, 28, 29, 30, 31, 32, 33, 34, 35, 37, 136, 137, 138, 139, 140, 141, 142, 143, 121, 122, 123, 124, 125, 126, 127, 128, 129, 130, 131, 132, 133, 134, 135, 109, 110, 111, 112, 113, 114, 115, 116, 117, 118, 119, 120, 155, 156] (by decide +kernel) (by decide +kernel)
set_option maxRecDepth 20000 in
theorem gX7_playOut_X7_wageAt : GoodIn wsX7_playOut (wsV RX7 500 RX7 yX7_wageAt wsX7_wageAt) := goodIn_app (goodIn_of _ (by decide +kernel)) ggX7_playOut_X7_wageAt
set_option maxRecDepth 20000 in
theorem ggX7_playOut_X7_playableFor : GoodIn wsX7_playOut wsX7_playableFor := goodIn_r _ [65, 3, 5, 66, 23, 24, 20, 25, 67, 68, 69, 70, 71, 72, 73, 121, 122, 123, 124, 125, 126, 127, 128, 129, 130, 131, 132, 133, 134, 135, 136, 137, 138, 139, 140, 141, 142, 143] (by decide +kernel) (by decide +kernel)
set_option maxRecDepth 20000 in
theorem gX7_playOut_X7_playableFor : GoodIn wsX7_playOut (wsV RX7 355 RX7 yX7_playableFor wsX7_playableFor) := goodIn_app (goodIn_of _ (by decide +kernel)) ggX7_playOut_X7_playableFor
set_option maxRecDepth 20000 in
theorem ggX7_playOut_X1_choose : GoodIn wsX7_playOut wsX1_choose := goodIn_r _ [78, 79, 80, 81, 82, 83, 84, 85, 86, 87, 77, 88, 89, 24, 20, 25, 90, 91, 92, 93, 94, 95, 96, 97, 36, 98, 99, 100, 101, 102, 103, 104, 105, 106, 107, 108, 144, 145, 146, 147, 148, 149, 150, 151, 152, 153, 154] (by decide +kernel) (by decide +kernel)
set_option maxRecDepth 20000 in
theorem gX7_playOut_X1_choose : GoodIn wsX7_playOut (wsV RX7 358 RX1 yX1_choose wsX1_choose) := goodIn_app (goodIn_of _ (by decide +kernel)) ggX7_playOut_X1_choose
theorem dX7_playOut_0 : decode cX7_playOut 0 = .ok (.aload_n 0, 1) := by decide +kernel
theorem dX7_playOut_1 : decode cX7_playOut 1 = .ok (.aload_n 1, 1) := by decide +kernel
theorem dX7_playOut_2 : decode cX7_playOut 2 = .ok (.aload_n 1, 1) := by decide +kernel
theorem dX7_playOut_3 : decode cX7_playOut 3 = .ok (.getfield 247, 3) := by decide +kernel
theorem dX7_playOut_6 : decode cX7_playOut 6 = .ok (.aload_n 1, 1) := by decide +kernel
theorem dX7_playOut_7 : decode cX7_playOut 7 = .ok (.getfield 260, 3) := by decide +kernel
theorem dX7_playOut_10 : decode cX7_playOut 10 = .ok (.isub, 1) := by decide +kernel
theorem dX7_playOut_11 : decode cX7_playOut 11 = .ok (.aload_n 0, 1) := by decide +kernel
theorem dX7_playOut_12 : decode cX7_playOut 12 = .ok (.aload_n 1, 1) := by decide +kernel
theorem dX7_playOut_13 : decode cX7_playOut 13 = .ok (.invokevirtual 428, 3) := by decide +kernel
theorem dX7_playOut_16 : decode cX7_playOut 16 = .ok (.iadd, 1) := by decide +kernel
theorem dX7_playOut_17 : decode cX7_playOut 17 = .ok (.invokevirtual 250, 3) := by decide +kernel
theorem dX7_playOut_20 : decode cX7_playOut 20 = .ok (.iconst 0, 1) := by decide +kernel
theorem dX7_playOut_21 : decode cX7_playOut 21 = .ok (.istore_n 2, 1) := by decide +kernel
theorem dX7_playOut_22 : decode cX7_playOut 22 = .ok (.iload_n 2, 1) := by decide +kernel
theorem dX7_playOut_23 : decode cX7_playOut 23 = .ok (.aload_n 0, 1) := by decide +kernel
theorem dX7_playOut_24 : decode cX7_playOut 24 = .ok (.getfield 44, 3) := by decide +kernel
theorem dX7_playOut_27 : decode cX7_playOut 27 = .ok (.if_icmp .ge 90, 3) := by decide +kernel
theorem dX7_playOut_30 : decode cX7_playOut 30 = .ok (.aload_n 1, 1) := by decide +kernel
theorem dX7_playOut_31 : decode cX7_playOut 31 = .ok (.getfield 239, 3) := by decide +kernel
theorem dX7_playOut_34 : decode cX7_playOut 34 = .ok (.iload_n 2, 1) := by decide +kernel
theorem dX7_playOut_35 : decode cX7_playOut 35 = .ok (.invokestatic 153, 3) := by decide +kernel
theorem dX7_playOut_38 : decode cX7_playOut 38 = .ok (.ifCond .eq 73, 3) := by decide +kernel
theorem dX7_playOut_41 : decode cX7_playOut 41 = .ok (.aload_n 0, 1) := by decide +kernel
theorem dX7_playOut_42 : decode cX7_playOut 42 = .ok (.aload_n 0, 1) := by decide +kernel
theorem dX7_playOut_43 : decode cX7_playOut 43 = .ok (.getfield 11, 3) := by decide +kernel
theorem dX7_playOut_46 : decode cX7_playOut 46 = .ok (.iload_n 2, 1) := by decide +kernel
theorem dX7_playOut_47 : decode cX7_playOut 47 = .ok (.aaload, 1) := by decide +kernel
theorem dX7_playOut_48 : decode cX7_playOut 48 = .ok (.aload_n 1, 1) := by decide +kernel
theorem dX7_playOut_49 : decode cX7_playOut 49 = .ok (.invokevirtual 500, 3) := by decide +kernel
theorem dX7_playOut_52 : decode cX7_playOut 52 = .ok (.istore_n 3, 1) := by decide +kernel
theorem dX7_playOut_53 : decode cX7_playOut 53 = .ok (.aload_n 0, 1) := by decide +kernel
theorem dX7_playOut_54 : decode cX7_playOut 54 = .ok (.dup, 1) := by decide +kernel
theorem dX7_playOut_55 : decode cX7_playOut 55 = .ok (.getfield 57, 3) := by decide +kernel
theorem dX7_playOut_58 : decode cX7_playOut 58 = .ok (.iload_n 3, 1) := by decide +kernel
theorem dX7_playOut_59 : decode cX7_playOut 59 = .ok (.isub, 1) := by decide +kernel
theorem dX7_playOut_60 : decode cX7_playOut 60 = .ok (.putfield 57, 3) := by decide +kernel
theorem dX7_playOut_63 : decode cX7_playOut 63 = .ok (.aload_n 0, 1) := by decide +kernel
theorem dX7_playOut_64 : decode cX7_playOut 64 = .ok (.getfield 11, 3) := by decide +kernel
theorem dX7_playOut_67 : decode cX7_playOut 67 = .ok (.iload_n 2, 1) := by decide +kernel
theorem dX7_playOut_68 : decode cX7_playOut 68 = .ok (.aaload, 1) := by decide +kernel
theorem dX7_playOut_69 : decode cX7_playOut 69 = .ok (.dup, 1) := by decide +kernel
theorem dX7_playOut_70 : decode cX7_playOut 70 = .ok (.getfield 301, 3) := by decide +kernel
theorem dX7_playOut_73 : decode cX7_playOut 73 = .ok (.iload_n 3, 1) := by decide +kernel
theorem dX7_playOut_74 : decode cX7_playOut 74 = .ok (.iadd, 1) := by decide +kernel
theorem dX7_playOut_75 : decode cX7_playOut 75 = .ok (.putfield 301, 3) := by decide +kernel
theorem dX7_playOut_78 : decode cX7_playOut 78 = .ok (.aload_n 0, 1) := by decide +kernel
theorem dX7_playOut_79 : decode cX7_playOut 79 = .ok (.getfield 11, 3) := by decide +kernel
theorem dX7_playOut_82 : decode cX7_playOut 82 = .ok (.iload_n 2, 1) := by decide +kernel
theorem dX7_playOut_83 : decode cX7_playOut 83 = .ok (.aaload, 1) := by decide +kernel
theorem dX7_playOut_84 : decode cX7_playOut 84 = .ok (.dup, 1) := by decide +kernel
theorem dX7_playOut_85 : decode cX7_playOut 85 = .ok (.getfield 307, 3) := by decide +kernel
theorem dX7_playOut_88 : decode cX7_playOut 88 = .ok (.iconst 1, 1) := by decide +kernel
theorem dX7_playOut_89 : decode cX7_playOut 89 = .ok (.iadd, 1) := by decide +kernel
theorem dX7_playOut_90 : decode cX7_playOut 90 = .ok (.putfield 307, 3) := by decide +kernel
theorem dX7_playOut_93 : decode cX7_playOut 93 = .ok (.aload_n 0, 1) := by decide +kernel
theorem dX7_playOut_94 : decode cX7_playOut 94 = .ok (.getfield 11, 3) := by decide +kernel
theorem dX7_playOut_97 : decode cX7_playOut 97 = .ok (.iload_n 2, 1) := by decide +kernel
theorem dX7_playOut_98 : decode cX7_playOut 98 = .ok (.aaload, 1) := by decide +kernel
theorem dX7_playOut_99 : decode cX7_playOut 99 = .ok (.dup, 1) := by decide +kernel
theorem dX7_playOut_100 : decode cX7_playOut 100 = .ok (.getfield 310, 3) := by decide +kernel
theorem dX7_playOut_103 : decode cX7_playOut 103 = .ok (.aload_n 1, 1) := by decide +kernel
theorem dX7_playOut_104 : decode cX7_playOut 104 = .ok (.getfield 205, 3) := by decide +kernel
theorem dX7_playOut_107 : decode cX7_playOut 107 = .ok (.iadd, 1) := by decide +kernel
theorem dX7_playOut_108 : decode cX7_playOut 108 = .ok (.putfield 310, 3) := by decide +kernel
theorem dX7_playOut_111 : decode cX7_playOut 111 = .ok (.iinc 2 1, 3) := by decide +kernel
theorem dX7_playOut_114 : decode cX7_playOut 114 = .ok (.goto (-92), 3) := by decide +kernel
theorem dX7_playOut_117 : decode cX7_playOut 117 = .ok (.aload_n 0, 1) := by decide +kernel
theorem dX7_playOut_118 : decode cX7_playOut 118 = .ok (.getfield 77, 3) := by decide +kernel
theorem dX7_playOut_121 : decode cX7_playOut 121 = .ok (.aload_n 0, 1) := by decide +kernel
theorem dX7_playOut_122 : decode cX7_playOut 122 = .ok (.getfield 17, 3) := by decide +kernel
theorem dX7_playOut_125 : decode cX7_playOut 125 = .ok (.aload_n 0, 1) := by decide +kernel
theorem dX7_playOut_126 : decode cX7_playOut 126 = .ok (.aload_n 1, 1) := by decide +kernel
theorem dX7_playOut_127 : decode cX7_playOut 127 = .ok (.getfield 239, 3) := by decide +kernel
theorem dX7_playOut_130 : decode cX7_playOut 130 = .ok (.invokevirtual 355, 3) := by decide +kernel
theorem dX7_playOut_133 : decode cX7_playOut 133 = .ok (.invokevirtual 358, 3) := by decide +kernel
theorem dX7_playOut_136 : decode cX7_playOut 136 = .ok (.iconst 0, 1) := by decide +kernel
theorem dX7_playOut_137 : decode cX7_playOut 137 = .ok (.istore_n 2, 1) := by decide +kernel
theorem dX7_playOut_138 : decode cX7_playOut 138 = .ok (.iload_n 2, 1) := by decide +kernel
theorem dX7_playOut_139 : decode cX7_playOut 139 = .ok (.aload_n 0, 1) := by decide +kernel
theorem dX7_playOut_140 : decode cX7_playOut 140 = .ok (.getfield 77, 3) := by decide +kernel
theorem dX7_playOut_143 : decode cX7_playOut 143 = .ok (.getfield 363, 3) := by decide +kernel
theorem dX7_playOut_146 : decode cX7_playOut 146 = .ok (.if_icmp .ge 32, 3) := by decide +kernel
theorem dX7_playOut_149 : decode cX7_playOut 149 = .ok (.aload_n 0, 1) := by decide +kernel
theorem dX7_playOut_150 : decode cX7_playOut 150 = .ok (.getfield 17, 3) := by decide +kernel
theorem dX7_playOut_153 : decode cX7_playOut 153 = .ok (.aload_n 0, 1) := by decide +kernel
theorem dX7_playOut_154 : decode cX7_playOut 154 = .ok (.getfield 77, 3) := by decide +kernel
theorem dX7_playOut_157 : decode cX7_playOut 157 = .ok (.getfield 373, 3) := by decide +kernel
theorem dX7_playOut_160 : decode cX7_playOut 160 = .ok (.iload_n 2, 1) := by decide +kernel
theorem dX7_playOut_161 : decode cX7_playOut 161 = .ok (.iaload, 1) := by decide +kernel
theorem dX7_playOut_162 : decode cX7_playOut 162 = .ok (.aaload, 1) := by decide +kernel
theorem dX7_playOut_163 : decode cX7_playOut 163 = .ok (.dup, 1) := by decide +kernel
theorem dX7_playOut_164 : decode cX7_playOut 164 = .ok (.getfield 315, 3) := by decide +kernel
theorem dX7_playOut_167 : decode cX7_playOut 167 = .ok (.iconst 1, 1) := by decide +kernel
theorem dX7_playOut_168 : decode cX7_playOut 168 = .ok (.iadd, 1) := by decide +kernel
theorem dX7_playOut_169 : decode cX7_playOut 169 = .ok (.putfield 315, 3) := by decide +kernel
theorem dX7_playOut_172 : decode cX7_playOut 172 = .ok (.iinc 2 1, 3) := by decide +kernel
theorem dX7_playOut_175 : decode cX7_playOut 175 = .ok (.goto (-37), 3) := by decide +kernel
theorem dX7_playOut_178 : decode cX7_playOut 178 = .ok (.aload_n 1, 1) := by decide +kernel
theorem dX7_playOut_179 : decode cX7_playOut 179 = .ok (.iconst 2, 1) := by decide +kernel
theorem dX7_playOut_180 : decode cX7_playOut 180 = .ok (.putfield 233, 3) := by decide +kernel
theorem dX7_playOut_183 : decode cX7_playOut 183 = .ok (.return_, 1) := by decide +kernel
theorem dX7_priceOf_0 : decode cX7_priceOf 0 = .ok (.iload_n 0, 1) := by decide +kernel
theorem dX7_priceOf_1 : decode cX7_priceOf 1 = .ok (.bipush 6, 2) := by decide +kernel
theorem dX7_priceOf_3 : decode cX7_priceOf 3 = .ok (.imul, 1) := by decide +kernel
theorem dX7_priceOf_4 : decode cX7_priceOf 4 = .ok (.iconst 5, 1) := by decide +kernel
theorem dX7_priceOf_5 : decode cX7_priceOf 5 = .ok (.idiv, 1) := by decide +kernel
theorem dX7_priceOf_6 : decode cX7_priceOf 6 = .ok (.bipush 50, 2) := by decide +kernel
theorem dX7_priceOf_8 : decode cX7_priceOf 8 = .ok (.iadd, 1) := by decide +kernel
theorem dX7_priceOf_9 : decode cX7_priceOf 9 = .ok (.ireturn, 1) := by decide +kernel
theorem dX7_getPaid_0 : decode cX7_getPaid 0 = .ok (.aload_n 1, 1) := by decide +kernel
theorem dX7_getPaid_1 : decode cX7_getPaid 1 = .ok (.dup, 1) := by decide +kernel
theorem dX7_getPaid_2 : decode cX7_getPaid 2 = .ok (.getfield 260, 3) := by decide +kernel
theorem dX7_getPaid_5 : decode cX7_getPaid 5 = .ok (.iload_n 2, 1) := by decide +kernel
theorem dX7_getPaid_6 : decode cX7_getPaid 6 = .ok (.iadd, 1) := by decide +kernel
theorem dX7_getPaid_7 : decode cX7_getPaid 7 = .ok (.putfield 260, 3) := by decide +kernel
theorem dX7_getPaid_10 : decode cX7_getPaid 10 = .ok (.aload_n 0, 1) := by decide +kernel
theorem dX7_getPaid_11 : decode cX7_getPaid 11 = .ok (.dup, 1) := by decide +kernel
theorem dX7_getPaid_12 : decode cX7_getPaid 12 = .ok (.getfield 57, 3) := by decide +kernel
theorem dX7_getPaid_15 : decode cX7_getPaid 15 = .ok (.iload_n 2, 1) := by decide +kernel
theorem dX7_getPaid_16 : decode cX7_getPaid 16 = .ok (.iadd, 1) := by decide +kernel
theorem dX7_getPaid_17 : decode cX7_getPaid 17 = .ok (.putfield 57, 3) := by decide +kernel
theorem dX7_getPaid_20 : decode cX7_getPaid 20 = .ok (.return_, 1) := by decide +kernel
theorem dX7_owedFor_0 : decode cX7_owedFor 0 = .ok (.aload_n 1, 1) := by decide +kernel
theorem dX7_owedFor_1 : decode cX7_owedFor 1 = .ok (.getfield 196, 3) := by decide +kernel
theorem dX7_owedFor_4 : decode cX7_owedFor 4 = .ok (.aload_n 0, 1) := by decide +kernel
theorem dX7_owedFor_5 : decode cX7_owedFor 5 = .ok (.getfield 54, 3) := by decide +kernel
theorem dX7_owedFor_8 : decode cX7_owedFor 8 = .ok (.isub, 1) := by decide +kernel
theorem dX7_owedFor_9 : decode cX7_owedFor 9 = .ok (.istore_n 2, 1) := by decide +kernel
theorem dX7_owedFor_10 : decode cX7_owedFor 10 = .ok (.iload_n 2, 1) := by decide +kernel
theorem dX7_owedFor_11 : decode cX7_owedFor 11 = .ok (.bipush 30, 2) := by decide +kernel
theorem dX7_owedFor_13 : decode cX7_owedFor 13 = .ok (.if_icmp .lt 8, 3) := by decide +kernel
theorem dX7_owedFor_16 : decode cX7_owedFor 16 = .ok (.bipush 20, 2) := by decide +kernel
theorem dX7_owedFor_18 : decode cX7_owedFor 18 = .ok (.goto 27, 3) := by decide +kernel
theorem dX7_owedFor_21 : decode cX7_owedFor 21 = .ok (.iload_n 2, 1) := by decide +kernel
theorem dX7_owedFor_22 : decode cX7_owedFor 22 = .ok (.bipush 14, 2) := by decide +kernel
theorem dX7_owedFor_24 : decode cX7_owedFor 24 = .ok (.if_icmp .lt 8, 3) := by decide +kernel
theorem dX7_owedFor_27 : decode cX7_owedFor 27 = .ok (.bipush 40, 2) := by decide +kernel
theorem dX7_owedFor_29 : decode cX7_owedFor 29 = .ok (.goto 16, 3) := by decide +kernel
theorem dX7_owedFor_32 : decode cX7_owedFor 32 = .ok (.iload_n 2, 1) := by decide +kernel
theorem dX7_owedFor_33 : decode cX7_owedFor 33 = .ok (.bipush 7, 2) := by decide +kernel
theorem dX7_owedFor_35 : decode cX7_owedFor 35 = .ok (.if_icmp .lt 8, 3) := by decide +kernel
theorem dX7_owedFor_38 : decode cX7_owedFor 38 = .ok (.bipush 70, 2) := by decide +kernel
theorem dX7_owedFor_40 : decode cX7_owedFor 40 = .ok (.goto 5, 3) := by decide +kernel
theorem dX7_owedFor_43 : decode cX7_owedFor 43 = .ok (.bipush 100, 2) := by decide +kernel
theorem dX7_owedFor_45 : decode cX7_owedFor 45 = .ok (.istore_n 3, 1) := by decide +kernel
theorem dX7_owedFor_46 : decode cX7_owedFor 46 = .ok (.aload_n 1, 1) := by decide +kernel
theorem dX7_owedFor_47 : decode cX7_owedFor 47 = .ok (.getfield 247, 3) := by decide +kernel
theorem dX7_owedFor_50 : decode cX7_owedFor 50 = .ok (.iload_n 3, 1) := by decide +kernel
theorem dX7_owedFor_51 : decode cX7_owedFor 51 = .ok (.imul, 1) := by decide +kernel
theorem dX7_owedFor_52 : decode cX7_owedFor 52 = .ok (.bipush 100, 2) := by decide +kernel
theorem dX7_owedFor_54 : decode cX7_owedFor 54 = .ok (.idiv, 1) := by decide +kernel
theorem dX7_owedFor_55 : decode cX7_owedFor 55 = .ok (.ireturn, 1) := by decide +kernel
set_option maxRecDepth 20000 in
theorem ggX7_extraOf_X7_has : GoodIn wsX7_extraOf wsX7_has := goodIn_r _ [8] (by decide +kernel) (by decide +kernel)
set_option maxRecDepth 20000 in
theorem gX7_extraOf_X7_has : GoodIn wsX7_extraOf (va_wsS RX7 153 yX7_has wsX7_has) := goodIn_app (goodIn_of _ (by decide +kernel)) ggX7_extraOf_X7_has
set_option maxRecDepth 20000 in
theorem ggX7_extraOf_X6_quarters : GoodIn wsX7_extraOf wsX6_quarters := goodIn_r _ [13, 14, 15, 16, 17, 18, 19, 20, 36, 37, 38, 39, 40, 41, 42, 43, 44, 45, 46, 47] (by decide +kernel) (by decide +kernel)
set_option maxRecDepth 20000 in
theorem gX7_extraOf_X6_quarters : GoodIn wsX7_extraOf (wsV RX7 287 RX6 yX6_quarters wsX6_quarters) := goodIn_app (goodIn_of _ (by decide +kernel)) ggX7_extraOf_X6_quarters
theorem dX7_extraOf_0 : decode cX7_extraOf 0 = .ok (.iconst 0, 1) := by decide +kernel
theorem dX7_extraOf_1 : decode cX7_extraOf 1 = .ok (.istore_n 2, 1) := by decide +kernel
theorem dX7_extraOf_2 : decode cX7_extraOf 2 = .ok (.iconst 0, 1) := by decide +kernel
theorem dX7_extraOf_3 : decode cX7_extraOf 3 = .ok (.istore_n 3, 1) := by decide +kernel
theorem dX7_extraOf_4 : decode cX7_extraOf 4 = .ok (.iload_n 3, 1) := by decide +kernel
theorem dX7_extraOf_5 : decode cX7_extraOf 5 = .ok (.aload_n 0, 1) := by decide +kernel
theorem dX7_extraOf_6 : decode cX7_extraOf 6 = .ok (.getfield 44, 3) := by decide +kernel
theorem dX7_extraOf_9 : decode cX7_extraOf 9 = .ok (.if_icmp .ge 32, 3) := by decide +kernel
theorem dX7_extraOf_12 : decode cX7_extraOf 12 = .ok (.aload_n 1, 1) := by decide +kernel
theorem dX7_extraOf_13 : decode cX7_extraOf 13 = .ok (.getfield 239, 3) := by decide +kernel
theorem dX7_extraOf_16 : decode cX7_extraOf 16 = .ok (.iload_n 3, 1) := by decide +kernel
theorem dX7_extraOf_17 : decode cX7_extraOf 17 = .ok (.invokestatic 153, 3) := by decide +kernel
theorem dX7_extraOf_20 : decode cX7_extraOf 20 = .ok (.ifCond .eq 15, 3) := by decide +kernel
theorem dX7_extraOf_23 : decode cX7_extraOf 23 = .ok (.iload_n 2, 1) := by decide +kernel
theorem dX7_extraOf_24 : decode cX7_extraOf 24 = .ok (.aload_n 0, 1) := by decide +kernel
theorem dX7_extraOf_25 : decode cX7_extraOf 25 = .ok (.getfield 11, 3) := by decide +kernel
theorem dX7_extraOf_28 : decode cX7_extraOf 28 = .ok (.iload_n 3, 1) := by decide +kernel
theorem dX7_extraOf_29 : decode cX7_extraOf 29 = .ok (.aaload, 1) := by decide +kernel
theorem dX7_extraOf_30 : decode cX7_extraOf 30 = .ok (.getfield 120, 3) := by decide +kernel
theorem dX7_extraOf_33 : decode cX7_extraOf 33 = .ok (.iadd, 1) := by decide +kernel
theorem dX7_extraOf_34 : decode cX7_extraOf 34 = .ok (.istore_n 2, 1) := by decide +kernel
theorem dX7_extraOf_35 : decode cX7_extraOf 35 = .ok (.iinc 3 1, 3) := by decide +kernel
theorem dX7_extraOf_38 : decode cX7_extraOf 38 = .ok (.goto (-34), 3) := by decide +kernel
theorem dX7_extraOf_41 : decode cX7_extraOf 41 = .ok (.aload_n 1, 1) := by decide +kernel
theorem dX7_extraOf_42 : decode cX7_extraOf 42 = .ok (.invokevirtual 287, 3) := by decide +kernel
theorem dX7_extraOf_45 : decode cX7_extraOf 45 = .ok (.iload_n 2, 1) := by decide +kernel
theorem dX7_extraOf_46 : decode cX7_extraOf 46 = .ok (.imul, 1) := by decide +kernel
theorem dX7_extraOf_47 : decode cX7_extraOf 47 = .ok (.iconst 4, 1) := by decide +kernel
theorem dX7_extraOf_48 : decode cX7_extraOf 48 = .ok (.idiv, 1) := by decide +kernel
theorem dX7_extraOf_49 : decode cX7_extraOf 49 = .ok (.ireturn, 1) := by decide +kernel
set_option maxRecDepth 20000 in
theorem ggX7_costAt_X4_between : GoodIn wsX7_costAt wsX4_between := goodIn_r _ [14, 15, 51, 52] (by decide +kernel) (by decide +kernel)
set_option maxRecDepth 20000 in
theorem gX7_costAt_X4_between : GoodIn wsX7_costAt (wsV RX7 166 RX4 yX4_between wsX4_between) := goodIn_app (goodIn_of _ (by decide +kernel)) ggX7_costAt_X4_between
