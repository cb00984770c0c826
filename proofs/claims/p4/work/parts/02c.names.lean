theorem dX7_ofBand_32 : decode cX7_ofBand 32 = .ok (.aload_n 0, 1) := by decide +kernel
theorem dX7_ofBand_33 : decode cX7_ofBand 33 = .ok (.getfield 23, 3) := by decide +kernel
theorem dX7_ofBand_36 : decode cX7_ofBand 36 = .ok (.iload_n 1, 1) := by decide +kernel
theorem dX7_ofBand_37 : decode cX7_ofBand 37 = .ok (.aaload, 1) := by decide +kernel
theorem dX7_ofBand_38 : decode cX7_ofBand 38 = .ok (.getfield 327, 3) := by decide +kernel
theorem dX7_ofBand_41 : decode cX7_ofBand 41 = .ok (.iload_n 2, 1) := by decide +kernel
theorem dX7_ofBand_42 : decode cX7_ofBand 42 = .ok (.iaload, 1) := by decide +kernel
theorem dX7_ofBand_43 : decode cX7_ofBand 43 = .ok (.ireturn, 1) := by decide +kernel
theorem dX7_ofBand_44 : decode cX7_ofBand 44 = .ok (.iload_n 2, 1) := by decide +kernel
theorem dX7_ofBand_45 : decode cX7_ofBand 45 = .ok (.bipush 6, 2) := by decide +kernel
theorem dX7_ofBand_47 : decode cX7_ofBand 47 = .ok (.if_icmp .ne 13, 3) := by decide +kernel
theorem dX7_ofBand_50 : decode cX7_ofBand 50 = .ok (.aload_n 0, 1) := by decide +kernel
theorem dX7_ofBand_51 : decode cX7_ofBand 51 = .ok (.getfield 23, 3) := by decide +kernel
theorem dX7_ofBand_54 : decode cX7_ofBand 54 = .ok (.iload_n 1, 1) := by decide +kernel
theorem dX7_ofBand_55 : decode cX7_ofBand 55 = .ok (.aaload, 1) := by decide +kernel
theorem dX7_ofBand_56 : decode cX7_ofBand 56 = .ok (.getfield 330, 3) := by decide +kernel
theorem dX7_ofBand_59 : decode cX7_ofBand 59 = .ok (.ireturn, 1) := by decide +kernel
theorem dX7_ofBand_60 : decode cX7_ofBand 60 = .ok (.aload_n 0, 1) := by decide +kernel
theorem dX7_ofBand_61 : decode cX7_ofBand 61 = .ok (.iload_n 1, 1) := by decide +kernel
theorem dX7_ofBand_62 : decode cX7_ofBand 62 = .ok (.iload_n 2, 1) := by decide +kernel
theorem dX7_ofBand_63 : decode cX7_ofBand 63 = .ok (.bipush 8, 2) := by decide +kernel
theorem dX7_ofBand_65 : decode cX7_ofBand 65 = .ok (.if_icmp .ne 7, 3) := by decide +kernel
theorem dX7_ofBand_68 : decode cX7_ofBand 68 = .ok (.iconst 1, 1) := by decide +kernel
theorem dX7_ofBand_69 : decode cX7_ofBand 69 = .ok (.goto 4, 3) := by decide +kernel
theorem dX7_ofBand_72 : decode cX7_ofBand 72 = .ok (.iconst 0, 1) := by decide +kernel
theorem dX7_ofBand_73 : decode cX7_ofBand 73 = .ok (.invokevirtual 333, 3) := by decide +kernel
theorem dX7_ofBand_76 : decode cX7_ofBand 76 = .ok (.ireturn, 1) := by decide +kernel
set_option maxRecDepth 20000 in
theorem ggX7_ofWedding_X7_checkWedding : GoodIn wsX7_ofWedding wsX7_checkWedding := goodIn_ca (goodIn_r _ [19, 20, 21, 22, 43, 44, 45, 46, 47, 48, 49, 50, 51, 52, 53, 54, 55, 56, 57] rfl (by decide +kernel)) (goodIn_sub (fun _ h => List.mem_cons_of_mem _ (List.mem_append_right _ h)) (by decide +kernel))
set_option maxRecDepth 20000 in
theorem gX7_ofWedding_X7_checkWedding : GoodIn wsX7_ofWedding (wsV RX7 214 RX7 yX7_checkWedding wsX7_checkWedding) := goodIn_app (goodIn_of _ (by decide +kernel)) ggX7_ofWedding_X7_checkWedding
set_option maxRecDepth 20000 in
theorem ggX7_ofWedding_X7_placeInQueue : GoodIn wsX7_ofWedding wsX7_placeInQueue := goodIn_r _ [26, 3, 10, 27, 28, 29, 18, 30, 4, 5, 43, 44, 45, 46, 47, 48, 49, 50, 51, 52, 53, 54, 55, 56, 57, 58, 59, 60, 61, 62, 63, 64, 65, 66, 67, 68, 69] rfl (by decide +kernel)
set_option maxRecDepth 20000 in
theorem gX7_ofWedding_X7_placeInQueue : GoodIn wsX7_ofWedding (wsV RX7 337 RX7 yX7_placeInQueue wsX7_placeInQueue) := goodIn_app (goodIn_of _ (by decide +kernel)) ggX7_ofWedding_X7_placeInQueue
set_option maxRecDepth 20000 in
theorem ggX7_ofWedding_X6_quarters : GoodIn wsX7_ofWedding wsX6_quarters := goodIn_r _ [35, 36, 37, 38, 39, 40, 41, 42, 58, 59, 60, 61, 62, 63, 64, 65, 66, 67, 68, 69] rfl (by decide +kernel)
set_option maxRecDepth 20000 in
theorem gX7_ofWedding_X6_quarters : GoodIn wsX7_ofWedding (wsV RX7 287 RX6 yX6_quarters wsX6_quarters) := goodIn_app (goodIn_of _ (by decide +kernel)) ggX7_ofWedding_X6_quarters
theorem dX7_ofWedding_0 : decode cX7_ofWedding 0 = .ok (.aload_n 0, 1) := by decide +kernel
theorem dX7_ofWedding_1 : decode cX7_ofWedding 1 = .ok (.iload_n 1, 1) := by decide +kernel
theorem dX7_ofWedding_2 : decode cX7_ofWedding 2 = .ok (.invokevirtual 214, 3) := by decide +kernel
theorem dX7_ofWedding_5 : decode cX7_ofWedding 5 = .ok (.aload_n 0, 1) := by decide +kernel
theorem dX7_ofWedding_6 : decode cX7_ofWedding 6 = .ok (.getfield 29, 3) := by decide +kernel
theorem dX7_ofWedding_9 : decode cX7_ofWedding 9 = .ok (.iload_n 1, 1) := by decide +kernel
theorem dX7_ofWedding_10 : decode cX7_ofWedding 10 = .ok (.aaload, 1) := by decide +kernel
theorem dX7_ofWedding_11 : decode cX7_ofWedding 11 = .ok (.astore_n 3, 1) := by decide +kernel
theorem dX7_ofWedding_12 : decode cX7_ofWedding 12 = .ok (.iload_n 2, 1) := by decide +kernel
theorem dX7_ofWedding_13 : decode cX7_ofWedding 13 = .ok (.tableswitch 133 0 12 #[67, 72, 77, 82, 87, 92, 97, 102, 107, 112, 117, 122, 128], 67) := by decide +kernel
theorem dX7_ofWedding_80 : decode cX7_ofWedding 80 = .ok (.aload_n 3, 1) := by decide +kernel
theorem dX7_ofWedding_81 : decode cX7_ofWedding 81 = .ok (.getfield 193, 3) := by decide +kernel
theorem dX7_ofWedding_84 : decode cX7_ofWedding 84 = .ok (.ireturn, 1) := by decide +kernel
theorem dX7_ofWedding_85 : decode cX7_ofWedding 85 = .ok (.aload_n 3, 1) := by decide +kernel
theorem dX7_ofWedding_86 : decode cX7_ofWedding 86 = .ok (.getfield 196, 3) := by decide +kernel
theorem dX7_ofWedding_89 : decode cX7_ofWedding 89 = .ok (.ireturn, 1) := by decide +kernel
theorem dX7_ofWedding_90 : decode cX7_ofWedding 90 = .ok (.aload_n 3, 1) := by decide +kernel
theorem dX7_ofWedding_91 : decode cX7_ofWedding 91 = .ok (.getfield 199, 3) := by decide +kernel
theorem dX7_ofWedding_94 : decode cX7_ofWedding 94 = .ok (.ireturn, 1) := by decide +kernel
theorem dX7_ofWedding_95 : decode cX7_ofWedding 95 = .ok (.aload_n 3, 1) := by decide +kernel
theorem dX7_ofWedding_96 : decode cX7_ofWedding 96 = .ok (.getfield 202, 3) := by decide +kernel
theorem dX7_ofWedding_99 : decode cX7_ofWedding 99 = .ok (.ireturn, 1) := by decide +kernel
theorem dX7_ofWedding_100 : decode cX7_ofWedding 100 = .ok (.aload_n 3, 1) := by decide +kernel
theorem dX7_ofWedding_101 : decode cX7_ofWedding 101 = .ok (.getfield 205, 3) := by decide +kernel
theorem dX7_ofWedding_104 : decode cX7_ofWedding 104 = .ok (.ireturn, 1) := by decide +kernel
theorem dX7_ofWedding_105 : decode cX7_ofWedding 105 = .ok (.aload_n 3, 1) := by decide +kernel
theorem dX7_ofWedding_106 : decode cX7_ofWedding 106 = .ok (.getfield 208, 3) := by decide +kernel
theorem dX7_ofWedding_109 : decode cX7_ofWedding 109 = .ok (.ireturn, 1) := by decide +kernel
theorem dX7_ofWedding_110 : decode cX7_ofWedding 110 = .ok (.aload_n 3, 1) := by decide +kernel
theorem dX7_ofWedding_111 : decode cX7_ofWedding 111 = .ok (.getfield 233, 3) := by decide +kernel
theorem dX7_ofWedding_114 : decode cX7_ofWedding 114 = .ok (.ireturn, 1) := by decide +kernel
theorem dX7_ofWedding_115 : decode cX7_ofWedding 115 = .ok (.aload_n 3, 1) := by decide +kernel
theorem dX7_ofWedding_116 : decode cX7_ofWedding 116 = .ok (.getfield 239, 3) := by decide +kernel
theorem dX7_ofWedding_119 : decode cX7_ofWedding 119 = .ok (.ireturn, 1) := by decide +kernel
theorem dX7_ofWedding_120 : decode cX7_ofWedding 120 = .ok (.aload_n 3, 1) := by decide +kernel
theorem dX7_ofWedding_121 : decode cX7_ofWedding 121 = .ok (.getfield 247, 3) := by decide +kernel
theorem dX7_ofWedding_124 : decode cX7_ofWedding 124 = .ok (.ireturn, 1) := by decide +kernel
theorem dX7_ofWedding_125 : decode cX7_ofWedding 125 = .ok (.aload_n 3, 1) := by decide +kernel
theorem dX7_ofWedding_126 : decode cX7_ofWedding 126 = .ok (.getfield 284, 3) := by decide +kernel
theorem dX7_ofWedding_129 : decode cX7_ofWedding 129 = .ok (.ireturn, 1) := by decide +kernel
theorem dX7_ofWedding_130 : decode cX7_ofWedding 130 = .ok (.aload_n 3, 1) := by decide +kernel
theorem dX7_ofWedding_131 : decode cX7_ofWedding 131 = .ok (.getfield 260, 3) := by decide +kernel
theorem dX7_ofWedding_134 : decode cX7_ofWedding 134 = .ok (.ireturn, 1) := by decide +kernel
theorem dX7_ofWedding_135 : decode cX7_ofWedding 135 = .ok (.aload_n 0, 1) := by decide +kernel
theorem dX7_ofWedding_136 : decode cX7_ofWedding 136 = .ok (.iload_n 1, 1) := by decide +kernel
theorem dX7_ofWedding_137 : decode cX7_ofWedding 137 = .ok (.invokevirtual 337, 3) := by decide +kernel
theorem dX7_ofWedding_140 : decode cX7_ofWedding 140 = .ok (.ireturn, 1) := by decide +kernel
theorem dX7_ofWedding_141 : decode cX7_ofWedding 141 = .ok (.aload_n 3, 1) := by decide +kernel
theorem dX7_ofWedding_142 : decode cX7_ofWedding 142 = .ok (.invokevirtual 287, 3) := by decide +kernel
theorem dX7_ofWedding_145 : decode cX7_ofWedding 145 = .ok (.ireturn, 1) := by decide +kernel
theorem dX7_ofWedding_146 : decode cX7_ofWedding 146 = .ok (.new 101, 3) := by decide +kernel
theorem dX7_ofWedding_149 : decode cX7_ofWedding 149 = .ok (.dup, 1) := by decide +kernel
theorem dX7_ofWedding_150 : decode cX7_ofWedding 150 = .ok (.ldc_w 340, 3) := by decide +kernel
theorem dX7_ofWedding_153 : decode cX7_ofWedding 153 = .ok (.invokespecial 105, 3) := by decide +kernel
theorem dX7_ofWedding_156 : decode cX7_ofWedding 156 = .ok (.athrow, 1) := by decide +kernel
set_option maxRecDepth 20000 in
theorem ggX7_drive_X7_checkTown : GoodIn wsX7_drive wsX7_checkTown := goodIn_ca (goodIn_r _ [5, 6, 7, 8, 9, 4, 10] rfl (by decide +kernel)) (goodIn_sub (fun _ h => List.mem_cons_of_mem _ (List.mem_append_right _ h)) (by decide +kernel))
set_option maxRecDepth 20000 in
theorem gX7_drive_X7_checkTown : GoodIn wsX7_drive (va_wsS RX7 157 yX7_checkTown wsX7_checkTown) := goodIn_app (goodIn_of _ (by decide +kernel)) ggX7_drive_X7_checkTown
set_option maxRecDepth 20000 in
theorem ggX7_drive_X4_between : GoodIn wsX7_drive wsX4_between := goodIn_r _ [15, 16, 32, 33] rfl (by decide +kernel)
set_option maxRecDepth 20000 in
theorem gX7_drive_X4_between : GoodIn wsX7_drive (wsV RX7 166 RX4 yX4_between wsX4_between) := goodIn_app (goodIn_of _ (by decide +kernel)) ggX7_drive_X4_between
theorem dX7_drive_0 : decode cX7_drive 0 = .ok (.iload_n 1, 1) := by decide +kernel
theorem dX7_drive_1 : decode cX7_drive 1 = .ok (.invokestatic 157, 3) := by decide +kernel
theorem dX7_drive_4 : decode cX7_drive 4 = .ok (.iload_n 2, 1) := by decide +kernel
theorem dX7_drive_5 : decode cX7_drive 5 = .ok (.invokestatic 157, 3) := by decide +kernel
theorem dX7_drive_8 : decode cX7_drive 8 = .ok (.aload_n 0, 1) := by decide +kernel
theorem dX7_drive_9 : decode cX7_drive 9 = .ok (.getfield 36, 3) := by decide +kernel
theorem dX7_drive_12 : decode cX7_drive 12 = .ok (.iload_n 1, 1) := by decide +kernel
theorem dX7_drive_13 : decode cX7_drive 13 = .ok (.iload_n 2, 1) := by decide +kernel
theorem dX7_drive_14 : decode cX7_drive 14 = .ok (.invokevirtual 166, 3) := by decide +kernel
theorem dX7_drive_17 : decode cX7_drive 17 = .ok (.ireturn, 1) := by decide +kernel
set_option maxRecDepth 20000 in
theorem ggX7_free_X7_checkPlayer : GoodIn wsX7_free wsX7_checkPlayer := goodIn_ca (goodIn_r _ [5, 6, 7, 8, 54, 55, 56, 57, 58, 59, 60, 61, 62, 63, 64, 65, 66, 67, 68] rfl (by decide +kernel)) (goodIn_sub (fun _ h => List.mem_cons_of_mem _ (List.mem_append_right _ h)) (by decide +kernel))
set_option maxRecDepth 20000 in
theorem gX7_free_X7_checkPlayer : GoodIn wsX7_free (wsV RX7 123 RX7 yX7_checkPlayer wsX7_checkPlayer) := goodIn_app (goodIn_of _ (by decide +kernel)) ggX7_free_X7_checkPlayer
set_option maxRecDepth 20000 in
theorem ggX7_free_X7_checkWedding : GoodIn wsX7_free wsX7_checkWedding := goodIn_ca (goodIn_r _ [12, 6, 7, 13, 54, 55, 56, 57, 58, 59, 60, 61, 62, 63, 64, 65, 66, 67, 68] rfl (by decide +kernel)) (goodIn_sub (fun _ h => List.mem_cons_of_mem _ (List.mem_append_right _ h)) (by decide +kernel))
set_option maxRecDepth 20000 in
theorem gX7_free_X7_checkWedding : GoodIn wsX7_free (wsV RX7 214 RX7 yX7_checkWedding wsX7_checkWedding) := goodIn_app (goodIn_of _ (by decide +kernel)) ggX7_free_X7_checkWedding
set_option maxRecDepth 20000 in
theorem ggX7_free_X7_stageAsFixed : GoodIn wsX7_free wsX7_stageAsFixed := goodIn_r _ [17, 13, 18, 19, 20, 21, 54, 55, 56, 57, 58, 59, 60, 61, 62, 63, 64, 65, 66, 67, 68, 69, 70, 71, 72, 73, 74, 75, 76, 77, 78, 79, 80] rfl (by decide +kernel)
set_option maxRecDepth 20000 in
theorem gX7_free_X7_stageAsFixed : GoodIn wsX7_free (wsV RX7 342 RX7 yX7_stageAsFixed wsX7_stageAsFixed) := goodIn_app (goodIn_of _ (by decide +kernel)) ggX7_free_X7_stageAsFixed
set_option maxRecDepth 20000 in
theorem ggX7_free_X7_isFreeFor : GoodIn wsX7_free wsX7_isFreeFor := goodIn_r _ [25, 19, 26, 27, 28, 29, 30, 31, 13, 18, 32, 33, 34, 35, 36, 37, 38, 39, 40, 4, 41, 42, 43, 44, 45, 46, 47, 48, 49, 50, 51, 52, 53, 54, 55, 56, 57, 58, 59, 60, 61, 62, 63, 64, 65, 66, 67, 68, 69, 70, 71, 72, 73, 74, 75, 76, 77, 78, 79, 80, 81, 82, 83, 84, 85, 86, 87, 88, 89, 90] rfl (by decide +kernel)
set_option maxRecDepth 20000 in
theorem gX7_free_X7_isFreeFor : GoodIn wsX7_free (wsV RX7 345 RX7 yX7_isFreeFor wsX7_isFreeFor) := goodIn_app (goodIn_of _ (by decide +kernel)) ggX7_free_X7_isFreeFor
theorem dX7_free_0 : decode cX7_free 0 = .ok (.aload_n 0, 1) := by decide +kernel
theorem dX7_free_1 : decode cX7_free 1 = .ok (.iload_n 1, 1) := by decide +kernel
theorem dX7_free_2 : decode cX7_free 2 = .ok (.invokevirtual 123, 3) := by decide +kernel
theorem dX7_free_5 : decode cX7_free 5 = .ok (.aload_n 0, 1) := by decide +kernel
theorem dX7_free_6 : decode cX7_free 6 = .ok (.iload_n 2, 1) := by decide +kernel
theorem dX7_free_7 : decode cX7_free 7 = .ok (.invokevirtual 214, 3) := by decide +kernel
theorem dX7_free_10 : decode cX7_free 10 = .ok (.aload_n 0, 1) := by decide +kernel
theorem dX7_free_11 : decode cX7_free 11 = .ok (.invokevirtual 342, 3) := by decide +kernel
theorem dX7_free_14 : decode cX7_free 14 = .ok (.aload_n 0, 1) := by decide +kernel
theorem dX7_free_15 : decode cX7_free 15 = .ok (.iload_n 1, 1) := by decide +kernel
theorem dX7_free_16 : decode cX7_free 16 = .ok (.iload_n 2, 1) := by decide +kernel
theorem dX7_free_17 : decode cX7_free 17 = .ok (.invokevirtual 345, 3) := by decide +kernel
theorem dX7_free_20 : decode cX7_free 20 = .ok (.ireturn, 1) := by decide +kernel
set_option maxRecDepth 20000 in
theorem ggX7_filling_X7_checkWedding : GoodIn wsX7_filling wsX7_checkWedding := goodIn_ca (goodIn_r _ [12, 13, 14, 15, 125, 126, 127, 128, 129, 130, 131, 132, 133, 134, 135, 136, 137, 138, 139] rfl (by decide +kernel)) (goodIn_sub (fun _ h => List.mem_cons_of_mem _ (List.mem_append_right _ h)) (by decide +kernel))
set_option maxRecDepth 20000 in
theorem gX7_filling_X7_checkWedding : GoodIn wsX7_filling (wsV RX7 214 RX7 yX7_checkWedding wsX7_checkWedding) := goodIn_app (goodIn_of _ (by decide +kernel)) ggX7_filling_X7_checkWedding
set_option maxRecDepth 20000 in
theorem ggX7_filling_X7_surveyNow : GoodIn wsX7_filling wsX7_surveyNow := goodIn_r _ [19, 20, 21, 22, 11, 23, 15, 24, 25, 26, 27, 28, 29, 30, 31, 32, 33, 34, 35, 36, 37, 38, 39, 40, 41, 42, 43, 44, 45, 46, 47, 48, 49, 50, 51, 52, 53, 54, 55, 56, 57, 58, 59, 60, 61, 62, 63, 64, 65, 66, 67, 68, 69, 70, 71, 3, 72, 73, 6, 7, 74, 75, 76, 77, 78, 79, 80, 81, 82, 83, 84, 85, 86, 87, 88, 89, 90, 91, 92, 93, 94, 95, 96, 97, 98, 99, 100, 101, 102, 103, 104, 105, 106, 107, 108, 109, 110, 111, 112, 113, 114, 115, 116, 117, 118, 119, 120, 121, 122, 123, 124, 125, 126, 127, 128, 129, 130, 131, 132, 133, 134, 135, 136, 137, 138, 139, 146, 147, 148, 149, 150, 151, 152, 153, 154, 155, 156, 157, 158, 159, 160, 161, 162, 163, 164, 165, 166, 167, 168, 169, 170, 140, 141, 142, 143, 144, 145] rfl (by decide +kernel)
set_option maxRecDepth 20000 in
theorem gX7_filling_X7_surveyNow : GoodIn wsX7_filling (wsV RX7 222 RX7 yX7_surveyNow wsX7_surveyNow) := goodIn_app (goodIn_of _ (by decide +kernel)) ggX7_filling_X7_surveyNow
theorem dX7_filling_0 : decode cX7_filling 0 = .ok (.aload_n 0, 1) := by decide +kernel
theorem dX7_filling_1 : decode cX7_filling 1 = .ok (.iload_n 1, 1) := by decide +kernel
theorem dX7_filling_2 : decode cX7_filling 2 = .ok (.invokevirtual 214, 3) := by decide +kernel
theorem dX7_filling_5 : decode cX7_filling 5 = .ok (.iload_n 2, 1) := by decide +kernel
theorem dX7_filling_6 : decode cX7_filling 6 = .ok (.ifCond .lt 8, 3) := by decide +kernel
theorem dX7_filling_9 : decode cX7_filling 9 = .ok (.iload_n 2, 1) := by decide +kernel
theorem dX7_filling_10 : decode cX7_filling 10 = .ok (.iconst 3, 1) := by decide +kernel
theorem dX7_filling_11 : decode cX7_filling 11 = .ok (.if_icmp .le 14, 3) := by decide +kernel
theorem dX7_filling_14 : decode cX7_filling 14 = .ok (.new 101, 3) := by decide +kernel
theorem dX7_filling_17 : decode cX7_filling 17 = .ok (.dup, 1) := by decide +kernel
theorem dX7_filling_18 : decode cX7_filling 18 = .ok (.ldc_w 348, 3) := by decide +kernel
theorem dX7_filling_21 : decode cX7_filling 21 = .ok (.invokespecial 105, 3) := by decide +kernel
theorem dX7_filling_24 : decode cX7_filling 24 = .ok (.athrow, 1) := by decide +kernel
theorem dX7_filling_25 : decode cX7_filling 25 = .ok (.aload_n 0, 1) := by decide +kernel
theorem dX7_filling_26 : decode cX7_filling 26 = .ok (.iload_n 1, 1) := by decide +kernel
theorem dX7_filling_27 : decode cX7_filling 27 = .ok (.invokevirtual 222, 3) := by decide +kernel
theorem dX7_filling_30 : decode cX7_filling 30 = .ok (.iload_n 2, 1) := by decide +kernel
theorem dX7_filling_31 : decode cX7_filling 31 = .ok (.tableswitch 49 0 2 #[25, 33, 41], 25) := by decide +kernel
theorem dX7_filling_56 : decode cX7_filling 56 = .ok (.aload_n 0, 1) := by decide +kernel
theorem dX7_filling_57 : decode cX7_filling 57 = .ok (.getfield 70, 3) := by decide +kernel
theorem dX7_filling_60 : decode cX7_filling 60 = .ok (.getfield 236, 3) := by decide +kernel
theorem dX7_filling_63 : decode cX7_filling 63 = .ok (.ireturn, 1) := by decide +kernel
theorem dX7_filling_64 : decode cX7_filling 64 = .ok (.aload_n 0, 1) := by decide +kernel
theorem dX7_filling_65 : decode cX7_filling 65 = .ok (.getfield 70, 3) := by decide +kernel
theorem dX7_filling_68 : decode cX7_filling 68 = .ok (.getfield 241, 3) := by decide +kernel
theorem dX7_filling_71 : decode cX7_filling 71 = .ok (.ireturn, 1) := by decide +kernel
theorem dX7_filling_72 : decode cX7_filling 72 = .ok (.aload_n 0, 1) := by decide +kernel
theorem dX7_filling_73 : decode cX7_filling 73 = .ok (.getfield 70, 3) := by decide +kernel
theorem dX7_filling_76 : decode cX7_filling 76 = .ok (.getfield 225, 3) := by decide +kernel
theorem dX7_filling_79 : decode cX7_filling 79 = .ok (.ireturn, 1) := by decide +kernel
theorem dX7_filling_80 : decode cX7_filling 80 = .ok (.aload_n 0, 1) := by decide +kernel
theorem dX7_filling_81 : decode cX7_filling 81 = .ok (.getfield 70, 3) := by decide +kernel
theorem dX7_filling_84 : decode cX7_filling 84 = .ok (.getfield 350, 3) := by decide +kernel
theorem dX7_filling_87 : decode cX7_filling 87 = .ok (.ireturn, 1) := by decide +kernel
set_option maxRecDepth 20000 in
theorem ggX7_set_X7_playableFor : GoodIn wsX7_set wsX7_playableFor := goodIn_r _ [12, 3, 13, 14, 15, 16, 11, 17, 18, 19, 20, 21, 22, 23, 24, 61, 62, 63, 64, 65, 66, 67, 68, 69, 70, 71, 72, 73, 74, 75, 83, 84, 85, 86, 87, 88, 89, 90] rfl (by decide +kernel)
set_option maxRecDepth 20000 in
theorem gX7_set_X7_playableFor : GoodIn wsX7_set (wsV RX7 355 RX7 yX7_playableFor wsX7_playableFor) := goodIn_app (goodIn_of _ (by decide +kernel)) ggX7_set_X7_playableFor
set_option maxRecDepth 20000 in
theorem ggX7_set_X1_choose : GoodIn wsX7_set wsX1_choose := goodIn_r _ [29, 30, 31, 32, 33, 34, 35, 36, 37, 38, 28, 39, 40, 16, 11, 17, 41, 42, 43, 44, 45, 46, 47, 48, 49, 50, 51, 52, 53, 54, 55, 56, 57, 58, 59, 60, 76, 77, 78, 79, 80, 81, 82, 91, 92, 93, 94] rfl (by decide +kernel)
set_option maxRecDepth 20000 in
theorem gX7_set_X1_choose : GoodIn wsX7_set (wsV RX7 358 RX1 yX1_choose wsX1_choose) := goodIn_app (goodIn_of _ (by decide +kernel)) ggX7_set_X1_choose
theorem dX7_set_0 : decode cX7_set 0 = .ok (.iload_n 1, 1) := by decide +kernel
theorem dX7_set_1 : decode cX7_set 1 = .ok (.ifCond .lt 13, 3) := by decide +kernel
theorem dX7_set_4 : decode cX7_set 4 = .ok (.iload_n 1, 1) := by decide +kernel
theorem dX7_set_5 : decode cX7_set 5 = .ok (.iconst 1, 1) := by decide +kernel
theorem dX7_set_6 : decode cX7_set 6 = .ok (.aload_n 0, 1) := by decide +kernel
theorem dX7_set_7 : decode cX7_set 7 = .ok (.getfield 44, 3) := by decide +kernel
theorem dX7_set_10 : decode cX7_set 10 = .ok (.ishl, 1) := by decide +kernel
theorem dX7_set_11 : decode cX7_set 11 = .ok (.if_icmp .lt 14, 3) := by decide +kernel
theorem dX7_set_14 : decode cX7_set 14 = .ok (.new 101, 3) := by decide +kernel
theorem dX7_set_17 : decode cX7_set 17 = .ok (.dup, 1) := by decide +kernel
theorem dX7_set_18 : decode cX7_set 18 = .ok (.ldc_w 353, 3) := by decide +kernel
theorem dX7_set_21 : decode cX7_set 21 = .ok (.invokespecial 105, 3) := by decide +kernel
theorem dX7_set_24 : decode cX7_set 24 = .ok (.athrow, 1) := by decide +kernel
theorem dX7_set_25 : decode cX7_set 25 = .ok (.aload_n 0, 1) := by decide +kernel
theorem dX7_set_26 : decode cX7_set 26 = .ok (.getfield 77, 3) := by decide +kernel
theorem dX7_set_29 : decode cX7_set 29 = .ok (.aload_n 0, 1) := by decide +kernel
theorem dX7_set_30 : decode cX7_set 30 = .ok (.getfield 17, 3) := by decide +kernel
theorem dX7_set_33 : decode cX7_set 33 = .ok (.aload_n 0, 1) := by decide +kernel
theorem dX7_set_34 : decode cX7_set 34 = .ok (.iload_n 1, 1) := by decide +kernel
theorem dX7_set_35 : decode cX7_set 35 = .ok (.invokevirtual 355, 3) := by decide +kernel
theorem dX7_set_38 : decode cX7_set 38 = .ok (.invokevirtual 358, 3) := by decide +kernel
theorem dX7_set_41 : decode cX7_set 41 = .ok (.iload_n 2, 1) := by decide +kernel
theorem dX7_set_42 : decode cX7_set 42 = .ok (.ifCond .eq 13, 3) := by decide +kernel
theorem dX7_set_45 : decode cX7_set 45 = .ok (.aload_n 0, 1) := by decide +kernel
theorem dX7_set_46 : decode cX7_set 46 = .ok (.getfield 77, 3) := by decide +kernel
theorem dX7_set_49 : decode cX7_set 49 = .ok (.getfield 362, 3) := by decide +kernel
theorem dX7_set_52 : decode cX7_set 52 = .ok (.goto 10, 3) := by decide +kernel
theorem dX7_set_55 : decode cX7_set 55 = .ok (.aload_n 0, 1) := by decide +kernel
theorem dX7_set_56 : decode cX7_set 56 = .ok (.getfield 77, 3) := by decide +kernel
theorem dX7_set_59 : decode cX7_set 59 = .ok (.getfield 363, 3) := by decide +kernel
theorem dX7_set_62 : decode cX7_set 62 = .ok (.ireturn, 1) := by decide +kernel
set_option maxRecDepth 20000 in
theorem ggX7_songs_X7_checkWedding : GoodIn wsX7_songs wsX7_checkWedding := goodIn_ca (goodIn_r _ [14, 15, 16, 17, 283, 284, 285, 286, 287, 288, 289, 290, 291, 292, 293, 294, 295, 296, 297] rfl (by decide +kernel)) (goodIn_sub (fun _ h => List.mem_cons_of_mem _ (List.mem_append_right _ h)) (by decide +kernel))
set_option maxRecDepth 20000 in
theorem gX7_songs_X7_checkWedding : GoodIn wsX7_songs (wsV RX7 214 RX7 yX7_checkWedding wsX7_checkWedding) := goodIn_app (goodIn_of _ (by decide +kernel)) ggX7_songs_X7_checkWedding
set_option maxRecDepth 20000 in
theorem ggX7_songs_X7_playableFor : GoodIn wsX7_songs wsX7_playableFor := goodIn_r _ [21, 22, 23, 24, 25, 26, 13, 27, 28, 29, 30, 31, 32, 33, 34, 283, 284, 285, 286, 287, 288, 289, 290, 291, 292, 293, 294, 295, 296, 297, 321, 322, 323, 324, 325, 326, 327, 328] rfl (by decide +kernel)
set_option maxRecDepth 20000 in
theorem gX7_songs_X7_playableFor : GoodIn wsX7_songs (wsV RX7 355 RX7 yX7_playableFor wsX7_playableFor) := goodIn_app (goodIn_of _ (by decide +kernel)) ggX7_songs_X7_playableFor
set_option maxRecDepth 20000 in
theorem ggX7_songs_X1_choose : GoodIn wsX7_songs wsX1_choose := goodIn_r _ [39, 40, 41, 42, 43, 44, 45, 46, 47, 48, 38, 49, 50, 26, 13, 27, 51, 52, 53, 54, 55, 56, 57, 58, 59, 60, 61, 62, 63, 64, 65, 66, 67, 68, 69, 70, 310, 311, 312, 313, 314, 315, 316, 329, 330, 331, 332] rfl (by decide +kernel)
set_option maxRecDepth 20000 in
theorem gX7_songs_X1_choose : GoodIn wsX7_songs (wsV RX7 358 RX1 yX1_choose wsX1_choose) := goodIn_app (goodIn_of _ (by decide +kernel)) ggX7_songs_X1_choose
set_option maxRecDepth 20000 in
theorem ggX7_songs_J4_init_da8c8 : GoodIn wsX7_songs wsJ4_init_da8c8 := goodIn_r _ [73, 74, 75, 76, 77, 78, 79, 80, 81, 82, 83, 84, 85, 86, 87, 88, 89, 90, 91, 92, 317, 318, 319, 320] rfl (by decide +kernel)
set_option maxRecDepth 20000 in
theorem gX7_songs_J4_init_da8c8 : GoodIn wsX7_songs (wsJ4_init_da8c8) := ggX7_songs_J4_init_da8c8
set_option maxRecDepth 20000 in
theorem ggX7_songs_J4_append_cf468 : GoodIn wsX7_songs wsJ4_append_cf468 := goodIn_r _ [96, 97, 98, 99, 100, 76, 101, 102, 83, 103, 104, 105, 106, 107, 84, 108, 109, 110, 111, 112, 113, 114, 115, 116, 117, 118, 119, 59, 120, 121, 122, 123, 124, 125, 126, 127, 128, 129, 130, 131, 132, 133, 134, 82, 135, 136, 137, 138, 139, 140, 141, 142, 143, 144, 145, 146, 81, 147, 148, 149, 150, 151, 152, 153, 154, 155, 85, 86, 87, 88, 89, 90, 91, 92, 156, 157, 158, 159, 160, 161, 162, 163, 164, 165, 166, 167, 168, 169, 170, 171, 172, 173, 174, 175, 176, 177, 178, 179, 180, 181, 182, 183, 184, 185, 186, 187, 188, 189, 190, 191, 192, 193, 194, 317, 318, 319, 320] rfl (by decide +kernel)
set_option maxRecDepth 20000 in
theorem gX7_songs_J4_append_cf468 : GoodIn wsX7_songs (wsV RX7 369 RJ4 yJ4_append_cf468 wsJ4_append_cf468) := goodIn_app (goodIn_of _ (by decide +kernel)) ggX7_songs_J4_append_cf468
set_option maxRecDepth 20000 in
theorem ggX7_songs_J4_append_bf812 : GoodIn wsX7_songs wsJ4_append_bf812 := goodIn_r _ [198, 199, 200, 99, 201, 76, 202, 102, 83, 203, 204, 30, 205, 103, 104, 105, 106, 107, 84, 108, 109, 110, 111, 112, 113, 114, 115, 116, 117, 118, 119, 59, 120, 121, 122, 123, 124, 125, 126, 127, 128, 129, 130, 131, 132, 133, 134, 82, 135, 136, 137, 138, 139, 140, 141, 142, 143, 144, 145, 146, 81, 206, 207, 208, 209, 210, 211, 212, 87, 213, 180, 214, 215, 216, 165, 166, 167, 217, 218, 170, 219, 172, 220, 221, 175, 222, 223, 224, 225, 226, 227, 177, 178, 179, 181, 182, 317, 318, 319, 320] rfl (by decide +kernel)
set_option maxRecDepth 20000 in
theorem gX7_songs_J4_append_bf812 : GoodIn wsX7_songs (wsV RX7 376 RJ4 yJ4_append_bf812 wsJ4_append_bf812) := goodIn_app (goodIn_of _ (by decide +kernel)) ggX7_songs_J4_append_bf812
set_option maxRecDepth 20000 in
theorem ggX7_songs_J4_toString_0e30d : GoodIn wsX7_songs wsJ4_toString_0e30d := goodIn_r _ [231, 232, 233, 170, 234, 235, 236, 237, 238, 239, 240, 79, 80, 241, 242, 243, 244, 245, 246, 247, 248, 76, 249, 83, 250, 251, 252, 253, 254, 8, 255, 256, 99, 257, 258, 102, 259, 143, 144, 145, 146, 81, 84, 260, 261, 127, 262, 129, 130, 131, 132, 133, 134, 263, 264, 265, 82, 135, 136, 59, 137, 138, 139, 140, 141, 266, 267, 268, 269, 7, 270, 271, 87, 272, 273, 274, 275, 162, 163, 164, 165, 166, 167, 168, 169, 171, 172, 173, 174, 175, 176, 276, 277, 278, 180, 181, 182, 89, 90, 91, 92, 279, 280, 281, 282, 333, 334, 335, 336, 317, 318, 319, 320] rfl (by decide +kernel)
set_option maxRecDepth 20000 in
theorem gX7_songs_J4_toString_0e30d : GoodIn wsX7_songs (wsV RX7 379 RJ4 yJ4_toString_0e30d wsJ4_toString_0e30d) := goodIn_app (goodIn_of _ (by decide +kernel)) ggX7_songs_J4_toString_0e30d
theorem dX7_songs_0 : decode cX7_songs 0 = .ok (.aload_n 0, 1) := by decide +kernel
theorem dX7_songs_1 : decode cX7_songs 1 = .ok (.iload_n 1, 1) := by decide +kernel
theorem dX7_songs_2 : decode cX7_songs 2 = .ok (.invokevirtual 214, 3) := by decide +kernel
theorem dX7_songs_5 : decode cX7_songs 5 = .ok (.aload_n 0, 1) := by decide +kernel
theorem dX7_songs_6 : decode cX7_songs 6 = .ok (.getfield 77, 3) := by decide +kernel
theorem dX7_songs_9 : decode cX7_songs 9 = .ok (.aload_n 0, 1) := by decide +kernel
theorem dX7_songs_10 : decode cX7_songs 10 = .ok (.getfield 17, 3) := by decide +kernel
theorem dX7_songs_13 : decode cX7_songs 13 = .ok (.aload_n 0, 1) := by decide +kernel
theorem dX7_songs_14 : decode cX7_songs 14 = .ok (.aload_n 0, 1) := by decide +kernel
theorem dX7_songs_15 : decode cX7_songs 15 = .ok (.getfield 29, 3) := by decide +kernel
theorem dX7_songs_18 : decode cX7_songs 18 = .ok (.iload_n 1, 1) := by decide +kernel
theorem dX7_songs_19 : decode cX7_songs 19 = .ok (.aaload, 1) := by decide +kernel
theorem dX7_songs_20 : decode cX7_songs 20 = .ok (.getfield 239, 3) := by decide +kernel
theorem dX7_songs_23 : decode cX7_songs 23 = .ok (.invokevirtual 355, 3) := by decide +kernel
theorem dX7_songs_26 : decode cX7_songs 26 = .ok (.invokevirtual 358, 3) := by decide +kernel
theorem dX7_songs_29 : decode cX7_songs 29 = .ok (.aload_n 0, 1) := by decide +kernel
theorem dX7_songs_30 : decode cX7_songs 30 = .ok (.getfield 77, 3) := by decide +kernel
theorem dX7_songs_33 : decode cX7_songs 33 = .ok (.getfield 363, 3) := by decide +kernel
theorem dX7_songs_36 : decode cX7_songs 36 = .ok (.ifCond .ne 7, 3) := by decide +kernel
theorem dX7_songs_39 : decode cX7_songs 39 = .ok (.ldc_w 364, 3) := by decide +kernel
theorem dX7_songs_42 : decode cX7_songs 42 = .ok (.areturn, 1) := by decide +kernel
theorem dX7_songs_43 : decode cX7_songs 43 = .ok (.new 366, 3) := by decide +kernel
theorem dX7_songs_46 : decode cX7_songs 46 = .ok (.dup, 1) := by decide +kernel
theorem dX7_songs_47 : decode cX7_songs 47 = .ok (.invokespecial 368, 3) := by decide +kernel
theorem dX7_songs_50 : decode cX7_songs 50 = .ok (.astore_n 2, 1) := by decide +kernel
theorem dX7_songs_51 : decode cX7_songs 51 = .ok (.iconst 0, 1) := by decide +kernel
theorem dX7_songs_52 : decode cX7_songs 52 = .ok (.istore_n 3, 1) := by decide +kernel
theorem dX7_songs_53 : decode cX7_songs 53 = .ok (.iload_n 3, 1) := by decide +kernel
theorem dX7_songs_54 : decode cX7_songs 54 = .ok (.aload_n 0, 1) := by decide +kernel
theorem dX7_songs_55 : decode cX7_songs 55 = .ok (.getfield 77, 3) := by decide +kernel
theorem dX7_songs_58 : decode cX7_songs 58 = .ok (.getfield 363, 3) := by decide +kernel
theorem dX7_songs_61 : decode cX7_songs 61 = .ok (.if_icmp .ge 34, 3) := by decide +kernel
theorem dX7_songs_64 : decode cX7_songs 64 = .ok (.iload_n 3, 1) := by decide +kernel
theorem dX7_songs_65 : decode cX7_songs 65 = .ok (.ifCond .le 10, 3) := by decide +kernel
theorem dX7_songs_68 : decode cX7_songs 68 = .ok (.aload_n 2, 1) := by decide +kernel
theorem dX7_songs_69 : decode cX7_songs 69 = .ok (.bipush 32, 2) := by decide +kernel
theorem dX7_songs_71 : decode cX7_songs 71 = .ok (.invokevirtual 369, 3) := by decide +kernel
theorem dX7_songs_74 : decode cX7_songs 74 = .ok (.pop, 1) := by decide +kernel
theorem dX7_songs_75 : decode cX7_songs 75 = .ok (.aload_n 2, 1) := by decide +kernel
theorem dX7_songs_76 : decode cX7_songs 76 = .ok (.aload_n 0, 1) := by decide +kernel
theorem dX7_songs_77 : decode cX7_songs 77 = .ok (.getfield 77, 3) := by decide +kernel
theorem dX7_songs_80 : decode cX7_songs 80 = .ok (.getfield 373, 3) := by decide +kernel
theorem dX7_songs_83 : decode cX7_songs 83 = .ok (.iload_n 3, 1) := by decide +kernel
theorem dX7_songs_84 : decode cX7_songs 84 = .ok (.iaload, 1) := by decide +kernel
theorem dX7_songs_85 : decode cX7_songs 85 = .ok (.invokevirtual 376, 3) := by decide +kernel
theorem dX7_songs_88 : decode cX7_songs 88 = .ok (.pop, 1) := by decide +kernel
theorem dX7_songs_89 : decode cX7_songs 89 = .ok (.iinc 3 1, 3) := by decide +kernel
theorem dX7_songs_92 : decode cX7_songs 92 = .ok (.goto (-39), 3) := by decide +kernel
theorem dX7_songs_95 : decode cX7_songs 95 = .ok (.aload_n 2, 1) := by decide +kernel
theorem dX7_songs_96 : decode cX7_songs 96 = .ok (.invokevirtual 379, 3) := by decide +kernel
theorem dX7_songs_99 : decode cX7_songs 99 = .ok (.areturn, 1) := by decide +kernel
set_option maxRecDepth 20000 in
theorem ggX7_desk_X7_countInState : GoodIn wsX7_desk wsX7_countInState := goodIn_r _ [12, 6, 13, 14, 50, 51, 52, 53, 54, 55, 56, 57, 58, 59, 60, 61, 62, 63, 64, 65, 66, 67, 68, 69, 70, 71, 72, 73, 74, 75, 76] rfl (by decide +kernel)
set_option maxRecDepth 20000 in
theorem gX7_desk_X7_countInState : GoodIn wsX7_desk (wsV RX7 383 RX7 yX7_countInState wsX7_countInState) := goodIn_app (goodIn_of _ (by decide +kernel)) ggX7_desk_X7_countInState
set_option maxRecDepth 20000 in
theorem ggX7_desk_X7_countFeuds : GoodIn wsX7_desk wsX7_countFeuds := goodIn_r _ [18, 4, 19, 20, 21, 22, 23, 24, 25, 26, 27, 50, 51, 52, 53, 54, 55, 56, 57, 58, 59, 60, 61, 62, 63, 64, 77, 78, 79, 80, 81, 82, 83, 84] rfl (by decide +kernel)
set_option maxRecDepth 20000 in
theorem gX7_desk_X7_countFeuds : GoodIn wsX7_desk (wsV RX7 386 RX7 yX7_countFeuds wsX7_countFeuds) := goodIn_app (goodIn_of _ (by decide +kernel)) ggX7_desk_X7_countFeuds
set_option maxRecDepth 20000 in
theorem ggX7_desk_X7_allEarned : GoodIn wsX7_desk wsX7_allEarned := goodIn_r _ [31, 4, 19, 32, 50, 51, 52, 53, 54, 55, 56, 57, 58, 59, 60, 61, 62, 63, 64, 77, 78, 79, 80, 81, 82, 83, 84] rfl (by decide +kernel)
set_option maxRecDepth 20000 in
theorem gX7_desk_X7_allEarned : GoodIn wsX7_desk (wsV RX7 389 RX7 yX7_allEarned wsX7_allEarned) := goodIn_app (goodIn_of _ (by decide +kernel)) ggX7_desk_X7_allEarned
set_option maxRecDepth 20000 in
theorem ggX7_desk_X7_countDaysOff : GoodIn wsX7_desk wsX7_countDaysOff := goodIn_r _ [36, 37, 21, 22, 23, 24, 25, 26, 27, 50, 51, 52, 53, 54, 55, 56, 57, 58, 59, 60, 61, 62, 63, 64] rfl (by decide +kernel)
set_option maxRecDepth 20000 in
theorem gX7_desk_X7_countDaysOff : GoodIn wsX7_desk (wsV RX7 392 RX7 yX7_countDaysOff wsX7_countDaysOff) := goodIn_app (goodIn_of _ (by decide +kernel)) ggX7_desk_X7_countDaysOff
set_option maxRecDepth 20000 in
theorem ggX7_desk_X7_gapOfHours : GoodIn wsX7_desk wsX7_gapOfHours := goodIn_r _ [41, 4, 19, 42, 43, 44, 45, 46, 47, 48, 49, 50, 51, 52, 53, 54, 55, 56, 57, 58, 59, 60, 61, 62, 63, 64, 77, 78, 79, 80, 81, 82, 83, 84] rfl (by decide +kernel)
set_option maxRecDepth 20000 in
theorem gX7_desk_X7_gapOfHours : GoodIn wsX7_desk (wsV RX7 395 RX7 yX7_gapOfHours wsX7_gapOfHours) := goodIn_app (goodIn_of _ (by decide +kernel)) ggX7_desk_X7_gapOfHours
theorem dX7_desk_0 : decode cX7_desk 0 = .ok (.iload_n 1, 1) := by decide +kernel
theorem dX7_desk_1 : decode cX7_desk 1 = .ok (.tableswitch 136 0 12 #[67, 72, 77, 82, 87, 93, 99, 105, 111, 116, 121, 126, 131], 67) := by decide +kernel
theorem dX7_desk_68 : decode cX7_desk 68 = .ok (.aload_n 0, 1) := by decide +kernel
theorem dX7_desk_69 : decode cX7_desk 69 = .ok (.getfield 54, 3) := by decide +kernel
theorem dX7_desk_72 : decode cX7_desk 72 = .ok (.ireturn, 1) := by decide +kernel
theorem dX7_desk_73 : decode cX7_desk 73 = .ok (.aload_n 0, 1) := by decide +kernel
theorem dX7_desk_74 : decode cX7_desk 74 = .ok (.getfield 44, 3) := by decide +kernel
theorem dX7_desk_77 : decode cX7_desk 77 = .ok (.ireturn, 1) := by decide +kernel
theorem dX7_desk_78 : decode cX7_desk 78 = .ok (.aload_n 0, 1) := by decide +kernel
theorem dX7_desk_79 : decode cX7_desk 79 = .ok (.getfield 48, 3) := by decide +kernel
theorem dX7_desk_82 : decode cX7_desk 82 = .ok (.ireturn, 1) := by decide +kernel
theorem dX7_desk_83 : decode cX7_desk 83 = .ok (.aload_n 0, 1) := by decide +kernel
theorem dX7_desk_84 : decode cX7_desk 84 = .ok (.getfield 51, 3) := by decide +kernel
theorem dX7_desk_87 : decode cX7_desk 87 = .ok (.ireturn, 1) := by decide +kernel
theorem dX7_desk_88 : decode cX7_desk 88 = .ok (.aload_n 0, 1) := by decide +kernel
theorem dX7_desk_89 : decode cX7_desk 89 = .ok (.iconst 0, 1) := by decide +kernel
theorem dX7_desk_90 : decode cX7_desk 90 = .ok (.invokevirtual 383, 3) := by decide +kernel
theorem dX7_desk_93 : decode cX7_desk 93 = .ok (.ireturn, 1) := by decide +kernel
theorem dX7_desk_94 : decode cX7_desk 94 = .ok (.aload_n 0, 1) := by decide +kernel
theorem dX7_desk_95 : decode cX7_desk 95 = .ok (.iconst 1, 1) := by decide +kernel
theorem dX7_desk_96 : decode cX7_desk 96 = .ok (.invokevirtual 383, 3) := by decide +kernel
theorem dX7_desk_99 : decode cX7_desk 99 = .ok (.ireturn, 1) := by decide +kernel
theorem dX7_desk_100 : decode cX7_desk 100 = .ok (.aload_n 0, 1) := by decide +kernel
theorem dX7_desk_101 : decode cX7_desk 101 = .ok (.iconst 2, 1) := by decide +kernel
theorem dX7_desk_102 : decode cX7_desk 102 = .ok (.invokevirtual 383, 3) := by decide +kernel
theorem dX7_desk_105 : decode cX7_desk 105 = .ok (.ireturn, 1) := by decide +kernel
theorem dX7_desk_106 : decode cX7_desk 106 = .ok (.aload_n 0, 1) := by decide +kernel
theorem dX7_desk_107 : decode cX7_desk 107 = .ok (.iconst 3, 1) := by decide +kernel
theorem dX7_desk_108 : decode cX7_desk 108 = .ok (.invokevirtual 383, 3) := by decide +kernel
theorem dX7_desk_111 : decode cX7_desk 111 = .ok (.ireturn, 1) := by decide +kernel
theorem dX7_desk_112 : decode cX7_desk 112 = .ok (.aload_n 0, 1) := by decide +kernel
theorem dX7_desk_113 : decode cX7_desk 113 = .ok (.getfield 57, 3) := by decide +kernel
theorem dX7_desk_116 : decode cX7_desk 116 = .ok (.ireturn, 1) := by decide +kernel
theorem dX7_desk_117 : decode cX7_desk 117 = .ok (.aload_n 0, 1) := by decide +kernel
theorem dX7_desk_118 : decode cX7_desk 118 = .ok (.invokevirtual 386, 3) := by decide +kernel
theorem dX7_desk_121 : decode cX7_desk 121 = .ok (.ireturn, 1) := by decide +kernel
theorem dX7_desk_122 : decode cX7_desk 122 = .ok (.aload_n 0, 1) := by decide +kernel
theorem dX7_desk_123 : decode cX7_desk 123 = .ok (.invokevirtual 389, 3) := by decide +kernel
theorem dX7_desk_126 : decode cX7_desk 126 = .ok (.ireturn, 1) := by decide +kernel
theorem dX7_desk_127 : decode cX7_desk 127 = .ok (.aload_n 0, 1) := by decide +kernel
theorem dX7_desk_128 : decode cX7_desk 128 = .ok (.invokevirtual 392, 3) := by decide +kernel
theorem dX7_desk_131 : decode cX7_desk 131 = .ok (.ireturn, 1) := by decide +kernel
theorem dX7_desk_132 : decode cX7_desk 132 = .ok (.aload_n 0, 1) := by decide +kernel
theorem dX7_desk_133 : decode cX7_desk 133 = .ok (.invokevirtual 395, 3) := by decide +kernel
theorem dX7_desk_136 : decode cX7_desk 136 = .ok (.ireturn, 1) := by decide +kernel
theorem dX7_desk_137 : decode cX7_desk 137 = .ok (.new 101, 3) := by decide +kernel
theorem dX7_desk_140 : decode cX7_desk 140 = .ok (.dup, 1) := by decide +kernel
theorem dX7_desk_141 : decode cX7_desk 141 = .ok (.ldc_w 398, 3) := by decide +kernel
theorem dX7_desk_144 : decode cX7_desk 144 = .ok (.invokespecial 105, 3) := by decide +kernel
theorem dX7_desk_147 : decode cX7_desk 147 = .ok (.athrow, 1) := by decide +kernel
set_option maxRecDepth 20000 in
theorem ggX7_tell_X7_checkWedding : GoodIn wsX7_tell wsX7_checkWedding := goodIn_ca (goodIn_r _ [13, 14, 15, 16, 260, 261, 262, 263, 264, 265, 266, 267, 268, 269, 270, 271, 272, 273, 274] rfl (by decide +kernel)) (goodIn_sub (fun _ h => List.mem_cons_of_mem _ (List.mem_append_right _ h)) (by decide +kernel))
set_option maxRecDepth 20000 in
theorem gX7_tell_X7_checkWedding : GoodIn wsX7_tell (wsV RX7 214 RX7 yX7_checkWedding wsX7_checkWedding) := goodIn_app (goodIn_of _ (by decide +kernel)) ggX7_tell_X7_checkWedding
set_option maxRecDepth 20000 in
theorem ggX7_tell_J4_init_da8c8 : GoodIn wsX7_tell wsJ4_init_da8c8 := goodIn_r _ [19, 20, 21, 22, 23, 24, 25, 26, 27, 28, 29, 30, 31, 32, 33, 34, 35, 36, 37, 38, 275, 276, 277, 278] rfl (by decide +kernel)
set_option maxRecDepth 20000 in
theorem gX7_tell_J4_init_da8c8 : GoodIn wsX7_tell (wsJ4_init_da8c8) := ggX7_tell_J4_init_da8c8
set_option maxRecDepth 20000 in
theorem ggX7_tell_J4_append_bf812 : GoodIn wsX7_tell wsJ4_append_bf812 := goodIn_r _ [42, 43, 44, 45, 46, 22, 47, 48, 29, 49, 50, 51, 52, 53, 54, 55, 56, 57, 30, 58, 59, 60, 61, 62, 63, 64, 65, 66, 67, 68, 69, 70, 71, 72, 73, 74, 75, 76, 77, 78, 79, 80, 81, 82, 83, 84, 85, 28, 86, 87, 88, 89, 90, 91, 92, 93, 94, 95, 96, 97, 27, 98, 99, 100, 101, 102, 103, 104, 33, 105, 106, 107, 108, 109, 110, 111, 112, 113, 114, 115, 116, 117, 118, 119, 120, 121, 122, 123, 124, 125, 126, 127, 128, 129, 130, 131, 275, 276, 277, 278] rfl (by decide +kernel)
set_option maxRecDepth 20000 in
theorem gX7_tell_J4_append_bf812 : GoodIn wsX7_tell (wsV RX7 376 RJ4 yJ4_append_bf812 wsJ4_append_bf812) := goodIn_app (goodIn_of _ (by decide +kernel)) ggX7_tell_J4_append_bf812
set_option maxRecDepth 20000 in
theorem ggX7_tell_J4_append_15ec4 : GoodIn wsX7_tell wsJ4_append_15ec4 := goodIn_r _ [135, 136, 137, 45, 138, 22, 139, 48, 140, 141, 142, 143, 144, 29, 53, 54, 55, 56, 57, 30, 58, 59, 60, 61, 62, 63, 64, 65, 66, 67, 68, 69, 70, 71, 72, 73, 74, 75, 76, 77, 78, 79, 80, 81, 82, 83, 84, 85, 28, 86, 87, 88, 89, 90, 91, 92, 93, 94, 95, 96, 97, 27, 145, 146, 33, 147, 106, 107, 108, 109, 110, 111, 112, 113, 114, 115, 116, 117, 118, 119, 120, 121, 127, 128, 129, 130, 131, 148, 149, 150, 151, 152, 153, 154, 155, 156, 157, 158, 159, 160, 161, 162, 163, 164, 165, 166, 167, 168, 169, 170, 171, 172, 173, 174, 31, 32, 34, 35, 36, 37, 38, 175, 176, 177, 178, 179, 180, 181, 182, 183, 184, 185, 186, 187, 188, 189, 190, 191, 192, 193, 194, 195, 196, 275, 276, 277, 278, 291, 292, 293, 294] rfl (by decide +kernel)
set_option maxRecDepth 20000 in
theorem gX7_tell_J4_append_15ec4 : GoodIn wsX7_tell (wsV RX7 402 RJ4 yJ4_append_15ec4 wsJ4_append_15ec4) := goodIn_app (goodIn_of _ (by decide +kernel)) ggX7_tell_J4_append_15ec4
set_option maxRecDepth 20000 in
theorem ggX7_tell_X7_nameOfState : GoodIn wsX7_tell wsX7_nameOfState := goodIn_r _ [199] rfl (by decide +kernel)
set_option maxRecDepth 20000 in
theorem gX7_tell_X7_nameOfState : GoodIn wsX7_tell (va_wsS RX7 409 yX7_nameOfState wsX7_nameOfState) := goodIn_app (goodIn_of _ (by decide +kernel)) ggX7_tell_X7_nameOfState
set_option maxRecDepth 20000 in
theorem ggX7_tell_X7_appendPlayers : GoodIn wsX7_tell wsX7_appendPlayers := goodIn_r _ [203, 204, 205, 206, 12, 207, 132, 133, 134, 4, 135, 136, 137, 45, 138, 22, 139, 48, 140, 141, 142, 143, 144, 29, 53, 54, 55, 56, 57, 30, 58, 59, 60, 61, 62, 63, 64, 65, 66, 67, 68, 69, 70, 71, 72, 73, 74, 75, 76, 77, 78, 79, 80, 81, 82, 83, 84, 85, 28, 86, 87, 88, 89, 90, 91, 92, 93, 94, 95, 96, 97, 27, 145, 146, 33, 147, 106, 107, 108, 109, 110, 111, 112, 113, 114, 115, 116, 117, 118, 119, 120, 121, 127, 128, 129, 130, 131, 148, 149, 150, 151, 152, 153, 154, 155, 156, 157, 158, 159, 160, 161, 162, 163, 164, 165, 166, 167, 168, 169, 170, 171, 172, 173, 174, 31, 32, 34, 35, 36, 37, 38, 175, 176, 177, 178, 179, 180, 181, 182, 183, 184, 185, 186, 187, 188, 189, 190, 191, 192, 193, 194, 195, 196, 39, 40, 41, 42, 43, 44, 46, 47, 49, 50, 51, 52, 98, 99, 100, 101, 102, 103, 104, 105, 122, 123, 124, 125, 126, 260, 261, 262, 263, 264, 265, 266, 267, 268, 269, 270, 271, 272, 273, 274, 275, 276, 277, 278, 291, 292, 293, 294] rfl (by decide +kernel)
set_option maxRecDepth 20000 in
theorem gX7_tell_X7_appendPlayers : GoodIn wsX7_tell (wsV RX7 413 RX7 yX7_appendPlayers wsX7_appendPlayers) := goodIn_app (goodIn_of _ (by decide +kernel)) ggX7_tell_X7_appendPlayers
set_option maxRecDepth 20000 in
theorem ggX7_tell_J4_toString_0e30d : GoodIn wsX7_tell wsJ4_toString_0e30d := goodIn_r _ [211, 212, 213, 115, 214, 215, 216, 217, 218, 219, 220, 25, 26, 158, 152, 157, 221, 222, 223, 224, 225, 22, 226, 29, 227, 228, 229, 230, 231, 4, 232, 233, 45, 234, 235, 48, 236, 94, 95, 96, 97, 27, 30, 237, 238, 78, 239, 80, 81, 82, 83, 84, 85, 240, 241, 242, 28, 86, 87, 70, 88, 89, 90, 91, 92, 243, 244, 245, 246, 3, 247, 248, 33, 249, 250, 251, 252, 182, 183, 184, 110, 111, 112, 185, 186, 187, 117, 188, 189, 120, 190, 253, 254, 255, 106, 130, 131, 35, 36, 37, 38, 256, 257, 258, 259, 291, 292, 293, 294, 275, 276, 277, 278] rfl (by decide +kernel)
set_option maxRecDepth 20000 in
theorem gX7_tell_J4_toString_0e30d : GoodIn wsX7_tell (wsV RX7 379 RJ4 yJ4_toString_0e30d wsJ4_toString_0e30d) := goodIn_app (goodIn_of _ (by decide +kernel)) ggX7_tell_J4_toString_0e30d
theorem dX7_tell_0 : decode cX7_tell 0 = .ok (.aload_n 0, 1) := by decide +kernel
theorem dX7_tell_1 : decode cX7_tell 1 = .ok (.iload_n 1, 1) := by decide +kernel
theorem dX7_tell_2 : decode cX7_tell 2 = .ok (.invokevirtual 214, 3) := by decide +kernel
theorem dX7_tell_5 : decode cX7_tell 5 = .ok (.aload_n 0, 1) := by decide +kernel
theorem dX7_tell_6 : decode cX7_tell 6 = .ok (.getfield 29, 3) := by decide +kernel
theorem dX7_tell_9 : decode cX7_tell 9 = .ok (.iload_n 1, 1) := by decide +kernel
theorem dX7_tell_10 : decode cX7_tell 10 = .ok (.aaload, 1) := by decide +kernel
theorem dX7_tell_11 : decode cX7_tell 11 = .ok (.astore_n 2, 1) := by decide +kernel
theorem dX7_tell_12 : decode cX7_tell 12 = .ok (.new 366, 3) := by decide +kernel
theorem dX7_tell_15 : decode cX7_tell 15 = .ok (.dup, 1) := by decide +kernel
theorem dX7_tell_16 : decode cX7_tell 16 = .ok (.invokespecial 368, 3) := by decide +kernel
theorem dX7_tell_19 : decode cX7_tell 19 = .ok (.astore_n 3, 1) := by decide +kernel
theorem dX7_tell_20 : decode cX7_tell 20 = .ok (.aload_n 3, 1) := by decide +kernel
theorem dX7_tell_21 : decode cX7_tell 21 = .ok (.iload_n 1, 1) := by decide +kernel
theorem dX7_tell_22 : decode cX7_tell 22 = .ok (.invokevirtual 376, 3) := by decide +kernel
theorem dX7_tell_25 : decode cX7_tell 25 = .ok (.ldc_w 400, 3) := by decide +kernel
theorem dX7_tell_28 : decode cX7_tell 28 = .ok (.invokevirtual 402, 3) := by decide +kernel
theorem dX7_tell_31 : decode cX7_tell 31 = .ok (.aload_n 2, 1) := by decide +kernel
theorem dX7_tell_32 : decode cX7_tell 32 = .ok (.getfield 196, 3) := by decide +kernel
theorem dX7_tell_35 : decode cX7_tell 35 = .ok (.invokevirtual 376, 3) := by decide +kernel
theorem dX7_tell_38 : decode cX7_tell 38 = .ok (.ldc_w 405, 3) := by decide +kernel
theorem dX7_tell_41 : decode cX7_tell 41 = .ok (.invokevirtual 402, 3) := by decide +kernel
theorem dX7_tell_44 : decode cX7_tell 44 = .ok (.aload_n 2, 1) := by decide +kernel
theorem dX7_tell_45 : decode cX7_tell 45 = .ok (.getfield 199, 3) := by decide +kernel
theorem dX7_tell_48 : decode cX7_tell 48 = .ok (.invokevirtual 376, 3) := by decide +kernel
theorem dX7_tell_51 : decode cX7_tell 51 = .ok (.pop, 1) := by decide +kernel
theorem dX7_tell_52 : decode cX7_tell 52 = .ok (.aload_n 3, 1) := by decide +kernel
theorem dX7_tell_53 : decode cX7_tell 53 = .ok (.ldc_w 407, 3) := by decide +kernel
theorem dX7_tell_56 : decode cX7_tell 56 = .ok (.invokevirtual 402, 3) := by decide +kernel
theorem dX7_tell_59 : decode cX7_tell 59 = .ok (.aload_n 2, 1) := by decide +kernel
theorem dX7_tell_60 : decode cX7_tell 60 = .ok (.getfield 233, 3) := by decide +kernel
theorem dX7_tell_63 : decode cX7_tell 63 = .ok (.invokestatic 409, 3) := by decide +kernel
theorem dX7_tell_66 : decode cX7_tell 66 = .ok (.invokevirtual 402, 3) := by decide +kernel
theorem dX7_tell_69 : decode cX7_tell 69 = .ok (.pop, 1) := by decide +kernel
theorem dX7_tell_70 : decode cX7_tell 70 = .ok (.aload_n 2, 1) := by decide +kernel
theorem dX7_tell_71 : decode cX7_tell 71 = .ok (.getfield 233, 3) := by decide +kernel
theorem dX7_tell_74 : decode cX7_tell 74 = .ok (.iconst 1, 1) := by decide +kernel
theorem dX7_tell_75 : decode cX7_tell 75 = .ok (.if_icmp .eq 11, 3) := by decide +kernel
theorem dX7_tell_78 : decode cX7_tell 78 = .ok (.aload_n 2, 1) := by decide +kernel
theorem dX7_tell_79 : decode cX7_tell 79 = .ok (.getfield 233, 3) := by decide +kernel
theorem dX7_tell_82 : decode cX7_tell 82 = .ok (.iconst 2, 1) := by decide +kernel
theorem dX7_tell_83 : decode cX7_tell 83 = .ok (.if_icmp .ne 12, 3) := by decide +kernel
theorem dX7_tell_86 : decode cX7_tell 86 = .ok (.aload_n 0, 1) := by decide +kernel
theorem dX7_tell_87 : decode cX7_tell 87 = .ok (.aload_n 3, 1) := by decide +kernel
theorem dX7_tell_88 : decode cX7_tell 88 = .ok (.aload_n 2, 1) := by decide +kernel
theorem dX7_tell_89 : decode cX7_tell 89 = .ok (.getfield 239, 3) := by decide +kernel
theorem dX7_tell_92 : decode cX7_tell 92 = .ok (.invokevirtual 413, 3) := by decide +kernel
theorem dX7_tell_95 : decode cX7_tell 95 = .ok (.aload_n 3, 1) := by decide +kernel
theorem dX7_tell_96 : decode cX7_tell 96 = .ok (.invokevirtual 379, 3) := by decide +kernel
theorem dX7_tell_99 : decode cX7_tell 99 = .ok (.areturn, 1) := by decide +kernel
set_option maxRecDepth 20000 in
theorem ggX7_wouldLose_X7_checkPlayer : GoodIn wsX7_wouldLose wsX7_checkPlayer := goodIn_ca (goodIn_r _ [5, 6, 7, 8, 129, 130, 131, 132, 133, 134, 135, 136, 137, 138, 139, 140, 141, 142, 143] rfl (by decide +kernel)) (goodIn_sub (fun _ h => List.mem_cons_of_mem _ (List.mem_append_left _ (List.mem_append_right _ h))) (by decide +kernel))
set_option maxRecDepth 20000 in
theorem gX7_wouldLose_X7_checkPlayer : GoodIn wsX7_wouldLose (wsV RX7 123 RX7 yX7_checkPlayer wsX7_checkPlayer) := goodIn_app (goodIn_of _ (by decide +kernel)) ggX7_wouldLose_X7_checkPlayer
set_option maxRecDepth 20000 in
theorem ggX7_wouldLose_X7_checkDayToCome : GoodIn wsX7_wouldLose wsX7_checkDayToCome := goodIn_ca (goodIn_r _ [12, 13, 14, 15, 129, 130, 131, 132, 133, 134, 135, 136, 137, 138, 139, 140, 141, 142, 143] rfl (by decide +kernel)) (goodIn_sub (fun _ h => List.mem_cons_of_mem _ (List.mem_append_right _ h)) (by decide +kernel))
set_option maxRecDepth 20000 in
theorem gX7_wouldLose_X7_checkDayToCome : GoodIn wsX7_wouldLose (wsV RX7 268 RX7 yX7_checkDayToCome wsX7_checkDayToCome) := goodIn_app (goodIn_of _ (by decide +kernel)) ggX7_wouldLose_X7_checkDayToCome
set_option maxRecDepth 20000 in
theorem ggX7_wouldLose_X7_stageWithout : GoodIn wsX7_wouldLose wsX7_stageWithout := goodIn_r _ [19, 20, 21, 22, 23, 24, 25, 26, 27, 28, 29, 4, 30, 31, 32, 33, 34, 35, 36, 37, 38, 39, 8, 40, 41, 42, 43, 44, 45, 46, 47, 48, 49, 50, 51, 52, 53, 54, 55, 56, 57, 58, 59, 60, 61, 62, 63, 64, 65, 66, 67, 68, 69, 70, 71, 72, 73, 74, 75, 76, 77, 78, 79, 80, 81, 82, 83, 84, 85, 86, 87, 88, 89, 90, 91, 92, 93, 94, 95, 96, 97, 98, 99, 100, 101, 102, 103, 104, 105, 106, 107, 108, 109, 110, 111, 112, 113, 114, 115, 116, 117, 118, 119, 120, 121, 122, 123, 124, 125, 126, 127, 128, 129, 130, 131, 132, 133, 134, 135, 136, 137, 138, 139, 140, 141, 142, 143, 144, 145, 146, 147, 148, 149, 150, 151, 152, 153, 154, 155, 156, 157, 158, 159, 160, 161, 162, 163, 164, 165, 166, 167, 168, 169, 170, 171, 172, 173, 174] rfl (by decide +kernel)
set_option maxRecDepth 20000 in
theorem gX7_wouldLose_X7_stageWithout : GoodIn wsX7_wouldLose (wsV RX7 271 RX7 yX7_stageWithout wsX7_stageWithout) := goodIn_app (goodIn_of _ (by decide +kernel)) ggX7_wouldLose_X7_stageWithout
theorem dX7_wouldLose_0 : decode cX7_wouldLose 0 = .ok (.aload_n 0, 1) := by decide +kernel
theorem dX7_wouldLose_1 : decode cX7_wouldLose 1 = .ok (.iload_n 1, 1) := by decide +kernel
theorem dX7_wouldLose_2 : decode cX7_wouldLose 2 = .ok (.invokevirtual 123, 3) := by decide +kernel
theorem dX7_wouldLose_5 : decode cX7_wouldLose 5 = .ok (.aload_n 0, 1) := by decide +kernel
theorem dX7_wouldLose_6 : decode cX7_wouldLose 6 = .ok (.iload_n 2, 1) := by decide +kernel
theorem dX7_wouldLose_7 : decode cX7_wouldLose 7 = .ok (.invokevirtual 268, 3) := by decide +kernel
theorem dX7_wouldLose_10 : decode cX7_wouldLose 10 = .ok (.aload_n 0, 1) := by decide +kernel
theorem dX7_wouldLose_11 : decode cX7_wouldLose 11 = .ok (.iload_n 1, 1) := by decide +kernel
theorem dX7_wouldLose_12 : decode cX7_wouldLose 12 = .ok (.iload_n 2, 1) := by decide +kernel
theorem dX7_wouldLose_13 : decode cX7_wouldLose 13 = .ok (.invokevirtual 271, 3) := by decide +kernel
theorem dX7_wouldLose_16 : decode cX7_wouldLose 16 = .ok (.ireturn, 1) := by decide +kernel
set_option maxRecDepth 20000 in
theorem ggX7_plan_X7_firstOnesOf : GoodIn wsX7_plan wsX7_firstOnesOf := goodIn_r _ [7, 8, 9, 10, 11, 12, 13, 6, 14, 15, 16, 17, 18, 19, 20, 21, 22, 23, 24, 25, 26, 27, 28, 29, 30, 31, 141, 142, 143, 144, 145, 146, 147, 148, 149, 150, 151, 152, 153, 154, 155, 156, 157, 158, 159, 160, 161, 162, 163, 164, 165, 166, 167] rfl (by decide +kernel)
set_option maxRecDepth 20000 in
theorem gX7_plan_X7_firstOnesOf : GoodIn wsX7_plan (wsV RX7 419 RX7 yX7_firstOnesOf wsX7_firstOnesOf) := goodIn_app (goodIn_of _ (by decide +kernel)) ggX7_plan_X7_firstOnesOf
set_option maxRecDepth 20000 in
theorem ggX7_plan_J6_bitCount_0f7a4 : GoodIn wsX7_plan wsJ6_bitCount_0f7a4 := goodIn_r _ [28, 29, 30, 31] rfl (by decide +kernel)
set_option maxRecDepth 20000 in
theorem gX7_plan_J6_bitCount_0f7a4 : GoodIn wsX7_plan (va_wsS RX7 128 yJ6_bitCount_0f7a4 wsJ6_bitCount_0f7a4) := goodIn_app (goodIn_of _ (by decide +kernel)) ggX7_plan_J6_bitCount_0f7a4
set_option maxRecDepth 20000 in
theorem ggX7_plan_X7_membersAt : GoodIn wsX7_plan wsX7_membersAt := goodIn_r _ [34, 35, 36, 6, 37] rfl (by decide +kernel)
set_option maxRecDepth 20000 in
theorem gX7_plan_X7_membersAt : GoodIn wsX7_plan (va_wsS RX7 422 yX7_membersAt wsX7_membersAt) := goodIn_app (goodIn_of _ (by decide +kernel)) ggX7_plan_X7_membersAt
set_option maxRecDepth 20000 in
theorem ggX7_plan_X7_stageAll : GoodIn wsX7_plan wsX7_stageAll := goodIn_r _ [41, 8, 42, 43, 44, 45, 46, 47, 48, 49, 6, 50, 9, 19, 51, 35, 36, 37, 52, 53, 54, 55, 56, 57, 58, 59, 60, 61, 10, 62, 63, 64, 65, 66, 67, 68, 69, 70, 71, 72, 73, 74, 75, 76, 77, 78, 79, 80, 81, 82, 83, 84, 85, 86, 87, 88, 89, 24, 90, 91, 92, 93, 94, 95, 96, 97, 98, 99, 100, 101, 102, 103, 104, 105, 106, 107, 108, 109, 110, 111, 112, 113, 114, 25, 26, 27, 28, 29, 30, 31, 115, 116, 117, 118, 119, 120, 121, 122, 123, 124, 125, 126, 127, 128, 129, 130, 131, 132, 133, 134, 135, 136, 137, 138, 139, 140, 141, 142, 143, 144, 145, 146, 147, 148, 149, 150, 151, 152, 153, 154, 155, 168, 169, 170, 171, 172, 173, 156, 157, 158, 159, 160, 161, 162, 163, 164, 165, 166, 167, 174, 175, 176, 177, 178, 179, 180, 181, 182, 183, 184, 185, 186] rfl (by decide +kernel)
set_option maxRecDepth 20000 in
theorem gX7_plan_X7_stageAll : GoodIn wsX7_plan (wsV RX7 425 RX7 yX7_stageAll wsX7_stageAll) := goodIn_app (goodIn_of _ (by decide +kernel)) ggX7_plan_X7_stageAll
theorem dX7_plan_0 : decode cX7_plan 0 = .ok (.iload_n 1, 1) := by decide +kernel
theorem dX7_plan_1 : decode cX7_plan 1 = .ok (.ifCond .lt 10, 3) := by decide +kernel
theorem dX7_plan_4 : decode cX7_plan 4 = .ok (.iload_n 1, 1) := by decide +kernel
theorem dX7_plan_5 : decode cX7_plan 5 = .ok (.sipush 365, 3) := by decide +kernel
theorem dX7_plan_8 : decode cX7_plan 8 = .ok (.if_icmp .le 14, 3) := by decide +kernel
theorem dX7_plan_11 : decode cX7_plan 11 = .ok (.new 101, 3) := by decide +kernel
theorem dX7_plan_14 : decode cX7_plan 14 = .ok (.dup, 1) := by decide +kernel
theorem dX7_plan_15 : decode cX7_plan 15 = .ok (.ldc_w 417, 3) := by decide +kernel
theorem dX7_plan_18 : decode cX7_plan 18 = .ok (.invokespecial 105, 3) := by decide +kernel
theorem dX7_plan_21 : decode cX7_plan 21 = .ok (.athrow, 1) := by decide +kernel
theorem dX7_plan_22 : decode cX7_plan 22 = .ok (.aload_n 0, 1) := by decide +kernel
theorem dX7_plan_23 : decode cX7_plan 23 = .ok (.iload_n 1, 1) := by decide +kernel
theorem dX7_plan_24 : decode cX7_plan 24 = .ok (.invokevirtual 419, 3) := by decide +kernel
theorem dX7_plan_27 : decode cX7_plan 27 = .ok (.istore_n 3, 1) := by decide +kernel
theorem dX7_plan_28 : decode cX7_plan 28 = .ok (.iconst 0, 1) := by decide +kernel
theorem dX7_plan_29 : decode cX7_plan 29 = .ok (.istore 4, 2) := by decide +kernel
theorem dX7_plan_31 : decode cX7_plan 31 = .ok (.iconst 0, 1) := by decide +kernel
theorem dX7_plan_32 : decode cX7_plan 32 = .ok (.istore 5, 2) := by decide +kernel
theorem dX7_plan_34 : decode cX7_plan 34 = .ok (.iconst 1, 1) := by decide +kernel
theorem dX7_plan_35 : decode cX7_plan 35 = .ok (.istore 6, 2) := by decide +kernel
theorem dX7_plan_37 : decode cX7_plan 37 = .ok (.iload 6, 2) := by decide +kernel
theorem dX7_plan_39 : decode cX7_plan 39 = .ok (.iconst 1, 1) := by decide +kernel
theorem dX7_plan_40 : decode cX7_plan 40 = .ok (.iload_n 3, 1) := by decide +kernel
theorem dX7_plan_41 : decode cX7_plan 41 = .ok (.invokestatic 128, 3) := by decide +kernel
theorem dX7_plan_44 : decode cX7_plan 44 = .ok (.ishl, 1) := by decide +kernel
theorem dX7_plan_45 : decode cX7_plan 45 = .ok (.if_icmp .ge 40, 3) := by decide +kernel
theorem dX7_plan_48 : decode cX7_plan 48 = .ok (.iload_n 3, 1) := by decide +kernel
theorem dX7_plan_49 : decode cX7_plan 49 = .ok (.iload 6, 2) := by decide +kernel
theorem dX7_plan_51 : decode cX7_plan 51 = .ok (.invokestatic 422, 3) := by decide +kernel
theorem dX7_plan_54 : decode cX7_plan 54 = .ok (.istore 7, 2) := by decide +kernel
theorem dX7_plan_56 : decode cX7_plan 56 = .ok (.aload_n 0, 1) := by decide +kernel
theorem dX7_plan_57 : decode cX7_plan 57 = .ok (.iload 7, 2) := by decide +kernel
theorem dX7_plan_59 : decode cX7_plan 59 = .ok (.invokevirtual 425, 3) := by decide +kernel
theorem dX7_plan_62 : decode cX7_plan 62 = .ok (.istore 8, 2) := by decide +kernel
theorem dX7_plan_64 : decode cX7_plan 64 = .ok (.iload 8, 2) := by decide +kernel
theorem dX7_plan_66 : decode cX7_plan 66 = .ok (.iload 5, 2) := by decide +kernel
theorem dX7_plan_68 : decode cX7_plan 68 = .ok (.if_icmp .le 11, 3) := by decide +kernel
theorem dX7_plan_71 : decode cX7_plan 71 = .ok (.iload 8, 2) := by decide +kernel
theorem dX7_plan_73 : decode cX7_plan 73 = .ok (.istore 5, 2) := by decide +kernel
theorem dX7_plan_75 : decode cX7_plan 75 = .ok (.iload 7, 2) := by decide +kernel
theorem dX7_plan_77 : decode cX7_plan 77 = .ok (.istore 4, 2) := by decide +kernel
theorem dX7_plan_79 : decode cX7_plan 79 = .ok (.iinc 6 1, 3) := by decide +kernel
theorem dX7_plan_82 : decode cX7_plan 82 = .ok (.goto (-45), 3) := by decide +kernel
theorem dX7_plan_85 : decode cX7_plan 85 = .ok (.iload_n 2, 1) := by decide +kernel
theorem dX7_plan_86 : decode cX7_plan 86 = .ok (.ifCond .eq 8, 3) := by decide +kernel
theorem dX7_plan_89 : decode cX7_plan 89 = .ok (.iload 4, 2) := by decide +kernel
theorem dX7_plan_91 : decode cX7_plan 91 = .ok (.goto 5, 3) := by decide +kernel
theorem dX7_plan_94 : decode cX7_plan 94 = .ok (.iload 5, 2) := by decide +kernel
theorem dX7_plan_96 : decode cX7_plan 96 = .ok (.ireturn, 1) := by decide +kernel
set_option maxRecDepth 20000 in
theorem ggX7_wouldCancel_X7_checkWedding : GoodIn wsX7_wouldCancel wsX7_checkWedding := goodIn_ca (goodIn_r _ [15, 16, 17, 18, 69, 70, 71, 72, 73, 74, 75, 76, 77, 78, 79, 80, 81, 82, 83] rfl (by decide +kernel)) (goodIn_sub (fun _ h => List.mem_cons_of_mem _ (List.mem_append_right _ h)) (by decide +kernel))
set_option maxRecDepth 20000 in
theorem gX7_wouldCancel_X7_checkWedding : GoodIn wsX7_wouldCancel (wsV RX7 214 RX7 yX7_checkWedding wsX7_checkWedding) := goodIn_app (goodIn_of _ (by decide +kernel)) ggX7_wouldCancel_X7_checkWedding
set_option maxRecDepth 20000 in
theorem ggX7_wouldCancel_X7_owedFor : GoodIn wsX7_wouldCancel wsX7_owedFor := goodIn_r _ [22, 23, 24, 10, 84, 85, 86, 87, 88, 89, 90, 91, 92, 93, 94, 95, 69, 70, 71, 72, 73, 74, 75, 76, 77, 78, 79, 80, 81, 82, 83] rfl (by decide +kernel)
set_option maxRecDepth 20000 in
theorem gX7_wouldCancel_X7_owedFor : GoodIn wsX7_wouldCancel (wsV RX7 256 RX7 yX7_owedFor wsX7_owedFor) := goodIn_app (goodIn_of _ (by decide +kernel)) ggX7_wouldCancel_X7_owedFor
set_option maxRecDepth 20000 in
theorem ggX7_wouldCancel_X7_extraOf : GoodIn wsX7_wouldCancel wsX7_extraOf := goodIn_r _ [28, 29, 30, 31, 32, 33, 34, 14, 35, 36, 37, 38, 39, 40, 41, 42, 43, 44, 45, 8, 46, 69, 70, 71, 72, 73, 74, 75, 76, 77, 78, 79, 80, 81, 82, 83, 84, 85, 86, 87, 88, 89, 90, 91, 92, 93, 94, 95, 96, 97, 98, 99, 100, 101, 102, 103] rfl (by decide +kernel)
set_option maxRecDepth 20000 in
theorem gX7_wouldCancel_X7_extraOf : GoodIn wsX7_wouldCancel (wsV RX7 428 RX7 yX7_extraOf wsX7_extraOf) := goodIn_app (goodIn_of _ (by decide +kernel)) ggX7_wouldCancel_X7_extraOf
set_option maxRecDepth 20000 in
theorem ggX7_wouldCancel_X7_allWagesAt : GoodIn wsX7_wouldCancel wsX7_allWagesAt := goodIn_r _ [50, 29, 30, 31, 33, 34, 14, 35, 51, 52, 53, 54, 32, 55, 56, 57, 58, 59, 60, 61, 62, 6, 7, 8, 9, 63, 64, 65, 66, 67, 68, 36, 37, 38, 39, 40, 41, 42, 43, 44, 45, 46, 69, 70, 71, 72, 73, 74, 75, 76, 77, 78, 79, 80, 81, 82, 83, 84, 85, 86, 87, 88, 89, 90, 91, 92, 93, 94, 95, 96, 97, 98, 99, 100, 101, 102, 103, 104, 105] rfl (by decide +kernel)
set_option maxRecDepth 20000 in
theorem gX7_wouldCancel_X7_allWagesAt : GoodIn wsX7_wouldCancel (wsV RX7 431 RX7 yX7_allWagesAt wsX7_allWagesAt) := goodIn_app (goodIn_of _ (by decide +kernel)) ggX7_wouldCancel_X7_allWagesAt
theorem dX7_wouldCancel_0 : decode cX7_wouldCancel 0 = .ok (.aload_n 0, 1) := by decide +kernel
theorem dX7_wouldCancel_1 : decode cX7_wouldCancel 1 = .ok (.iload_n 1, 1) := by decide +kernel
theorem dX7_wouldCancel_2 : decode cX7_wouldCancel 2 = .ok (.invokevirtual 214, 3) := by decide +kernel
theorem dX7_wouldCancel_5 : decode cX7_wouldCancel 5 = .ok (.aload_n 0, 1) := by decide +kernel
theorem dX7_wouldCancel_6 : decode cX7_wouldCancel 6 = .ok (.getfield 29, 3) := by decide +kernel
theorem dX7_wouldCancel_9 : decode cX7_wouldCancel 9 = .ok (.iload_n 1, 1) := by decide +kernel
theorem dX7_wouldCancel_10 : decode cX7_wouldCancel 10 = .ok (.aaload, 1) := by decide +kernel
theorem dX7_wouldCancel_11 : decode cX7_wouldCancel 11 = .ok (.astore_n 2, 1) := by decide +kernel
theorem dX7_wouldCancel_12 : decode cX7_wouldCancel 12 = .ok (.aload_n 2, 1) := by decide +kernel
theorem dX7_wouldCancel_13 : decode cX7_wouldCancel 13 = .ok (.getfield 233, 3) := by decide +kernel
theorem dX7_wouldCancel_16 : decode cX7_wouldCancel 16 = .ok (.iconst 1, 1) := by decide +kernel
theorem dX7_wouldCancel_17 : decode cX7_wouldCancel 17 = .ok (.if_icmp .eq 14, 3) := by decide +kernel
theorem dX7_wouldCancel_20 : decode cX7_wouldCancel 20 = .ok (.new 106, 3) := by decide +kernel
theorem dX7_wouldCancel_23 : decode cX7_wouldCancel 23 = .ok (.dup, 1) := by decide +kernel
theorem dX7_wouldCancel_24 : decode cX7_wouldCancel 24 = .ok (.ldc_w 282, 3) := by decide +kernel
theorem dX7_wouldCancel_27 : decode cX7_wouldCancel 27 = .ok (.invokespecial 110, 3) := by decide +kernel
theorem dX7_wouldCancel_30 : decode cX7_wouldCancel 30 = .ok (.athrow, 1) := by decide +kernel
theorem dX7_wouldCancel_31 : decode cX7_wouldCancel 31 = .ok (.iconst 0, 1) := by decide +kernel
theorem dX7_wouldCancel_32 : decode cX7_wouldCancel 32 = .ok (.aload_n 0, 1) := by decide +kernel
theorem dX7_wouldCancel_33 : decode cX7_wouldCancel 33 = .ok (.aload_n 2, 1) := by decide +kernel
theorem dX7_wouldCancel_34 : decode cX7_wouldCancel 34 = .ok (.invokevirtual 256, 3) := by decide +kernel
theorem dX7_wouldCancel_37 : decode cX7_wouldCancel 37 = .ok (.aload_n 2, 1) := by decide +kernel
theorem dX7_wouldCancel_38 : decode cX7_wouldCancel 38 = .ok (.getfield 260, 3) := by decide +kernel
theorem dX7_wouldCancel_41 : decode cX7_wouldCancel 41 = .ok (.isub, 1) := by decide +kernel
theorem dX7_wouldCancel_42 : decode cX7_wouldCancel 42 = .ok (.invokestatic 263, 3) := by decide +kernel
theorem dX7_wouldCancel_45 : decode cX7_wouldCancel 45 = .ok (.istore_n 3, 1) := by decide +kernel
theorem dX7_wouldCancel_46 : decode cX7_wouldCancel 46 = .ok (.aload_n 2, 1) := by decide +kernel
theorem dX7_wouldCancel_47 : decode cX7_wouldCancel 47 = .ok (.getfield 247, 3) := by decide +kernel
theorem dX7_wouldCancel_50 : decode cX7_wouldCancel 50 = .ok (.aload_n 2, 1) := by decide +kernel
theorem dX7_wouldCancel_51 : decode cX7_wouldCancel 51 = .ok (.getfield 260, 3) := by decide +kernel
theorem dX7_wouldCancel_54 : decode cX7_wouldCancel 54 = .ok (.isub, 1) := by decide +kernel
theorem dX7_wouldCancel_55 : decode cX7_wouldCancel 55 = .ok (.aload_n 0, 1) := by decide +kernel
theorem dX7_wouldCancel_56 : decode cX7_wouldCancel 56 = .ok (.aload_n 2, 1) := by decide +kernel
theorem dX7_wouldCancel_57 : decode cX7_wouldCancel 57 = .ok (.invokevirtual 428, 3) := by decide +kernel
theorem dX7_wouldCancel_60 : decode cX7_wouldCancel 60 = .ok (.iadd, 1) := by decide +kernel
theorem dX7_wouldCancel_61 : decode cX7_wouldCancel 61 = .ok (.aload_n 0, 1) := by decide +kernel
theorem dX7_wouldCancel_62 : decode cX7_wouldCancel 62 = .ok (.aload_n 2, 1) := by decide +kernel
theorem dX7_wouldCancel_63 : decode cX7_wouldCancel 63 = .ok (.invokevirtual 431, 3) := by decide +kernel
theorem dX7_wouldCancel_66 : decode cX7_wouldCancel 66 = .ok (.isub, 1) := by decide +kernel
theorem dX7_wouldCancel_67 : decode cX7_wouldCancel 67 = .ok (.istore 4, 2) := by decide +kernel
theorem dX7_wouldCancel_69 : decode cX7_wouldCancel 69 = .ok (.iload_n 3, 1) := by decide +kernel
theorem dX7_wouldCancel_70 : decode cX7_wouldCancel 70 = .ok (.iload 4, 2) := by decide +kernel
theorem dX7_wouldCancel_72 : decode cX7_wouldCancel 72 = .ok (.isub, 1) := by decide +kernel
theorem dX7_wouldCancel_73 : decode cX7_wouldCancel 73 = .ok (.ireturn, 1) := by decide +kernel
set_option maxRecDepth 20000 in
theorem ggX7_key_X7_checkWedding : GoodIn wsX7_key wsX7_checkWedding := goodIn_ca (goodIn_r _ [9, 10, 11, 12, 122, 123, 124, 125, 126, 127, 128, 129, 130, 131, 132, 133, 134, 135, 136] rfl (by decide +kernel)) (goodIn_sub (fun _ h => List.mem_cons_of_mem _ (List.mem_append_right _ h)) (by decide +kernel))
set_option maxRecDepth 20000 in
theorem gX7_key_X7_checkWedding : GoodIn wsX7_key (wsV RX7 214 RX7 yX7_checkWedding wsX7_checkWedding) := goodIn_app (goodIn_of _ (by decide +kernel)) ggX7_key_X7_checkWedding
set_option maxRecDepth 20000 in
theorem ggX7_key_X7_surveyNow : GoodIn wsX7_key wsX7_surveyNow := goodIn_r _ [16, 17, 18, 19, 8, 20, 12, 21, 22, 23, 24, 25, 26, 27, 28, 3, 29, 30, 31, 32, 33, 34, 35, 36, 37, 38, 39, 40, 41, 42, 43, 44, 45, 46, 47, 48, 49, 50, 51, 52, 53, 54, 55, 56, 57, 58, 59, 60, 61, 62, 63, 64, 65, 66, 67, 1, 68, 69, 2, 70, 71, 72, 73, 74, 75, 76, 77, 78, 79, 80, 81, 82, 83, 84, 85, 86, 87, 88, 89, 90, 91, 92, 93, 94, 95, 96, 97, 98, 99, 100, 101, 102, 103, 104, 105, 106, 107, 108, 109, 110, 111, 112, 113, 114, 115, 116, 117, 118, 119, 120, 121, 122, 123, 124, 125, 126, 127, 128, 129, 130, 131, 132, 133, 134, 135, 136, 143, 144, 145, 146, 147, 148, 149, 150, 151, 152, 153, 154, 155, 156, 157, 158, 159, 160, 161, 162, 163, 164, 165, 166, 167, 137, 138, 139, 140, 141, 142] rfl (by decide +kernel)
set_option maxRecDepth 20000 in
theorem gX7_key_X7_surveyNow : GoodIn wsX7_key (wsV RX7 222 RX7 yX7_surveyNow wsX7_surveyNow) := goodIn_app (goodIn_of _ (by decide +kernel)) ggX7_key_X7_surveyNow
set_option maxRecDepth 20000 in
theorem ggX7_key_X7_has : GoodIn wsX7_key wsX7_has := goodIn_r _ [48] rfl (by decide +kernel)
set_option maxRecDepth 20000 in
theorem gX7_key_X7_has : GoodIn wsX7_key (va_wsS RX7 153 yX7_has wsX7_has) := goodIn_app (goodIn_of _ (by decide +kernel)) ggX7_key_X7_has
theorem dX7_key_0 : decode cX7_key 0 = .ok (.aload_n 0, 1) := by decide +kernel
theorem dX7_key_1 : decode cX7_key 1 = .ok (.iload_n 1, 1) := by decide +kernel
theorem dX7_key_2 : decode cX7_key 2 = .ok (.invokevirtual 214, 3) := by decide +kernel
theorem dX7_key_5 : decode cX7_key 5 = .ok (.aload_n 0, 1) := by decide +kernel
theorem dX7_key_6 : decode cX7_key 6 = .ok (.iload_n 1, 1) := by decide +kernel
theorem dX7_key_7 : decode cX7_key 7 = .ok (.invokevirtual 222, 3) := by decide +kernel
theorem dX7_key_10 : decode cX7_key 10 = .ok (.aload_n 0, 1) := by decide +kernel
theorem dX7_key_11 : decode cX7_key 11 = .ok (.getfield 70, 3) := by decide +kernel
theorem dX7_key_14 : decode cX7_key 14 = .ok (.getfield 225, 3) := by decide +kernel
theorem dX7_key_17 : decode cX7_key 17 = .ok (.ifCond .ne 5, 3) := by decide +kernel
theorem dX7_key_20 : decode cX7_key 20 = .ok (.iconst (-1), 1) := by decide +kernel
theorem dX7_key_21 : decode cX7_key 21 = .ok (.ireturn, 1) := by decide +kernel
theorem dX7_key_22 : decode cX7_key 22 = .ok (.iconst 0, 1) := by decide +kernel
theorem dX7_key_23 : decode cX7_key 23 = .ok (.istore_n 2, 1) := by decide +kernel
theorem dX7_key_24 : decode cX7_key 24 = .ok (.iload_n 2, 1) := by decide +kernel
theorem dX7_key_25 : decode cX7_key 25 = .ok (.aload_n 0, 1) := by decide +kernel
theorem dX7_key_26 : decode cX7_key 26 = .ok (.getfield 44, 3) := by decide +kernel
theorem dX7_key_29 : decode cX7_key 29 = .ok (.if_icmp .ge 25, 3) := by decide +kernel
theorem dX7_key_32 : decode cX7_key 32 = .ok (.aload_n 0, 1) := by decide +kernel
theorem dX7_key_33 : decode cX7_key 33 = .ok (.getfield 70, 3) := by decide +kernel
theorem dX7_key_36 : decode cX7_key 36 = .ok (.getfield 434, 3) := by decide +kernel
theorem dX7_key_39 : decode cX7_key 39 = .ok (.iload_n 2, 1) := by decide +kernel
theorem dX7_key_40 : decode cX7_key 40 = .ok (.invokestatic 153, 3) := by decide +kernel
theorem dX7_key_43 : decode cX7_key 43 = .ok (.ifCond .eq 5, 3) := by decide +kernel
theorem dX7_key_46 : decode cX7_key 46 = .ok (.iload_n 2, 1) := by decide +kernel
theorem dX7_key_47 : decode cX7_key 47 = .ok (.ireturn, 1) := by decide +kernel
theorem dX7_key_48 : decode cX7_key 48 = .ok (.iinc 2 1, 3) := by decide +kernel
theorem dX7_key_51 : decode cX7_key 51 = .ok (.goto (-27), 3) := by decide +kernel
theorem dX7_key_54 : decode cX7_key 54 = .ok (.iconst (-1), 1) := by decide +kernel
theorem dX7_key_55 : decode cX7_key 55 = .ok (.ireturn, 1) := by decide +kernel
set_option maxRecDepth 20000 in
theorem ggX7_isSound_X7_areFixedOnesSound : GoodIn wsX7_isSound wsX7_areFixedOnesSound := goodIn_r _ [5, 6, 7, 8, 9, 10, 11, 4, 12, 13, 14, 15, 16, 17, 18, 19, 20, 21, 22, 23, 24, 55, 56, 57, 58, 59, 60, 61, 62, 63, 64, 65, 66, 67, 68, 69, 70, 71, 72, 73, 74, 75, 76, 77, 78, 79, 80, 81, 82, 83, 84] rfl (by decide +kernel)
set_option maxRecDepth 20000 in
theorem gX7_isSound_X7_areFixedOnesSound : GoodIn wsX7_isSound (wsV RX7 437 RX7 yX7_areFixedOnesSound wsX7_areFixedOnesSound) := goodIn_app (goodIn_of _ (by decide +kernel)) ggX7_isSound_X7_areFixedOnesSound
set_option maxRecDepth 20000 in
theorem ggX7_isSound_X7_isCashSound : GoodIn wsX7_isSound wsX7_isCashSound := goodIn_r _ [28, 6, 7, 29, 30, 31, 32, 33, 4, 34, 35, 36, 37, 55, 56, 57, 58, 59, 60, 61, 62, 63, 64, 65, 66, 67, 68, 69, 70, 71, 72, 73, 74, 75, 76, 77, 78, 79, 80, 81, 85, 86, 87, 88, 89, 90, 91, 92] rfl (by decide +kernel)
set_option maxRecDepth 20000 in
theorem gX7_isSound_X7_isCashSound : GoodIn wsX7_isSound (wsV RX7 441 RX7 yX7_isCashSound wsX7_isCashSound) := goodIn_app (goodIn_of _ (by decide +kernel)) ggX7_isSound_X7_isCashSound
set_option maxRecDepth 20000 in
theorem ggX7_isSound_X7_areHoursSound : GoodIn wsX7_isSound wsX7_areHoursSound := goodIn_r _ [41, 35, 36, 42, 6, 7, 8, 43, 13, 18, 19, 20, 21, 22, 23, 24, 55, 56, 57, 58, 59, 60, 61, 62, 63, 64, 65, 66, 67, 68, 69, 85, 86, 87, 88, 89, 90, 91, 92, 70, 71, 72, 73, 74, 75, 76, 77, 78, 79, 80, 81] rfl (by decide +kernel)
set_option maxRecDepth 20000 in
theorem gX7_isSound_X7_areHoursSound : GoodIn wsX7_isSound (wsV RX7 444 RX7 yX7_areHoursSound wsX7_areHoursSound) := goodIn_app (goodIn_of _ (by decide +kernel)) ggX7_isSound_X7_areHoursSound
set_option maxRecDepth 20000 in
theorem ggX7_isSound_X7_areSharesSound : GoodIn wsX7_isSound wsX7_areSharesSound := goodIn_r _ [47, 48, 49, 50, 51, 4, 52, 53, 54, 55, 56, 57, 58, 59, 60, 61, 62, 63, 64, 65, 66, 67, 68, 69, 93, 94, 95, 96] rfl (by decide +kernel)
set_option maxRecDepth 20000 in
theorem gX7_isSound_X7_areSharesSound : GoodIn wsX7_isSound (wsV RX7 447 RX7 yX7_areSharesSound wsX7_areSharesSound) := goodIn_app (goodIn_of _ (by decide +kernel)) ggX7_isSound_X7_areSharesSound
theorem dX7_isSound_0 : decode cX7_isSound 0 = .ok (.aload_n 0, 1) := by decide +kernel
theorem dX7_isSound_1 : decode cX7_isSound 1 = .ok (.invokevirtual 437, 3) := by decide +kernel
theorem dX7_isSound_4 : decode cX7_isSound 4 = .ok (.ifCond .eq 28, 3) := by decide +kernel
theorem dX7_isSound_7 : decode cX7_isSound 7 = .ok (.aload_n 0, 1) := by decide +kernel
theorem dX7_isSound_8 : decode cX7_isSound 8 = .ok (.invokevirtual 441, 3) := by decide +kernel
theorem dX7_isSound_11 : decode cX7_isSound 11 = .ok (.ifCond .eq 21, 3) := by decide +kernel
theorem dX7_isSound_14 : decode cX7_isSound 14 = .ok (.aload_n 0, 1) := by decide +kernel
theorem dX7_isSound_15 : decode cX7_isSound 15 = .ok (.invokevirtual 444, 3) := by decide +kernel
theorem dX7_isSound_18 : decode cX7_isSound 18 = .ok (.ifCond .eq 14, 3) := by decide +kernel
theorem dX7_isSound_21 : decode cX7_isSound 21 = .ok (.aload_n 0, 1) := by decide +kernel
theorem dX7_isSound_22 : decode cX7_isSound 22 = .ok (.invokevirtual 447, 3) := by decide +kernel
theorem dX7_isSound_25 : decode cX7_isSound 25 = .ok (.ifCond .eq 7, 3) := by decide +kernel
theorem dX7_isSound_28 : decode cX7_isSound 28 = .ok (.iconst 1, 1) := by decide +kernel
theorem dX7_isSound_29 : decode cX7_isSound 29 = .ok (.goto 4, 3) := by decide +kernel
theorem dX7_isSound_32 : decode cX7_isSound 32 = .ok (.iconst 0, 1) := by decide +kernel
theorem dX7_isSound_33 : decode cX7_isSound 33 = .ok (.ireturn, 1) := by decide +kernel
set_option maxRecDepth 20000 in
theorem ggX7_digest_X7_desk : GoodIn wsX7_digest wsX7_desk := goodIn_ca (goodIn_r _ [10, 11, 12, 13, 3, 4, 5, 14, 15, 16, 17, 9, 18, 19, 20, 21, 22, 23, 24, 25, 26, 27, 28, 29, 30, 31, 32, 33, 34, 35, 36, 37, 38, 39, 40, 41, 42, 43, 44, 45, 46, 47, 48, 49, 50, 51, 52, 53, 54, 55, 312, 313, 314, 315, 316, 317, 318, 319, 320, 321, 322, 323, 324, 325, 326, 327, 328, 329, 330, 331, 332, 333, 334, 335, 336, 337, 338, 339, 340, 341, 342, 343, 344, 345, 346] rfl (by decide +kernel)) (goodIn_sub (fun _ h => List.mem_cons_of_mem _ (List.mem_append_left _ (List.mem_append_right _ h))) (by decide +kernel))
set_option maxRecDepth 20000 in
theorem gX7_digest_X7_desk : GoodIn wsX7_digest (wsV RX7 454 RX7 yX7_desk wsX7_desk) := goodIn_app (goodIn_of _ (by decide +kernel)) ggX7_digest_X7_desk
set_option maxRecDepth 20000 in
theorem ggX7_digest_X7_ofPlayer : GoodIn wsX7_digest wsX7_ofPlayer := goodIn_ca (goodIn_ca (goodIn_r _ [59, 11, 12, 25, 60, 61, 62, 63, 26, 38, 64, 48, 65, 66, 67, 9, 68, 69, 70, 3, 71, 72, 73, 74, 5, 19, 75, 76, 77, 78, 79, 80, 81, 82, 83, 312, 313, 314, 315, 316, 317, 318, 319, 320, 321, 322, 323, 324, 325, 326, 339, 340, 341, 342, 343, 344, 345, 346, 327, 328, 329, 330, 331, 332, 333, 334, 335, 336, 337, 338] rfl (by decide +kernel)) (goodIn_sub (fun _ h => List.mem_cons_of_mem _ (List.mem_append_left _ (List.mem_append_right _ h))) (by decide +kernel))) (goodIn_sub (fun _ h => List.mem_cons_of_mem _ (List.mem_append_right _ h)) (by decide +kernel))
set_option maxRecDepth 20000 in
theorem gX7_digest_X7_ofPlayer : GoodIn wsX7_digest (wsV RX7 457 RX7 yX7_ofPlayer wsX7_ofPlayer) := goodIn_app (goodIn_of _ (by decide +kernel)) ggX7_digest_X7_ofPlayer
set_option maxRecDepth 20000 in
theorem ggX7_digest_X7_ofSong : GoodIn wsX7_digest wsX7_ofSong := goodIn_ca (goodIn_ca (goodIn_r _ [87, 11, 12, 88, 89, 90, 91, 92, 93, 94, 9, 95, 69, 70, 96, 97, 98, 99, 100, 101, 102, 103, 3, 25, 61, 104, 82, 83, 312, 313, 314, 315, 316, 317, 318, 319, 320, 321, 322, 323, 324, 325, 326, 347, 348, 349, 350, 339, 340, 341, 342, 343, 344, 345, 346] rfl (by decide +kernel)) (goodIn_sub (fun _ h => List.mem_cons_of_mem _ (List.mem_append_left _ (List.mem_append_right _ h))) (by decide +kernel))) (goodIn_sub (fun _ h => List.mem_cons_of_mem _ (List.mem_append_right _ h)) (by decide +kernel))
set_option maxRecDepth 20000 in
theorem gX7_digest_X7_ofSong : GoodIn wsX7_digest (wsV RX7 460 RX7 yX7_ofSong wsX7_ofSong) := goodIn_app (goodIn_of _ (by decide +kernel)) ggX7_digest_X7_ofSong
set_option maxRecDepth 20000 in
theorem ggX7_digest_X7_ofBand : GoodIn wsX7_digest wsX7_ofBand := goodIn_ca (goodIn_ca (goodIn_r _ [108, 11, 12, 109, 110, 111, 112, 113, 114, 9, 115, 69, 70, 4, 116, 117, 118, 119, 5, 19, 120, 20, 312, 313, 314, 315, 316, 317, 318, 319, 320, 321, 322, 323, 324, 325, 326, 351, 352, 353, 327, 328, 329, 330, 331, 332, 333, 334, 335, 336, 337, 338] rfl (by decide +kernel)) (goodIn_sub (fun _ h => List.mem_cons_of_mem _ (List.mem_append_left _ (List.mem_append_right _ h))) (by decide +kernel))) (goodIn_sub (fun _ h => List.mem_cons_of_mem _ (List.mem_append_right _ h)) (by decide +kernel))
set_option maxRecDepth 20000 in
theorem gX7_digest_X7_ofBand : GoodIn wsX7_digest (wsV RX7 463 RX7 yX7_ofBand wsX7_ofBand) := goodIn_app (goodIn_of _ (by decide +kernel)) ggX7_digest_X7_ofBand
set_option maxRecDepth 20000 in
theorem ggX7_digest_X7_digestWedding : GoodIn wsX7_digest wsX7_digestWedding := goodIn_ca (goodIn_ca (goodIn_r _ [124, 2, 19, 20, 125, 126, 127, 128, 129, 130, 131, 132, 133, 9, 134, 11, 12, 120, 135, 136, 137, 138, 139, 140, 141, 142, 143, 144, 145, 146, 69, 70, 5, 147, 148, 149, 150, 151, 152, 153, 154, 155, 156, 157, 78, 158, 159, 160, 161, 162, 54, 51, 55, 163, 164, 165, 166, 167, 168, 169, 170, 171, 172, 173, 174, 175, 3, 176, 177, 178, 179, 43, 180, 25, 62, 53, 49, 50, 52, 104, 82, 83, 181, 182, 183, 184, 185, 186, 187, 188, 189, 190, 191, 192, 193, 194, 109, 111, 195, 196, 197, 198, 199, 200, 201, 202, 203, 204, 205, 206, 207, 208, 209, 210, 211, 212, 213, 214, 60, 215, 27, 28, 29, 30, 31, 32, 33, 216, 217, 218, 219, 61, 220, 221, 222, 223, 26, 224, 225, 226, 227, 228, 229, 230, 231, 63, 232, 233, 234, 235, 236, 237, 238, 239, 240, 88, 241, 242, 243, 244, 245, 246, 247, 248, 249, 250, 251, 252, 253, 254, 255, 256, 257, 258, 259, 260, 261, 262, 263, 264, 265, 266, 267, 268, 269, 270, 271, 272, 273, 274, 275, 276, 277, 312, 313, 314, 315, 316, 317, 318, 319, 320, 321, 322, 323, 324, 325, 326, 327, 328, 329, 330, 331, 332, 333, 334, 335, 336, 337, 338, 354, 355, 356, 357, 358, 359, 339, 340, 341, 342, 343, 344, 345, 346, 360, 361, 351, 352, 353, 362, 363, 364, 365, 366, 367, 368, 347, 348, 349, 350] rfl (by decide +kernel)) (goodIn_sub (fun _ h => List.mem_cons_of_mem _ (List.mem_append_left _ (List.mem_append_right _ h))) (by decide +kernel))) (goodIn_sub (fun _ h => List.mem_cons_of_mem _ (List.mem_append_right _ h)) (by decide +kernel))
set_option maxRecDepth 20000 in
theorem gX7_digest_X7_digestWedding : GoodIn wsX7_digest (wsV RX7 466 RX7 yX7_digestWedding wsX7_digestWedding) := goodIn_app (goodIn_of _ (by decide +kernel)) ggX7_digest_X7_digestWedding
set_option maxRecDepth 20000 in
theorem ggX7_digest_X7_set : GoodIn wsX7_digest wsX7_set := goodIn_ca (goodIn_r _ [239, 11, 12, 3, 240, 88, 241, 242, 216, 217, 218, 9, 219, 25, 61, 104, 82, 83, 27, 28, 29, 30, 31, 32, 33, 243, 244, 245, 246, 247, 248, 249, 250, 251, 252, 253, 254, 255, 256, 257, 258, 259, 260, 261, 262, 263, 264, 265, 266, 51, 267, 268, 269, 270, 271, 272, 273, 274, 275, 276, 277, 312, 313, 314, 315, 316, 317, 318, 319, 320, 321, 322, 323, 324, 325, 326, 362, 363, 364, 365, 366, 367, 368, 339, 340, 341, 342, 343, 344, 345, 346, 347, 348, 349, 350] rfl (by decide +kernel)) (goodIn_sub (fun _ h => List.mem_cons_of_mem _ (List.mem_append_left _ (List.mem_append_right _ h))) (by decide +kernel))
set_option maxRecDepth 20000 in
theorem gX7_digest_X7_set : GoodIn wsX7_digest (wsV RX7 470 RX7 yX7_set wsX7_set) := goodIn_app (goodIn_of _ (by decide +kernel)) ggX7_digest_X7_set
set_option maxRecDepth 20000 in
theorem ggX7_digest_X7_drive : GoodIn wsX7_digest wsX7_drive := goodIn_ca (goodIn_r _ [281, 180, 282, 283, 9, 284, 69, 70, 285, 286, 287, 181, 182, 183, 184, 185, 186, 312, 313, 314, 315, 316, 317, 318, 319, 320, 321, 322, 323, 324, 325, 326, 360, 361] rfl (by decide +kernel)) (goodIn_sub (fun _ h => List.mem_cons_of_mem _ (List.mem_append_right _ h)) (by decide +kernel))
set_option maxRecDepth 20000 in
theorem gX7_digest_X7_drive : GoodIn wsX7_digest (wsV RX7 473 RX7 yX7_drive wsX7_drive) := goodIn_app (goodIn_of _ (by decide +kernel)) ggX7_digest_X7_drive
set_option maxRecDepth 20000 in
theorem ggX7_digest_X7_isSound : GoodIn wsX7_digest wsX7_isSound := goodIn_r _ [291, 292, 293, 294, 9, 295, 5, 19, 20, 296, 297, 298, 299, 130, 109, 120, 111, 135, 27, 28, 29, 30, 31, 32, 33, 300, 301, 302, 303, 142, 14, 34, 35, 36, 37, 3, 25, 38, 304, 305, 306, 307, 48, 138, 308, 309, 310, 311, 88, 96, 97, 98, 99, 91, 92, 312, 313, 314, 315, 316, 317, 318, 319, 320, 321, 322, 323, 324, 325, 326, 327, 328, 329, 330, 331, 332, 333, 334, 335, 336, 337, 338, 351, 352, 353, 339, 340, 341, 342, 343, 344, 345, 346, 347, 348, 349, 350] rfl (by decide +kernel)
set_option maxRecDepth 20000 in
theorem gX7_digest_X7_isSound : GoodIn wsX7_digest (wsV RX7 476 RX7 yX7_isSound wsX7_isSound) := goodIn_app (goodIn_of _ (by decide +kernel)) ggX7_digest_X7_isSound
theorem dX7_digest_0 : decode cX7_digest 0 = .ok (.ldc2_w 450, 3) := by decide +kernel
theorem dX7_digest_3 : decode cX7_digest 3 = .ok (.lstore_n 1, 1) := by decide +kernel
theorem dX7_digest_4 : decode cX7_digest 4 = .ok (.iconst 0, 1) := by decide +kernel
theorem dX7_digest_5 : decode cX7_digest 5 = .ok (.istore_n 3, 1) := by decide +kernel
theorem dX7_digest_6 : decode cX7_digest 6 = .ok (.iload_n 3, 1) := by decide +kernel
theorem dX7_digest_7 : decode cX7_digest 7 = .ok (.bipush 12, 2) := by decide +kernel
theorem dX7_digest_9 : decode cX7_digest 9 = .ok (.if_icmp .gt 22, 3) := by decide +kernel
theorem dX7_digest_12 : decode cX7_digest 12 = .ok (.lload_n 1, 1) := by decide +kernel
theorem dX7_digest_13 : decode cX7_digest 13 = .ok (.ldc2_w 452, 3) := by decide +kernel
theorem dX7_digest_16 : decode cX7_digest 16 = .ok (.lmul, 1) := by decide +kernel
theorem dX7_digest_17 : decode cX7_digest 17 = .ok (.aload_n 0, 1) := by decide +kernel
theorem dX7_digest_18 : decode cX7_digest 18 = .ok (.iload_n 3, 1) := by decide +kernel
theorem dX7_digest_19 : decode cX7_digest 19 = .ok (.invokevirtual 454, 3) := by decide +kernel
theorem dX7_digest_22 : decode cX7_digest 22 = .ok (.i2l, 1) := by decide +kernel
theorem dX7_digest_23 : decode cX7_digest 23 = .ok (.ladd, 1) := by decide +kernel
theorem dX7_digest_24 : decode cX7_digest 24 = .ok (.lstore_n 1, 1) := by decide +kernel
theorem dX7_digest_25 : decode cX7_digest 25 = .ok (.iinc 3 1, 3) := by decide +kernel
theorem dX7_digest_28 : decode cX7_digest 28 = .ok (.goto (-22), 3) := by decide +kernel
theorem dX7_digest_31 : decode cX7_digest 31 = .ok (.iconst 0, 1) := by decide +kernel
theorem dX7_digest_32 : decode cX7_digest 32 = .ok (.istore_n 3, 1) := by decide +kernel
theorem dX7_digest_33 : decode cX7_digest 33 = .ok (.iload_n 3, 1) := by decide +kernel
theorem dX7_digest_34 : decode cX7_digest 34 = .ok (.aload_n 0, 1) := by decide +kernel
theorem dX7_digest_35 : decode cX7_digest 35 = .ok (.getfield 44, 3) := by decide +kernel
theorem dX7_digest_38 : decode cX7_digest 38 = .ok (.if_icmp .ge 40, 3) := by decide +kernel
theorem dX7_digest_41 : decode cX7_digest 41 = .ok (.iconst 0, 1) := by decide +kernel
theorem dX7_digest_42 : decode cX7_digest 42 = .ok (.istore 4, 2) := by decide +kernel
theorem dX7_digest_44 : decode cX7_digest 44 = .ok (.iload 4, 2) := by decide +kernel
theorem dX7_digest_46 : decode cX7_digest 46 = .ok (.bipush 8, 2) := by decide +kernel
theorem dX7_digest_48 : decode cX7_digest 48 = .ok (.if_icmp .gt 24, 3) := by decide +kernel
theorem dX7_digest_51 : decode cX7_digest 51 = .ok (.lload_n 1, 1) := by decide +kernel
theorem dX7_digest_52 : decode cX7_digest 52 = .ok (.ldc2_w 452, 3) := by decide +kernel
theorem dX7_digest_55 : decode cX7_digest 55 = .ok (.lmul, 1) := by decide +kernel
theorem dX7_digest_56 : decode cX7_digest 56 = .ok (.aload_n 0, 1) := by decide +kernel
theorem dX7_digest_57 : decode cX7_digest 57 = .ok (.iload_n 3, 1) := by decide +kernel
theorem dX7_digest_58 : decode cX7_digest 58 = .ok (.iload 4, 2) := by decide +kernel
theorem dX7_digest_60 : decode cX7_digest 60 = .ok (.invokevirtual 457, 3) := by decide +kernel
theorem dX7_digest_63 : decode cX7_digest 63 = .ok (.i2l, 1) := by decide +kernel
theorem dX7_digest_64 : decode cX7_digest 64 = .ok (.ladd, 1) := by decide +kernel
theorem dX7_digest_65 : decode cX7_digest 65 = .ok (.lstore_n 1, 1) := by decide +kernel
theorem dX7_digest_66 : decode cX7_digest 66 = .ok (.iinc 4 1, 3) := by decide +kernel
theorem dX7_digest_69 : decode cX7_digest 69 = .ok (.goto (-25), 3) := by decide +kernel
theorem dX7_digest_72 : decode cX7_digest 72 = .ok (.iinc 3 1, 3) := by decide +kernel
theorem dX7_digest_75 : decode cX7_digest 75 = .ok (.goto (-42), 3) := by decide +kernel
theorem dX7_digest_78 : decode cX7_digest 78 = .ok (.iconst 0, 1) := by decide +kernel
theorem dX7_digest_79 : decode cX7_digest 79 = .ok (.istore_n 3, 1) := by decide +kernel
theorem dX7_digest_80 : decode cX7_digest 80 = .ok (.iload_n 3, 1) := by decide +kernel
theorem dX7_digest_81 : decode cX7_digest 81 = .ok (.bipush 16, 2) := by decide +kernel
theorem dX7_digest_83 : decode cX7_digest 83 = .ok (.if_icmp .ge 39, 3) := by decide +kernel
theorem dX7_digest_86 : decode cX7_digest 86 = .ok (.iconst 0, 1) := by decide +kernel
theorem dX7_digest_87 : decode cX7_digest 87 = .ok (.istore 4, 2) := by decide +kernel
theorem dX7_digest_89 : decode cX7_digest 89 = .ok (.iload 4, 2) := by decide +kernel
theorem dX7_digest_91 : decode cX7_digest 91 = .ok (.iconst 5, 1) := by decide +kernel
theorem dX7_digest_92 : decode cX7_digest 92 = .ok (.if_icmp .gt 24, 3) := by decide +kernel
theorem dX7_digest_95 : decode cX7_digest 95 = .ok (.lload_n 1, 1) := by decide +kernel
theorem dX7_digest_96 : decode cX7_digest 96 = .ok (.ldc2_w 452, 3) := by decide +kernel
theorem dX7_digest_99 : decode cX7_digest 99 = .ok (.lmul, 1) := by decide +kernel
theorem dX7_digest_100 : decode cX7_digest 100 = .ok (.aload_n 0, 1) := by decide +kernel
theorem dX7_digest_101 : decode cX7_digest 101 = .ok (.iload_n 3, 1) := by decide +kernel
theorem dX7_digest_102 : decode cX7_digest 102 = .ok (.iload 4, 2) := by decide +kernel
theorem dX7_digest_104 : decode cX7_digest 104 = .ok (.invokevirtual 460, 3) := by decide +kernel
theorem dX7_digest_107 : decode cX7_digest 107 = .ok (.i2l, 1) := by decide +kernel
theorem dX7_digest_108 : decode cX7_digest 108 = .ok (.ladd, 1) := by decide +kernel
theorem dX7_digest_109 : decode cX7_digest 109 = .ok (.lstore_n 1, 1) := by decide +kernel
theorem dX7_digest_110 : decode cX7_digest 110 = .ok (.iinc 4 1, 3) := by decide +kernel
theorem dX7_digest_113 : decode cX7_digest 113 = .ok (.goto (-24), 3) := by decide +kernel
theorem dX7_digest_116 : decode cX7_digest 116 = .ok (.iinc 3 1, 3) := by decide +kernel
theorem dX7_digest_119 : decode cX7_digest 119 = .ok (.goto (-39), 3) := by decide +kernel
theorem dX7_digest_122 : decode cX7_digest 122 = .ok (.iconst 0, 1) := by decide +kernel
theorem dX7_digest_123 : decode cX7_digest 123 = .ok (.istore_n 3, 1) := by decide +kernel
theorem dX7_digest_124 : decode cX7_digest 124 = .ok (.iload_n 3, 1) := by decide +kernel
theorem dX7_digest_125 : decode cX7_digest 125 = .ok (.aload_n 0, 1) := by decide +kernel
theorem dX7_digest_126 : decode cX7_digest 126 = .ok (.getfield 48, 3) := by decide +kernel
theorem dX7_digest_129 : decode cX7_digest 129 = .ok (.if_icmp .ge 40, 3) := by decide +kernel
theorem dX7_digest_132 : decode cX7_digest 132 = .ok (.iconst 0, 1) := by decide +kernel
theorem dX7_digest_133 : decode cX7_digest 133 = .ok (.istore 4, 2) := by decide +kernel
theorem dX7_digest_135 : decode cX7_digest 135 = .ok (.iload 4, 2) := by decide +kernel
theorem dX7_digest_137 : decode cX7_digest 137 = .ok (.bipush 8, 2) := by decide +kernel
theorem dX7_digest_139 : decode cX7_digest 139 = .ok (.if_icmp .gt 24, 3) := by decide +kernel
theorem dX7_digest_142 : decode cX7_digest 142 = .ok (.lload_n 1, 1) := by decide +kernel
theorem dX7_digest_143 : decode cX7_digest 143 = .ok (.ldc2_w 452, 3) := by decide +kernel
theorem dX7_digest_146 : decode cX7_digest 146 = .ok (.lmul, 1) := by decide +kernel
theorem dX7_digest_147 : decode cX7_digest 147 = .ok (.aload_n 0, 1) := by decide +kernel
theorem dX7_digest_148 : decode cX7_digest 148 = .ok (.iload_n 3, 1) := by decide +kernel
theorem dX7_digest_149 : decode cX7_digest 149 = .ok (.iload 4, 2) := by decide +kernel
theorem dX7_digest_151 : decode cX7_digest 151 = .ok (.invokevirtual 463, 3) := by decide +kernel
theorem dX7_digest_154 : decode cX7_digest 154 = .ok (.i2l, 1) := by decide +kernel
theorem dX7_digest_155 : decode cX7_digest 155 = .ok (.ladd, 1) := by decide +kernel
theorem dX7_digest_156 : decode cX7_digest 156 = .ok (.lstore_n 1, 1) := by decide +kernel
theorem dX7_digest_157 : decode cX7_digest 157 = .ok (.iinc 4 1, 3) := by decide +kernel
theorem dX7_digest_160 : decode cX7_digest 160 = .ok (.goto (-25), 3) := by decide +kernel
theorem dX7_digest_163 : decode cX7_digest 163 = .ok (.iinc 3 1, 3) := by decide +kernel
theorem dX7_digest_166 : decode cX7_digest 166 = .ok (.goto (-42), 3) := by decide +kernel
theorem dX7_digest_169 : decode cX7_digest 169 = .ok (.iconst 0, 1) := by decide +kernel
theorem dX7_digest_170 : decode cX7_digest 170 = .ok (.istore_n 3, 1) := by decide +kernel
theorem dX7_digest_171 : decode cX7_digest 171 = .ok (.iload_n 3, 1) := by decide +kernel
theorem dX7_digest_172 : decode cX7_digest 172 = .ok (.aload_n 0, 1) := by decide +kernel
theorem dX7_digest_173 : decode cX7_digest 173 = .ok (.getfield 51, 3) := by decide +kernel
theorem dX7_digest_176 : decode cX7_digest 176 = .ok (.if_icmp .ge 16, 3) := by decide +kernel
theorem dX7_digest_179 : decode cX7_digest 179 = .ok (.aload_n 0, 1) := by decide +kernel
theorem dX7_digest_180 : decode cX7_digest 180 = .ok (.lload_n 1, 1) := by decide +kernel
theorem dX7_digest_181 : decode cX7_digest 181 = .ok (.iload_n 3, 1) := by decide +kernel
theorem dX7_digest_182 : decode cX7_digest 182 = .ok (.invokevirtual 466, 3) := by decide +kernel
theorem dX7_digest_185 : decode cX7_digest 185 = .ok (.lstore_n 1, 1) := by decide +kernel
theorem dX7_digest_186 : decode cX7_digest 186 = .ok (.iinc 3 1, 3) := by decide +kernel
theorem dX7_digest_189 : decode cX7_digest 189 = .ok (.goto (-18), 3) := by decide +kernel
theorem dX7_digest_192 : decode cX7_digest 192 = .ok (.lload_n 1, 1) := by decide +kernel
theorem dX7_digest_193 : decode cX7_digest 193 = .ok (.ldc2_w 452, 3) := by decide +kernel
theorem dX7_digest_196 : decode cX7_digest 196 = .ok (.lmul, 1) := by decide +kernel
theorem dX7_digest_197 : decode cX7_digest 197 = .ok (.aload_n 0, 1) := by decide +kernel
theorem dX7_digest_198 : decode cX7_digest 198 = .ok (.iconst 1, 1) := by decide +kernel
theorem dX7_digest_199 : decode cX7_digest 199 = .ok (.aload_n 0, 1) := by decide +kernel
theorem dX7_digest_200 : decode cX7_digest 200 = .ok (.getfield 44, 3) := by decide +kernel
theorem dX7_digest_203 : decode cX7_digest 203 = .ok (.ishl, 1) := by decide +kernel
theorem dX7_digest_204 : decode cX7_digest 204 = .ok (.iconst 1, 1) := by decide +kernel
theorem dX7_digest_205 : decode cX7_digest 205 = .ok (.isub, 1) := by decide +kernel
theorem dX7_digest_206 : decode cX7_digest 206 = .ok (.iconst 1, 1) := by decide +kernel
theorem dX7_digest_207 : decode cX7_digest 207 = .ok (.invokevirtual 470, 3) := by decide +kernel
theorem dX7_digest_210 : decode cX7_digest 210 = .ok (.i2l, 1) := by decide +kernel
theorem dX7_digest_211 : decode cX7_digest 211 = .ok (.ladd, 1) := by decide +kernel
theorem dX7_digest_212 : decode cX7_digest 212 = .ok (.lstore_n 1, 1) := by decide +kernel
theorem dX7_digest_213 : decode cX7_digest 213 = .ok (.lload_n 1, 1) := by decide +kernel
theorem dX7_digest_214 : decode cX7_digest 214 = .ok (.ldc2_w 452, 3) := by decide +kernel
theorem dX7_digest_217 : decode cX7_digest 217 = .ok (.lmul, 1) := by decide +kernel
theorem dX7_digest_218 : decode cX7_digest 218 = .ok (.aload_n 0, 1) := by decide +kernel
theorem dX7_digest_219 : decode cX7_digest 219 = .ok (.iconst 0, 1) := by decide +kernel
theorem dX7_digest_220 : decode cX7_digest 220 = .ok (.iconst 5, 1) := by decide +kernel
theorem dX7_digest_221 : decode cX7_digest 221 = .ok (.invokevirtual 473, 3) := by decide +kernel
theorem dX7_digest_224 : decode cX7_digest 224 = .ok (.i2l, 1) := by decide +kernel
theorem dX7_digest_225 : decode cX7_digest 225 = .ok (.ladd, 1) := by decide +kernel
theorem dX7_digest_226 : decode cX7_digest 226 = .ok (.lstore_n 1, 1) := by decide +kernel
theorem dX7_digest_227 : decode cX7_digest 227 = .ok (.lload_n 1, 1) := by decide +kernel
theorem dX7_digest_228 : decode cX7_digest 228 = .ok (.ldc2_w 452, 3) := by decide +kernel
theorem dX7_digest_231 : decode cX7_digest 231 = .ok (.lmul, 1) := by decide +kernel
theorem dX7_digest_232 : decode cX7_digest 232 = .ok (.aload_n 0, 1) := by decide +kernel
theorem dX7_digest_233 : decode cX7_digest 233 = .ok (.invokevirtual 476, 3) := by decide +kernel
theorem dX7_digest_236 : decode cX7_digest 236 = .ok (.ifCond .eq 7, 3) := by decide +kernel
theorem dX7_digest_239 : decode cX7_digest 239 = .ok (.iconst 1, 1) := by decide +kernel
theorem dX7_digest_240 : decode cX7_digest 240 = .ok (.goto 4, 3) := by decide +kernel
theorem dX7_digest_243 : decode cX7_digest 243 = .ok (.iconst 0, 1) := by decide +kernel
theorem dX7_digest_244 : decode cX7_digest 244 = .ok (.i2l, 1) := by decide +kernel
theorem dX7_digest_245 : decode cX7_digest 245 = .ok (.ladd, 1) := by decide +kernel
theorem dX7_digest_246 : decode cX7_digest 246 = .ok (.lreturn, 1) := by decide +kernel
set_option maxRecDepth 20000 in
theorem ggX7_digestWedding_X7_ofWedding : GoodIn wsX7_digestWedding wsX7_ofWedding := goodIn_ca (goodIn_ca (goodIn_r _ [14, 15, 16, 2, 17, 18, 19, 20, 21, 22, 3, 9, 23, 24, 25, 26, 27, 28, 13, 29, 30, 31, 32, 33, 34, 35, 36, 37, 38, 39, 40, 41, 42, 43, 44, 45, 46, 47, 48, 49, 50, 51, 52, 193, 194, 195, 196, 197, 198, 199, 200, 201, 202, 203, 204, 205, 206, 207, 208, 209, 210, 211, 212, 213, 214, 215, 216, 217, 218, 219] rfl (by decide +kernel)) (goodIn_sub (fun _ h => List.mem_cons_of_mem _ (List.mem_append_left _ (List.mem_append_right _ h))) (by decide +kernel))) (goodIn_sub (fun _ h => List.mem_cons_of_mem _ (List.mem_append_right _ h)) (by decide +kernel))
set_option maxRecDepth 20000 in
theorem gX7_digestWedding_X7_ofWedding : GoodIn wsX7_digestWedding (wsV RX7 479 RX7 yX7_ofWedding wsX7_ofWedding) := goodIn_app (goodIn_of _ (by decide +kernel)) ggX7_digestWedding_X7_ofWedding
set_option maxRecDepth 20000 in
theorem ggX7_digestWedding_X7_surveyNow : GoodIn wsX7_digestWedding wsX7_surveyNow := goodIn_r _ [56, 57, 58, 59, 13, 60, 32, 61, 2, 3, 9, 62, 63, 64, 65, 66, 67, 68, 69, 70, 71, 18, 72, 73, 74, 19, 75, 50, 51, 52, 76, 77, 78, 79, 80, 81, 82, 83, 84, 85, 86, 87, 88, 89, 90, 91, 20, 21, 92, 93, 94, 95, 96, 17, 97, 4, 98, 22, 7, 8, 99, 100, 101, 102, 103, 104, 105, 106, 107, 108, 109, 110, 111, 112, 113, 114, 115, 116, 117, 118, 119, 120, 121, 122, 123, 124, 125, 126, 127, 128, 129, 130, 131, 132, 133, 134, 135, 136, 137, 138, 139, 140, 141, 142, 143, 144, 145, 146, 147, 148, 149, 193, 194, 195, 196, 197, 198, 199, 200, 201, 202, 203, 204, 205, 206, 207, 208, 209, 210, 211, 212, 213, 214, 215, 216, 217, 218, 219, 226, 227, 228, 229, 230, 231, 232, 233, 234, 235, 236, 237, 238, 220, 221, 222, 223, 224, 225] rfl (by decide +kernel)
set_option maxRecDepth 20000 in
theorem gX7_digestWedding_X7_surveyNow : GoodIn wsX7_digestWedding (wsV RX7 222 RX7 yX7_surveyNow wsX7_surveyNow) := goodIn_app (goodIn_of _ (by decide +kernel)) ggX7_digestWedding_X7_surveyNow
set_option maxRecDepth 20000 in
theorem ggX7_digestWedding_X7_set : GoodIn wsX7_digestWedding wsX7_set := goodIn_ca (goodIn_r _ [153, 15, 16, 66, 154, 155, 156, 157, 127, 128, 129, 13, 130, 73, 131, 79, 80, 81, 120, 121, 122, 123, 124, 125, 126, 158, 159, 160, 161, 162, 163, 164, 165, 166, 167, 168, 169, 170, 171, 172, 173, 174, 175, 176, 177, 178, 179, 180, 181, 51, 182, 183, 184, 185, 186, 187, 188, 189, 190, 191, 192, 193, 194, 195, 196, 197, 198, 199, 200, 201, 202, 203, 204, 205, 206, 207, 239, 240, 241, 242, 243, 244, 245, 226, 227, 228, 229, 230, 231, 232, 233, 246, 247, 248, 249] rfl (by decide +kernel)) (goodIn_sub (fun _ h => List.mem_cons_of_mem _ (List.mem_append_left _ (List.mem_append_right _ h))) (by decide +kernel))
set_option maxRecDepth 20000 in
theorem gX7_digestWedding_X7_set : GoodIn wsX7_digestWedding (wsV RX7 470 RX7 yX7_set wsX7_set) := goodIn_app (goodIn_of _ (by decide +kernel)) ggX7_digestWedding_X7_set
theorem dX7_digestWedding_0 : decode cX7_digestWedding 0 = .ok (.lload_n 1, 1) := by decide +kernel
theorem dX7_digestWedding_1 : decode cX7_digestWedding 1 = .ok (.lstore 4, 2) := by decide +kernel
theorem dX7_digestWedding_3 : decode cX7_digestWedding 3 = .ok (.iconst 0, 1) := by decide +kernel
theorem dX7_digestWedding_4 : decode cX7_digestWedding 4 = .ok (.istore 6, 2) := by decide +kernel
theorem dX7_digestWedding_6 : decode cX7_digestWedding 6 = .ok (.iload 6, 2) := by decide +kernel
theorem dX7_digestWedding_8 : decode cX7_digestWedding 8 = .ok (.bipush 12, 2) := by decide +kernel
theorem dX7_digestWedding_10 : decode cX7_digestWedding 10 = .ok (.if_icmp .gt 26, 3) := by decide +kernel
theorem dX7_digestWedding_13 : decode cX7_digestWedding 13 = .ok (.lload 4, 2) := by decide +kernel
theorem dX7_digestWedding_15 : decode cX7_digestWedding 15 = .ok (.ldc2_w 452, 3) := by decide +kernel
theorem dX7_digestWedding_18 : decode cX7_digestWedding 18 = .ok (.lmul, 1) := by decide +kernel
theorem dX7_digestWedding_19 : decode cX7_digestWedding 19 = .ok (.aload_n 0, 1) := by decide +kernel
theorem dX7_digestWedding_20 : decode cX7_digestWedding 20 = .ok (.iload_n 3, 1) := by decide +kernel
theorem dX7_digestWedding_21 : decode cX7_digestWedding 21 = .ok (.iload 6, 2) := by decide +kernel
theorem dX7_digestWedding_23 : decode cX7_digestWedding 23 = .ok (.invokevirtual 479, 3) := by decide +kernel
theorem dX7_digestWedding_26 : decode cX7_digestWedding 26 = .ok (.i2l, 1) := by decide +kernel
theorem dX7_digestWedding_27 : decode cX7_digestWedding 27 = .ok (.ladd, 1) := by decide +kernel
theorem dX7_digestWedding_28 : decode cX7_digestWedding 28 = .ok (.lstore 4, 2) := by decide +kernel
theorem dX7_digestWedding_30 : decode cX7_digestWedding 30 = .ok (.iinc 6 1, 3) := by decide +kernel
theorem dX7_digestWedding_33 : decode cX7_digestWedding 33 = .ok (.goto (-27), 3) := by decide +kernel
theorem dX7_digestWedding_36 : decode cX7_digestWedding 36 = .ok (.aload_n 0, 1) := by decide +kernel
theorem dX7_digestWedding_37 : decode cX7_digestWedding 37 = .ok (.getfield 29, 3) := by decide +kernel
theorem dX7_digestWedding_40 : decode cX7_digestWedding 40 = .ok (.iload_n 3, 1) := by decide +kernel
theorem dX7_digestWedding_41 : decode cX7_digestWedding 41 = .ok (.aaload, 1) := by decide +kernel
theorem dX7_digestWedding_42 : decode cX7_digestWedding 42 = .ok (.getfield 233, 3) := by decide +kernel
theorem dX7_digestWedding_45 : decode cX7_digestWedding 45 = .ok (.ifCond .ne 76, 3) := by decide +kernel
theorem dX7_digestWedding_48 : decode cX7_digestWedding 48 = .ok (.aload_n 0, 1) := by decide +kernel
theorem dX7_digestWedding_49 : decode cX7_digestWedding 49 = .ok (.iload_n 3, 1) := by decide +kernel
theorem dX7_digestWedding_50 : decode cX7_digestWedding 50 = .ok (.invokevirtual 222, 3) := by decide +kernel
theorem dX7_digestWedding_53 : decode cX7_digestWedding 53 = .ok (.lload 4, 2) := by decide +kernel
theorem dX7_digestWedding_55 : decode cX7_digestWedding 55 = .ok (.ldc2_w 452, 3) := by decide +kernel
theorem dX7_digestWedding_58 : decode cX7_digestWedding 58 = .ok (.lmul, 1) := by decide +kernel
theorem dX7_digestWedding_59 : decode cX7_digestWedding 59 = .ok (.aload_n 0, 1) := by decide +kernel
theorem dX7_digestWedding_60 : decode cX7_digestWedding 60 = .ok (.getfield 70, 3) := by decide +kernel
theorem dX7_digestWedding_63 : decode cX7_digestWedding 63 = .ok (.getfield 236, 3) := by decide +kernel
theorem dX7_digestWedding_66 : decode cX7_digestWedding 66 = .ok (.i2l, 1) := by decide +kernel
theorem dX7_digestWedding_67 : decode cX7_digestWedding 67 = .ok (.ladd, 1) := by decide +kernel
theorem dX7_digestWedding_68 : decode cX7_digestWedding 68 = .ok (.lstore 4, 2) := by decide +kernel
theorem dX7_digestWedding_70 : decode cX7_digestWedding 70 = .ok (.lload 4, 2) := by decide +kernel
theorem dX7_digestWedding_72 : decode cX7_digestWedding 72 = .ok (.ldc2_w 452, 3) := by decide +kernel
theorem dX7_digestWedding_75 : decode cX7_digestWedding 75 = .ok (.lmul, 1) := by decide +kernel
theorem dX7_digestWedding_76 : decode cX7_digestWedding 76 = .ok (.aload_n 0, 1) := by decide +kernel
theorem dX7_digestWedding_77 : decode cX7_digestWedding 77 = .ok (.getfield 70, 3) := by decide +kernel
theorem dX7_digestWedding_80 : decode cX7_digestWedding 80 = .ok (.getfield 241, 3) := by decide +kernel
theorem dX7_digestWedding_83 : decode cX7_digestWedding 83 = .ok (.i2l, 1) := by decide +kernel
theorem dX7_digestWedding_84 : decode cX7_digestWedding 84 = .ok (.ladd, 1) := by decide +kernel
theorem dX7_digestWedding_85 : decode cX7_digestWedding 85 = .ok (.lstore 4, 2) := by decide +kernel
theorem dX7_digestWedding_87 : decode cX7_digestWedding 87 = .ok (.lload 4, 2) := by decide +kernel
theorem dX7_digestWedding_89 : decode cX7_digestWedding 89 = .ok (.ldc2_w 452, 3) := by decide +kernel
theorem dX7_digestWedding_92 : decode cX7_digestWedding 92 = .ok (.lmul, 1) := by decide +kernel
theorem dX7_digestWedding_93 : decode cX7_digestWedding 93 = .ok (.aload_n 0, 1) := by decide +kernel
theorem dX7_digestWedding_94 : decode cX7_digestWedding 94 = .ok (.getfield 70, 3) := by decide +kernel
theorem dX7_digestWedding_97 : decode cX7_digestWedding 97 = .ok (.getfield 225, 3) := by decide +kernel
theorem dX7_digestWedding_100 : decode cX7_digestWedding 100 = .ok (.i2l, 1) := by decide +kernel
theorem dX7_digestWedding_101 : decode cX7_digestWedding 101 = .ok (.ladd, 1) := by decide +kernel
theorem dX7_digestWedding_102 : decode cX7_digestWedding 102 = .ok (.lstore 4, 2) := by decide +kernel
theorem dX7_digestWedding_104 : decode cX7_digestWedding 104 = .ok (.lload 4, 2) := by decide +kernel
theorem dX7_digestWedding_106 : decode cX7_digestWedding 106 = .ok (.ldc2_w 452, 3) := by decide +kernel
theorem dX7_digestWedding_109 : decode cX7_digestWedding 109 = .ok (.lmul, 1) := by decide +kernel
theorem dX7_digestWedding_110 : decode cX7_digestWedding 110 = .ok (.aload_n 0, 1) := by decide +kernel
theorem dX7_digestWedding_111 : decode cX7_digestWedding 111 = .ok (.getfield 70, 3) := by decide +kernel
theorem dX7_digestWedding_114 : decode cX7_digestWedding 114 = .ok (.getfield 350, 3) := by decide +kernel
theorem dX7_digestWedding_117 : decode cX7_digestWedding 117 = .ok (.i2l, 1) := by decide +kernel
theorem dX7_digestWedding_118 : decode cX7_digestWedding 118 = .ok (.ladd, 1) := by decide +kernel
theorem dX7_digestWedding_119 : decode cX7_digestWedding 119 = .ok (.lstore 4, 2) := by decide +kernel
theorem dX7_digestWedding_121 : decode cX7_digestWedding 121 = .ok (.lload 4, 2) := by decide +kernel
theorem dX7_digestWedding_123 : decode cX7_digestWedding 123 = .ok (.ldc2_w 452, 3) := by decide +kernel
theorem dX7_digestWedding_126 : decode cX7_digestWedding 126 = .ok (.lmul, 1) := by decide +kernel
theorem dX7_digestWedding_127 : decode cX7_digestWedding 127 = .ok (.aload_n 0, 1) := by decide +kernel
theorem dX7_digestWedding_128 : decode cX7_digestWedding 128 = .ok (.aload_n 0, 1) := by decide +kernel
theorem dX7_digestWedding_129 : decode cX7_digestWedding 129 = .ok (.getfield 29, 3) := by decide +kernel
theorem dX7_digestWedding_132 : decode cX7_digestWedding 132 = .ok (.iload_n 3, 1) := by decide +kernel
theorem dX7_digestWedding_133 : decode cX7_digestWedding 133 = .ok (.aaload, 1) := by decide +kernel
theorem dX7_digestWedding_134 : decode cX7_digestWedding 134 = .ok (.getfield 239, 3) := by decide +kernel
theorem dX7_digestWedding_137 : decode cX7_digestWedding 137 = .ok (.iconst 0, 1) := by decide +kernel
theorem dX7_digestWedding_138 : decode cX7_digestWedding 138 = .ok (.invokevirtual 470, 3) := by decide +kernel
theorem dX7_digestWedding_141 : decode cX7_digestWedding 141 = .ok (.i2l, 1) := by decide +kernel
theorem dX7_digestWedding_142 : decode cX7_digestWedding 142 = .ok (.ladd, 1) := by decide +kernel
theorem dX7_digestWedding_143 : decode cX7_digestWedding 143 = .ok (.lreturn, 1) := by decide +kernel
theorem dX7_has_0 : decode cX7_has 0 = .ok (.iload_n 0, 1) := by decide +kernel
theorem dX7_has_1 : decode cX7_has 1 = .ok (.iload_n 1, 1) := by decide +kernel
theorem dX7_has_2 : decode cX7_has 2 = .ok (.ishr, 1) := by decide +kernel
theorem dX7_has_3 : decode cX7_has 3 = .ok (.iconst 1, 1) := by decide +kernel
theorem dX7_has_4 : decode cX7_has 4 = .ok (.iand, 1) := by decide +kernel
theorem dX7_has_5 : decode cX7_has 5 = .ok (.ifCond .eq 7, 3) := by decide +kernel
theorem dX7_has_8 : decode cX7_has 8 = .ok (.iconst 1, 1) := by decide +kernel
theorem dX7_has_9 : decode cX7_has 9 = .ok (.goto 4, 3) := by decide +kernel
theorem dX7_has_12 : decode cX7_has 12 = .ok (.iconst 0, 1) := by decide +kernel
theorem dX7_has_13 : decode cX7_has 13 = .ok (.ireturn, 1) := by decide +kernel
theorem dX7_isTown_0 : decode cX7_isTown 0 = .ok (.iload_n 0, 1) := by decide +kernel
theorem dX7_isTown_1 : decode cX7_isTown 1 = .ok (.ifCond .lt 13, 3) := by decide +kernel
theorem dX7_isTown_4 : decode cX7_isTown 4 = .ok (.iload_n 0, 1) := by decide +kernel
theorem dX7_isTown_5 : decode cX7_isTown 5 = .ok (.bipush 6, 2) := by decide +kernel
theorem dX7_isTown_7 : decode cX7_isTown 7 = .ok (.if_icmp .ge 7, 3) := by decide +kernel
theorem dX7_isTown_10 : decode cX7_isTown 10 = .ok (.iconst 1, 1) := by decide +kernel
theorem dX7_isTown_11 : decode cX7_isTown 11 = .ok (.goto 4, 3) := by decide +kernel
theorem dX7_isTown_14 : decode cX7_isTown 14 = .ok (.iconst 0, 1) := by decide +kernel
theorem dX7_isTown_15 : decode cX7_isTown 15 = .ok (.ireturn, 1) := by decide +kernel
theorem dX7_isSetOfSongs_0 : decode cX7_isSetOfSongs 0 = .ok (.iload_n 0, 1) := by decide +kernel
theorem dX7_isSetOfSongs_1 : decode cX7_isSetOfSongs 1 = .ok (.ifCond .lt 14, 3) := by decide +kernel
theorem dX7_isSetOfSongs_4 : decode cX7_isSetOfSongs 4 = .ok (.iload_n 0, 1) := by decide +kernel
theorem dX7_isSetOfSongs_5 : decode cX7_isSetOfSongs 5 = .ok (.ldc_w 482, 3) := by decide +kernel
theorem dX7_isSetOfSongs_8 : decode cX7_isSetOfSongs 8 = .ok (.if_icmp .ge 7, 3) := by decide +kernel
theorem dX7_isSetOfSongs_11 : decode cX7_isSetOfSongs 11 = .ok (.iconst 1, 1) := by decide +kernel
theorem dX7_isSetOfSongs_12 : decode cX7_isSetOfSongs 12 = .ok (.goto 4, 3) := by decide +kernel
theorem dX7_isSetOfSongs_15 : decode cX7_isSetOfSongs 15 = .ok (.iconst 0, 1) := by decide +kernel
theorem dX7_isSetOfSongs_16 : decode cX7_isSetOfSongs 16 = .ok (.ireturn, 1) := by decide +kernel
theorem dX7_areHours_0 : decode cX7_areHours 0 = .ok (.iload_n 0, 1) := by decide +kernel
theorem dX7_areHours_1 : decode cX7_areHours 1 = .ok (.bipush 10, 2) := by decide +kernel
theorem dX7_areHours_3 : decode cX7_areHours 3 = .ok (.if_icmp .lt 32, 3) := by decide +kernel
theorem dX7_areHours_6 : decode cX7_areHours 6 = .ok (.iload_n 0, 1) := by decide +kernel
theorem dX7_areHours_7 : decode cX7_areHours 7 = .ok (.bipush 22, 2) := by decide +kernel
theorem dX7_areHours_9 : decode cX7_areHours 9 = .ok (.if_icmp .gt 26, 3) := by decide +kernel
theorem dX7_areHours_12 : decode cX7_areHours 12 = .ok (.iload_n 1, 1) := by decide +kernel
theorem dX7_areHours_13 : decode cX7_areHours 13 = .ok (.iconst 1, 1) := by decide +kernel
theorem dX7_areHours_14 : decode cX7_areHours 14 = .ok (.if_icmp .lt 21, 3) := by decide +kernel
theorem dX7_areHours_17 : decode cX7_areHours 17 = .ok (.iload_n 1, 1) := by decide +kernel
theorem dX7_areHours_18 : decode cX7_areHours 18 = .ok (.bipush 6, 2) := by decide +kernel
theorem dX7_areHours_20 : decode cX7_areHours 20 = .ok (.if_icmp .gt 15, 3) := by decide +kernel
theorem dX7_areHours_23 : decode cX7_areHours 23 = .ok (.iload_n 0, 1) := by decide +kernel
theorem dX7_areHours_24 : decode cX7_areHours 24 = .ok (.iload_n 1, 1) := by decide +kernel
theorem dX7_areHours_25 : decode cX7_areHours 25 = .ok (.iadd, 1) := by decide +kernel
theorem dX7_areHours_26 : decode cX7_areHours 26 = .ok (.bipush 24, 2) := by decide +kernel
theorem dX7_areHours_28 : decode cX7_areHours 28 = .ok (.if_icmp .gt 7, 3) := by decide +kernel
theorem dX7_areHours_31 : decode cX7_areHours 31 = .ok (.iconst 1, 1) := by decide +kernel
theorem dX7_areHours_32 : decode cX7_areHours 32 = .ok (.goto 4, 3) := by decide +kernel
theorem dX7_areHours_35 : decode cX7_areHours 35 = .ok (.iconst 0, 1) := by decide +kernel
theorem dX7_areHours_36 : decode cX7_areHours 36 = .ok (.ireturn, 1) := by decide +kernel
set_option maxRecDepth 20000 in
theorem ggX7_checkTown_X7_isTown : GoodIn wsX7_checkTown wsX7_isTown := goodIn_r _ [6] rfl (by decide +kernel)
set_option maxRecDepth 20000 in
theorem gX7_checkTown_X7_isTown : GoodIn wsX7_checkTown (va_wsS RX7 87 yX7_isTown wsX7_isTown) := goodIn_app (goodIn_of _ (by decide +kernel)) ggX7_checkTown_X7_isTown
theorem dX7_checkTown_0 : decode cX7_checkTown 0 = .ok (.iload_n 0, 1) := by decide +kernel
theorem dX7_checkTown_1 : decode cX7_checkTown 1 = .ok (.invokestatic 87, 3) := by decide +kernel
theorem dX7_checkTown_4 : decode cX7_checkTown 4 = .ok (.ifCond .ne 13, 3) := by decide +kernel
theorem dX7_checkTown_7 : decode cX7_checkTown 7 = .ok (.new 91, 3) := by decide +kernel
theorem dX7_checkTown_10 : decode cX7_checkTown 10 = .ok (.dup, 1) := by decide +kernel
theorem dX7_checkTown_11 : decode cX7_checkTown 11 = .ok (.ldc 93, 2) := by decide +kernel
theorem dX7_checkTown_13 : decode cX7_checkTown 13 = .ok (.invokespecial 95, 3) := by decide +kernel
theorem dX7_checkTown_16 : decode cX7_checkTown 16 = .ok (.athrow, 1) := by decide +kernel
theorem dX7_checkTown_17 : decode cX7_checkTown 17 = .ok (.return_, 1) := by decide +kernel
theorem dX7_checkSong_0 : decode cX7_checkSong 0 = .ok (.iload_n 0, 1) := by decide +kernel
theorem dX7_checkSong_1 : decode cX7_checkSong 1 = .ok (.ifCond .lt 9, 3) := by decide +kernel
theorem dX7_checkSong_4 : decode cX7_checkSong 4 = .ok (.iload_n 0, 1) := by decide +kernel
theorem dX7_checkSong_5 : decode cX7_checkSong 5 = .ok (.bipush 16, 2) := by decide +kernel
theorem dX7_checkSong_7 : decode cX7_checkSong 7 = .ok (.if_icmp .lt 14, 3) := by decide +kernel
theorem dX7_checkSong_10 : decode cX7_checkSong 10 = .ok (.new 91, 3) := by decide +kernel
theorem dX7_checkSong_13 : decode cX7_checkSong 13 = .ok (.dup, 1) := by decide +kernel
theorem dX7_checkSong_14 : decode cX7_checkSong 14 = .ok (.ldc_w 483, 3) := by decide +kernel
theorem dX7_checkSong_17 : decode cX7_checkSong 17 = .ok (.invokespecial 95, 3) := by decide +kernel
theorem dX7_checkSong_20 : decode cX7_checkSong 20 = .ok (.athrow, 1) := by decide +kernel
theorem dX7_checkSong_21 : decode cX7_checkSong 21 = .ok (.return_, 1) := by decide +kernel
theorem dX7_checkPlayer_0 : decode cX7_checkPlayer 0 = .ok (.iload_n 1, 1) := by decide +kernel
theorem dX7_checkPlayer_1 : decode cX7_checkPlayer 1 = .ok (.ifCond .lt 11, 3) := by decide +kernel
theorem dX7_checkPlayer_4 : decode cX7_checkPlayer 4 = .ok (.iload_n 1, 1) := by decide +kernel
theorem dX7_checkPlayer_5 : decode cX7_checkPlayer 5 = .ok (.aload_n 0, 1) := by decide +kernel
theorem dX7_checkPlayer_6 : decode cX7_checkPlayer 6 = .ok (.getfield 44, 3) := by decide +kernel
theorem dX7_checkPlayer_9 : decode cX7_checkPlayer 9 = .ok (.if_icmp .lt 14, 3) := by decide +kernel
theorem dX7_checkPlayer_12 : decode cX7_checkPlayer 12 = .ok (.new 91, 3) := by decide +kernel
theorem dX7_checkPlayer_15 : decode cX7_checkPlayer 15 = .ok (.dup, 1) := by decide +kernel
theorem dX7_checkPlayer_16 : decode cX7_checkPlayer 16 = .ok (.ldc_w 485, 3) := by decide +kernel
theorem dX7_checkPlayer_19 : decode cX7_checkPlayer 19 = .ok (.invokespecial 95, 3) := by decide +kernel
theorem dX7_checkPlayer_22 : decode cX7_checkPlayer 22 = .ok (.athrow, 1) := by decide +kernel
theorem dX7_checkPlayer_23 : decode cX7_checkPlayer 23 = .ok (.return_, 1) := by decide +kernel
theorem dX7_checkBand_0 : decode cX7_checkBand 0 = .ok (.iload_n 1, 1) := by decide +kernel
theorem dX7_checkBand_1 : decode cX7_checkBand 1 = .ok (.ifCond .lt 11, 3) := by decide +kernel
theorem dX7_checkBand_4 : decode cX7_checkBand 4 = .ok (.iload_n 1, 1) := by decide +kernel
theorem dX7_checkBand_5 : decode cX7_checkBand 5 = .ok (.aload_n 0, 1) := by decide +kernel
theorem dX7_checkBand_6 : decode cX7_checkBand 6 = .ok (.getfield 48, 3) := by decide +kernel
theorem dX7_checkBand_9 : decode cX7_checkBand 9 = .ok (.if_icmp .lt 14, 3) := by decide +kernel
theorem dX7_checkBand_12 : decode cX7_checkBand 12 = .ok (.new 91, 3) := by decide +kernel
theorem dX7_checkBand_15 : decode cX7_checkBand 15 = .ok (.dup, 1) := by decide +kernel
theorem dX7_checkBand_16 : decode cX7_checkBand 16 = .ok (.ldc_w 487, 3) := by decide +kernel
theorem dX7_checkBand_19 : decode cX7_checkBand 19 = .ok (.invokespecial 95, 3) := by decide +kernel
theorem dX7_checkBand_22 : decode cX7_checkBand 22 = .ok (.athrow, 1) := by decide +kernel
theorem dX7_checkBand_23 : decode cX7_checkBand 23 = .ok (.return_, 1) := by decide +kernel
theorem dX7_checkWedding_0 : decode cX7_checkWedding 0 = .ok (.iload_n 1, 1) := by decide +kernel
theorem dX7_checkWedding_1 : decode cX7_checkWedding 1 = .ok (.ifCond .lt 11, 3) := by decide +kernel
theorem dX7_checkWedding_4 : decode cX7_checkWedding 4 = .ok (.iload_n 1, 1) := by decide +kernel
theorem dX7_checkWedding_5 : decode cX7_checkWedding 5 = .ok (.aload_n 0, 1) := by decide +kernel
theorem dX7_checkWedding_6 : decode cX7_checkWedding 6 = .ok (.getfield 51, 3) := by decide +kernel
theorem dX7_checkWedding_9 : decode cX7_checkWedding 9 = .ok (.if_icmp .lt 14, 3) := by decide +kernel
theorem dX7_checkWedding_12 : decode cX7_checkWedding 12 = .ok (.new 91, 3) := by decide +kernel
theorem dX7_checkWedding_15 : decode cX7_checkWedding 15 = .ok (.dup, 1) := by decide +kernel
theorem dX7_checkWedding_16 : decode cX7_checkWedding 16 = .ok (.ldc_w 489, 3) := by decide +kernel
theorem dX7_checkWedding_19 : decode cX7_checkWedding 19 = .ok (.invokespecial 95, 3) := by decide +kernel
theorem dX7_checkWedding_22 : decode cX7_checkWedding 22 = .ok (.athrow, 1) := by decide +kernel
theorem dX7_checkWedding_23 : decode cX7_checkWedding 23 = .ok (.return_, 1) := by decide +kernel
theorem dX7_checkDayToCome_0 : decode cX7_checkDayToCome 0 = .ok (.iload_n 1, 1) := by decide +kernel
theorem dX7_checkDayToCome_1 : decode cX7_checkDayToCome 1 = .ok (.aload_n 0, 1) := by decide +kernel
theorem dX7_checkDayToCome_2 : decode cX7_checkDayToCome 2 = .ok (.getfield 54, 3) := by decide +kernel
theorem dX7_checkDayToCome_5 : decode cX7_checkDayToCome 5 = .ok (.if_icmp .lt 10, 3) := by decide +kernel
theorem dX7_checkDayToCome_8 : decode cX7_checkDayToCome 8 = .ok (.iload_n 1, 1) := by decide +kernel
theorem dX7_checkDayToCome_9 : decode cX7_checkDayToCome 9 = .ok (.sipush 365, 3) := by decide +kernel
theorem dX7_checkDayToCome_12 : decode cX7_checkDayToCome 12 = .ok (.if_icmp .le 14, 3) := by decide +kernel
theorem dX7_checkDayToCome_15 : decode cX7_checkDayToCome 15 = .ok (.new 101, 3) := by decide +kernel
theorem dX7_checkDayToCome_18 : decode cX7_checkDayToCome 18 = .ok (.dup, 1) := by decide +kernel
theorem dX7_checkDayToCome_19 : decode cX7_checkDayToCome 19 = .ok (.ldc_w 491, 3) := by decide +kernel
theorem dX7_checkDayToCome_22 : decode cX7_checkDayToCome 22 = .ok (.invokespecial 105, 3) := by decide +kernel
theorem dX7_checkDayToCome_25 : decode cX7_checkDayToCome 25 = .ok (.athrow, 1) := by decide +kernel
theorem dX7_checkDayToCome_26 : decode cX7_checkDayToCome 26 = .ok (.return_, 1) := by decide +kernel
theorem dX7_sizeOf_0 : decode cX7_sizeOf 0 = .ok (.iconst 0, 1) := by decide +kernel
theorem dX7_sizeOf_1 : decode cX7_sizeOf 1 = .ok (.istore_n 1, 1) := by decide +kernel
theorem dX7_sizeOf_2 : decode cX7_sizeOf 2 = .ok (.iload_n 0, 1) := by decide +kernel
theorem dX7_sizeOf_3 : decode cX7_sizeOf 3 = .ok (.istore_n 2, 1) := by decide +kernel
theorem dX7_sizeOf_4 : decode cX7_sizeOf 4 = .ok (.iconst 0, 1) := by decide +kernel
theorem dX7_sizeOf_5 : decode cX7_sizeOf 5 = .ok (.istore_n 3, 1) := by decide +kernel
theorem dX7_sizeOf_6 : decode cX7_sizeOf 6 = .ok (.iload_n 3, 1) := by decide +kernel
theorem dX7_sizeOf_7 : decode cX7_sizeOf 7 = .ok (.bipush 6, 2) := by decide +kernel
theorem dX7_sizeOf_9 : decode cX7_sizeOf 9 = .ok (.if_icmp .ge 19, 3) := by decide +kernel
theorem dX7_sizeOf_12 : decode cX7_sizeOf 12 = .ok (.iload_n 1, 1) := by decide +kernel
theorem dX7_sizeOf_13 : decode cX7_sizeOf 13 = .ok (.iload_n 2, 1) := by decide +kernel
theorem dX7_sizeOf_14 : decode cX7_sizeOf 14 = .ok (.iconst 3, 1) := by decide +kernel
theorem dX7_sizeOf_15 : decode cX7_sizeOf 15 = .ok (.irem, 1) := by decide +kernel
theorem dX7_sizeOf_16 : decode cX7_sizeOf 16 = .ok (.iadd, 1) := by decide +kernel
theorem dX7_sizeOf_17 : decode cX7_sizeOf 17 = .ok (.istore_n 1, 1) := by decide +kernel
theorem dX7_sizeOf_18 : decode cX7_sizeOf 18 = .ok (.iload_n 2, 1) := by decide +kernel
theorem dX7_sizeOf_19 : decode cX7_sizeOf 19 = .ok (.iconst 3, 1) := by decide +kernel
theorem dX7_sizeOf_20 : decode cX7_sizeOf 20 = .ok (.idiv, 1) := by decide +kernel
theorem dX7_sizeOf_21 : decode cX7_sizeOf 21 = .ok (.istore_n 2, 1) := by decide +kernel
theorem dX7_sizeOf_22 : decode cX7_sizeOf 22 = .ok (.iinc 3 1, 3) := by decide +kernel
theorem dX7_sizeOf_25 : decode cX7_sizeOf 25 = .ok (.goto (-19), 3) := by decide +kernel
theorem dX7_sizeOf_28 : decode cX7_sizeOf 28 = .ok (.iload_n 1, 1) := by decide +kernel
theorem dX7_sizeOf_29 : decode cX7_sizeOf 29 = .ok (.ireturn, 1) := by decide +kernel
theorem dX7_isTaken_0 : decode cX7_isTaken 0 = .ok (.iconst 0, 1) := by decide +kernel
theorem dX7_isTaken_1 : decode cX7_isTaken 1 = .ok (.istore_n 3, 1) := by decide +kernel
theorem dX7_isTaken_2 : decode cX7_isTaken 2 = .ok (.iload_n 3, 1) := by decide +kernel
theorem dX7_isTaken_3 : decode cX7_isTaken 3 = .ok (.aload_n 0, 1) := by decide +kernel
theorem dX7_isTaken_4 : decode cX7_isTaken 4 = .ok (.getfield 51, 3) := by decide +kernel
theorem dX7_isTaken_7 : decode cX7_isTaken 7 = .ok (.if_icmp .ge 46, 3) := by decide +kernel
theorem dX7_isTaken_10 : decode cX7_isTaken 10 = .ok (.aload_n 0, 1) := by decide +kernel
theorem dX7_isTaken_11 : decode cX7_isTaken 11 = .ok (.getfield 29, 3) := by decide +kernel
theorem dX7_isTaken_14 : decode cX7_isTaken 14 = .ok (.iload_n 3, 1) := by decide +kernel
theorem dX7_isTaken_15 : decode cX7_isTaken 15 = .ok (.aaload, 1) := by decide +kernel
theorem dX7_isTaken_16 : decode cX7_isTaken 16 = .ok (.astore 4, 2) := by decide +kernel
theorem dX7_isTaken_18 : decode cX7_isTaken 18 = .ok (.aload 4, 2) := by decide +kernel
theorem dX7_isTaken_20 : decode cX7_isTaken 20 = .ok (.getfield 233, 3) := by decide +kernel
theorem dX7_isTaken_23 : decode cX7_isTaken 23 = .ok (.iconst 1, 1) := by decide +kernel
theorem dX7_isTaken_24 : decode cX7_isTaken 24 = .ok (.if_icmp .ne 23, 3) := by decide +kernel
theorem dX7_isTaken_27 : decode cX7_isTaken 27 = .ok (.aload 4, 2) := by decide +kernel
theorem dX7_isTaken_29 : decode cX7_isTaken 29 = .ok (.getfield 193, 3) := by decide +kernel
theorem dX7_isTaken_32 : decode cX7_isTaken 32 = .ok (.iload_n 1, 1) := by decide +kernel
theorem dX7_isTaken_33 : decode cX7_isTaken 33 = .ok (.if_icmp .ne 14, 3) := by decide +kernel
theorem dX7_isTaken_36 : decode cX7_isTaken 36 = .ok (.aload 4, 2) := by decide +kernel
theorem dX7_isTaken_38 : decode cX7_isTaken 38 = .ok (.getfield 196, 3) := by decide +kernel
theorem dX7_isTaken_41 : decode cX7_isTaken 41 = .ok (.iload_n 2, 1) := by decide +kernel
theorem dX7_isTaken_42 : decode cX7_isTaken 42 = .ok (.if_icmp .ne 5, 3) := by decide +kernel
theorem dX7_isTaken_45 : decode cX7_isTaken 45 = .ok (.iconst 1, 1) := by decide +kernel
theorem dX7_isTaken_46 : decode cX7_isTaken 46 = .ok (.ireturn, 1) := by decide +kernel
theorem dX7_isTaken_47 : decode cX7_isTaken 47 = .ok (.iinc 3 1, 3) := by decide +kernel
theorem dX7_isTaken_50 : decode cX7_isTaken 50 = .ok (.goto (-48), 3) := by decide +kernel
theorem dX7_isTaken_53 : decode cX7_isTaken 53 = .ok (.iconst 0, 1) := by decide +kernel
theorem dX7_isTaken_54 : decode cX7_isTaken 54 = .ok (.ireturn, 1) := by decide +kernel
theorem dX7_areInOneQueue_0 : decode cX7_areInOneQueue 0 = .ok (.aload_n 0, 1) := by decide +kernel
theorem dX7_areInOneQueue_1 : decode cX7_areInOneQueue 1 = .ok (.getfield 29, 3) := by decide +kernel
theorem dX7_areInOneQueue_4 : decode cX7_areInOneQueue 4 = .ok (.iload_n 1, 1) := by decide +kernel
theorem dX7_areInOneQueue_5 : decode cX7_areInOneQueue 5 = .ok (.aaload, 1) := by decide +kernel
theorem dX7_areInOneQueue_6 : decode cX7_areInOneQueue 6 = .ok (.astore_n 3, 1) := by decide +kernel
theorem dX7_areInOneQueue_7 : decode cX7_areInOneQueue 7 = .ok (.aload_n 0, 1) := by decide +kernel
theorem dX7_areInOneQueue_8 : decode cX7_areInOneQueue 8 = .ok (.getfield 29, 3) := by decide +kernel
theorem dX7_areInOneQueue_11 : decode cX7_areInOneQueue 11 = .ok (.iload_n 2, 1) := by decide +kernel
theorem dX7_areInOneQueue_12 : decode cX7_areInOneQueue 12 = .ok (.aaload, 1) := by decide +kernel
theorem dX7_areInOneQueue_13 : decode cX7_areInOneQueue 13 = .ok (.astore 4, 2) := by decide +kernel
theorem dX7_areInOneQueue_15 : decode cX7_areInOneQueue 15 = .ok (.aload_n 3, 1) := by decide +kernel
theorem dX7_areInOneQueue_16 : decode cX7_areInOneQueue 16 = .ok (.getfield 233, 3) := by decide +kernel
theorem dX7_areInOneQueue_19 : decode cX7_areInOneQueue 19 = .ok (.ifCond .ne 39, 3) := by decide +kernel
theorem dX7_areInOneQueue_22 : decode cX7_areInOneQueue 22 = .ok (.aload 4, 2) := by decide +kernel
theorem dX7_areInOneQueue_24 : decode cX7_areInOneQueue 24 = .ok (.getfield 233, 3) := by decide +kernel
theorem dX7_areInOneQueue_27 : decode cX7_areInOneQueue 27 = .ok (.ifCond .ne 31, 3) := by decide +kernel
theorem dX7_areInOneQueue_30 : decode cX7_areInOneQueue 30 = .ok (.aload_n 3, 1) := by decide +kernel
theorem dX7_areInOneQueue_31 : decode cX7_areInOneQueue 31 = .ok (.getfield 193, 3) := by decide +kernel
theorem dX7_areInOneQueue_34 : decode cX7_areInOneQueue 34 = .ok (.aload 4, 2) := by decide +kernel
theorem dX7_areInOneQueue_36 : decode cX7_areInOneQueue 36 = .ok (.getfield 193, 3) := by decide +kernel
theorem dX7_areInOneQueue_39 : decode cX7_areInOneQueue 39 = .ok (.if_icmp .ne 19, 3) := by decide +kernel
theorem dX7_areInOneQueue_42 : decode cX7_areInOneQueue 42 = .ok (.aload_n 3, 1) := by decide +kernel
theorem dX7_areInOneQueue_43 : decode cX7_areInOneQueue 43 = .ok (.getfield 196, 3) := by decide +kernel
theorem dX7_areInOneQueue_46 : decode cX7_areInOneQueue 46 = .ok (.aload 4, 2) := by decide +kernel
theorem dX7_areInOneQueue_48 : decode cX7_areInOneQueue 48 = .ok (.getfield 196, 3) := by decide +kernel
theorem dX7_areInOneQueue_51 : decode cX7_areInOneQueue 51 = .ok (.if_icmp .ne 7, 3) := by decide +kernel
theorem dX7_areInOneQueue_54 : decode cX7_areInOneQueue 54 = .ok (.iconst 1, 1) := by decide +kernel
theorem dX7_areInOneQueue_55 : decode cX7_areInOneQueue 55 = .ok (.goto 4, 3) := by decide +kernel
theorem dX7_areInOneQueue_58 : decode cX7_areInOneQueue 58 = .ok (.iconst 0, 1) := by decide +kernel
theorem dX7_areInOneQueue_59 : decode cX7_areInOneQueue 59 = .ok (.ireturn, 1) := by decide +kernel
set_option maxRecDepth 20000 in
theorem ggX7_placeInQueue_X7_areInOneQueue : GoodIn wsX7_placeInQueue wsX7_areInOneQueue := goodIn_r _ [7, 1, 2, 8, 9, 10, 11, 12, 13, 14, 15, 16, 17, 18, 19, 20, 21, 22, 23, 24, 25, 26, 27, 28, 29, 30, 31, 32, 33, 34, 35, 36] rfl (by decide +kernel)
set_option maxRecDepth 20000 in
theorem gX7_placeInQueue_X7_areInOneQueue : GoodIn wsX7_placeInQueue (wsV RX7 493 RX7 yX7_areInOneQueue wsX7_areInOneQueue) := goodIn_app (goodIn_of _ (by decide +kernel)) ggX7_placeInQueue_X7_areInOneQueue
theorem dX7_placeInQueue_0 : decode cX7_placeInQueue 0 = .ok (.aload_n 0, 1) := by decide +kernel
theorem dX7_placeInQueue_1 : decode cX7_placeInQueue 1 = .ok (.getfield 29, 3) := by decide +kernel
theorem dX7_placeInQueue_4 : decode cX7_placeInQueue 4 = .ok (.iload_n 1, 1) := by decide +kernel
theorem dX7_placeInQueue_5 : decode cX7_placeInQueue 5 = .ok (.aaload, 1) := by decide +kernel
theorem dX7_placeInQueue_6 : decode cX7_placeInQueue 6 = .ok (.getfield 233, 3) := by decide +kernel
theorem dX7_placeInQueue_9 : decode cX7_placeInQueue 9 = .ok (.ifCond .eq 5, 3) := by decide +kernel
theorem dX7_placeInQueue_12 : decode cX7_placeInQueue 12 = .ok (.iconst (-1), 1) := by decide +kernel
theorem dX7_placeInQueue_13 : decode cX7_placeInQueue 13 = .ok (.ireturn, 1) := by decide +kernel
theorem dX7_placeInQueue_14 : decode cX7_placeInQueue 14 = .ok (.iconst 0, 1) := by decide +kernel
theorem dX7_placeInQueue_15 : decode cX7_placeInQueue 15 = .ok (.istore_n 2, 1) := by decide +kernel
theorem dX7_placeInQueue_16 : decode cX7_placeInQueue 16 = .ok (.iconst 0, 1) := by decide +kernel
theorem dX7_placeInQueue_17 : decode cX7_placeInQueue 17 = .ok (.istore_n 3, 1) := by decide +kernel
theorem dX7_placeInQueue_18 : decode cX7_placeInQueue 18 = .ok (.iload_n 3, 1) := by decide +kernel
theorem dX7_placeInQueue_19 : decode cX7_placeInQueue 19 = .ok (.iload_n 1, 1) := by decide +kernel
theorem dX7_placeInQueue_20 : decode cX7_placeInQueue 20 = .ok (.if_icmp .ge 21, 3) := by decide +kernel
theorem dX7_placeInQueue_23 : decode cX7_placeInQueue 23 = .ok (.aload_n 0, 1) := by decide +kernel
theorem dX7_placeInQueue_24 : decode cX7_placeInQueue 24 = .ok (.iload_n 3, 1) := by decide +kernel
theorem dX7_placeInQueue_25 : decode cX7_placeInQueue 25 = .ok (.iload_n 1, 1) := by decide +kernel
theorem dX7_placeInQueue_26 : decode cX7_placeInQueue 26 = .ok (.invokevirtual 493, 3) := by decide +kernel
theorem dX7_placeInQueue_29 : decode cX7_placeInQueue 29 = .ok (.ifCond .eq 6, 3) := by decide +kernel
theorem dX7_placeInQueue_32 : decode cX7_placeInQueue 32 = .ok (.iinc 2 1, 3) := by decide +kernel
theorem dX7_placeInQueue_35 : decode cX7_placeInQueue 35 = .ok (.iinc 3 1, 3) := by decide +kernel
theorem dX7_placeInQueue_38 : decode cX7_placeInQueue 38 = .ok (.goto (-20), 3) := by decide +kernel
theorem dX7_placeInQueue_41 : decode cX7_placeInQueue 41 = .ok (.iload_n 2, 1) := by decide +kernel
theorem dX7_placeInQueue_42 : decode cX7_placeInQueue 42 = .ok (.ireturn, 1) := by decide +kernel
set_option maxRecDepth 20000 in
theorem ggX7_isFirst_X7_placeInQueue : GoodIn wsX7_isFirst wsX7_placeInQueue := goodIn_r _ [5, 6, 7, 8, 9, 10, 4, 11, 12, 13, 14, 15, 16, 17, 18, 19, 20, 21, 22, 23, 24, 25, 26, 27, 28, 29, 30, 31, 32, 33, 34, 35, 36, 37, 38, 39, 40] rfl (by decide +kernel)
set_option maxRecDepth 20000 in
theorem gX7_isFirst_X7_placeInQueue : GoodIn wsX7_isFirst (wsV RX7 337 RX7 yX7_placeInQueue wsX7_placeInQueue) := goodIn_app (goodIn_of _ (by decide +kernel)) ggX7_isFirst_X7_placeInQueue
theorem dX7_isFirst_0 : decode cX7_isFirst 0 = .ok (.aload_n 0, 1) := by decide +kernel
theorem dX7_isFirst_1 : decode cX7_isFirst 1 = .ok (.iload_n 1, 1) := by decide +kernel
theorem dX7_isFirst_2 : decode cX7_isFirst 2 = .ok (.invokevirtual 337, 3) := by decide +kernel
theorem dX7_isFirst_5 : decode cX7_isFirst 5 = .ok (.ifCond .ne 7, 3) := by decide +kernel
theorem dX7_isFirst_8 : decode cX7_isFirst 8 = .ok (.iconst 1, 1) := by decide +kernel
theorem dX7_isFirst_9 : decode cX7_isFirst 9 = .ok (.goto 4, 3) := by decide +kernel
theorem dX7_isFirst_12 : decode cX7_isFirst 12 = .ok (.iconst 0, 1) := by decide +kernel
theorem dX7_isFirst_13 : decode cX7_isFirst 13 = .ok (.ireturn, 1) := by decide +kernel
set_option maxRecDepth 20000 in
theorem ggX7_loseQueueOf_X7_areInOneQueue : GoodIn wsX7_loseQueueOf wsX7_areInOneQueue := goodIn_r _ [8, 2, 3, 9, 10, 11, 12, 13, 14, 15, 16, 17, 18, 19, 20, 21, 22, 23, 24, 25, 26, 27, 28, 29, 30, 31, 32, 33, 34, 35, 36, 37] rfl (by decide +kernel)
set_option maxRecDepth 20000 in
theorem gX7_loseQueueOf_X7_areInOneQueue : GoodIn wsX7_loseQueueOf (wsV RX7 493 RX7 yX7_areInOneQueue wsX7_areInOneQueue) := goodIn_app (goodIn_of _ (by decide +kernel)) ggX7_loseQueueOf_X7_areInOneQueue
theorem dX7_loseQueueOf_0 : decode cX7_loseQueueOf 0 = .ok (.iconst 0, 1) := by decide +kernel
theorem dX7_loseQueueOf_1 : decode cX7_loseQueueOf 1 = .ok (.istore_n 2, 1) := by decide +kernel
theorem dX7_loseQueueOf_2 : decode cX7_loseQueueOf 2 = .ok (.iload_n 2, 1) := by decide +kernel
theorem dX7_loseQueueOf_3 : decode cX7_loseQueueOf 3 = .ok (.aload_n 0, 1) := by decide +kernel
theorem dX7_loseQueueOf_4 : decode cX7_loseQueueOf 4 = .ok (.getfield 51, 3) := by decide +kernel
theorem dX7_loseQueueOf_7 : decode cX7_loseQueueOf 7 = .ok (.if_icmp .ge 33, 3) := by decide +kernel
theorem dX7_loseQueueOf_10 : decode cX7_loseQueueOf 10 = .ok (.iload_n 2, 1) := by decide +kernel
theorem dX7_loseQueueOf_11 : decode cX7_loseQueueOf 11 = .ok (.iload_n 1, 1) := by decide +kernel
theorem dX7_loseQueueOf_12 : decode cX7_loseQueueOf 12 = .ok (.if_icmp .eq 22, 3) := by decide +kernel
theorem dX7_loseQueueOf_15 : decode cX7_loseQueueOf 15 = .ok (.aload_n 0, 1) := by decide +kernel
theorem dX7_loseQueueOf_16 : decode cX7_loseQueueOf 16 = .ok (.iload_n 2, 1) := by decide +kernel
theorem dX7_loseQueueOf_17 : decode cX7_loseQueueOf 17 = .ok (.iload_n 1, 1) := by decide +kernel
theorem dX7_loseQueueOf_18 : decode cX7_loseQueueOf 18 = .ok (.invokevirtual 493, 3) := by decide +kernel
theorem dX7_loseQueueOf_21 : decode cX7_loseQueueOf 21 = .ok (.ifCond .eq 13, 3) := by decide +kernel
theorem dX7_loseQueueOf_24 : decode cX7_loseQueueOf 24 = .ok (.aload_n 0, 1) := by decide +kernel
theorem dX7_loseQueueOf_25 : decode cX7_loseQueueOf 25 = .ok (.getfield 29, 3) := by decide +kernel
theorem dX7_loseQueueOf_28 : decode cX7_loseQueueOf 28 = .ok (.iload_n 2, 1) := by decide +kernel
theorem dX7_loseQueueOf_29 : decode cX7_loseQueueOf 29 = .ok (.aaload, 1) := by decide +kernel
theorem dX7_loseQueueOf_30 : decode cX7_loseQueueOf 30 = .ok (.iconst 3, 1) := by decide +kernel
theorem dX7_loseQueueOf_31 : decode cX7_loseQueueOf 31 = .ok (.putfield 233, 3) := by decide +kernel
theorem dX7_loseQueueOf_34 : decode cX7_loseQueueOf 34 = .ok (.iinc 2 1, 3) := by decide +kernel
theorem dX7_loseQueueOf_37 : decode cX7_loseQueueOf 37 = .ok (.goto (-35), 3) := by decide +kernel
theorem dX7_loseQueueOf_40 : decode cX7_loseQueueOf 40 = .ok (.return_, 1) := by decide +kernel
set_option maxRecDepth 20000 in
theorem ggX7_firstOnesOf_X7_isFirst : GoodIn wsX7_firstOnesOf wsX7_isFirst := goodIn_r _ [8, 9, 10, 11, 7, 12, 2, 13, 14, 15, 16, 17, 18, 3, 26, 27, 28, 29, 30, 31, 32, 33, 34, 35, 36, 37, 38, 39, 40, 41, 42, 43, 44, 45, 46, 47, 48, 49, 50, 51, 52] rfl (by decide +kernel)
set_option maxRecDepth 20000 in
theorem gX7_firstOnesOf_X7_isFirst : GoodIn wsX7_firstOnesOf (wsV RX7 217 RX7 yX7_isFirst wsX7_isFirst) := goodIn_app (goodIn_of _ (by decide +kernel)) ggX7_firstOnesOf_X7_isFirst
set_option maxRecDepth 20000 in
theorem ggX7_firstOnesOf_J6_bitCount_0f7a4 : GoodIn wsX7_firstOnesOf wsJ6_bitCount_0f7a4 := goodIn_r _ [22, 23, 24, 25] rfl (by decide +kernel)
set_option maxRecDepth 20000 in
theorem gX7_firstOnesOf_J6_bitCount_0f7a4 : GoodIn wsX7_firstOnesOf (va_wsS RX7 128 yJ6_bitCount_0f7a4 wsJ6_bitCount_0f7a4) := goodIn_app (goodIn_of _ (by decide +kernel)) ggX7_firstOnesOf_J6_bitCount_0f7a4
theorem dX7_firstOnesOf_0 : decode cX7_firstOnesOf 0 = .ok (.iconst 0, 1) := by decide +kernel
theorem dX7_firstOnesOf_1 : decode cX7_firstOnesOf 1 = .ok (.istore_n 2, 1) := by decide +kernel
theorem dX7_firstOnesOf_2 : decode cX7_firstOnesOf 2 = .ok (.iconst 0, 1) := by decide +kernel
theorem dX7_firstOnesOf_3 : decode cX7_firstOnesOf 3 = .ok (.istore_n 3, 1) := by decide +kernel
theorem dX7_firstOnesOf_4 : decode cX7_firstOnesOf 4 = .ok (.iload_n 3, 1) := by decide +kernel
theorem dX7_firstOnesOf_5 : decode cX7_firstOnesOf 5 = .ok (.aload_n 0, 1) := by decide +kernel
theorem dX7_firstOnesOf_6 : decode cX7_firstOnesOf 6 = .ok (.getfield 51, 3) := by decide +kernel
theorem dX7_firstOnesOf_9 : decode cX7_firstOnesOf 9 = .ok (.if_icmp .ge 44, 3) := by decide +kernel
theorem dX7_firstOnesOf_12 : decode cX7_firstOnesOf 12 = .ok (.aload_n 0, 1) := by decide +kernel
theorem dX7_firstOnesOf_13 : decode cX7_firstOnesOf 13 = .ok (.getfield 29, 3) := by decide +kernel
theorem dX7_firstOnesOf_16 : decode cX7_firstOnesOf 16 = .ok (.iload_n 3, 1) := by decide +kernel
theorem dX7_firstOnesOf_17 : decode cX7_firstOnesOf 17 = .ok (.aaload, 1) := by decide +kernel
theorem dX7_firstOnesOf_18 : decode cX7_firstOnesOf 18 = .ok (.getfield 196, 3) := by decide +kernel
theorem dX7_firstOnesOf_21 : decode cX7_firstOnesOf 21 = .ok (.iload_n 1, 1) := by decide +kernel
theorem dX7_firstOnesOf_22 : decode cX7_firstOnesOf 22 = .ok (.if_icmp .ne 25, 3) := by decide +kernel
theorem dX7_firstOnesOf_25 : decode cX7_firstOnesOf 25 = .ok (.aload_n 0, 1) := by decide +kernel
theorem dX7_firstOnesOf_26 : decode cX7_firstOnesOf 26 = .ok (.iload_n 3, 1) := by decide +kernel
theorem dX7_firstOnesOf_27 : decode cX7_firstOnesOf 27 = .ok (.invokevirtual 217, 3) := by decide +kernel
theorem dX7_firstOnesOf_30 : decode cX7_firstOnesOf 30 = .ok (.ifCond .eq 17, 3) := by decide +kernel
theorem dX7_firstOnesOf_33 : decode cX7_firstOnesOf 33 = .ok (.iload_n 2, 1) := by decide +kernel
theorem dX7_firstOnesOf_34 : decode cX7_firstOnesOf 34 = .ok (.invokestatic 128, 3) := by decide +kernel
theorem dX7_firstOnesOf_37 : decode cX7_firstOnesOf 37 = .ok (.iconst 3, 1) := by decide +kernel
theorem dX7_firstOnesOf_38 : decode cX7_firstOnesOf 38 = .ok (.if_icmp .ge 9, 3) := by decide +kernel
theorem dX7_firstOnesOf_41 : decode cX7_firstOnesOf 41 = .ok (.iload_n 2, 1) := by decide +kernel
theorem dX7_firstOnesOf_42 : decode cX7_firstOnesOf 42 = .ok (.iconst 1, 1) := by decide +kernel
theorem dX7_firstOnesOf_43 : decode cX7_firstOnesOf 43 = .ok (.iload_n 3, 1) := by decide +kernel
theorem dX7_firstOnesOf_44 : decode cX7_firstOnesOf 44 = .ok (.ishl, 1) := by decide +kernel
theorem dX7_firstOnesOf_45 : decode cX7_firstOnesOf 45 = .ok (.ior, 1) := by decide +kernel
theorem dX7_firstOnesOf_46 : decode cX7_firstOnesOf 46 = .ok (.istore_n 2, 1) := by decide +kernel
theorem dX7_firstOnesOf_47 : decode cX7_firstOnesOf 47 = .ok (.iinc 3 1, 3) := by decide +kernel
theorem dX7_firstOnesOf_50 : decode cX7_firstOnesOf 50 = .ok (.goto (-46), 3) := by decide +kernel
theorem dX7_firstOnesOf_53 : decode cX7_firstOnesOf 53 = .ok (.iload_n 2, 1) := by decide +kernel
theorem dX7_firstOnesOf_54 : decode cX7_firstOnesOf 54 = .ok (.ireturn, 1) := by decide +kernel
set_option maxRecDepth 20000 in
theorem ggX7_membersAt_X7_has : GoodIn wsX7_membersAt wsX7_has := goodIn_r _ [4] rfl (by decide +kernel)
set_option maxRecDepth 20000 in
theorem gX7_membersAt_X7_has : GoodIn wsX7_membersAt (va_wsS RX7 153 yX7_has wsX7_has) := goodIn_app (goodIn_of _ (by decide +kernel)) ggX7_membersAt_X7_has
theorem dX7_membersAt_0 : decode cX7_membersAt 0 = .ok (.iconst 0, 1) := by decide +kernel
theorem dX7_membersAt_1 : decode cX7_membersAt 1 = .ok (.istore_n 2, 1) := by decide +kernel
theorem dX7_membersAt_2 : decode cX7_membersAt 2 = .ok (.iconst 0, 1) := by decide +kernel
theorem dX7_membersAt_3 : decode cX7_membersAt 3 = .ok (.istore_n 3, 1) := by decide +kernel
theorem dX7_membersAt_4 : decode cX7_membersAt 4 = .ok (.iconst 0, 1) := by decide +kernel
theorem dX7_membersAt_5 : decode cX7_membersAt 5 = .ok (.istore 4, 2) := by decide +kernel
theorem dX7_membersAt_7 : decode cX7_membersAt 7 = .ok (.iload 4, 2) := by decide +kernel
theorem dX7_membersAt_9 : decode cX7_membersAt 9 = .ok (.bipush 14, 2) := by decide +kernel
theorem dX7_membersAt_11 : decode cX7_membersAt 11 = .ok (.if_icmp .ge 40, 3) := by decide +kernel
theorem dX7_membersAt_14 : decode cX7_membersAt 14 = .ok (.iload_n 0, 1) := by decide +kernel
theorem dX7_membersAt_15 : decode cX7_membersAt 15 = .ok (.iload 4, 2) := by decide +kernel
theorem dX7_membersAt_17 : decode cX7_membersAt 17 = .ok (.invokestatic 153, 3) := by decide +kernel
theorem dX7_membersAt_20 : decode cX7_membersAt 20 = .ok (.ifCond .eq 25, 3) := by decide +kernel
theorem dX7_membersAt_23 : decode cX7_membersAt 23 = .ok (.iload_n 2, 1) := by decide +kernel
theorem dX7_membersAt_24 : decode cX7_membersAt 24 = .ok (.iload_n 1, 1) := by decide +kernel
theorem dX7_membersAt_25 : decode cX7_membersAt 25 = .ok (.iload_n 3, 1) := by decide +kernel
theorem dX7_membersAt_26 : decode cX7_membersAt 26 = .ok (.invokestatic 153, 3) := by decide +kernel
theorem dX7_membersAt_29 : decode cX7_membersAt 29 = .ok (.ifCond .eq 10, 3) := by decide +kernel
theorem dX7_membersAt_32 : decode cX7_membersAt 32 = .ok (.iconst 1, 1) := by decide +kernel
theorem dX7_membersAt_33 : decode cX7_membersAt 33 = .ok (.iload 4, 2) := by decide +kernel
theorem dX7_membersAt_35 : decode cX7_membersAt 35 = .ok (.ishl, 1) := by decide +kernel
theorem dX7_membersAt_36 : decode cX7_membersAt 36 = .ok (.goto 4, 3) := by decide +kernel
theorem dX7_membersAt_39 : decode cX7_membersAt 39 = .ok (.iconst 0, 1) := by decide +kernel
theorem dX7_membersAt_40 : decode cX7_membersAt 40 = .ok (.ior, 1) := by decide +kernel
theorem dX7_membersAt_41 : decode cX7_membersAt 41 = .ok (.istore_n 2, 1) := by decide +kernel
theorem dX7_membersAt_42 : decode cX7_membersAt 42 = .ok (.iinc 3 1, 3) := by decide +kernel
theorem dX7_membersAt_45 : decode cX7_membersAt 45 = .ok (.iinc 4 1, 3) := by decide +kernel
theorem dX7_membersAt_48 : decode cX7_membersAt 48 = .ok (.goto (-41), 3) := by decide +kernel
theorem dX7_membersAt_51 : decode cX7_membersAt 51 = .ok (.iload_n 2, 1) := by decide +kernel
theorem dX7_membersAt_52 : decode cX7_membersAt 52 = .ok (.ireturn, 1) := by decide +kernel
set_option maxRecDepth 20000 in
theorem ggX7_endToday_X7_playOut : GoodIn wsX7_endToday wsX7_playOut := goodIn_r _ [10, 11, 12, 13, 14, 15, 16, 17, 18, 19, 20, 21, 22, 23, 24, 25, 5, 26, 27, 28, 9, 29, 30, 31, 32, 33, 34, 35, 36, 37, 38, 39, 40, 41, 42, 43, 44, 45, 46, 47, 48, 49, 50, 51, 52, 53, 54, 55, 56, 57, 58, 59, 60, 61, 62, 63, 64, 65, 66, 67, 68, 69, 70, 71, 72, 73, 74, 75, 76, 77, 78, 79, 80, 81, 82, 83, 84, 85, 86, 87, 88, 89, 90, 91, 92, 93, 94, 95, 96, 97, 98, 99, 100, 101, 102, 103, 104, 105, 106, 107, 108, 109, 110, 111, 112, 113, 114, 115, 116, 132, 133, 134, 135, 136, 137, 138, 139, 140, 141, 142, 143, 117, 118, 119, 120, 121, 122, 123, 124, 125, 126, 127, 128, 129, 130, 131, 144, 145, 146, 147, 148, 149, 150, 151, 152, 153, 154, 155, 156, 157, 158, 159, 160, 161, 162, 163, 164] rfl (by decide +kernel)
set_option maxRecDepth 20000 in
theorem gX7_endToday_X7_playOut : GoodIn wsX7_endToday (wsV RX7 496 RX7 yX7_playOut wsX7_playOut) := goodIn_app (goodIn_of _ (by decide +kernel)) ggX7_endToday_X7_playOut
theorem dX7_endToday_0 : decode cX7_endToday 0 = .ok (.iconst 0, 1) := by decide +kernel
theorem dX7_endToday_1 : decode cX7_endToday 1 = .ok (.istore_n 1, 1) := by decide +kernel
theorem dX7_endToday_2 : decode cX7_endToday 2 = .ok (.iload_n 1, 1) := by decide +kernel
theorem dX7_endToday_3 : decode cX7_endToday 3 = .ok (.aload_n 0, 1) := by decide +kernel
theorem dX7_endToday_4 : decode cX7_endToday 4 = .ok (.getfield 51, 3) := by decide +kernel
theorem dX7_endToday_7 : decode cX7_endToday 7 = .ok (.if_icmp .ge 48, 3) := by decide +kernel
theorem dX7_endToday_10 : decode cX7_endToday 10 = .ok (.aload_n 0, 1) := by decide +kernel
theorem dX7_endToday_11 : decode cX7_endToday 11 = .ok (.getfield 29, 3) := by decide +kernel
theorem dX7_endToday_14 : decode cX7_endToday 14 = .ok (.iload_n 1, 1) := by decide +kernel
theorem dX7_endToday_15 : decode cX7_endToday 15 = .ok (.aaload, 1) := by decide +kernel
theorem dX7_endToday_16 : decode cX7_endToday 16 = .ok (.getfield 196, 3) := by decide +kernel
theorem dX7_endToday_19 : decode cX7_endToday 19 = .ok (.aload_n 0, 1) := by decide +kernel
theorem dX7_endToday_20 : decode cX7_endToday 20 = .ok (.getfield 54, 3) := by decide +kernel
theorem dX7_endToday_23 : decode cX7_endToday 23 = .ok (.if_icmp .ne 26, 3) := by decide +kernel
theorem dX7_endToday_26 : decode cX7_endToday 26 = .ok (.aload_n 0, 1) := by decide +kernel
theorem dX7_endToday_27 : decode cX7_endToday 27 = .ok (.getfield 29, 3) := by decide +kernel
theorem dX7_endToday_30 : decode cX7_endToday 30 = .ok (.iload_n 1, 1) := by decide +kernel
theorem dX7_endToday_31 : decode cX7_endToday 31 = .ok (.aaload, 1) := by decide +kernel
theorem dX7_endToday_32 : decode cX7_endToday 32 = .ok (.getfield 233, 3) := by decide +kernel
theorem dX7_endToday_35 : decode cX7_endToday 35 = .ok (.iconst 1, 1) := by decide +kernel
theorem dX7_endToday_36 : decode cX7_endToday 36 = .ok (.if_icmp .ne 13, 3) := by decide +kernel
theorem dX7_endToday_39 : decode cX7_endToday 39 = .ok (.aload_n 0, 1) := by decide +kernel
theorem dX7_endToday_40 : decode cX7_endToday 40 = .ok (.aload_n 0, 1) := by decide +kernel
theorem dX7_endToday_41 : decode cX7_endToday 41 = .ok (.getfield 29, 3) := by decide +kernel
theorem dX7_endToday_44 : decode cX7_endToday 44 = .ok (.iload_n 1, 1) := by decide +kernel
theorem dX7_endToday_45 : decode cX7_endToday 45 = .ok (.aaload, 1) := by decide +kernel
theorem dX7_endToday_46 : decode cX7_endToday 46 = .ok (.invokevirtual 496, 3) := by decide +kernel
theorem dX7_endToday_49 : decode cX7_endToday 49 = .ok (.iinc 1 1, 3) := by decide +kernel
theorem dX7_endToday_52 : decode cX7_endToday 52 = .ok (.goto (-50), 3) := by decide +kernel
theorem dX7_endToday_55 : decode cX7_endToday 55 = .ok (.iconst 0, 1) := by decide +kernel
theorem dX7_endToday_56 : decode cX7_endToday 56 = .ok (.istore_n 1, 1) := by decide +kernel
theorem dX7_endToday_57 : decode cX7_endToday 57 = .ok (.iload_n 1, 1) := by decide +kernel
theorem dX7_endToday_58 : decode cX7_endToday 58 = .ok (.aload_n 0, 1) := by decide +kernel
theorem dX7_endToday_59 : decode cX7_endToday 59 = .ok (.getfield 51, 3) := by decide +kernel
theorem dX7_endToday_62 : decode cX7_endToday 62 = .ok (.if_icmp .ge 47, 3) := by decide +kernel
theorem dX7_endToday_65 : decode cX7_endToday 65 = .ok (.aload_n 0, 1) := by decide +kernel
theorem dX7_endToday_66 : decode cX7_endToday 66 = .ok (.getfield 29, 3) := by decide +kernel
theorem dX7_endToday_69 : decode cX7_endToday 69 = .ok (.iload_n 1, 1) := by decide +kernel
theorem dX7_endToday_70 : decode cX7_endToday 70 = .ok (.aaload, 1) := by decide +kernel
theorem dX7_endToday_71 : decode cX7_endToday 71 = .ok (.getfield 196, 3) := by decide +kernel
theorem dX7_endToday_74 : decode cX7_endToday 74 = .ok (.aload_n 0, 1) := by decide +kernel
theorem dX7_endToday_75 : decode cX7_endToday 75 = .ok (.getfield 54, 3) := by decide +kernel
theorem dX7_endToday_78 : decode cX7_endToday 78 = .ok (.if_icmp .ne 25, 3) := by decide +kernel
theorem dX7_endToday_81 : decode cX7_endToday 81 = .ok (.aload_n 0, 1) := by decide +kernel
theorem dX7_endToday_82 : decode cX7_endToday 82 = .ok (.getfield 29, 3) := by decide +kernel
theorem dX7_endToday_85 : decode cX7_endToday 85 = .ok (.iload_n 1, 1) := by decide +kernel
theorem dX7_endToday_86 : decode cX7_endToday 86 = .ok (.aaload, 1) := by decide +kernel
theorem dX7_endToday_87 : decode cX7_endToday 87 = .ok (.getfield 233, 3) := by decide +kernel
theorem dX7_endToday_90 : decode cX7_endToday 90 = .ok (.ifCond .ne 13, 3) := by decide +kernel
theorem dX7_endToday_93 : decode cX7_endToday 93 = .ok (.aload_n 0, 1) := by decide +kernel
theorem dX7_endToday_94 : decode cX7_endToday 94 = .ok (.getfield 29, 3) := by decide +kernel
theorem dX7_endToday_97 : decode cX7_endToday 97 = .ok (.iload_n 1, 1) := by decide +kernel
theorem dX7_endToday_98 : decode cX7_endToday 98 = .ok (.aaload, 1) := by decide +kernel
theorem dX7_endToday_99 : decode cX7_endToday 99 = .ok (.iconst 3, 1) := by decide +kernel
theorem dX7_endToday_100 : decode cX7_endToday 100 = .ok (.putfield 233, 3) := by decide +kernel
theorem dX7_endToday_103 : decode cX7_endToday 103 = .ok (.iinc 1 1, 3) := by decide +kernel
theorem dX7_endToday_106 : decode cX7_endToday 106 = .ok (.goto (-49), 3) := by decide +kernel
theorem dX7_endToday_109 : decode cX7_endToday 109 = .ok (.return_, 1) := by decide +kernel
theorem dX7_loseThoseWhoWaited_0 : decode cX7_loseThoseWhoWaited 0 = .ok (.iconst 0, 1) := by decide +kernel
theorem dX7_loseThoseWhoWaited_1 : decode cX7_loseThoseWhoWaited 1 = .ok (.istore_n 1, 1) := by decide +kernel
theorem dX7_loseThoseWhoWaited_2 : decode cX7_loseThoseWhoWaited 2 = .ok (.iload_n 1, 1) := by decide +kernel
theorem dX7_loseThoseWhoWaited_3 : decode cX7_loseThoseWhoWaited 3 = .ok (.aload_n 0, 1) := by decide +kernel
theorem dX7_loseThoseWhoWaited_4 : decode cX7_loseThoseWhoWaited 4 = .ok (.getfield 51, 3) := by decide +kernel
theorem dX7_loseThoseWhoWaited_7 : decode cX7_loseThoseWhoWaited 7 = .ok (.if_icmp .ge 49, 3) := by decide +kernel
theorem dX7_loseThoseWhoWaited_10 : decode cX7_loseThoseWhoWaited 10 = .ok (.aload_n 0, 1) := by decide +kernel
theorem dX7_loseThoseWhoWaited_11 : decode cX7_loseThoseWhoWaited 11 = .ok (.getfield 29, 3) := by decide +kernel
theorem dX7_loseThoseWhoWaited_14 : decode cX7_loseThoseWhoWaited 14 = .ok (.iload_n 1, 1) := by decide +kernel
theorem dX7_loseThoseWhoWaited_15 : decode cX7_loseThoseWhoWaited 15 = .ok (.aaload, 1) := by decide +kernel
theorem dX7_loseThoseWhoWaited_16 : decode cX7_loseThoseWhoWaited 16 = .ok (.getfield 233, 3) := by decide +kernel
theorem dX7_loseThoseWhoWaited_19 : decode cX7_loseThoseWhoWaited 19 = .ok (.ifCond .ne 31, 3) := by decide +kernel
theorem dX7_loseThoseWhoWaited_22 : decode cX7_loseThoseWhoWaited 22 = .ok (.aload_n 0, 1) := by decide +kernel
theorem dX7_loseThoseWhoWaited_23 : decode cX7_loseThoseWhoWaited 23 = .ok (.getfield 29, 3) := by decide +kernel
theorem dX7_loseThoseWhoWaited_26 : decode cX7_loseThoseWhoWaited 26 = .ok (.iload_n 1, 1) := by decide +kernel
theorem dX7_loseThoseWhoWaited_27 : decode cX7_loseThoseWhoWaited 27 = .ok (.aaload, 1) := by decide +kernel
theorem dX7_loseThoseWhoWaited_28 : decode cX7_loseThoseWhoWaited 28 = .ok (.getfield 211, 3) := by decide +kernel
theorem dX7_loseThoseWhoWaited_31 : decode cX7_loseThoseWhoWaited 31 = .ok (.iconst 5, 1) := by decide +kernel
theorem dX7_loseThoseWhoWaited_32 : decode cX7_loseThoseWhoWaited 32 = .ok (.iadd, 1) := by decide +kernel
theorem dX7_loseThoseWhoWaited_33 : decode cX7_loseThoseWhoWaited 33 = .ok (.aload_n 0, 1) := by decide +kernel
theorem dX7_loseThoseWhoWaited_34 : decode cX7_loseThoseWhoWaited 34 = .ok (.getfield 54, 3) := by decide +kernel
theorem dX7_loseThoseWhoWaited_37 : decode cX7_loseThoseWhoWaited 37 = .ok (.if_icmp .gt 13, 3) := by decide +kernel
theorem dX7_loseThoseWhoWaited_40 : decode cX7_loseThoseWhoWaited 40 = .ok (.aload_n 0, 1) := by decide +kernel
theorem dX7_loseThoseWhoWaited_41 : decode cX7_loseThoseWhoWaited 41 = .ok (.getfield 29, 3) := by decide +kernel
theorem dX7_loseThoseWhoWaited_44 : decode cX7_loseThoseWhoWaited 44 = .ok (.iload_n 1, 1) := by decide +kernel
theorem dX7_loseThoseWhoWaited_45 : decode cX7_loseThoseWhoWaited 45 = .ok (.aaload, 1) := by decide +kernel
theorem dX7_loseThoseWhoWaited_46 : decode cX7_loseThoseWhoWaited 46 = .ok (.iconst 3, 1) := by decide +kernel
theorem dX7_loseThoseWhoWaited_47 : decode cX7_loseThoseWhoWaited 47 = .ok (.putfield 233, 3) := by decide +kernel
theorem dX7_loseThoseWhoWaited_50 : decode cX7_loseThoseWhoWaited 50 = .ok (.iinc 1 1, 3) := by decide +kernel
theorem dX7_loseThoseWhoWaited_53 : decode cX7_loseThoseWhoWaited 53 = .ok (.goto (-51), 3) := by decide +kernel
theorem dX7_loseThoseWhoWaited_56 : decode cX7_loseThoseWhoWaited 56 = .ok (.return_, 1) := by decide +kernel
set_option maxRecDepth 20000 in
theorem ggX7_playOut_X7_extraOf : GoodIn wsX7_playOut wsX7_extraOf := goodIn_r _ [21, 3, 4, 5, 22, 23, 24, 20, 25, 26, 27, 28, 29, 30, 31, 32, 33, 34, 35, 36, 37, 121, 122, 123, 124, 125, 126, 127, 128, 129, 130, 131, 132, 133, 134, 135, 109, 110, 111, 112, 113, 114, 115, 116, 117, 118, 119, 120, 136, 137, 138, 139, 140, 141, 142, 143] rfl (by decide +kernel)
set_option maxRecDepth 20000 in
theorem gX7_playOut_X7_extraOf : GoodIn wsX7_playOut (wsV RX7 428 RX7 yX7_extraOf wsX7_extraOf) := goodIn_app (goodIn_of _ (by decide +kernel)) ggX7_playOut_X7_extraOf
set_option maxRecDepth 20000 in
theorem ggX7_playOut_X7_getPaid : GoodIn wsX7_playOut wsX7_getPaid := goodIn_r _ [41, 2, 6, 109, 110, 111, 112, 113, 114, 115, 116, 117, 118, 119, 120, 121, 122, 123, 124, 125, 126, 127, 128, 129, 130, 131, 132, 133, 134, 135] rfl (by decide +kernel)
set_option maxRecDepth 20000 in
theorem gX7_playOut_X7_getPaid : GoodIn wsX7_playOut (wsV RX7 250 RX7 yX7_getPaid wsX7_getPaid) := goodIn_app (goodIn_of _ (by decide +kernel)) ggX7_playOut_X7_getPaid
set_option maxRecDepth 20000 in
theorem ggX7_playOut_X7_has : GoodIn wsX7_playOut wsX7_has := goodIn_r _ [25] rfl (by decide +kernel)
set_option maxRecDepth 20000 in
theorem gX7_playOut_X7_has : GoodIn wsX7_playOut (va_wsS RX7 153 yX7_has wsX7_has) := goodIn_app (goodIn_of _ (by decide +kernel)) ggX7_playOut_X7_has
set_option maxRecDepth 20000 in
theorem ggX7_playOut_X7_wageAt : GoodIn wsX7_playOut wsX7_wageAt := goodIn_r _ [45, 22, 46, 47, 48, 20, 49, 50, 51, 52, 10, 53, 54, 36, 55, 56, 57, 58, 59, 60, 61, 26, 27, 28, 29, 30, 31, 32, 33, 34, 35, 37, 136, 137, 138, 139, 140, 141, 142, 143, 121, 122, 123, 124, 125, 126, 127, 128, 129, 130, 131, 132, 133, 134, 135, 109, 110, 111, 112, 113, 114, 115, 116, 117, 118, 119, 120, 155, 156] rfl (by decide +kernel)
set_option maxRecDepth 20000 in
theorem gX7_playOut_X7_wageAt : GoodIn wsX7_playOut (wsV RX7 500 RX7 yX7_wageAt wsX7_wageAt) := goodIn_app (goodIn_of _ (by decide +kernel)) ggX7_playOut_X7_wageAt
set_option maxRecDepth 20000 in
theorem ggX7_playOut_X7_playableFor : GoodIn wsX7_playOut wsX7_playableFor := goodIn_r _ [65, 3, 5, 66, 23, 24, 20, 25, 67, 68, 69, 70, 71, 72, 73, 121, 122, 123, 124, 125, 126, 127, 128, 129, 130, 131, 132, 133, 134, 135, 136, 137, 138, 139, 140, 141, 142, 143] rfl (by decide +kernel)
set_option maxRecDepth 20000 in
theorem gX7_playOut_X7_playableFor : GoodIn wsX7_playOut (wsV RX7 355 RX7 yX7_playableFor wsX7_playableFor) := goodIn_app (goodIn_of _ (by decide +kernel)) ggX7_playOut_X7_playableFor
set_option maxRecDepth 20000 in
theorem ggX7_playOut_X1_choose : GoodIn wsX7_playOut wsX1_choose := goodIn_r _ [78, 79, 80, 81, 82, 83, 84, 85, 86, 87, 77, 88, 89, 24, 20, 25, 90, 91, 92, 93, 94, 95, 96, 97, 36, 98, 99, 100, 101, 102, 103, 104, 105, 106, 107, 108, 144, 145, 146, 147, 148, 149, 150, 151, 152, 153, 154] rfl (by decide +kernel)
set_option maxRecDepth 20000 in
theorem gX7_playOut_X1_choose : GoodIn wsX7_playOut (wsV RX7 358 RX1 yX1_choose wsX1_choose) := goodIn_app (goodIn_of _ (by decide +kernel)) ggX7_playOut_X1_choose
theorem dX7_playOut_0 : decode cX7_playOut 0 = .ok (.aload_n 0, 1) := by decide +kernel
theorem dX7_playOut_1 : decode cX7_playOut 1 = .ok (.aload_n 1, 1) := by decide +kernel
theorem dX7_playOut_2 : decode cX7_playOut 2 = .ok (.aload_n 1, 1) := by decide +kernel
theorem dX7_playOut_3 : decode cX7_playOut 3 = .ok (.getfield 247, 3) := by decide +kernel
theorem dX7_playOut_6 : decode cX7_playOut 6 = .ok (.aload_n 1, 1) := by decide +kernel
theorem dX7_playOut_7 : decode cX7_playOut 7 = .ok (.getfield 260, 3) := by decide +kernel
theorem dX7_playOut_10 : decode cX7_playOut 10 = .ok (.isub, 1) := by decide +kernel
theorem dX7_playOut_11 : decode cX7_playOut 11 = .ok (.aload_n 0, 1) := by decide +kernel
theorem dX7_playOut_12 : decode cX7_playOut 12 = .ok (.aload_n 1, 1) := by decide +kernel
theorem dX7_playOut_13 : decode cX7_playOut 13 = .ok (.invokevirtual 428, 3) := by decide +kernel
theorem dX7_playOut_16 : decode cX7_playOut 16 = .ok (.iadd, 1) := by decide +kernel
theorem dX7_playOut_17 : decode cX7_playOut 17 = .ok (.invokevirtual 250, 3) := by decide +kernel
theorem dX7_playOut_20 : decode cX7_playOut 20 = .ok (.iconst 0, 1) := by decide +kernel
theorem dX7_playOut_21 : decode cX7_playOut 21 = .ok (.istore_n 2, 1) := by decide +kernel
theorem dX7_playOut_22 : decode cX7_playOut 22 = .ok (.iload_n 2, 1) := by decide +kernel
theorem dX7_playOut_23 : decode cX7_playOut 23 = .ok (.aload_n 0, 1) := by decide +kernel
theorem dX7_playOut_24 : decode cX7_playOut 24 = .ok (.getfield 44, 3) := by decide +kernel
theorem dX7_playOut_27 : decode cX7_playOut 27 = .ok (.if_icmp .ge 90, 3) := by decide +kernel
theorem dX7_playOut_30 : decode cX7_playOut 30 = .ok (.aload_n 1, 1) := by decide +kernel
theorem dX7_playOut_31 : decode cX7_playOut 31 = .ok (.getfield 239, 3) := by decide +kernel
theorem dX7_playOut_34 : decode cX7_playOut 34 = .ok (.iload_n 2, 1) := by decide +kernel
theorem dX7_playOut_35 : decode cX7_playOut 35 = .ok (.invokestatic 153, 3) := by decide +kernel
theorem dX7_playOut_38 : decode cX7_playOut 38 = .ok (.ifCond .eq 73, 3) := by decide +kernel
theorem dX7_playOut_41 : decode cX7_playOut 41 = .ok (.aload_n 0, 1) := by decide +kernel
theorem dX7_playOut_42 : decode cX7_playOut 42 = .ok (.aload_n 0, 1) := by decide +kernel
theorem dX7_playOut_43 : decode cX7_playOut 43 = .ok (.getfield 11, 3) := by decide +kernel
theorem dX7_playOut_46 : decode cX7_playOut 46 = .ok (.iload_n 2, 1) := by decide +kernel
theorem dX7_playOut_47 : decode cX7_playOut 47 = .ok (.aaload, 1) := by decide +kernel
theorem dX7_playOut_48 : decode cX7_playOut 48 = .ok (.aload_n 1, 1) := by decide +kernel
theorem dX7_playOut_49 : decode cX7_playOut 49 = .ok (.invokevirtual 500, 3) := by decide +kernel
theorem dX7_playOut_52 : decode cX7_playOut 52 = .ok (.istore_n 3, 1) := by decide +kernel
theorem dX7_playOut_53 : decode cX7_playOut 53 = .ok (.aload_n 0, 1) := by decide +kernel
theorem dX7_playOut_54 : decode cX7_playOut 54 = .ok (.dup, 1) := by decide +kernel
theorem dX7_playOut_55 : decode cX7_playOut 55 = .ok (.getfield 57, 3) := by decide +kernel
theorem dX7_playOut_58 : decode cX7_playOut 58 = .ok (.iload_n 3, 1) := by decide +kernel
theorem dX7_playOut_59 : decode cX7_playOut 59 = .ok (.isub, 1) := by decide +kernel
theorem dX7_playOut_60 : decode cX7_playOut 60 = .ok (.putfield 57, 3) := by decide +kernel
theorem dX7_playOut_63 : decode cX7_playOut 63 = .ok (.aload_n 0, 1) := by decide +kernel
theorem dX7_playOut_64 : decode cX7_playOut 64 = .ok (.getfield 11, 3) := by decide +kernel
theorem dX7_playOut_67 : decode cX7_playOut 67 = .ok (.iload_n 2, 1) := by decide +kernel
theorem dX7_playOut_68 : decode cX7_playOut 68 = .ok (.aaload, 1) := by decide +kernel
theorem dX7_playOut_69 : decode cX7_playOut 69 = .ok (.dup, 1) := by decide +kernel
theorem dX7_playOut_70 : decode cX7_playOut 70 = .ok (.getfield 301, 3) := by decide +kernel
theorem dX7_playOut_73 : decode cX7_playOut 73 = .ok (.iload_n 3, 1) := by decide +kernel
theorem dX7_playOut_74 : decode cX7_playOut 74 = .ok (.iadd, 1) := by decide +kernel
theorem dX7_playOut_75 : decode cX7_playOut 75 = .ok (.putfield 301, 3) := by decide +kernel
theorem dX7_playOut_78 : decode cX7_playOut 78 = .ok (.aload_n 0, 1) := by decide +kernel
theorem dX7_playOut_79 : decode cX7_playOut 79 = .ok (.getfield 11, 3) := by decide +kernel
theorem dX7_playOut_82 : decode cX7_playOut 82 = .ok (.iload_n 2, 1) := by decide +kernel
theorem dX7_playOut_83 : decode cX7_playOut 83 = .ok (.aaload, 1) := by decide +kernel
theorem dX7_playOut_84 : decode cX7_playOut 84 = .ok (.dup, 1) := by decide +kernel
theorem dX7_playOut_85 : decode cX7_playOut 85 = .ok (.getfield 307, 3) := by decide +kernel
theorem dX7_playOut_88 : decode cX7_playOut 88 = .ok (.iconst 1, 1) := by decide +kernel
theorem dX7_playOut_89 : decode cX7_playOut 89 = .ok (.iadd, 1) := by decide +kernel
theorem dX7_playOut_90 : decode cX7_playOut 90 = .ok (.putfield 307, 3) := by decide +kernel
theorem dX7_playOut_93 : decode cX7_playOut 93 = .ok (.aload_n 0, 1) := by decide +kernel
theorem dX7_playOut_94 : decode cX7_playOut 94 = .ok (.getfield 11, 3) := by decide +kernel
theorem dX7_playOut_97 : decode cX7_playOut 97 = .ok (.iload_n 2, 1) := by decide +kernel
theorem dX7_playOut_98 : decode cX7_playOut 98 = .ok (.aaload, 1) := by decide +kernel
theorem dX7_playOut_99 : decode cX7_playOut 99 = .ok (.dup, 1) := by decide +kernel
theorem dX7_playOut_100 : decode cX7_playOut 100 = .ok (.getfield 310, 3) := by decide +kernel
theorem dX7_playOut_103 : decode cX7_playOut 103 = .ok (.aload_n 1, 1) := by decide +kernel
theorem dX7_playOut_104 : decode cX7_playOut 104 = .ok (.getfield 205, 3) := by decide +kernel
theorem dX7_playOut_107 : decode cX7_playOut 107 = .ok (.iadd, 1) := by decide +kernel
theorem dX7_playOut_108 : decode cX7_playOut 108 = .ok (.putfield 310, 3) := by decide +kernel
theorem dX7_playOut_111 : decode cX7_playOut 111 = .ok (.iinc 2 1, 3) := by decide +kernel
theorem dX7_playOut_114 : decode cX7_playOut 114 = .ok (.goto (-92), 3) := by decide +kernel
theorem dX7_playOut_117 : decode cX7_playOut 117 = .ok (.aload_n 0, 1) := by decide +kernel
theorem dX7_playOut_118 : decode cX7_playOut 118 = .ok (.getfield 77, 3) := by decide +kernel
theorem dX7_playOut_121 : decode cX7_playOut 121 = .ok (.aload_n 0, 1) := by decide +kernel
theorem dX7_playOut_122 : decode cX7_playOut 122 = .ok (.getfield 17, 3) := by decide +kernel
theorem dX7_playOut_125 : decode cX7_playOut 125 = .ok (.aload_n 0, 1) := by decide +kernel
theorem dX7_playOut_126 : decode cX7_playOut 126 = .ok (.aload_n 1, 1) := by decide +kernel
theorem dX7_playOut_127 : decode cX7_playOut 127 = .ok (.getfield 239, 3) := by decide +kernel
theorem dX7_playOut_130 : decode cX7_playOut 130 = .ok (.invokevirtual 355, 3) := by decide +kernel
theorem dX7_playOut_133 : decode cX7_playOut 133 = .ok (.invokevirtual 358, 3) := by decide +kernel
theorem dX7_playOut_136 : decode cX7_playOut 136 = .ok (.iconst 0, 1) := by decide +kernel
theorem dX7_playOut_137 : decode cX7_playOut 137 = .ok (.istore_n 2, 1) := by decide +kernel
theorem dX7_playOut_138 : decode cX7_playOut 138 = .ok (.iload_n 2, 1) := by decide +kernel
theorem dX7_playOut_139 : decode cX7_playOut 139 = .ok (.aload_n 0, 1) := by decide +kernel
theorem dX7_playOut_140 : decode cX7_playOut 140 = .ok (.getfield 77, 3) := by decide +kernel
theorem dX7_playOut_143 : decode cX7_playOut 143 = .ok (.getfield 363, 3) := by decide +kernel
theorem dX7_playOut_146 : decode cX7_playOut 146 = .ok (.if_icmp .ge 32, 3) := by decide +kernel
theorem dX7_playOut_149 : decode cX7_playOut 149 = .ok (.aload_n 0, 1) := by decide +kernel
theorem dX7_playOut_150 : decode cX7_playOut 150 = .ok (.getfield 17, 3) := by decide +kernel
theorem dX7_playOut_153 : decode cX7_playOut 153 = .ok (.aload_n 0, 1) := by decide +kernel
theorem dX7_playOut_154 : decode cX7_playOut 154 = .ok (.getfield 77, 3) := by decide +kernel
theorem dX7_playOut_157 : decode cX7_playOut 157 = .ok (.getfield 373, 3) := by decide +kernel
theorem dX7_playOut_160 : decode cX7_playOut 160 = .ok (.iload_n 2, 1) := by decide +kernel
theorem dX7_playOut_161 : decode cX7_playOut 161 = .ok (.iaload, 1) := by decide +kernel
theorem dX7_playOut_162 : decode cX7_playOut 162 = .ok (.aaload, 1) := by decide +kernel
theorem dX7_playOut_163 : decode cX7_playOut 163 = .ok (.dup, 1) := by decide +kernel
theorem dX7_playOut_164 : decode cX7_playOut 164 = .ok (.getfield 315, 3) := by decide +kernel
theorem dX7_playOut_167 : decode cX7_playOut 167 = .ok (.iconst 1, 1) := by decide +kernel
theorem dX7_playOut_168 : decode cX7_playOut 168 = .ok (.iadd, 1) := by decide +kernel
theorem dX7_playOut_169 : decode cX7_playOut 169 = .ok (.putfield 315, 3) := by decide +kernel
theorem dX7_playOut_172 : decode cX7_playOut 172 = .ok (.iinc 2 1, 3) := by decide +kernel
theorem dX7_playOut_175 : decode cX7_playOut 175 = .ok (.goto (-37), 3) := by decide +kernel
theorem dX7_playOut_178 : decode cX7_playOut 178 = .ok (.aload_n 1, 1) := by decide +kernel
theorem dX7_playOut_179 : decode cX7_playOut 179 = .ok (.iconst 2, 1) := by decide +kernel
theorem dX7_playOut_180 : decode cX7_playOut 180 = .ok (.putfield 233, 3) := by decide +kernel
theorem dX7_playOut_183 : decode cX7_playOut 183 = .ok (.return_, 1) := by decide +kernel
theorem dX7_priceOf_0 : decode cX7_priceOf 0 = .ok (.iload_n 0, 1) := by decide +kernel
theorem dX7_priceOf_1 : decode cX7_priceOf 1 = .ok (.bipush 6, 2) := by decide +kernel
theorem dX7_priceOf_3 : decode cX7_priceOf 3 = .ok (.imul, 1) := by decide +kernel
theorem dX7_priceOf_4 : decode cX7_priceOf 4 = .ok (.iconst 5, 1) := by decide +kernel
theorem dX7_priceOf_5 : decode cX7_priceOf 5 = .ok (.idiv, 1) := by decide +kernel
theorem dX7_priceOf_6 : decode cX7_priceOf 6 = .ok (.bipush 50, 2) := by decide +kernel
theorem dX7_priceOf_8 : decode cX7_priceOf 8 = .ok (.iadd, 1) := by decide +kernel
theorem dX7_priceOf_9 : decode cX7_priceOf 9 = .ok (.ireturn, 1) := by decide +kernel
theorem dX7_getPaid_0 : decode cX7_getPaid 0 = .ok (.aload_n 1, 1) := by decide +kernel
theorem dX7_getPaid_1 : decode cX7_getPaid 1 = .ok (.dup, 1) := by decide +kernel
theorem dX7_getPaid_2 : decode cX7_getPaid 2 = .ok (.getfield 260, 3) := by decide +kernel
theorem dX7_getPaid_5 : decode cX7_getPaid 5 = .ok (.iload_n 2, 1) := by decide +kernel
theorem dX7_getPaid_6 : decode cX7_getPaid 6 = .ok (.iadd, 1) := by decide +kernel
theorem dX7_getPaid_7 : decode cX7_getPaid 7 = .ok (.putfield 260, 3) := by decide +kernel
theorem dX7_getPaid_10 : decode cX7_getPaid 10 = .ok (.aload_n 0, 1) := by decide +kernel
theorem dX7_getPaid_11 : decode cX7_getPaid 11 = .ok (.dup, 1) := by decide +kernel
theorem dX7_getPaid_12 : decode cX7_getPaid 12 = .ok (.getfield 57, 3) := by decide +kernel
theorem dX7_getPaid_15 : decode cX7_getPaid 15 = .ok (.iload_n 2, 1) := by decide +kernel
theorem dX7_getPaid_16 : decode cX7_getPaid 16 = .ok (.iadd, 1) := by decide +kernel
theorem dX7_getPaid_17 : decode cX7_getPaid 17 = .ok (.putfield 57, 3) := by decide +kernel
theorem dX7_getPaid_20 : decode cX7_getPaid 20 = .ok (.return_, 1) := by decide +kernel
theorem dX7_owedFor_0 : decode cX7_owedFor 0 = .ok (.aload_n 1, 1) := by decide +kernel
theorem dX7_owedFor_1 : decode cX7_owedFor 1 = .ok (.getfield 196, 3) := by decide +kernel
theorem dX7_owedFor_4 : decode cX7_owedFor 4 = .ok (.aload_n 0, 1) := by decide +kernel
theorem dX7_owedFor_5 : decode cX7_owedFor 5 = .ok (.getfield 54, 3) := by decide +kernel
theorem dX7_owedFor_8 : decode cX7_owedFor 8 = .ok (.isub, 1) := by decide +kernel
theorem dX7_owedFor_9 : decode cX7_owedFor 9 = .ok (.istore_n 2, 1) := by decide +kernel
theorem dX7_owedFor_10 : decode cX7_owedFor 10 = .ok (.iload_n 2, 1) := by decide +kernel
theorem dX7_owedFor_11 : decode cX7_owedFor 11 = .ok (.bipush 30, 2) := by decide +kernel
theorem dX7_owedFor_13 : decode cX7_owedFor 13 = .ok (.if_icmp .lt 8, 3) := by decide +kernel
theorem dX7_owedFor_16 : decode cX7_owedFor 16 = .ok (.bipush 20, 2) := by decide +kernel
theorem dX7_owedFor_18 : decode cX7_owedFor 18 = .ok (.goto 27, 3) := by decide +kernel
theorem dX7_owedFor_21 : decode cX7_owedFor 21 = .ok (.iload_n 2, 1) := by decide +kernel
theorem dX7_owedFor_22 : decode cX7_owedFor 22 = .ok (.bipush 14, 2) := by decide +kernel
theorem dX7_owedFor_24 : decode cX7_owedFor 24 = .ok (.if_icmp .lt 8, 3) := by decide +kernel
theorem dX7_owedFor_27 : decode cX7_owedFor 27 = .ok (.bipush 40, 2) := by decide +kernel
theorem dX7_owedFor_29 : decode cX7_owedFor 29 = .ok (.goto 16, 3) := by decide +kernel
theorem dX7_owedFor_32 : decode cX7_owedFor 32 = .ok (.iload_n 2, 1) := by decide +kernel
theorem dX7_owedFor_33 : decode cX7_owedFor 33 = .ok (.bipush 7, 2) := by decide +kernel
theorem dX7_owedFor_35 : decode cX7_owedFor 35 = .ok (.if_icmp .lt 8, 3) := by decide +kernel
theorem dX7_owedFor_38 : decode cX7_owedFor 38 = .ok (.bipush 70, 2) := by decide +kernel
theorem dX7_owedFor_40 : decode cX7_owedFor 40 = .ok (.goto 5, 3) := by decide +kernel
theorem dX7_owedFor_43 : decode cX7_owedFor 43 = .ok (.bipush 100, 2) := by decide +kernel
theorem dX7_owedFor_45 : decode cX7_owedFor 45 = .ok (.istore_n 3, 1) := by decide +kernel
theorem dX7_owedFor_46 : decode cX7_owedFor 46 = .ok (.aload_n 1, 1) := by decide +kernel
theorem dX7_owedFor_47 : decode cX7_owedFor 47 = .ok (.getfield 247, 3) := by decide +kernel
theorem dX7_owedFor_50 : decode cX7_owedFor 50 = .ok (.iload_n 3, 1) := by decide +kernel
theorem dX7_owedFor_51 : decode cX7_owedFor 51 = .ok (.imul, 1) := by decide +kernel
theorem dX7_owedFor_52 : decode cX7_owedFor 52 = .ok (.bipush 100, 2) := by decide +kernel
theorem dX7_owedFor_54 : decode cX7_owedFor 54 = .ok (.idiv, 1) := by decide +kernel
theorem dX7_owedFor_55 : decode cX7_owedFor 55 = .ok (.ireturn, 1) := by decide +kernel
set_option maxRecDepth 20000 in
theorem ggX7_extraOf_X7_has : GoodIn wsX7_extraOf wsX7_has := goodIn_r _ [8] rfl (by decide +kernel)
set_option maxRecDepth 20000 in
theorem gX7_extraOf_X7_has : GoodIn wsX7_extraOf (va_wsS RX7 153 yX7_has wsX7_has) := goodIn_app (goodIn_of _ (by decide +kernel)) ggX7_extraOf_X7_has
set_option maxRecDepth 20000 in
theorem ggX7_extraOf_X6_quarters : GoodIn wsX7_extraOf wsX6_quarters := goodIn_r _ [13, 14, 15, 16, 17, 18, 19, 20, 36, 37, 38, 39, 40, 41, 42, 43, 44, 45, 46, 47] rfl (by decide +kernel)
set_option maxRecDepth 20000 in
theorem gX7_extraOf_X6_quarters : GoodIn wsX7_extraOf (wsV RX7 287 RX6 yX6_quarters wsX6_quarters) := goodIn_app (goodIn_of _ (by decide +kernel)) ggX7_extraOf_X6_quarters
theorem dX7_extraOf_0 : decode cX7_extraOf 0 = .ok (.iconst 0, 1) := by decide +kernel
theorem dX7_extraOf_1 : decode cX7_extraOf 1 = .ok (.istore_n 2, 1) := by decide +kernel
theorem dX7_extraOf_2 : decode cX7_extraOf 2 = .ok (.iconst 0, 1) := by decide +kernel
theorem dX7_extraOf_3 : decode cX7_extraOf 3 = .ok (.istore_n 3, 1) := by decide +kernel
theorem dX7_extraOf_4 : decode cX7_extraOf 4 = .ok (.iload_n 3, 1) := by decide +kernel
theorem dX7_extraOf_5 : decode cX7_extraOf 5 = .ok (.aload_n 0, 1) := by decide +kernel
theorem dX7_extraOf_6 : decode cX7_extraOf 6 = .ok (.getfield 44, 3) := by decide +kernel
theorem dX7_extraOf_9 : decode cX7_extraOf 9 = .ok (.if_icmp .ge 32, 3) := by decide +kernel
theorem dX7_extraOf_12 : decode cX7_extraOf 12 = .ok (.aload_n 1, 1) := by decide +kernel
theorem dX7_extraOf_13 : decode cX7_extraOf 13 = .ok (.getfield 239, 3) := by decide +kernel
theorem dX7_extraOf_16 : decode cX7_extraOf 16 = .ok (.iload_n 3, 1) := by decide +kernel
theorem dX7_extraOf_17 : decode cX7_extraOf 17 = .ok (.invokestatic 153, 3) := by decide +kernel
theorem dX7_extraOf_20 : decode cX7_extraOf 20 = .ok (.ifCond .eq 15, 3) := by decide +kernel
theorem dX7_extraOf_23 : decode cX7_extraOf 23 = .ok (.iload_n 2, 1) := by decide +kernel
theorem dX7_extraOf_24 : decode cX7_extraOf 24 = .ok (.aload_n 0, 1) := by decide +kernel
theorem dX7_extraOf_25 : decode cX7_extraOf 25 = .ok (.getfield 11, 3) := by decide +kernel
theorem dX7_extraOf_28 : decode cX7_extraOf 28 = .ok (.iload_n 3, 1) := by decide +kernel
theorem dX7_extraOf_29 : decode cX7_extraOf 29 = .ok (.aaload, 1) := by decide +kernel
theorem dX7_extraOf_30 : decode cX7_extraOf 30 = .ok (.getfield 120, 3) := by decide +kernel
theorem dX7_extraOf_33 : decode cX7_extraOf 33 = .ok (.iadd, 1) := by decide +kernel
theorem dX7_extraOf_34 : decode cX7_extraOf 34 = .ok (.istore_n 2, 1) := by decide +kernel
theorem dX7_extraOf_35 : decode cX7_extraOf 35 = .ok (.iinc 3 1, 3) := by decide +kernel
theorem dX7_extraOf_38 : decode cX7_extraOf 38 = .ok (.goto (-34), 3) := by decide +kernel
theorem dX7_extraOf_41 : decode cX7_extraOf 41 = .ok (.aload_n 1, 1) := by decide +kernel
theorem dX7_extraOf_42 : decode cX7_extraOf 42 = .ok (.invokevirtual 287, 3) := by decide +kernel
theorem dX7_extraOf_45 : decode cX7_extraOf 45 = .ok (.iload_n 2, 1) := by decide +kernel
theorem dX7_extraOf_46 : decode cX7_extraOf 46 = .ok (.imul, 1) := by decide +kernel
theorem dX7_extraOf_47 : decode cX7_extraOf 47 = .ok (.iconst 4, 1) := by decide +kernel
theorem dX7_extraOf_48 : decode cX7_extraOf 48 = .ok (.idiv, 1) := by decide +kernel
theorem dX7_extraOf_49 : decode cX7_extraOf 49 = .ok (.ireturn, 1) := by decide +kernel
set_option maxRecDepth 20000 in
theorem ggX7_costAt_X4_between : GoodIn wsX7_costAt wsX4_between := goodIn_r _ [14, 15, 51, 52] rfl (by decide +kernel)
set_option maxRecDepth 20000 in
theorem gX7_costAt_X4_between : GoodIn wsX7_costAt (wsV RX7 166 RX4 yX4_between wsX4_between) := goodIn_app (goodIn_of _ (by decide +kernel)) ggX7_costAt_X4_between
theorem dX7_costAt_0 : decode cX7_costAt 0 = .ok (.aload_n 0, 1) := by decide +kernel
theorem dX7_costAt_1 : decode cX7_costAt 1 = .ok (.getfield 36, 3) := by decide +kernel
theorem dX7_costAt_4 : decode cX7_costAt 4 = .ok (.aload_n 1, 1) := by decide +kernel
theorem dX7_costAt_5 : decode cX7_costAt 5 = .ok (.getfield 117, 3) := by decide +kernel
theorem dX7_costAt_8 : decode cX7_costAt 8 = .ok (.aload_n 2, 1) := by decide +kernel
theorem dX7_costAt_9 : decode cX7_costAt 9 = .ok (.getfield 199, 3) := by decide +kernel
theorem dX7_costAt_12 : decode cX7_costAt 12 = .ok (.invokevirtual 166, 3) := by decide +kernel
theorem dX7_costAt_15 : decode cX7_costAt 15 = .ok (.istore_n 3, 1) := by decide +kernel
theorem dX7_costAt_16 : decode cX7_costAt 16 = .ok (.aload_n 1, 1) := by decide +kernel
theorem dX7_costAt_17 : decode cX7_costAt 17 = .ok (.getfield 120, 3) := by decide +kernel
theorem dX7_costAt_20 : decode cX7_costAt 20 = .ok (.aload_n 2, 1) := by decide +kernel
theorem dX7_costAt_21 : decode cX7_costAt 21 = .ok (.getfield 205, 3) := by decide +kernel
theorem dX7_costAt_24 : decode cX7_costAt 24 = .ok (.imul, 1) := by decide +kernel
theorem dX7_costAt_25 : decode cX7_costAt 25 = .ok (.bipush 10, 2) := by decide +kernel
theorem dX7_costAt_27 : decode cX7_costAt 27 = .ok (.iconst 0, 1) := by decide +kernel
theorem dX7_costAt_28 : decode cX7_costAt 28 = .ok (.iload_n 3, 1) := by decide +kernel
theorem dX7_costAt_29 : decode cX7_costAt 29 = .ok (.invokestatic 263, 3) := by decide +kernel
theorem dX7_costAt_32 : decode cX7_costAt 32 = .ok (.imul, 1) := by decide +kernel
theorem dX7_costAt_33 : decode cX7_costAt 33 = .ok (.iadd, 1) := by decide +kernel
theorem dX7_costAt_34 : decode cX7_costAt 34 = .ok (.ireturn, 1) := by decide +kernel
set_option maxRecDepth 20000 in
theorem ggX7_wageAt_X7_costAt : GoodIn wsX7_wageAt wsX7_costAt := goodIn_r _ [6, 7, 8, 9, 1, 10, 11, 12, 13, 14, 15, 16, 17, 18, 19, 20, 40, 41, 42, 43, 44, 45, 46, 47, 48, 49, 50, 51, 52, 53, 54, 32, 33, 34, 35, 36, 37, 38, 39, 55, 56, 57, 58, 59, 60, 61, 62, 63, 64, 65, 66, 67, 68] rfl (by decide +kernel)
set_option maxRecDepth 20000 in
theorem gX7_wageAt_X7_costAt : GoodIn wsX7_wageAt (wsV RX7 504 RX7 yX7_costAt wsX7_costAt) := goodIn_app (goodIn_of _ (by decide +kernel)) ggX7_wageAt_X7_costAt
set_option maxRecDepth 20000 in
theorem ggX7_wageAt_X6_quarters : GoodIn wsX7_wageAt wsX6_quarters := goodIn_r _ [25, 26, 27, 28, 29, 30, 13, 31, 55, 56, 57, 58, 59, 60, 61, 62, 63, 64, 65, 66] rfl (by decide +kernel)
set_option maxRecDepth 20000 in
theorem gX7_wageAt_X6_quarters : GoodIn wsX7_wageAt (wsV RX7 287 RX6 yX6_quarters wsX6_quarters) := goodIn_app (goodIn_of _ (by decide +kernel)) ggX7_wageAt_X6_quarters
theorem dX7_wageAt_0 : decode cX7_wageAt 0 = .ok (.aload_n 0, 1) := by decide +kernel
theorem dX7_wageAt_1 : decode cX7_wageAt 1 = .ok (.aload_n 1, 1) := by decide +kernel
theorem dX7_wageAt_2 : decode cX7_wageAt 2 = .ok (.aload_n 2, 1) := by decide +kernel
theorem dX7_wageAt_3 : decode cX7_wageAt 3 = .ok (.invokevirtual 504, 3) := by decide +kernel
theorem dX7_wageAt_6 : decode cX7_wageAt 6 = .ok (.aload_n 2, 1) := by decide +kernel
theorem dX7_wageAt_7 : decode cX7_wageAt 7 = .ok (.invokevirtual 287, 3) := by decide +kernel
theorem dX7_wageAt_10 : decode cX7_wageAt 10 = .ok (.aload_n 1, 1) := by decide +kernel
theorem dX7_wageAt_11 : decode cX7_wageAt 11 = .ok (.getfield 120, 3) := by decide +kernel
theorem dX7_wageAt_14 : decode cX7_wageAt 14 = .ok (.imul, 1) := by decide +kernel
theorem dX7_wageAt_15 : decode cX7_wageAt 15 = .ok (.iconst 4, 1) := by decide +kernel
theorem dX7_wageAt_16 : decode cX7_wageAt 16 = .ok (.idiv, 1) := by decide +kernel
theorem dX7_wageAt_17 : decode cX7_wageAt 17 = .ok (.iadd, 1) := by decide +kernel
theorem dX7_wageAt_18 : decode cX7_wageAt 18 = .ok (.ireturn, 1) := by decide +kernel
set_option maxRecDepth 20000 in
theorem ggX7_allWagesAt_X7_has : GoodIn wsX7_allWagesAt wsX7_has := goodIn_r _ [7] rfl (by decide +kernel)
set_option maxRecDepth 20000 in
theorem gX7_allWagesAt_X7_has : GoodIn wsX7_allWagesAt (va_wsS RX7 153 yX7_has wsX7_has) := goodIn_app (goodIn_of _ (by decide +kernel)) ggX7_allWagesAt_X7_has
set_option maxRecDepth 20000 in
theorem ggX7_allWagesAt_X7_wageAt : GoodIn wsX7_allWagesAt wsX7_wageAt := goodIn_r _ [11, 12, 13, 14, 15, 6, 16, 17, 18, 19, 20, 21, 22, 23, 24, 25, 26, 27, 28, 29, 30, 31, 32, 33, 34, 35, 36, 37, 38, 39, 40, 41, 69, 70, 71, 72, 73, 74, 75, 76, 42, 43, 44, 45, 46, 47, 48, 49, 50, 51, 52, 53, 54, 55, 56, 57, 58, 59, 60, 61, 62, 63, 64, 65, 66, 67, 68, 77, 78] rfl (by decide +kernel)
set_option maxRecDepth 20000 in
theorem gX7_allWagesAt_X7_wageAt : GoodIn wsX7_allWagesAt (wsV RX7 500 RX7 yX7_wageAt wsX7_wageAt) := goodIn_app (goodIn_of _ (by decide +kernel)) ggX7_allWagesAt_X7_wageAt
theorem dX7_allWagesAt_0 : decode cX7_allWagesAt 0 = .ok (.iconst 0, 1) := by decide +kernel
theorem dX7_allWagesAt_1 : decode cX7_allWagesAt 1 = .ok (.istore_n 2, 1) := by decide +kernel
theorem dX7_allWagesAt_2 : decode cX7_allWagesAt 2 = .ok (.iconst 0, 1) := by decide +kernel
theorem dX7_allWagesAt_3 : decode cX7_allWagesAt 3 = .ok (.istore_n 3, 1) := by decide +kernel
theorem dX7_allWagesAt_4 : decode cX7_allWagesAt 4 = .ok (.iload_n 3, 1) := by decide +kernel
theorem dX7_allWagesAt_5 : decode cX7_allWagesAt 5 = .ok (.aload_n 0, 1) := by decide +kernel
theorem dX7_allWagesAt_6 : decode cX7_allWagesAt 6 = .ok (.getfield 44, 3) := by decide +kernel
theorem dX7_allWagesAt_9 : decode cX7_allWagesAt 9 = .ok (.if_icmp .ge 34, 3) := by decide +kernel
theorem dX7_allWagesAt_12 : decode cX7_allWagesAt 12 = .ok (.aload_n 1, 1) := by decide +kernel
theorem dX7_allWagesAt_13 : decode cX7_allWagesAt 13 = .ok (.getfield 239, 3) := by decide +kernel
theorem dX7_allWagesAt_16 : decode cX7_allWagesAt 16 = .ok (.iload_n 3, 1) := by decide +kernel
theorem dX7_allWagesAt_17 : decode cX7_allWagesAt 17 = .ok (.invokestatic 153, 3) := by decide +kernel
theorem dX7_allWagesAt_20 : decode cX7_allWagesAt 20 = .ok (.ifCond .eq 17, 3) := by decide +kernel
theorem dX7_allWagesAt_23 : decode cX7_allWagesAt 23 = .ok (.iload_n 2, 1) := by decide +kernel
theorem dX7_allWagesAt_24 : decode cX7_allWagesAt 24 = .ok (.aload_n 0, 1) := by decide +kernel
theorem dX7_allWagesAt_25 : decode cX7_allWagesAt 25 = .ok (.aload_n 0, 1) := by decide +kernel
theorem dX7_allWagesAt_26 : decode cX7_allWagesAt 26 = .ok (.getfield 11, 3) := by decide +kernel
theorem dX7_allWagesAt_29 : decode cX7_allWagesAt 29 = .ok (.iload_n 3, 1) := by decide +kernel
theorem dX7_allWagesAt_30 : decode cX7_allWagesAt 30 = .ok (.aaload, 1) := by decide +kernel
theorem dX7_allWagesAt_31 : decode cX7_allWagesAt 31 = .ok (.aload_n 1, 1) := by decide +kernel
theorem dX7_allWagesAt_32 : decode cX7_allWagesAt 32 = .ok (.invokevirtual 500, 3) := by decide +kernel
theorem dX7_allWagesAt_35 : decode cX7_allWagesAt 35 = .ok (.iadd, 1) := by decide +kernel
theorem dX7_allWagesAt_36 : decode cX7_allWagesAt 36 = .ok (.istore_n 2, 1) := by decide +kernel
theorem dX7_allWagesAt_37 : decode cX7_allWagesAt 37 = .ok (.iinc 3 1, 3) := by decide +kernel
theorem dX7_allWagesAt_40 : decode cX7_allWagesAt 40 = .ok (.goto (-36), 3) := by decide +kernel
theorem dX7_allWagesAt_43 : decode cX7_allWagesAt 43 = .ok (.iload_n 2, 1) := by decide +kernel
theorem dX7_allWagesAt_44 : decode cX7_allWagesAt 44 = .ok (.ireturn, 1) := by decide +kernel
theorem dX7_stageAsFixed_0 : decode cX7_stageAsFixed 0 = .ok (.iconst 0, 1) := by decide +kernel
theorem dX7_stageAsFixed_1 : decode cX7_stageAsFixed 1 = .ok (.istore_n 1, 1) := by decide +kernel
theorem dX7_stageAsFixed_2 : decode cX7_stageAsFixed 2 = .ok (.iload_n 1, 1) := by decide +kernel
theorem dX7_stageAsFixed_3 : decode cX7_stageAsFixed 3 = .ok (.aload_n 0, 1) := by decide +kernel
theorem dX7_stageAsFixed_4 : decode cX7_stageAsFixed 4 = .ok (.getfield 51, 3) := by decide +kernel
theorem dX7_stageAsFixed_7 : decode cX7_stageAsFixed 7 = .ok (.if_icmp .ge 41, 3) := by decide +kernel
theorem dX7_stageAsFixed_10 : decode cX7_stageAsFixed 10 = .ok (.aload_n 0, 1) := by decide +kernel
theorem dX7_stageAsFixed_11 : decode cX7_stageAsFixed 11 = .ok (.getfield 60, 3) := by decide +kernel
theorem dX7_stageAsFixed_14 : decode cX7_stageAsFixed 14 = .ok (.iload_n 1, 1) := by decide +kernel
theorem dX7_stageAsFixed_15 : decode cX7_stageAsFixed 15 = .ok (.aload_n 0, 1) := by decide +kernel
theorem dX7_stageAsFixed_16 : decode cX7_stageAsFixed 16 = .ok (.getfield 29, 3) := by decide +kernel
theorem dX7_stageAsFixed_19 : decode cX7_stageAsFixed 19 = .ok (.iload_n 1, 1) := by decide +kernel
theorem dX7_stageAsFixed_20 : decode cX7_stageAsFixed 20 = .ok (.aaload, 1) := by decide +kernel
theorem dX7_stageAsFixed_21 : decode cX7_stageAsFixed 21 = .ok (.getfield 233, 3) := by decide +kernel
theorem dX7_stageAsFixed_24 : decode cX7_stageAsFixed 24 = .ok (.iconst 1, 1) := by decide +kernel
theorem dX7_stageAsFixed_25 : decode cX7_stageAsFixed 25 = .ok (.if_icmp .ne 15, 3) := by decide +kernel
theorem dX7_stageAsFixed_28 : decode cX7_stageAsFixed 28 = .ok (.aload_n 0, 1) := by decide +kernel
theorem dX7_stageAsFixed_29 : decode cX7_stageAsFixed 29 = .ok (.getfield 29, 3) := by decide +kernel
theorem dX7_stageAsFixed_32 : decode cX7_stageAsFixed 32 = .ok (.iload_n 1, 1) := by decide +kernel
theorem dX7_stageAsFixed_33 : decode cX7_stageAsFixed 33 = .ok (.aaload, 1) := by decide +kernel
theorem dX7_stageAsFixed_34 : decode cX7_stageAsFixed 34 = .ok (.getfield 239, 3) := by decide +kernel
theorem dX7_stageAsFixed_37 : decode cX7_stageAsFixed 37 = .ok (.goto 4, 3) := by decide +kernel
theorem dX7_stageAsFixed_40 : decode cX7_stageAsFixed 40 = .ok (.iconst 0, 1) := by decide +kernel
theorem dX7_stageAsFixed_41 : decode cX7_stageAsFixed 41 = .ok (.iastore, 1) := by decide +kernel
theorem dX7_stageAsFixed_42 : decode cX7_stageAsFixed 42 = .ok (.iinc 1 1, 3) := by decide +kernel
theorem dX7_stageAsFixed_45 : decode cX7_stageAsFixed 45 = .ok (.goto (-43), 3) := by decide +kernel
theorem dX7_stageAsFixed_48 : decode cX7_stageAsFixed 48 = .ok (.return_, 1) := by decide +kernel
set_option maxRecDepth 20000 in
theorem ggX7_stageWithout_X7_stageAsFixed : GoodIn wsX7_stageWithout wsX7_stageAsFixed := goodIn_r _ [12, 1, 4, 2, 13, 14, 112, 113, 114, 115, 116, 117, 118, 119, 120, 121, 122, 123, 124, 125, 126, 127, 128, 129, 130, 131, 132, 133, 134, 135, 136, 137, 138] rfl (by decide +kernel)
set_option maxRecDepth 20000 in
theorem gX7_stageWithout_X7_stageAsFixed : GoodIn wsX7_stageWithout (wsV RX7 342 RX7 yX7_stageAsFixed wsX7_stageAsFixed) := goodIn_app (goodIn_of _ (by decide +kernel)) ggX7_stageWithout_X7_stageAsFixed
set_option maxRecDepth 20000 in
theorem ggX7_stageWithout_X7_has : GoodIn wsX7_stageWithout wsX7_has := goodIn_r _ [17] rfl (by decide +kernel)
set_option maxRecDepth 20000 in
theorem gX7_stageWithout_X7_has : GoodIn wsX7_stageWithout (va_wsS RX7 153 yX7_has wsX7_has) := goodIn_app (goodIn_of _ (by decide +kernel)) ggX7_stageWithout_X7_has
set_option maxRecDepth 20000 in
theorem ggX7_stageWithout_X7_freeFor : GoodIn wsX7_stageWithout wsX7_freeFor := goodIn_r _ [21, 22, 23, 24, 25, 11, 26, 2, 27, 3, 28, 29, 30, 31, 1, 4, 32, 33, 34, 35, 36, 37, 38, 15, 16, 17, 39, 40, 41, 42, 43, 44, 45, 46, 47, 48, 49, 50, 112, 113, 114, 115, 116, 117, 118, 119, 120, 121, 122, 123, 124, 125, 126, 127, 128, 129, 130, 131, 132, 133, 134, 135, 136, 137, 138, 145, 146, 147, 148, 149, 150, 151, 152, 153, 154] rfl (by decide +kernel)
set_option maxRecDepth 20000 in
theorem gX7_stageWithout_X7_freeFor : GoodIn wsX7_stageWithout (wsV RX7 507 RX7 yX7_freeFor wsX7_freeFor) := goodIn_app (goodIn_of _ (by decide +kernel)) ggX7_stageWithout_X7_freeFor
set_option maxRecDepth 20000 in
theorem ggX7_stageWithout_X7_survey : GoodIn wsX7_stageWithout wsX7_survey := goodIn_r _ [54, 2, 55, 56, 57, 5, 22, 58, 59, 6, 60, 61, 62, 63, 64, 65, 66, 67, 68, 69, 70, 71, 72, 73, 74, 11, 75, 76, 77, 78, 79, 29, 80, 81, 82, 83, 84, 85, 86, 87, 88, 15, 16, 17, 89, 90, 91, 92, 93, 94, 95, 96, 97, 98, 99, 100, 101, 102, 103, 104, 105, 106, 28, 30, 31, 107, 50, 36, 37, 34, 38, 39, 40, 41, 42, 43, 44, 108, 109, 110, 111, 112, 113, 114, 115, 116, 117, 118, 119, 120, 121, 122, 123, 124, 125, 126, 127, 128, 129, 130, 131, 132, 133, 134, 135, 136, 137, 138, 155, 156, 157, 139, 140, 141, 142, 143, 144, 145, 146, 147, 148, 149, 150, 151, 152, 153, 154] rfl (by decide +kernel)
set_option maxRecDepth 20000 in
theorem gX7_stageWithout_X7_survey : GoodIn wsX7_stageWithout (wsV RX7 510 RX7 yX7_survey wsX7_survey) := goodIn_app (goodIn_of _ (by decide +kernel)) ggX7_stageWithout_X7_survey
