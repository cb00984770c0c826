set_option maxRecDepth 20000 in
theorem ggL_asked_L_below : GoodIn wsL_asked wsL_below := goodIn_r _ [9, 10] (by decide +kernel) (by decide +kernel)
set_option maxRecDepth 20000 in
theorem gL_asked_L_below : GoodIn wsL_asked (va_wsS RL 18 yL_below wsL_below) := goodIn_app (goodIn_of _ (by decide +kernel)) ggL_asked_L_below
set_option maxRecDepth 20000 in
theorem ggL_asked_X7_desk : GoodIn wsL_asked wsX7_desk := goodIn_ca (goodIn_r _ [15, 16, 17, 18, 19, 20, 21, 22, 23, 24, 25, 14, 26, 27, 28, 29, 30, 31, 32, 33, 34, 35, 36, 37, 38, 39, 40, 41, 42, 43, 44, 45, 46, 47, 48, 49, 50, 51, 52, 53, 54, 55, 56, 57, 58, 4, 59, 60, 3, 5, 97, 98, 99, 100, 101, 102, 103, 104, 105, 106, 107, 108, 109, 110, 111, 112, 113, 114, 115, 116, 117, 118, 119, 120, 121, 122, 123, 124, 125, 126, 127, 128, 129, 130, 131] (by decide +kernel) (by decide +kernel)) (goodIn_sub (fun _ h => List.mem_cons_of_mem _ (List.mem_append_left _ (List.mem_append_left _ (List.mem_append_right _ h)))) (by decide +kernel))
set_option maxRecDepth 20000 in
theorem gL_asked_X7_desk : GoodIn wsL_asked (wsV RL 46 RX7 yX7_desk wsX7_desk) := goodIn_app (goodIn_of _ (by decide +kernel)) ggL_asked_X7_desk
set_option maxRecDepth 20000 in
theorem ggL_asked_X7_ask : GoodIn wsL_asked wsX7_ask := goodIn_ca (goodIn_ca (goodIn_ca (goodIn_r _ [64, 16, 17, 65, 66, 18, 21, 27, 67, 68, 69, 70, 71, 72, 73, 74, 75, 76, 14, 77, 78, 79, 20, 80, 81, 82, 83, 84, 85, 86, 87, 88, 89, 90, 91, 92, 93, 94, 95, 96, 28, 97, 98, 99, 100, 101, 102, 103, 104, 105, 106, 107, 108, 109, 110, 111, 112, 113, 114, 115, 116, 117, 118, 119, 120, 121, 122, 123] (by decide +kernel) (by decide +kernel)) (goodIn_sub (fun _ h => List.mem_cons_of_mem _ (List.mem_append_left _ (List.mem_append_left _ (List.mem_append_right _ h)))) (by decide +kernel))) (goodIn_sub (fun _ h => List.mem_cons_of_mem _ (List.mem_append_left _ (List.mem_append_right _ h))) (by decide +kernel))) (goodIn_sub (fun _ h => List.mem_cons_of_mem _ (List.mem_append_right _ h)) (by decide +kernel))
set_option maxRecDepth 20000 in
theorem gL_asked_X7_ask : GoodIn wsL_asked (wsV RL 54 RX7 yX7_ask wsX7_ask) := goodIn_app (goodIn_of _ (by decide +kernel)) ggL_asked_X7_ask
theorem dL_asked_0 : decode cL_asked 0 = .ok (.bipush 10, 2) := by decide +kernel
theorem dL_asked_2 : decode cL_asked 2 = .ok (.iload_n 1, 1) := by decide +kernel
theorem dL_asked_3 : decode cL_asked 3 = .ok (.iconst 5, 1) := by decide +kernel
theorem dL_asked_4 : decode cL_asked 4 = .ok (.ishr, 1) := by decide +kernel
theorem dL_asked_5 : decode cL_asked 5 = .ok (.bipush 13, 2) := by decide +kernel
theorem dL_asked_7 : decode cL_asked 7 = .ok (.invokestatic 18, 3) := by decide +kernel
theorem dL_asked_10 : decode cL_asked 10 = .ok (.iadd, 1) := by decide +kernel
theorem dL_asked_11 : decode cL_asked 11 = .ok (.istore_n 2, 1) := by decide +kernel
theorem dL_asked_12 : decode cL_asked 12 = .ok (.iload_n 1, 1) := by decide +kernel
theorem dL_asked_13 : decode cL_asked 13 = .ok (.iconst 3, 1) := by decide +kernel
theorem dL_asked_14 : decode cL_asked 14 = .ok (.ishr, 1) := by decide +kernel
theorem dL_asked_15 : decode cL_asked 15 = .ok (.iconst 3, 1) := by decide +kernel
theorem dL_asked_16 : decode cL_asked 16 = .ok (.invokestatic 18, 3) := by decide +kernel
theorem dL_asked_19 : decode cL_asked 19 = .ok (.ifCond .ne 17, 3) := by decide +kernel
theorem dL_asked_22 : decode cL_asked 22 = .ok (.iconst 1, 1) := by decide +kernel
theorem dL_asked_23 : decode cL_asked 23 = .ok (.iload_n 1, 1) := by decide +kernel
theorem dL_asked_24 : decode cL_asked 24 = .ok (.bipush 7, 2) := by decide +kernel
theorem dL_asked_26 : decode cL_asked 26 = .ok (.ishr, 1) := by decide +kernel
theorem dL_asked_27 : decode cL_asked 27 = .ok (.bipush 16, 2) := by decide +kernel
theorem dL_asked_29 : decode cL_asked 29 = .ok (.invokestatic 18, 3) := by decide +kernel
theorem dL_asked_32 : decode cL_asked 32 = .ok (.ishl, 1) := by decide +kernel
theorem dL_asked_33 : decode cL_asked 33 = .ok (.goto 4, 3) := by decide +kernel
theorem dL_asked_36 : decode cL_asked 36 = .ok (.iconst 0, 1) := by decide +kernel
theorem dL_asked_37 : decode cL_asked 37 = .ok (.istore_n 3, 1) := by decide +kernel
theorem dL_asked_38 : decode cL_asked 38 = .ok (.aload_n 0, 1) := by decide +kernel
theorem dL_asked_39 : decode cL_asked 39 = .ok (.iload_n 1, 1) := by decide +kernel
theorem dL_asked_40 : decode cL_asked 40 = .ok (.aload_n 0, 1) := by decide +kernel
theorem dL_asked_41 : decode cL_asked 41 = .ok (.iconst 2, 1) := by decide +kernel
theorem dL_asked_42 : decode cL_asked 42 = .ok (.invokevirtual 46, 3) := by decide +kernel
theorem dL_asked_45 : decode cL_asked 45 = .ok (.invokestatic 18, 3) := by decide +kernel
theorem dL_asked_48 : decode cL_asked 48 = .ok (.sipush 365, 3) := by decide +kernel
theorem dL_asked_51 : decode cL_asked 51 = .ok (.aload_n 0, 1) := by decide +kernel
theorem dL_asked_52 : decode cL_asked 52 = .ok (.iconst 0, 1) := by decide +kernel
theorem dL_asked_53 : decode cL_asked 53 = .ok (.invokevirtual 46, 3) := by decide +kernel
theorem dL_asked_56 : decode cL_asked 56 = .ok (.iload_n 1, 1) := by decide +kernel
theorem dL_asked_57 : decode cL_asked 57 = .ok (.iconst 2, 1) := by decide +kernel
theorem dL_asked_58 : decode cL_asked 58 = .ok (.ishr, 1) := by decide +kernel
theorem dL_asked_59 : decode cL_asked 59 = .ok (.iconst 4, 1) := by decide +kernel
theorem dL_asked_60 : decode cL_asked 60 = .ok (.invokestatic 18, 3) := by decide +kernel
theorem dL_asked_63 : decode cL_asked 63 = .ok (.iadd, 1) := by decide +kernel
theorem dL_asked_64 : decode cL_asked 64 = .ok (.invokestatic 49, 3) := by decide +kernel
theorem dL_asked_67 : decode cL_asked 67 = .ok (.iload_n 1, 1) := by decide +kernel
theorem dL_asked_68 : decode cL_asked 68 = .ok (.bipush 9, 2) := by decide +kernel
theorem dL_asked_70 : decode cL_asked 70 = .ok (.ishr, 1) := by decide +kernel
theorem dL_asked_71 : decode cL_asked 71 = .ok (.iconst 4, 1) := by decide +kernel
theorem dL_asked_72 : decode cL_asked 72 = .ok (.invokestatic 18, 3) := by decide +kernel
theorem dL_asked_75 : decode cL_asked 75 = .ok (.iload_n 2, 1) := by decide +kernel
theorem dL_asked_76 : decode cL_asked 76 = .ok (.iconst 1, 1) := by decide +kernel
theorem dL_asked_77 : decode cL_asked 77 = .ok (.iload_n 1, 1) := by decide +kernel
theorem dL_asked_78 : decode cL_asked 78 = .ok (.iconst 4, 1) := by decide +kernel
theorem dL_asked_79 : decode cL_asked 79 = .ok (.ishr, 1) := by decide +kernel
theorem dL_asked_80 : decode cL_asked 80 = .ok (.bipush 6, 2) := by decide +kernel
theorem dL_asked_82 : decode cL_asked 82 = .ok (.bipush 24, 2) := by decide +kernel
theorem dL_asked_84 : decode cL_asked 84 = .ok (.iload_n 2, 1) := by decide +kernel
theorem dL_asked_85 : decode cL_asked 85 = .ok (.isub, 1) := by decide +kernel
theorem dL_asked_86 : decode cL_asked 86 = .ok (.invokestatic 49, 3) := by decide +kernel
theorem dL_asked_89 : decode cL_asked 89 = .ok (.invokestatic 18, 3) := by decide +kernel
theorem dL_asked_92 : decode cL_asked 92 = .ok (.iadd, 1) := by decide +kernel
theorem dL_asked_93 : decode cL_asked 93 = .ok (.iload_n 3, 1) := by decide +kernel
theorem dL_asked_94 : decode cL_asked 94 = .ok (.invokevirtual 54, 3) := by decide +kernel
theorem dL_asked_97 : decode cL_asked 97 = .ok (.pop, 1) := by decide +kernel
theorem dL_asked_98 : decode cL_asked 98 = .ok (.goto 11, 3) := by decide +kernel
theorem dL_asked_101 : decode cL_asked 101 = .ok (.astore 4, 2) := by decide +kernel
theorem dL_asked_103 : decode cL_asked 103 = .ok (.aload_n 0, 1) := by decide +kernel
theorem dL_asked_104 : decode cL_asked 104 = .ok (.iconst 0, 1) := by decide +kernel
theorem dL_asked_105 : decode cL_asked 105 = .ok (.invokevirtual 46, 3) := by decide +kernel
theorem dL_asked_108 : decode cL_asked 108 = .ok (.pop, 1) := by decide +kernel
theorem dL_asked_109 : decode cL_asked 109 = .ok (.return_, 1) := by decide +kernel
