theorem dL_below_0 : decode cL_below 0 = .ok (.iload_n 0, 1) := by decide +kernel
theorem dL_below_1 : decode cL_below 1 = .ok (.ldc 7, 2) := by decide +kernel
theorem dL_below_3 : decode cL_below 3 = .ok (.iand, 1) := by decide +kernel
theorem dL_below_4 : decode cL_below 4 = .ok (.iload_n 1, 1) := by decide +kernel
theorem dL_below_5 : decode cL_below 5 = .ok (.irem, 1) := by decide +kernel
theorem dL_below_6 : decode cL_below 6 = .ok (.ireturn, 1) := by decide +kernel
theorem dL_cell_0 : decode cL_cell 0 = .ok (.iload_n 1, 1) := by decide +kernel
theorem dL_cell_1 : decode cL_cell 1 = .ok (.aload_n 0, 1) := by decide +kernel
theorem dL_cell_2 : decode cL_cell 2 = .ok (.arraylength, 1) := by decide +kernel
theorem dL_cell_3 : decode cL_cell 3 = .ok (.if_icmp .ge 9, 3) := by decide +kernel
theorem dL_cell_6 : decode cL_cell 6 = .ok (.aload_n 0, 1) := by decide +kernel
theorem dL_cell_7 : decode cL_cell 7 = .ok (.iload_n 1, 1) := by decide +kernel
theorem dL_cell_8 : decode cL_cell 8 = .ok (.iaload, 1) := by decide +kernel
theorem dL_cell_9 : decode cL_cell 9 = .ok (.goto 9, 3) := by decide +kernel
theorem dL_cell_12 : decode cL_cell 12 = .ok (.ldc 8, 2) := by decide +kernel
theorem dL_cell_14 : decode cL_cell 14 = .ok (.iload_n 1, 1) := by decide +kernel
theorem dL_cell_15 : decode cL_cell 15 = .ok (.iconst 3, 1) := by decide +kernel
theorem dL_cell_16 : decode cL_cell 16 = .ok (.iadd, 1) := by decide +kernel
theorem dL_cell_17 : decode cL_cell 17 = .ok (.imul, 1) := by decide +kernel
theorem dL_cell_18 : decode cL_cell 18 = .ok (.ireturn, 1) := by decide +kernel
set_option maxRecDepth 20000 in
theorem ggL_agency_X7_init : GoodIn wsL_agency wsX7_init := goodIn_r _ [8, 9, 10, 11, 12, 13, 14, 15, 16, 17, 18, 19, 20, 21, 22, 23, 5, 24, 25, 26, 27, 28, 29, 30, 31, 32, 33, 34, 35, 36, 37, 38, 39, 40, 41, 42, 43, 44, 45, 46, 47, 48, 49, 50, 51, 52, 53, 54, 55, 56, 57, 58, 59, 60, 61, 62, 63, 64, 65, 66, 67, 68, 69, 70, 71, 72, 73, 74, 75, 76, 77, 78, 79, 80, 81, 82, 83, 84, 85, 86, 87, 88, 89, 90, 91, 92, 93, 94, 95, 96, 97, 98, 99, 100, 101, 102, 103, 104, 105, 106, 107, 108, 109, 110, 111, 112, 113, 114, 266, 267, 268, 269, 270, 271, 272, 273, 274, 275, 276, 277, 278, 279, 280, 281, 282, 283, 284, 285, 286, 287, 288, 289, 290, 291, 292, 293, 294, 295, 296, 297, 298, 299, 300, 301, 302, 303, 304, 305, 306, 307, 308, 309, 310, 311, 312, 313, 314, 315, 316, 317, 318, 319, 320, 321, 322] (by decide +kernel) (by decide +kernel)
set_option maxRecDepth 20000 in
theorem gL_agency_X7_init : GoodIn wsL_agency (wsX7_init) := ggL_agency_X7_init
set_option maxRecDepth 20000 in
theorem ggL_agency_L_cell : GoodIn wsL_agency wsL_cell := goodIn_r _ [118, 119] (by decide +kernel) (by decide +kernel)
set_option maxRecDepth 20000 in
theorem gL_agency_L_cell : GoodIn wsL_agency (va_wsS RL 12 yL_cell wsL_cell) := goodIn_app (goodIn_of _ (by decide +kernel)) ggL_agency_L_cell
set_option maxRecDepth 20000 in
theorem ggL_agency_L_below : GoodIn wsL_agency wsL_below := goodIn_r _ [122, 123] (by decide +kernel) (by decide +kernel)
set_option maxRecDepth 20000 in
theorem gL_agency_L_below : GoodIn wsL_agency (va_wsS RL 18 yL_below wsL_below) := goodIn_app (goodIn_of _ (by decide +kernel)) ggL_agency_L_below
set_option maxRecDepth 20000 in
theorem ggL_agency_X7_road : GoodIn wsL_agency wsX7_road := goodIn_ca (goodIn_ca (goodIn_r _ [127, 128, 129, 23, 130, 131, 3, 132, 133, 134, 135, 136, 137, 138, 139, 140, 22, 141, 54, 55, 142, 143, 144, 145, 146, 147, 148, 149, 150, 151, 152, 153, 266, 267, 268, 269, 270, 271, 272, 273, 274, 275, 276, 277, 278, 279, 280, 281, 282] (by decide +kernel) (by decide +kernel)) (goodIn_sub (fun _ h => List.mem_cons_of_mem _ (List.mem_append_left _ (List.mem_append_left _ (List.mem_append_right _ h)))) (by decide +kernel))) (goodIn_sub (fun _ h => List.mem_cons_of_mem _ (List.mem_append_left _ (List.mem_append_right _ h))) (by decide +kernel))
set_option maxRecDepth 20000 in
theorem gL_agency_X7_road : GoodIn wsL_agency (wsV RL 22 RX7 yX7_road wsX7_road) := goodIn_app (goodIn_of _ (by decide +kernel)) ggL_agency_X7_road
set_option maxRecDepth 20000 in
theorem ggL_agency_X7_player : GoodIn wsL_agency wsX7_player := goodIn_ca (goodIn_ca (goodIn_ca (goodIn_r _ [157, 133, 134, 128, 129, 158, 159, 25, 13, 160, 161, 162, 163, 135, 136, 3, 137, 164, 165, 166, 167, 266, 267, 268, 269, 270, 271, 272, 273, 274, 275, 276, 277, 278, 279, 280, 296, 297, 298, 299, 300, 301, 302, 303] (by decide +kernel) (by decide +kernel)) (goodIn_sub (fun _ h => List.mem_cons_of_mem _ (List.mem_append_left _ (List.mem_append_right _ h))) (by decide +kernel))) (goodIn_sub (fun _ h => List.mem_cons_of_mem _ (List.mem_append_left _ (List.mem_append_left _ (List.mem_append_right _ h)))) (by decide +kernel))) (goodIn_sub (fun _ h => List.mem_cons_of_mem _ (List.mem_append_right _ h)) (by decide +kernel))
set_option maxRecDepth 20000 in
theorem gL_agency_X7_player : GoodIn wsL_agency (wsV RL 27 RX7 yX7_player wsX7_player) := goodIn_app (goodIn_of _ (by decide +kernel)) ggL_agency_X7_player
set_option maxRecDepth 20000 in
theorem ggL_agency_X7_feud : GoodIn wsL_agency wsX7_feud := goodIn_ca (goodIn_ca (goodIn_r _ [171, 128, 129, 13, 172, 173, 174, 175, 3, 176, 133, 134, 25, 177, 178, 179, 266, 267, 268, 269, 270, 271, 272, 273, 274, 275, 276, 277, 278, 279, 280, 296, 297, 298, 299, 300, 301, 302, 303] (by decide +kernel) (by decide +kernel)) (goodIn_sub (fun _ h => List.mem_cons_of_mem _ (List.mem_append_left _ (List.mem_append_left _ (List.mem_append_right _ h)))) (by decide +kernel))) (goodIn_sub (fun _ h => List.mem_cons_of_mem _ (List.mem_append_left _ (List.mem_append_right _ h))) (by decide +kernel))
set_option maxRecDepth 20000 in
theorem gL_agency_X7_feud : GoodIn wsL_agency (wsV RL 31 RX7 yX7_feud wsX7_feud) := goodIn_app (goodIn_of _ (by decide +kernel)) ggL_agency_X7_feud
set_option maxRecDepth 20000 in
theorem ggL_agency_X7_band : GoodIn wsL_agency wsX7_band := goodIn_ca (goodIn_ca (goodIn_r _ [183, 128, 129, 158, 159, 26, 17, 184, 185, 3, 186, 187, 188, 189, 46, 190, 97, 99, 98, 266, 267, 268, 269, 270, 271, 272, 273, 274, 275, 276, 277, 278, 279, 280, 308, 309, 310] (by decide +kernel) (by decide +kernel)) (goodIn_sub (fun _ h => List.mem_cons_of_mem _ (List.mem_append_left _ (List.mem_append_left _ (List.mem_append_right _ h)))) (by decide +kernel))) (goodIn_sub (fun _ h => List.mem_cons_of_mem _ (List.mem_append_right _ h)) (by decide +kernel))
set_option maxRecDepth 20000 in
theorem gL_agency_X7_band : GoodIn wsL_agency (wsV RL 35 RX7 yX7_band wsX7_band) := goodIn_app (goodIn_of _ (by decide +kernel)) ggL_agency_X7_band
set_option maxRecDepth 20000 in
theorem ggL_agency_X7_song : GoodIn wsL_agency wsX7_song := goodIn_ca (goodIn_ca (goodIn_r _ [194, 128, 129, 15, 195, 196, 197, 198, 199, 3, 200, 133, 134, 266, 267, 268, 269, 270, 271, 272, 273, 274, 275, 276, 277, 278, 279, 280, 304, 305, 306, 307] (by decide +kernel) (by decide +kernel)) (goodIn_sub (fun _ h => List.mem_cons_of_mem _ (List.mem_append_left _ (List.mem_append_left _ (List.mem_append_right _ h)))) (by decide +kernel))) (goodIn_sub (fun _ h => List.mem_cons_of_mem _ (List.mem_append_left _ (List.mem_append_right _ h))) (by decide +kernel))
set_option maxRecDepth 20000 in
theorem gL_agency_X7_song : GoodIn wsL_agency (wsV RL 39 RX7 yX7_song wsX7_song) := goodIn_app (goodIn_of _ (by decide +kernel)) ggL_agency_X7_song
set_option maxRecDepth 20000 in
theorem ggL_agency_L_asked : GoodIn wsL_agency wsL_asked := goodIn_ca (goodIn_ca (goodIn_ca (goodIn_r _ [203, 204, 205, 147, 148, 149, 120, 121, 117, 122, 123, 206, 207, 208, 3, 209, 128, 129, 28, 25, 26, 27, 29, 210, 211, 212, 213, 19, 214, 215, 216, 217, 218, 13, 172, 219, 220, 221, 222, 223, 224, 225, 226, 227, 228, 229, 230, 231, 232, 233, 234, 24, 235, 236, 237, 238, 239, 240, 241, 242, 243, 244, 245, 246, 247, 158, 159, 248, 249, 250, 251, 252, 253, 254, 255, 256, 257, 258, 133, 134, 130, 131, 132, 135, 136, 137, 259, 260, 261, 164, 165, 166, 167, 262, 263, 264, 265, 266, 267, 268, 269, 270, 271, 272, 273, 274, 275, 276, 277, 278, 279, 280, 311, 312, 313, 314, 315, 316, 317, 318, 319, 320, 321, 322, 296, 297, 298, 299, 300, 301, 302, 303] (by decide +kernel) (by decide +kernel)) (goodIn_sub (fun _ h => List.mem_cons_of_mem _ (List.mem_append_left _ (List.mem_append_left _ (List.mem_append_right _ h)))) (by decide +kernel))) (goodIn_sub (fun _ h => List.mem_cons_of_mem _ (List.mem_append_right _ h)) (by decide +kernel))) (goodIn_sub (fun _ h => List.mem_cons_of_mem _ (List.mem_append_left _ (List.mem_append_right _ h))) (by decide +kernel))
set_option maxRecDepth 20000 in
theorem gL_agency_L_asked : GoodIn wsL_agency (va_wsS RL 42 yL_asked wsL_asked) := goodIn_app (goodIn_of _ (by decide +kernel)) ggL_agency_L_asked
theorem dL_agency_0 : decode cL_agency 0 = .ok (.new 9, 3) := by decide +kernel
theorem dL_agency_3 : decode cL_agency 3 = .ok (.dup, 1) := by decide +kernel
theorem dL_agency_4 : decode cL_agency 4 = .ok (.invokespecial 11, 3) := by decide +kernel
theorem dL_agency_7 : decode cL_agency 7 = .ok (.astore_n 1, 1) := by decide +kernel
theorem dL_agency_8 : decode cL_agency 8 = .ok (.iconst 0, 1) := by decide +kernel
theorem dL_agency_9 : decode cL_agency 9 = .ok (.istore_n 2, 1) := by decide +kernel
theorem dL_agency_10 : decode cL_agency 10 = .ok (.iload_n 2, 1) := by decide +kernel
theorem dL_agency_11 : decode cL_agency 11 = .ok (.bipush 7, 2) := by decide +kernel
theorem dL_agency_13 : decode cL_agency 13 = .ok (.if_icmp .ge 68, 3) := by decide +kernel
theorem dL_agency_16 : decode cL_agency 16 = .ok (.aload_n 0, 1) := by decide +kernel
theorem dL_agency_17 : decode cL_agency 17 = .ok (.iconst 0, 1) := by decide +kernel
theorem dL_agency_18 : decode cL_agency 18 = .ok (.invokestatic 12, 3) := by decide +kernel
theorem dL_agency_21 : decode cL_agency 21 = .ok (.iconst 2, 1) := by decide +kernel
theorem dL_agency_22 : decode cL_agency 22 = .ok (.iload_n 2, 1) := by decide +kernel
theorem dL_agency_23 : decode cL_agency 23 = .ok (.imul, 1) := by decide +kernel
theorem dL_agency_24 : decode cL_agency 24 = .ok (.ishr, 1) := by decide +kernel
theorem dL_agency_25 : decode cL_agency 25 = .ok (.bipush 6, 2) := by decide +kernel
theorem dL_agency_27 : decode cL_agency 27 = .ok (.invokestatic 18, 3) := by decide +kernel
theorem dL_agency_30 : decode cL_agency 30 = .ok (.istore_n 3, 1) := by decide +kernel
theorem dL_agency_31 : decode cL_agency 31 = .ok (.aload_n 0, 1) := by decide +kernel
theorem dL_agency_32 : decode cL_agency 32 = .ok (.iconst 1, 1) := by decide +kernel
theorem dL_agency_33 : decode cL_agency 33 = .ok (.invokestatic 12, 3) := by decide +kernel
theorem dL_agency_36 : decode cL_agency 36 = .ok (.iconst 2, 1) := by decide +kernel
theorem dL_agency_37 : decode cL_agency 37 = .ok (.iload_n 2, 1) := by decide +kernel
theorem dL_agency_38 : decode cL_agency 38 = .ok (.imul, 1) := by decide +kernel
theorem dL_agency_39 : decode cL_agency 39 = .ok (.ishr, 1) := by decide +kernel
theorem dL_agency_40 : decode cL_agency 40 = .ok (.bipush 6, 2) := by decide +kernel
theorem dL_agency_42 : decode cL_agency 42 = .ok (.invokestatic 18, 3) := by decide +kernel
theorem dL_agency_45 : decode cL_agency 45 = .ok (.istore 4, 2) := by decide +kernel
theorem dL_agency_47 : decode cL_agency 47 = .ok (.iload_n 3, 1) := by decide +kernel
theorem dL_agency_48 : decode cL_agency 48 = .ok (.iload 4, 2) := by decide +kernel
theorem dL_agency_50 : decode cL_agency 50 = .ok (.if_icmp .eq 25, 3) := by decide +kernel
theorem dL_agency_53 : decode cL_agency 53 = .ok (.aload_n 1, 1) := by decide +kernel
theorem dL_agency_54 : decode cL_agency 54 = .ok (.iload_n 3, 1) := by decide +kernel
theorem dL_agency_55 : decode cL_agency 55 = .ok (.iload 4, 2) := by decide +kernel
theorem dL_agency_57 : decode cL_agency 57 = .ok (.aload_n 0, 1) := by decide +kernel
theorem dL_agency_58 : decode cL_agency 58 = .ok (.iconst 2, 1) := by decide +kernel
theorem dL_agency_59 : decode cL_agency 59 = .ok (.invokestatic 12, 3) := by decide +kernel
theorem dL_agency_62 : decode cL_agency 62 = .ok (.iconst 2, 1) := by decide +kernel
theorem dL_agency_63 : decode cL_agency 63 = .ok (.iload_n 2, 1) := by decide +kernel
theorem dL_agency_64 : decode cL_agency 64 = .ok (.imul, 1) := by decide +kernel
theorem dL_agency_65 : decode cL_agency 65 = .ok (.ishr, 1) := by decide +kernel
theorem dL_agency_66 : decode cL_agency 66 = .ok (.bipush 7, 2) := by decide +kernel
theorem dL_agency_68 : decode cL_agency 68 = .ok (.invokestatic 18, 3) := by decide +kernel
theorem dL_agency_71 : decode cL_agency 71 = .ok (.invokevirtual 22, 3) := by decide +kernel
theorem dL_agency_74 : decode cL_agency 74 = .ok (.pop, 1) := by decide +kernel
theorem dL_agency_75 : decode cL_agency 75 = .ok (.iinc 2 1, 3) := by decide +kernel
theorem dL_agency_78 : decode cL_agency 78 = .ok (.goto (-68), 3) := by decide +kernel
theorem dL_agency_81 : decode cL_agency 81 = .ok (.iconst 2, 1) := by decide +kernel
theorem dL_agency_82 : decode cL_agency 82 = .ok (.aload_n 0, 1) := by decide +kernel
theorem dL_agency_83 : decode cL_agency 83 = .ok (.iconst 3, 1) := by decide +kernel
theorem dL_agency_84 : decode cL_agency 84 = .ok (.invokestatic 12, 3) := by decide +kernel
theorem dL_agency_87 : decode cL_agency 87 = .ok (.iconst 5, 1) := by decide +kernel
theorem dL_agency_88 : decode cL_agency 88 = .ok (.invokestatic 18, 3) := by decide +kernel
theorem dL_agency_91 : decode cL_agency 91 = .ok (.iadd, 1) := by decide +kernel
theorem dL_agency_92 : decode cL_agency 92 = .ok (.istore_n 2, 1) := by decide +kernel
theorem dL_agency_93 : decode cL_agency 93 = .ok (.iconst 0, 1) := by decide +kernel
theorem dL_agency_94 : decode cL_agency 94 = .ok (.istore_n 3, 1) := by decide +kernel
theorem dL_agency_95 : decode cL_agency 95 = .ok (.iload_n 3, 1) := by decide +kernel
theorem dL_agency_96 : decode cL_agency 96 = .ok (.iload_n 2, 1) := by decide +kernel
theorem dL_agency_97 : decode cL_agency 97 = .ok (.if_icmp .ge 71, 3) := by decide +kernel
theorem dL_agency_100 : decode cL_agency 100 = .ok (.aload_n 1, 1) := by decide +kernel
theorem dL_agency_101 : decode cL_agency 101 = .ok (.iconst 1, 1) := by decide +kernel
theorem dL_agency_102 : decode cL_agency 102 = .ok (.aload_n 0, 1) := by decide +kernel
theorem dL_agency_103 : decode cL_agency 103 = .ok (.iconst 4, 1) := by decide +kernel
theorem dL_agency_104 : decode cL_agency 104 = .ok (.invokestatic 12, 3) := by decide +kernel
theorem dL_agency_107 : decode cL_agency 107 = .ok (.iconst 3, 1) := by decide +kernel
theorem dL_agency_108 : decode cL_agency 108 = .ok (.iload_n 3, 1) := by decide +kernel
theorem dL_agency_109 : decode cL_agency 109 = .ok (.imul, 1) := by decide +kernel
theorem dL_agency_110 : decode cL_agency 110 = .ok (.ishr, 1) := by decide +kernel
theorem dL_agency_111 : decode cL_agency 111 = .ok (.bipush 7, 2) := by decide +kernel
theorem dL_agency_113 : decode cL_agency 113 = .ok (.invokestatic 18, 3) := by decide +kernel
theorem dL_agency_116 : decode cL_agency 116 = .ok (.iadd, 1) := by decide +kernel
theorem dL_agency_117 : decode cL_agency 117 = .ok (.aload_n 0, 1) := by decide +kernel
theorem dL_agency_118 : decode cL_agency 118 = .ok (.iconst 5, 1) := by decide +kernel
theorem dL_agency_119 : decode cL_agency 119 = .ok (.invokestatic 12, 3) := by decide +kernel
theorem dL_agency_122 : decode cL_agency 122 = .ok (.iload_n 3, 1) := by decide +kernel
theorem dL_agency_123 : decode cL_agency 123 = .ok (.ishr, 1) := by decide +kernel
theorem dL_agency_124 : decode cL_agency 124 = .ok (.ldc 26, 2) := by decide +kernel
theorem dL_agency_126 : decode cL_agency 126 = .ok (.iand, 1) := by decide +kernel
theorem dL_agency_127 : decode cL_agency 127 = .ok (.aload_n 0, 1) := by decide +kernel
theorem dL_agency_128 : decode cL_agency 128 = .ok (.bipush 6, 2) := by decide +kernel
theorem dL_agency_130 : decode cL_agency 130 = .ok (.invokestatic 12, 3) := by decide +kernel
theorem dL_agency_133 : decode cL_agency 133 = .ok (.iconst 2, 1) := by decide +kernel
theorem dL_agency_134 : decode cL_agency 134 = .ok (.iload_n 3, 1) := by decide +kernel
theorem dL_agency_135 : decode cL_agency 135 = .ok (.imul, 1) := by decide +kernel
theorem dL_agency_136 : decode cL_agency 136 = .ok (.ishr, 1) := by decide +kernel
theorem dL_agency_137 : decode cL_agency 137 = .ok (.iconst 3, 1) := by decide +kernel
theorem dL_agency_138 : decode cL_agency 138 = .ok (.invokestatic 18, 3) := by decide +kernel
theorem dL_agency_141 : decode cL_agency 141 = .ok (.iconst 1, 1) := by decide +kernel
theorem dL_agency_142 : decode cL_agency 142 = .ok (.aload_n 0, 1) := by decide +kernel
theorem dL_agency_143 : decode cL_agency 143 = .ok (.bipush 7, 2) := by decide +kernel
theorem dL_agency_145 : decode cL_agency 145 = .ok (.invokestatic 12, 3) := by decide +kernel
theorem dL_agency_148 : decode cL_agency 148 = .ok (.iconst 3, 1) := by decide +kernel
theorem dL_agency_149 : decode cL_agency 149 = .ok (.iload_n 3, 1) := by decide +kernel
theorem dL_agency_150 : decode cL_agency 150 = .ok (.imul, 1) := by decide +kernel
theorem dL_agency_151 : decode cL_agency 151 = .ok (.ishr, 1) := by decide +kernel
theorem dL_agency_152 : decode cL_agency 152 = .ok (.bipush 60, 2) := by decide +kernel
theorem dL_agency_154 : decode cL_agency 154 = .ok (.invokestatic 18, 3) := by decide +kernel
theorem dL_agency_157 : decode cL_agency 157 = .ok (.iadd, 1) := by decide +kernel
theorem dL_agency_158 : decode cL_agency 158 = .ok (.invokevirtual 27, 3) := by decide +kernel
theorem dL_agency_161 : decode cL_agency 161 = .ok (.pop, 1) := by decide +kernel
theorem dL_agency_162 : decode cL_agency 162 = .ok (.iinc 3 1, 3) := by decide +kernel
theorem dL_agency_165 : decode cL_agency 165 = .ok (.goto (-70), 3) := by decide +kernel
theorem dL_agency_168 : decode cL_agency 168 = .ok (.iconst 0, 1) := by decide +kernel
theorem dL_agency_169 : decode cL_agency 169 = .ok (.istore_n 3, 1) := by decide +kernel
theorem dL_agency_170 : decode cL_agency 170 = .ok (.iload_n 3, 1) := by decide +kernel
theorem dL_agency_171 : decode cL_agency 171 = .ok (.iconst 3, 1) := by decide +kernel
theorem dL_agency_172 : decode cL_agency 172 = .ok (.if_icmp .ge 66, 3) := by decide +kernel
theorem dL_agency_175 : decode cL_agency 175 = .ok (.aload_n 0, 1) := by decide +kernel
theorem dL_agency_176 : decode cL_agency 176 = .ok (.bipush 8, 2) := by decide +kernel
theorem dL_agency_178 : decode cL_agency 178 = .ok (.invokestatic 12, 3) := by decide +kernel
theorem dL_agency_181 : decode cL_agency 181 = .ok (.iconst 3, 1) := by decide +kernel
theorem dL_agency_182 : decode cL_agency 182 = .ok (.iload_n 3, 1) := by decide +kernel
theorem dL_agency_183 : decode cL_agency 183 = .ok (.imul, 1) := by decide +kernel
theorem dL_agency_184 : decode cL_agency 184 = .ok (.ishr, 1) := by decide +kernel
theorem dL_agency_185 : decode cL_agency 185 = .ok (.iload_n 2, 1) := by decide +kernel
theorem dL_agency_186 : decode cL_agency 186 = .ok (.invokestatic 18, 3) := by decide +kernel
theorem dL_agency_189 : decode cL_agency 189 = .ok (.istore 4, 2) := by decide +kernel
theorem dL_agency_191 : decode cL_agency 191 = .ok (.aload_n 0, 1) := by decide +kernel
theorem dL_agency_192 : decode cL_agency 192 = .ok (.bipush 8, 2) := by decide +kernel
theorem dL_agency_194 : decode cL_agency 194 = .ok (.invokestatic 12, 3) := by decide +kernel
theorem dL_agency_197 : decode cL_agency 197 = .ok (.iconst 3, 1) := by decide +kernel
theorem dL_agency_198 : decode cL_agency 198 = .ok (.iload_n 3, 1) := by decide +kernel
theorem dL_agency_199 : decode cL_agency 199 = .ok (.imul, 1) := by decide +kernel
theorem dL_agency_200 : decode cL_agency 200 = .ok (.bipush 9, 2) := by decide +kernel
theorem dL_agency_202 : decode cL_agency 202 = .ok (.iadd, 1) := by decide +kernel
theorem dL_agency_203 : decode cL_agency 203 = .ok (.ishr, 1) := by decide +kernel
theorem dL_agency_204 : decode cL_agency 204 = .ok (.iload_n 2, 1) := by decide +kernel
theorem dL_agency_205 : decode cL_agency 205 = .ok (.invokestatic 18, 3) := by decide +kernel
theorem dL_agency_208 : decode cL_agency 208 = .ok (.istore 5, 2) := by decide +kernel
theorem dL_agency_210 : decode cL_agency 210 = .ok (.iload 4, 2) := by decide +kernel
theorem dL_agency_212 : decode cL_agency 212 = .ok (.iload 5, 2) := by decide +kernel
theorem dL_agency_214 : decode cL_agency 214 = .ok (.if_icmp .eq 18, 3) := by decide +kernel
theorem dL_agency_217 : decode cL_agency 217 = .ok (.iload_n 3, 1) := by decide +kernel
theorem dL_agency_218 : decode cL_agency 218 = .ok (.iconst 2, 1) := by decide +kernel
theorem dL_agency_219 : decode cL_agency 219 = .ok (.if_icmp .ge 13, 3) := by decide +kernel
theorem dL_agency_222 : decode cL_agency 222 = .ok (.aload_n 1, 1) := by decide +kernel
theorem dL_agency_223 : decode cL_agency 223 = .ok (.iload 4, 2) := by decide +kernel
theorem dL_agency_225 : decode cL_agency 225 = .ok (.iload 5, 2) := by decide +kernel
theorem dL_agency_227 : decode cL_agency 227 = .ok (.iconst 1, 1) := by decide +kernel
theorem dL_agency_228 : decode cL_agency 228 = .ok (.invokevirtual 31, 3) := by decide +kernel
theorem dL_agency_231 : decode cL_agency 231 = .ok (.pop, 1) := by decide +kernel
theorem dL_agency_232 : decode cL_agency 232 = .ok (.iinc 3 1, 3) := by decide +kernel
theorem dL_agency_235 : decode cL_agency 235 = .ok (.goto (-65), 3) := by decide +kernel
theorem dL_agency_238 : decode cL_agency 238 = .ok (.bipush 8, 2) := by decide +kernel
theorem dL_agency_240 : decode cL_agency 240 = .ok (.newarray .int, 2) := by decide +kernel
theorem dL_agency_242 : decode cL_agency 242 = .ok (.dup, 1) := by decide +kernel
theorem dL_agency_243 : decode cL_agency 243 = .ok (.iconst 0, 1) := by decide +kernel
theorem dL_agency_244 : decode cL_agency 244 = .ok (.iconst 1, 1) := by decide +kernel
theorem dL_agency_245 : decode cL_agency 245 = .ok (.iastore, 1) := by decide +kernel
theorem dL_agency_246 : decode cL_agency 246 = .ok (.dup, 1) := by decide +kernel
theorem dL_agency_247 : decode cL_agency 247 = .ok (.iconst 1, 1) := by decide +kernel
theorem dL_agency_248 : decode cL_agency 248 = .ok (.iconst 2, 1) := by decide +kernel
theorem dL_agency_249 : decode cL_agency 249 = .ok (.iastore, 1) := by decide +kernel
theorem dL_agency_250 : decode cL_agency 250 = .ok (.dup, 1) := by decide +kernel
theorem dL_agency_251 : decode cL_agency 251 = .ok (.iconst 2, 1) := by decide +kernel
theorem dL_agency_252 : decode cL_agency 252 = .ok (.iconst 4, 1) := by decide +kernel
theorem dL_agency_253 : decode cL_agency 253 = .ok (.iastore, 1) := by decide +kernel
theorem dL_agency_254 : decode cL_agency 254 = .ok (.dup, 1) := by decide +kernel
theorem dL_agency_255 : decode cL_agency 255 = .ok (.iconst 3, 1) := by decide +kernel
theorem dL_agency_256 : decode cL_agency 256 = .ok (.iconst 5, 1) := by decide +kernel
theorem dL_agency_257 : decode cL_agency 257 = .ok (.iastore, 1) := by decide +kernel
theorem dL_agency_258 : decode cL_agency 258 = .ok (.dup, 1) := by decide +kernel
theorem dL_agency_259 : decode cL_agency 259 = .ok (.iconst 4, 1) := by decide +kernel
theorem dL_agency_260 : decode cL_agency 260 = .ok (.iconst 3, 1) := by decide +kernel
theorem dL_agency_261 : decode cL_agency 261 = .ok (.iastore, 1) := by decide +kernel
theorem dL_agency_262 : decode cL_agency 262 = .ok (.dup, 1) := by decide +kernel
theorem dL_agency_263 : decode cL_agency 263 = .ok (.iconst 5, 1) := by decide +kernel
theorem dL_agency_264 : decode cL_agency 264 = .ok (.bipush 10, 2) := by decide +kernel
theorem dL_agency_266 : decode cL_agency 266 = .ok (.iastore, 1) := by decide +kernel
theorem dL_agency_267 : decode cL_agency 267 = .ok (.dup, 1) := by decide +kernel
theorem dL_agency_268 : decode cL_agency 268 = .ok (.bipush 6, 2) := by decide +kernel
theorem dL_agency_270 : decode cL_agency 270 = .ok (.bipush 13, 2) := by decide +kernel
theorem dL_agency_272 : decode cL_agency 272 = .ok (.iastore, 1) := by decide +kernel
theorem dL_agency_273 : decode cL_agency 273 = .ok (.dup, 1) := by decide +kernel
theorem dL_agency_274 : decode cL_agency 274 = .ok (.bipush 7, 2) := by decide +kernel
theorem dL_agency_276 : decode cL_agency 276 = .ok (.bipush 12, 2) := by decide +kernel
theorem dL_agency_278 : decode cL_agency 278 = .ok (.iastore, 1) := by decide +kernel
theorem dL_agency_279 : decode cL_agency 279 = .ok (.astore_n 3, 1) := by decide +kernel
theorem dL_agency_280 : decode cL_agency 280 = .ok (.iconst 0, 1) := by decide +kernel
theorem dL_agency_281 : decode cL_agency 281 = .ok (.istore 4, 2) := by decide +kernel
theorem dL_agency_283 : decode cL_agency 283 = .ok (.iload 4, 2) := by decide +kernel
theorem dL_agency_285 : decode cL_agency 285 = .ok (.iconst 3, 1) := by decide +kernel
theorem dL_agency_286 : decode cL_agency 286 = .ok (.if_icmp .ge 32, 3) := by decide +kernel
theorem dL_agency_289 : decode cL_agency 289 = .ok (.aload_n 1, 1) := by decide +kernel
theorem dL_agency_290 : decode cL_agency 290 = .ok (.aload_n 3, 1) := by decide +kernel
theorem dL_agency_291 : decode cL_agency 291 = .ok (.aload_n 0, 1) := by decide +kernel
theorem dL_agency_292 : decode cL_agency 292 = .ok (.bipush 9, 2) := by decide +kernel
theorem dL_agency_294 : decode cL_agency 294 = .ok (.invokestatic 12, 3) := by decide +kernel
theorem dL_agency_297 : decode cL_agency 297 = .ok (.iconst 3, 1) := by decide +kernel
theorem dL_agency_298 : decode cL_agency 298 = .ok (.iload 4, 2) := by decide +kernel
theorem dL_agency_300 : decode cL_agency 300 = .ok (.imul, 1) := by decide +kernel
theorem dL_agency_301 : decode cL_agency 301 = .ok (.ishr, 1) := by decide +kernel
theorem dL_agency_302 : decode cL_agency 302 = .ok (.aload_n 3, 1) := by decide +kernel
theorem dL_agency_303 : decode cL_agency 303 = .ok (.arraylength, 1) := by decide +kernel
theorem dL_agency_304 : decode cL_agency 304 = .ok (.invokestatic 18, 3) := by decide +kernel
theorem dL_agency_307 : decode cL_agency 307 = .ok (.iaload, 1) := by decide +kernel
theorem dL_agency_308 : decode cL_agency 308 = .ok (.invokevirtual 35, 3) := by decide +kernel
theorem dL_agency_311 : decode cL_agency 311 = .ok (.pop, 1) := by decide +kernel
theorem dL_agency_312 : decode cL_agency 312 = .ok (.iinc 4 1, 3) := by decide +kernel
theorem dL_agency_315 : decode cL_agency 315 = .ok (.goto (-32), 3) := by decide +kernel
theorem dL_agency_318 : decode cL_agency 318 = .ok (.iconst 0, 1) := by decide +kernel
theorem dL_agency_319 : decode cL_agency 319 = .ok (.istore 4, 2) := by decide +kernel
theorem dL_agency_321 : decode cL_agency 321 = .ok (.iload 4, 2) := by decide +kernel
theorem dL_agency_323 : decode cL_agency 323 = .ok (.iconst 4, 1) := by decide +kernel
theorem dL_agency_324 : decode cL_agency 324 = .ok (.if_icmp .ge 80, 3) := by decide +kernel
theorem dL_agency_327 : decode cL_agency 327 = .ok (.aload_n 1, 1) := by decide +kernel
theorem dL_agency_328 : decode cL_agency 328 = .ok (.aload_n 0, 1) := by decide +kernel
theorem dL_agency_329 : decode cL_agency 329 = .ok (.bipush 10, 2) := by decide +kernel
theorem dL_agency_331 : decode cL_agency 331 = .ok (.invokestatic 12, 3) := by decide +kernel
theorem dL_agency_334 : decode cL_agency 334 = .ok (.iconst 4, 1) := by decide +kernel
theorem dL_agency_335 : decode cL_agency 335 = .ok (.iload 4, 2) := by decide +kernel
theorem dL_agency_337 : decode cL_agency 337 = .ok (.imul, 1) := by decide +kernel
theorem dL_agency_338 : decode cL_agency 338 = .ok (.ishr, 1) := by decide +kernel
theorem dL_agency_339 : decode cL_agency 339 = .ok (.bipush 16, 2) := by decide +kernel
theorem dL_agency_341 : decode cL_agency 341 = .ok (.invokestatic 18, 3) := by decide +kernel
theorem dL_agency_344 : decode cL_agency 344 = .ok (.aload_n 0, 1) := by decide +kernel
theorem dL_agency_345 : decode cL_agency 345 = .ok (.bipush 10, 2) := by decide +kernel
theorem dL_agency_347 : decode cL_agency 347 = .ok (.invokestatic 12, 3) := by decide +kernel
theorem dL_agency_350 : decode cL_agency 350 = .ok (.iconst 3, 1) := by decide +kernel
theorem dL_agency_351 : decode cL_agency 351 = .ok (.iload 4, 2) := by decide +kernel
theorem dL_agency_353 : decode cL_agency 353 = .ok (.imul, 1) := by decide +kernel
theorem dL_agency_354 : decode cL_agency 354 = .ok (.ishr, 1) := by decide +kernel
theorem dL_agency_355 : decode cL_agency 355 = .ok (.bipush 12, 2) := by decide +kernel
theorem dL_agency_357 : decode cL_agency 357 = .ok (.invokestatic 18, 3) := by decide +kernel
theorem dL_agency_360 : decode cL_agency 360 = .ok (.aload_n 0, 1) := by decide +kernel
theorem dL_agency_361 : decode cL_agency 361 = .ok (.bipush 10, 2) := by decide +kernel
theorem dL_agency_363 : decode cL_agency 363 = .ok (.invokestatic 12, 3) := by decide +kernel
theorem dL_agency_366 : decode cL_agency 366 = .ok (.iconst 5, 1) := by decide +kernel
theorem dL_agency_367 : decode cL_agency 367 = .ok (.iload 4, 2) := by decide +kernel
theorem dL_agency_369 : decode cL_agency 369 = .ok (.imul, 1) := by decide +kernel
theorem dL_agency_370 : decode cL_agency 370 = .ok (.ishr, 1) := by decide +kernel
theorem dL_agency_371 : decode cL_agency 371 = .ok (.bipush 10, 2) := by decide +kernel
theorem dL_agency_373 : decode cL_agency 373 = .ok (.invokestatic 18, 3) := by decide +kernel
theorem dL_agency_376 : decode cL_agency 376 = .ok (.iconst 2, 1) := by decide +kernel
theorem dL_agency_377 : decode cL_agency 377 = .ok (.aload_n 0, 1) := by decide +kernel
theorem dL_agency_378 : decode cL_agency 378 = .ok (.bipush 10, 2) := by decide +kernel
theorem dL_agency_380 : decode cL_agency 380 = .ok (.invokestatic 12, 3) := by decide +kernel
theorem dL_agency_383 : decode cL_agency 383 = .ok (.iconst 2, 1) := by decide +kernel
theorem dL_agency_384 : decode cL_agency 384 = .ok (.iload 4, 2) := by decide +kernel
theorem dL_agency_386 : decode cL_agency 386 = .ok (.imul, 1) := by decide +kernel
theorem dL_agency_387 : decode cL_agency 387 = .ok (.ishr, 1) := by decide +kernel
theorem dL_agency_388 : decode cL_agency 388 = .ok (.bipush 8, 2) := by decide +kernel
theorem dL_agency_390 : decode cL_agency 390 = .ok (.invokestatic 18, 3) := by decide +kernel
theorem dL_agency_393 : decode cL_agency 393 = .ok (.iadd, 1) := by decide +kernel
theorem dL_agency_394 : decode cL_agency 394 = .ok (.invokevirtual 39, 3) := by decide +kernel
theorem dL_agency_397 : decode cL_agency 397 = .ok (.pop, 1) := by decide +kernel
theorem dL_agency_398 : decode cL_agency 398 = .ok (.iinc 4 1, 3) := by decide +kernel
theorem dL_agency_401 : decode cL_agency 401 = .ok (.goto (-80), 3) := by decide +kernel
theorem dL_agency_404 : decode cL_agency 404 = .ok (.iconst 0, 1) := by decide +kernel
theorem dL_agency_405 : decode cL_agency 405 = .ok (.istore 4, 2) := by decide +kernel
theorem dL_agency_407 : decode cL_agency 407 = .ok (.iload 4, 2) := by decide +kernel
theorem dL_agency_409 : decode cL_agency 409 = .ok (.iconst 4, 1) := by decide +kernel
theorem dL_agency_410 : decode cL_agency 410 = .ok (.if_icmp .ge 22, 3) := by decide +kernel
theorem dL_agency_413 : decode cL_agency 413 = .ok (.aload_n 1, 1) := by decide +kernel
theorem dL_agency_414 : decode cL_agency 414 = .ok (.aload_n 0, 1) := by decide +kernel
theorem dL_agency_415 : decode cL_agency 415 = .ok (.bipush 11, 2) := by decide +kernel
theorem dL_agency_417 : decode cL_agency 417 = .ok (.iload 4, 2) := by decide +kernel
theorem dL_agency_419 : decode cL_agency 419 = .ok (.iadd, 1) := by decide +kernel
theorem dL_agency_420 : decode cL_agency 420 = .ok (.invokestatic 12, 3) := by decide +kernel
theorem dL_agency_423 : decode cL_agency 423 = .ok (.invokestatic 42, 3) := by decide +kernel
theorem dL_agency_426 : decode cL_agency 426 = .ok (.iinc 4 1, 3) := by decide +kernel
theorem dL_agency_429 : decode cL_agency 429 = .ok (.goto (-22), 3) := by decide +kernel
theorem dL_agency_432 : decode cL_agency 432 = .ok (.aload_n 1, 1) := by decide +kernel
theorem dL_agency_433 : decode cL_agency 433 = .ok (.areturn, 1) := by decide +kernel
