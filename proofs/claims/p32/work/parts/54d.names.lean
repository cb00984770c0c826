set_option maxRecDepth 20000 in
theorem ggL_isDone_X7_desk : GoodIn wsL_isDone wsX7_desk := goodIn_ca (goodIn_r _ [14, 15, 16, 17, 18, 19, 20, 21, 22, 23, 24, 13, 25, 26, 27, 28, 29, 30, 31, 32, 33, 34, 35, 36, 37, 38, 39, 40, 41, 42, 43, 44, 45, 46, 47, 48, 49, 50, 51, 52, 53, 54, 55, 56, 4, 5, 6, 57, 8, 9, 354, 355, 356, 357, 358, 359, 360, 361, 362, 363, 364, 365, 366, 367, 368, 369, 370, 371, 372, 373, 374, 375, 376, 377, 378, 379, 380, 381, 382, 383, 384, 385, 386, 387, 388] (by decide +kernel) (by decide +kernel)) (goodIn_sub (fun _ h => List.mem_cons_of_mem _ (List.mem_append_left _ (List.mem_append_left _ (List.mem_append_right _ h)))) (by decide +kernel))
set_option maxRecDepth 20000 in
theorem gL_isDone_X7_desk : GoodIn wsL_isDone (wsV RL 46 RX7 yX7_desk wsX7_desk) := goodIn_app (goodIn_of _ (by decide +kernel)) ggL_isDone_X7_desk
set_option maxRecDepth 20000 in
theorem ggL_isDone_L_below : GoodIn wsL_isDone wsL_below := goodIn_r _ [61, 62] (by decide +kernel) (by decide +kernel)
set_option maxRecDepth 20000 in
theorem gL_isDone_L_below : GoodIn wsL_isDone (va_wsS RL 18 yL_below wsL_below) := goodIn_app (goodIn_of _ (by decide +kernel)) ggL_isDone_L_below
set_option maxRecDepth 20000 in
theorem ggL_isDone_X7_fix : GoodIn wsL_isDone wsX7_fix := goodIn_ca (goodIn_ca (goodIn_r _ [66, 67, 68, 69, 70, 26, 27, 71, 72, 73, 74, 75, 76, 77, 13, 78, 79, 80, 20, 81, 82, 83, 84, 85, 86, 87, 88, 89, 90, 91, 92, 93, 94, 95, 96, 97, 98, 99, 100, 101, 102, 103, 104, 105, 106, 107, 18, 108, 109, 110, 111, 50, 112, 32, 113, 114, 57, 8, 5, 9, 56, 4, 6, 115, 116, 117, 118, 119, 120, 121, 122, 123, 124, 125, 126, 127, 128, 129, 130, 131, 132, 133, 134, 135, 136, 137, 138, 139, 140, 141, 142, 143, 144, 145, 146, 147, 148, 149, 150, 151, 152, 153, 154, 155, 156, 157, 158, 159, 34, 35, 36, 37, 38, 39, 40, 160, 161, 162, 163, 164, 165, 166, 167, 168, 33, 169, 170, 171, 172, 173, 174, 175, 176, 177, 178, 179, 180, 181, 182, 183, 184, 185, 186, 187, 188, 189, 190, 191, 192, 193, 21, 354, 355, 356, 357, 358, 359, 360, 361, 362, 363, 364, 365, 366, 367, 368, 389, 390, 391, 392, 393, 394, 369, 370, 371, 372, 373, 374, 375, 376, 377, 378, 379, 380, 381, 382, 383, 384, 385, 386, 387, 388, 395, 396, 397, 398, 399] (by decide +kernel) (by decide +kernel)) (goodIn_sub (fun _ h => List.mem_cons_of_mem _ (List.mem_append_left _ (List.mem_append_right _ h))) (by decide +kernel))) (goodIn_sub (fun _ h => List.mem_cons_of_mem _ (List.mem_append_right _ h)) (by decide +kernel))
set_option maxRecDepth 20000 in
theorem gL_isDone_X7_fix : GoodIn wsL_isDone (wsV RL 63 RX7 yX7_fix wsX7_fix) := goodIn_app (goodIn_of _ (by decide +kernel)) ggL_isDone_X7_fix
set_option maxRecDepth 20000 in
theorem ggL_isDone_X7_cancel : GoodIn wsL_isDone wsX7_cancel := goodIn_ca (goodIn_ca (goodIn_r _ [197, 67, 68, 26, 27, 193, 56, 4, 5, 6, 75, 76, 77, 13, 78, 79, 80, 20, 198, 199, 200, 201, 94, 17, 74, 189, 190, 191, 192, 21, 354, 355, 356, 357, 358, 359, 360, 361, 362, 363, 364, 365, 366, 367, 368, 369, 370, 371, 372, 373, 374, 375, 376, 377, 378, 379, 380] (by decide +kernel) (by decide +kernel)) (goodIn_sub (fun _ h => List.mem_cons_of_mem _ (List.mem_append_left _ (List.mem_append_right _ h))) (by decide +kernel))) (goodIn_sub (fun _ h => List.mem_cons_of_mem _ (List.mem_append_right _ h)) (by decide +kernel))
set_option maxRecDepth 20000 in
theorem gL_isDone_X7_cancel : GoodIn wsL_isDone (wsV RL 66 RX7 yX7_cancel wsX7_cancel) := goodIn_app (goodIn_of _ (by decide +kernel)) ggL_isDone_X7_cancel
set_option maxRecDepth 20000 in
theorem ggL_isDone_X7_ill : GoodIn wsL_isDone wsX7_ill := goodIn_ca (goodIn_ca (goodIn_r _ [205, 50, 20, 26, 94, 103, 206, 207, 208, 13, 209, 79, 80, 18, 210, 211, 212, 213, 15, 16, 17, 214, 215, 216, 217, 69, 70, 71, 99, 100, 101, 102, 27, 72, 115, 116, 117, 104, 105, 106, 107, 108, 109, 110, 111, 112, 32, 113, 114, 57, 8, 5, 9, 56, 4, 6, 118, 119, 120, 121, 122, 123, 124, 125, 126, 127, 128, 129, 130, 131, 132, 133, 134, 93, 135, 136, 137, 138, 139, 140, 141, 142, 143, 144, 145, 146, 147, 148, 149, 150, 151, 152, 153, 154, 155, 156, 157, 158, 159, 34, 35, 36, 37, 38, 39, 40, 160, 161, 162, 163, 164, 165, 166, 167, 168, 33, 169, 170, 171, 172, 173, 174, 175, 176, 177, 178, 179, 180, 181, 218, 219, 220, 221, 222, 223, 224, 225, 226, 227, 228, 74, 189, 190, 191, 192, 193, 21, 354, 355, 356, 357, 358, 359, 360, 361, 362, 363, 364, 365, 366, 367, 368, 369, 370, 371, 372, 373, 374, 375, 376, 377, 378, 379, 380, 389, 390, 391, 392, 393, 394, 381, 382, 383, 384, 385, 386, 387, 388, 395, 396, 397, 398, 399] (by decide +kernel) (by decide +kernel)) (goodIn_sub (fun _ h => List.mem_cons_of_mem _ (List.mem_append_right _ h)) (by decide +kernel))) (goodIn_sub (fun _ h => List.mem_cons_of_mem _ (List.mem_append_left _ (List.mem_append_left _ (List.mem_append_right _ h)))) (by decide +kernel))
set_option maxRecDepth 20000 in
theorem gL_isDone_X7_ill : GoodIn wsL_isDone (wsV RL 69 RX7 yX7_ill wsX7_ill) := goodIn_app (goodIn_of _ (by decide +kernel)) ggL_isDone_X7_ill
set_option maxRecDepth 20000 in
theorem ggL_isDone_X7_late : GoodIn wsL_isDone wsX7_late := goodIn_ca (goodIn_ca (goodIn_ca (goodIn_r _ [232, 15, 16, 67, 68, 26, 27, 233, 75, 76, 77, 13, 78, 79, 80, 20, 234, 235, 236, 221, 237, 238, 239, 240, 241, 8, 5, 9, 354, 355, 356, 357, 358, 359, 360, 361, 362, 363, 364, 365, 366, 367, 368, 369, 370, 371, 372, 373, 374, 375, 376, 377, 378, 379, 380] (by decide +kernel) (by decide +kernel)) (goodIn_sub (fun _ h => List.mem_cons_of_mem _ (List.mem_append_left _ (List.mem_append_left _ (List.mem_append_right _ h)))) (by decide +kernel))) (goodIn_sub (fun _ h => List.mem_cons_of_mem _ (List.mem_append_left _ (List.mem_append_right _ h))) (by decide +kernel))) (goodIn_sub (fun _ h => List.mem_cons_of_mem _ (List.mem_append_right _ h)) (by decide +kernel))
set_option maxRecDepth 20000 in
theorem gL_isDone_X7_late : GoodIn wsL_isDone (wsV RL 72 RX7 yX7_late wsX7_late) := goodIn_app (goodIn_of _ (by decide +kernel)) ggL_isDone_X7_late
set_option maxRecDepth 20000 in
theorem ggL_isDone_X7_learn : GoodIn wsL_isDone wsX7_learn := goodIn_ca (goodIn_ca (goodIn_r _ [245, 15, 16, 32, 164, 206, 207, 208, 13, 209, 79, 80, 18, 246, 247, 248, 249, 34, 35, 36, 37, 38, 39, 40, 354, 355, 356, 357, 358, 359, 360, 361, 362, 363, 364, 365, 366, 367, 368, 381, 382, 383, 384, 385, 386, 387, 388] (by decide +kernel) (by decide +kernel)) (goodIn_sub (fun _ h => List.mem_cons_of_mem _ (List.mem_append_left _ (List.mem_append_left _ (List.mem_append_right _ h)))) (by decide +kernel))) (goodIn_sub (fun _ h => List.mem_cons_of_mem _ (List.mem_append_right _ h)) (by decide +kernel))
set_option maxRecDepth 20000 in
theorem gL_isDone_X7_learn : GoodIn wsL_isDone (wsV RL 75 RX7 yX7_learn wsX7_learn) := goodIn_app (goodIn_of _ (by decide +kernel)) ggL_isDone_X7_learn
set_option maxRecDepth 20000 in
theorem ggL_isDone_L_asked : GoodIn wsL_isDone wsL_asked := goodIn_ca (goodIn_ca (goodIn_ca (goodIn_r _ [252, 1, 7, 8, 5, 9, 58, 59, 60, 61, 62, 10, 11, 12, 13, 14, 15, 16, 17, 18, 19, 20, 21, 22, 23, 24, 25, 26, 27, 28, 29, 30, 31, 32, 33, 34, 35, 36, 37, 38, 39, 40, 41, 42, 43, 44, 45, 46, 47, 48, 49, 50, 51, 52, 53, 54, 55, 56, 4, 6, 57, 253, 254, 255, 256, 67, 68, 93, 94, 114, 128, 129, 137, 257, 258, 259, 260, 261, 79, 80, 262, 263, 264, 265, 266, 267, 268, 269, 270, 246, 247, 248, 249, 271, 272, 273, 274, 354, 355, 356, 357, 358, 359, 360, 361, 362, 363, 364, 365, 366, 367, 368, 369, 370, 371, 372, 373, 374, 375, 376, 377, 378, 379, 380, 381, 382, 383, 384, 385, 386, 387, 388] (by decide +kernel) (by decide +kernel)) (goodIn_sub (fun _ h => List.mem_cons_of_mem _ (List.mem_append_left _ (List.mem_append_left _ (List.mem_append_right _ h)))) (by decide +kernel))) (goodIn_sub (fun _ h => List.mem_cons_of_mem _ (List.mem_append_left _ (List.mem_append_right _ h))) (by decide +kernel))) (goodIn_sub (fun _ h => List.mem_cons_of_mem _ (List.mem_append_right _ h)) (by decide +kernel))
set_option maxRecDepth 20000 in
theorem gL_isDone_L_asked : GoodIn wsL_isDone (va_wsS RL 42 yL_asked wsL_asked) := goodIn_app (goodIn_of _ (by decide +kernel)) ggL_isDone_L_asked
set_option maxRecDepth 20000 in
theorem ggL_isDone_X7_road : GoodIn wsL_isDone wsX7_road := goodIn_ca (goodIn_ca (goodIn_r _ [278, 15, 16, 112, 262, 263, 13, 264, 79, 80, 265, 266, 267, 279, 280, 281, 121, 282, 283, 123, 284, 285, 286, 287, 288, 8, 5, 9, 118, 119, 120, 122, 354, 355, 356, 357, 358, 359, 360, 361, 362, 363, 364, 365, 366, 367, 368, 395, 396] (by decide +kernel) (by decide +kernel)) (goodIn_sub (fun _ h => List.mem_cons_of_mem _ (List.mem_append_left _ (List.mem_append_left _ (List.mem_append_right _ h)))) (by decide +kernel))) (goodIn_sub (fun _ h => List.mem_cons_of_mem _ (List.mem_append_right _ h)) (by decide +kernel))
set_option maxRecDepth 20000 in
theorem gL_isDone_X7_road : GoodIn wsL_isDone (wsV RL 22 RX7 yX7_road wsX7_road) := goodIn_app (goodIn_of _ (by decide +kernel)) ggL_isDone_X7_road
set_option maxRecDepth 20000 in
theorem ggL_isDone_X7_pass : GoodIn wsL_isDone wsX7_pass := goodIn_ca (goodIn_ca (goodIn_r _ [292, 15, 16, 67, 68, 17, 293, 294, 295, 13, 296, 20, 26, 94, 27, 297, 298, 299, 300, 74, 193, 18, 72, 32, 21, 45, 301, 55, 129, 302, 303, 304, 305, 306, 307, 308, 309, 310, 177, 115, 116, 117, 234, 235, 236, 221, 237, 238, 239, 240, 241, 8, 5, 9, 189, 190, 191, 192, 311, 312, 313, 314, 173, 174, 175, 176, 112, 113, 114, 56, 4, 6, 118, 119, 120, 121, 122, 123, 160, 161, 162, 163, 164, 34, 35, 36, 37, 38, 39, 40, 315, 316, 317, 318, 319, 320, 321, 322, 323, 324, 325, 326, 327, 328, 329, 330, 331, 332, 333, 334, 335, 336, 337, 338, 339, 340, 341, 342, 343, 344, 345, 346, 347, 348, 349, 350, 351, 352, 353, 257, 354, 355, 356, 357, 358, 359, 360, 361, 362, 363, 364, 365, 366, 367, 368, 369, 370, 371, 372, 373, 374, 375, 376, 377, 378, 379, 380, 381, 382, 383, 384, 385, 386, 387, 388, 400, 401, 402, 403, 404, 405, 406, 407, 408, 409, 410, 395, 396] (by decide +kernel) (by decide +kernel)) (goodIn_sub (fun _ h => List.mem_cons_of_mem _ (List.mem_append_left _ (List.mem_append_left _ (List.mem_append_right _ h)))) (by decide +kernel))) (goodIn_sub (fun _ h => List.mem_cons_of_mem _ (List.mem_append_left _ (List.mem_append_right _ h))) (by decide +kernel))
set_option maxRecDepth 20000 in
theorem gL_isDone_X7_pass : GoodIn wsL_isDone (wsV RL 78 RX7 yX7_pass wsX7_pass) := goodIn_app (goodIn_of _ (by decide +kernel)) ggL_isDone_X7_pass
theorem dL_isDone_0 : decode cL_isDone 0 = .ok (.aload_n 0, 1) := by decide +kernel
theorem dL_isDone_1 : decode cL_isDone 1 = .ok (.iconst 3, 1) := by decide +kernel
theorem dL_isDone_2 : decode cL_isDone 2 = .ok (.invokevirtual 46, 3) := by decide +kernel
theorem dL_isDone_5 : decode cL_isDone 5 = .ok (.istore_n 2, 1) := by decide +kernel
theorem dL_isDone_6 : decode cL_isDone 6 = .ok (.iload_n 1, 1) := by decide +kernel
theorem dL_isDone_7 : decode cL_isDone 7 = .ok (.iconst 4, 1) := by decide +kernel
theorem dL_isDone_8 : decode cL_isDone 8 = .ok (.ishr, 1) := by decide +kernel
theorem dL_isDone_9 : decode cL_isDone 9 = .ok (.iconst 1, 1) := by decide +kernel
theorem dL_isDone_10 : decode cL_isDone 10 = .ok (.iload_n 2, 1) := by decide +kernel
theorem dL_isDone_11 : decode cL_isDone 11 = .ok (.invokestatic 60, 3) := by decide +kernel
theorem dL_isDone_14 : decode cL_isDone 14 = .ok (.invokestatic 18, 3) := by decide +kernel
theorem dL_isDone_17 : decode cL_isDone 17 = .ok (.istore_n 3, 1) := by decide +kernel
theorem dL_isDone_18 : decode cL_isDone 18 = .ok (.iload_n 1, 1) := by decide +kernel
theorem dL_isDone_19 : decode cL_isDone 19 = .ok (.bipush 6, 2) := by decide +kernel
theorem dL_isDone_21 : decode cL_isDone 21 = .ok (.ishr, 1) := by decide +kernel
theorem dL_isDone_22 : decode cL_isDone 22 = .ok (.aload_n 0, 1) := by decide +kernel
theorem dL_isDone_23 : decode cL_isDone 23 = .ok (.iconst 1, 1) := by decide +kernel
theorem dL_isDone_24 : decode cL_isDone 24 = .ok (.invokevirtual 46, 3) := by decide +kernel
theorem dL_isDone_27 : decode cL_isDone 27 = .ok (.invokestatic 18, 3) := by decide +kernel
theorem dL_isDone_30 : decode cL_isDone 30 = .ok (.istore 4, 2) := by decide +kernel
theorem dL_isDone_32 : decode cL_isDone 32 = .ok (.iload_n 1, 1) := by decide +kernel
theorem dL_isDone_33 : decode cL_isDone 33 = .ok (.bipush 11, 2) := by decide +kernel
theorem dL_isDone_35 : decode cL_isDone 35 = .ok (.invokestatic 18, 3) := by decide +kernel
theorem dL_isDone_38 : decode cL_isDone 38 = .ok (.tableswitch 198 0 8 #[50, 50, 50, 59, 68, 97, 115, 135, 145], 50) := by decide +kernel
theorem dL_isDone_88 : decode cL_isDone 88 = .ok (.aload_n 0, 1) := by decide +kernel
theorem dL_isDone_89 : decode cL_isDone 89 = .ok (.iload_n 3, 1) := by decide +kernel
theorem dL_isDone_90 : decode cL_isDone 90 = .ok (.invokevirtual 63, 3) := by decide +kernel
theorem dL_isDone_93 : decode cL_isDone 93 = .ok (.pop, 1) := by decide +kernel
theorem dL_isDone_94 : decode cL_isDone 94 = .ok (.goto 156, 3) := by decide +kernel
theorem dL_isDone_97 : decode cL_isDone 97 = .ok (.aload_n 0, 1) := by decide +kernel
theorem dL_isDone_98 : decode cL_isDone 98 = .ok (.iload_n 3, 1) := by decide +kernel
theorem dL_isDone_99 : decode cL_isDone 99 = .ok (.invokevirtual 66, 3) := by decide +kernel
theorem dL_isDone_102 : decode cL_isDone 102 = .ok (.pop, 1) := by decide +kernel
theorem dL_isDone_103 : decode cL_isDone 103 = .ok (.goto 147, 3) := by decide +kernel
theorem dL_isDone_106 : decode cL_isDone 106 = .ok (.aload_n 0, 1) := by decide +kernel
theorem dL_isDone_107 : decode cL_isDone 107 = .ok (.iload 4, 2) := by decide +kernel
theorem dL_isDone_109 : decode cL_isDone 109 = .ok (.sipush 365, 3) := by decide +kernel
theorem dL_isDone_112 : decode cL_isDone 112 = .ok (.aload_n 0, 1) := by decide +kernel
theorem dL_isDone_113 : decode cL_isDone 113 = .ok (.iconst 0, 1) := by decide +kernel
theorem dL_isDone_114 : decode cL_isDone 114 = .ok (.invokevirtual 46, 3) := by decide +kernel
theorem dL_isDone_117 : decode cL_isDone 117 = .ok (.iload_n 1, 1) := by decide +kernel
theorem dL_isDone_118 : decode cL_isDone 118 = .ok (.iconst 3, 1) := by decide +kernel
theorem dL_isDone_119 : decode cL_isDone 119 = .ok (.ishr, 1) := by decide +kernel
theorem dL_isDone_120 : decode cL_isDone 120 = .ok (.iconst 4, 1) := by decide +kernel
theorem dL_isDone_121 : decode cL_isDone 121 = .ok (.invokestatic 18, 3) := by decide +kernel
theorem dL_isDone_124 : decode cL_isDone 124 = .ok (.iadd, 1) := by decide +kernel
theorem dL_isDone_125 : decode cL_isDone 125 = .ok (.invokestatic 49, 3) := by decide +kernel
theorem dL_isDone_128 : decode cL_isDone 128 = .ok (.invokevirtual 69, 3) := by decide +kernel
theorem dL_isDone_131 : decode cL_isDone 131 = .ok (.pop, 1) := by decide +kernel
theorem dL_isDone_132 : decode cL_isDone 132 = .ok (.goto 118, 3) := by decide +kernel
theorem dL_isDone_135 : decode cL_isDone 135 = .ok (.aload_n 0, 1) := by decide +kernel
theorem dL_isDone_136 : decode cL_isDone 136 = .ok (.iload_n 3, 1) := by decide +kernel
theorem dL_isDone_137 : decode cL_isDone 137 = .ok (.iload_n 1, 1) := by decide +kernel
theorem dL_isDone_138 : decode cL_isDone 138 = .ok (.iconst 5, 1) := by decide +kernel
theorem dL_isDone_139 : decode cL_isDone 139 = .ok (.ishr, 1) := by decide +kernel
theorem dL_isDone_140 : decode cL_isDone 140 = .ok (.sipush 241, 3) := by decide +kernel
theorem dL_isDone_143 : decode cL_isDone 143 = .ok (.invokestatic 18, 3) := by decide +kernel
theorem dL_isDone_146 : decode cL_isDone 146 = .ok (.invokevirtual 72, 3) := by decide +kernel
theorem dL_isDone_149 : decode cL_isDone 149 = .ok (.pop, 1) := by decide +kernel
theorem dL_isDone_150 : decode cL_isDone 150 = .ok (.goto 100, 3) := by decide +kernel
theorem dL_isDone_153 : decode cL_isDone 153 = .ok (.aload_n 0, 1) := by decide +kernel
theorem dL_isDone_154 : decode cL_isDone 154 = .ok (.iload 4, 2) := by decide +kernel
theorem dL_isDone_156 : decode cL_isDone 156 = .ok (.iconst 1, 1) := by decide +kernel
theorem dL_isDone_157 : decode cL_isDone 157 = .ok (.iload_n 1, 1) := by decide +kernel
theorem dL_isDone_158 : decode cL_isDone 158 = .ok (.iconst 3, 1) := by decide +kernel
theorem dL_isDone_159 : decode cL_isDone 159 = .ok (.ishr, 1) := by decide +kernel
theorem dL_isDone_160 : decode cL_isDone 160 = .ok (.bipush 16, 2) := by decide +kernel
theorem dL_isDone_162 : decode cL_isDone 162 = .ok (.invokestatic 18, 3) := by decide +kernel
theorem dL_isDone_165 : decode cL_isDone 165 = .ok (.ishl, 1) := by decide +kernel
theorem dL_isDone_166 : decode cL_isDone 166 = .ok (.invokevirtual 75, 3) := by decide +kernel
theorem dL_isDone_169 : decode cL_isDone 169 = .ok (.pop, 1) := by decide +kernel
theorem dL_isDone_170 : decode cL_isDone 170 = .ok (.goto 80, 3) := by decide +kernel
theorem dL_isDone_173 : decode cL_isDone 173 = .ok (.aload_n 0, 1) := by decide +kernel
theorem dL_isDone_174 : decode cL_isDone 174 = .ok (.iload_n 1, 1) := by decide +kernel
theorem dL_isDone_175 : decode cL_isDone 175 = .ok (.iconst 3, 1) := by decide +kernel
theorem dL_isDone_176 : decode cL_isDone 176 = .ok (.ishr, 1) := by decide +kernel
theorem dL_isDone_177 : decode cL_isDone 177 = .ok (.invokestatic 42, 3) := by decide +kernel
theorem dL_isDone_180 : decode cL_isDone 180 = .ok (.goto 70, 3) := by decide +kernel
theorem dL_isDone_183 : decode cL_isDone 183 = .ok (.iload_n 1, 1) := by decide +kernel
theorem dL_isDone_184 : decode cL_isDone 184 = .ok (.bipush 9, 2) := by decide +kernel
theorem dL_isDone_186 : decode cL_isDone 186 = .ok (.ishr, 1) := by decide +kernel
theorem dL_isDone_187 : decode cL_isDone 187 = .ok (.bipush 6, 2) := by decide +kernel
theorem dL_isDone_189 : decode cL_isDone 189 = .ok (.invokestatic 18, 3) := by decide +kernel
theorem dL_isDone_192 : decode cL_isDone 192 = .ok (.iload_n 1, 1) := by decide +kernel
theorem dL_isDone_193 : decode cL_isDone 193 = .ok (.iconst 5, 1) := by decide +kernel
theorem dL_isDone_194 : decode cL_isDone 194 = .ok (.ishr, 1) := by decide +kernel
theorem dL_isDone_195 : decode cL_isDone 195 = .ok (.bipush 6, 2) := by decide +kernel
theorem dL_isDone_197 : decode cL_isDone 197 = .ok (.invokestatic 18, 3) := by decide +kernel
theorem dL_isDone_200 : decode cL_isDone 200 = .ok (.if_icmp .eq 50, 3) := by decide +kernel
theorem dL_isDone_203 : decode cL_isDone 203 = .ok (.aload_n 0, 1) := by decide +kernel
theorem dL_isDone_204 : decode cL_isDone 204 = .ok (.iload_n 1, 1) := by decide +kernel
theorem dL_isDone_205 : decode cL_isDone 205 = .ok (.bipush 9, 2) := by decide +kernel
theorem dL_isDone_207 : decode cL_isDone 207 = .ok (.ishr, 1) := by decide +kernel
theorem dL_isDone_208 : decode cL_isDone 208 = .ok (.bipush 6, 2) := by decide +kernel
theorem dL_isDone_210 : decode cL_isDone 210 = .ok (.invokestatic 18, 3) := by decide +kernel
theorem dL_isDone_213 : decode cL_isDone 213 = .ok (.iload_n 1, 1) := by decide +kernel
theorem dL_isDone_214 : decode cL_isDone 214 = .ok (.iconst 5, 1) := by decide +kernel
theorem dL_isDone_215 : decode cL_isDone 215 = .ok (.ishr, 1) := by decide +kernel
theorem dL_isDone_216 : decode cL_isDone 216 = .ok (.bipush 6, 2) := by decide +kernel
theorem dL_isDone_218 : decode cL_isDone 218 = .ok (.invokestatic 18, 3) := by decide +kernel
theorem dL_isDone_221 : decode cL_isDone 221 = .ok (.iload_n 1, 1) := by decide +kernel
theorem dL_isDone_222 : decode cL_isDone 222 = .ok (.iconst 3, 1) := by decide +kernel
theorem dL_isDone_223 : decode cL_isDone 223 = .ok (.ishr, 1) := by decide +kernel
theorem dL_isDone_224 : decode cL_isDone 224 = .ok (.bipush 8, 2) := by decide +kernel
theorem dL_isDone_226 : decode cL_isDone 226 = .ok (.invokestatic 18, 3) := by decide +kernel
theorem dL_isDone_229 : decode cL_isDone 229 = .ok (.invokevirtual 22, 3) := by decide +kernel
theorem dL_isDone_232 : decode cL_isDone 232 = .ok (.pop, 1) := by decide +kernel
theorem dL_isDone_233 : decode cL_isDone 233 = .ok (.goto 17, 3) := by decide +kernel
theorem dL_isDone_236 : decode cL_isDone 236 = .ok (.aload_n 0, 1) := by decide +kernel
theorem dL_isDone_237 : decode cL_isDone 237 = .ok (.iconst 1, 1) := by decide +kernel
theorem dL_isDone_238 : decode cL_isDone 238 = .ok (.iload_n 1, 1) := by decide +kernel
theorem dL_isDone_239 : decode cL_isDone 239 = .ok (.iconst 4, 1) := by decide +kernel
theorem dL_isDone_240 : decode cL_isDone 240 = .ok (.ishr, 1) := by decide +kernel
theorem dL_isDone_241 : decode cL_isDone 241 = .ok (.iconst 2, 1) := by decide +kernel
theorem dL_isDone_242 : decode cL_isDone 242 = .ok (.invokestatic 18, 3) := by decide +kernel
theorem dL_isDone_245 : decode cL_isDone 245 = .ok (.iadd, 1) := by decide +kernel
theorem dL_isDone_246 : decode cL_isDone 246 = .ok (.invokevirtual 78, 3) := by decide +kernel
theorem dL_isDone_249 : decode cL_isDone 249 = .ok (.pop, 1) := by decide +kernel
theorem dL_isDone_250 : decode cL_isDone 250 = .ok (.iconst 1, 1) := by decide +kernel
theorem dL_isDone_251 : decode cL_isDone 251 = .ok (.ireturn, 1) := by decide +kernel
theorem dL_isDone_252 : decode cL_isDone 252 = .ok (.astore 5, 2) := by decide +kernel
theorem dL_isDone_254 : decode cL_isDone 254 = .ok (.iconst 0, 1) := by decide +kernel
theorem dL_isDone_255 : decode cL_isDone 255 = .ok (.ireturn, 1) := by decide +kernel
theorem dL_isDone_256 : decode cL_isDone 256 = .ok (.astore 5, 2) := by decide +kernel
theorem dL_isDone_258 : decode cL_isDone 258 = .ok (.iload_n 2, 1) := by decide +kernel
theorem dL_isDone_259 : decode cL_isDone 259 = .ok (.ifCond .ne 7, 3) := by decide +kernel
theorem dL_isDone_262 : decode cL_isDone 262 = .ok (.iconst 1, 1) := by decide +kernel
theorem dL_isDone_263 : decode cL_isDone 263 = .ok (.goto 4, 3) := by decide +kernel
theorem dL_isDone_266 : decode cL_isDone 266 = .ok (.iconst 0, 1) := by decide +kernel
theorem dL_isDone_267 : decode cL_isDone 267 = .ok (.ireturn, 1) := by decide +kernel
