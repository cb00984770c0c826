set_option maxRecDepth 20000 in
theorem zz_L_isDone_0 : GoodIn wsL_law wsL_isDone_r1 := goodIn_r _ [206, 463, 464, 243, 150, 244, 207, 149, 151, 208, 209, 210, 7, 211, 130, 131, 31, 28, 29, 30, 32, 212, 213, 214] (by decide +kernel) (by decide +kernel)
set_option maxRecDepth 20000 in
theorem zz_L_isDone_1 : GoodIn wsL_law wsL_isDone_r2 := goodIn_r _ [215, 22, 216, 217, 218, 219, 220, 16, 174, 221, 222, 223, 224, 225, 226, 227, 228, 229, 230, 231, 232, 233, 234, 235] (by decide +kernel) (by decide +kernel)
set_option maxRecDepth 20000 in
theorem zz_L_isDone_2 : GoodIn wsL_law wsL_isDone_r3 := goodIn_r _ [236, 27, 237, 238, 239, 240, 241, 242, 245, 122, 123, 3, 124, 125, 465, 466, 467, 468, 160, 161, 39, 317, 315, 319] (by decide +kernel) (by decide +kernel)
set_option maxRecDepth 20000 in
theorem zz_L_isDone_3 : GoodIn wsL_law wsL_isDone_r4 := goodIn_r _ [316, 324, 327, 328, 329, 330, 135, 136, 469, 470, 471, 472, 331, 332, 333, 334, 335, 336, 337, 338, 250, 251, 344, 345] (by decide +kernel) (by decide +kernel)
set_option maxRecDepth 20000 in
theorem zz_L_isDone_4 : GoodIn wsL_law wsL_isDone_r5 := goodIn_r _ [346, 347, 348, 349, 350, 351, 33, 352, 353, 354, 355, 356, 357, 358, 359, 26, 164, 252, 179, 180, 181, 152, 153, 154] (by decide +kernel) (by decide +kernel)
set_option maxRecDepth 20000 in
theorem zz_L_isDone_5 : GoodIn wsL_law wsL_isDone_r6 := goodIn_r _ [25, 155, 58, 360, 361, 362, 363, 253, 254, 364, 365, 366, 367, 20, 306, 35, 255, 318, 368, 369, 370, 38, 371, 62] (by decide +kernel) (by decide +kernel)
set_option maxRecDepth 20000 in
theorem zz_L_isDone_6 : GoodIn wsL_law wsL_isDone_r7 := goodIn_r _ [63, 64, 65, 66, 67, 372, 373, 374, 375, 376, 377, 378, 379, 162, 380, 381, 382, 383, 384, 163, 385, 386, 387, 388] (by decide +kernel) (by decide +kernel)
set_option maxRecDepth 20000 in
theorem zz_L_isDone_7 : GoodIn wsL_law wsL_isDone_r8 := goodIn_r _ [389, 390, 391, 392, 393, 394, 395, 396, 165, 397, 398, 399, 400, 473, 474, 475, 476, 477, 478, 479, 480, 481, 482, 483] (by decide +kernel) (by decide +kernel)
set_option maxRecDepth 20000 in
theorem zz_L_isDone_8 : GoodIn wsL_law wsL_isDone_r9 := goodIn_r _ [326, 484, 485, 486, 487, 488, 489, 490, 491, 492, 493, 494, 495, 175, 176, 177, 178, 496, 497, 498, 499, 500, 501, 502] (by decide +kernel) (by decide +kernel)
set_option maxRecDepth 20000 in
theorem zz_L_isDone_9 : GoodIn wsL_law wsL_isDone_r10 := goodIn_r _ [503, 284, 285, 286, 51, 287, 113, 114, 504, 505, 506, 507, 508, 509, 510, 511, 325, 339, 340, 341, 342, 116, 109, 110] (by decide +kernel) (by decide +kernel)
set_option maxRecDepth 20000 in
theorem zz_L_isDone_10 : GoodIn wsL_law wsL_isDone_r11 := goodIn_r _ [343, 512, 513, 514, 515, 166, 167, 168, 169, 203, 204, 205, 246, 247, 248, 249, 256, 257, 258, 259, 260, 132, 133, 134] (by decide +kernel) (by decide +kernel)
set_option maxRecDepth 20000 in
theorem zz_L_isDone_11 : GoodIn wsL_law wsL_isDone_r12 := goodIn_r _ [137, 138, 139, 261, 262, 263, 264, 265, 266, 267, 126, 127, 128, 129, 140, 141, 142, 143, 57, 144, 145, 146, 147, 148] (by decide +kernel) (by decide +kernel)
set_option maxRecDepth 20000 in
theorem zz_L_isDone_12 : GoodIn wsL_law wsL_isDone_r13 := goodIn_r _ [516, 517, 518, 519, 520, 521, 522, 523, 524, 525, 526, 527, 279, 43, 18, 406, 528, 292, 529, 530, 531, 532, 533, 534] (by decide +kernel) (by decide +kernel)
set_option maxRecDepth 20000 in
theorem zz_L_isDone_13 : GoodIn wsL_law wsL_isDone_r14 := goodIn_r _ [535, 536, 407, 408, 409, 42, 410, 77, 74, 76, 75, 411, 73, 412, 413, 414, 415, 416, 417, 418, 419, 47, 420, 96] (by decide +kernel) (by decide +kernel)
set_option maxRecDepth 20000 in
theorem zz_L_isDone_14 : GoodIn wsL_law wsL_isDone_r15 := goodIn_r _ [421, 422, 423, 424, 425, 426, 427, 428, 429, 430, 431, 72, 71, 537, 538, 539, 540] (by decide +kernel) (by decide +kernel)
set_option maxRecDepth 20000 in
theorem zx_L_isDone_X7 : GoodIn wsL_law wsX70 := goodIn_r _ [553, 554, 555, 556, 557, 558, 559, 560, 561, 562, 563, 564, 565, 566, 567] (by decide +kernel) (by decide +kernel)
set_option maxRecDepth 20000 in
theorem zx_L_isDone_X6 : GoodIn wsL_law wsX60 := goodIn_r _ [598, 599, 600, 601, 602, 603, 604, 605, 606, 607, 608, 609] (by decide +kernel) (by decide +kernel)
set_option maxRecDepth 20000 in
theorem zx_L_isDone_X3 : GoodIn wsL_law wsX30 := goodIn_r _ [583, 584, 585, 586, 587, 588, 589, 590] (by decide +kernel) (by decide +kernel)
set_option maxRecDepth 20000 in
theorem zx_L_isDone_X2 : GoodIn wsL_law wsX20 := goodIn_r _ [570, 571, 572, 573, 574, 575] (by decide +kernel) (by decide +kernel)
set_option maxRecDepth 20000 in
theorem zx_L_isDone_X4 : GoodIn wsL_law wsX40 := goodIn_r _ [568, 569] (by decide +kernel) (by decide +kernel)
set_option maxRecDepth 20000 in
theorem zx_L_isDone_X0 : GoodIn wsL_law wsX00 := goodIn_r _ [595, 596, 597] (by decide +kernel) (by decide +kernel)
set_option maxRecDepth 20000 in
theorem zx_L_isDone_X1 : GoodIn wsL_law wsX10 := goodIn_r _ [576, 577, 578, 579, 580, 581, 582] (by decide +kernel) (by decide +kernel)
set_option maxRecDepth 20000 in
theorem zx_L_isDone_X5 : GoodIn wsL_law wsX50 := goodIn_r _ [591, 592, 593, 594] (by decide +kernel) (by decide +kernel)
set_option maxRecDepth 20000 in
theorem zz_L_isDone_c : GoodIn wsL_law [Cond.codeWith yL_isDone cL_isDone 6 (some .boolean) [(32, 251, 252, 58), (32, 251, 256, 81)]] := goodIn_r _ [462] (by decide +kernel) (by decide +kernel)
set_option maxRecDepth 20000 in
theorem zz_L_isDone : GoodIn wsL_law (Cond.codeWith yL_isDone cL_isDone 6 (some .boolean) [(32, 251, 252, 58), (32, 251, 256, 81)] :: ((wsL_isDone_r1 ++ (wsL_isDone_r2 ++ (wsL_isDone_r3 ++ (wsL_isDone_r4 ++ (wsL_isDone_r5 ++ (wsL_isDone_r6 ++ (wsL_isDone_r7 ++ (wsL_isDone_r8 ++ (wsL_isDone_r9 ++ (wsL_isDone_r10 ++ (wsL_isDone_r11 ++ (wsL_isDone_r12 ++ (wsL_isDone_r13 ++ (wsL_isDone_r14 ++ (wsL_isDone_r15))))))))))))))) ++ wsX70 ++ wsX60 ++ wsX30 ++ wsX20 ++ wsX40 ++ wsX00 ++ wsX10 ++ wsX50)) := goodIn_app zz_L_isDone_c (goodIn_app (goodIn_app (goodIn_app (goodIn_app (goodIn_app (goodIn_app (goodIn_app (goodIn_app (goodIn_app zz_L_isDone_0 (goodIn_app zz_L_isDone_1 (goodIn_app zz_L_isDone_2 (goodIn_app zz_L_isDone_3 (goodIn_app zz_L_isDone_4 (goodIn_app zz_L_isDone_5 (goodIn_app zz_L_isDone_6 (goodIn_app zz_L_isDone_7 (goodIn_app zz_L_isDone_8 (goodIn_app zz_L_isDone_9 (goodIn_app zz_L_isDone_10 (goodIn_app zz_L_isDone_11 (goodIn_app zz_L_isDone_12 (goodIn_app zz_L_isDone_13 (zz_L_isDone_14))))))))))))))) zx_L_isDone_X7) zx_L_isDone_X6) zx_L_isDone_X3) zx_L_isDone_X2) zx_L_isDone_X4) zx_L_isDone_X0) zx_L_isDone_X1) zx_L_isDone_X5)
set_option maxRecDepth 20000 in
theorem ggL_law_L_isDone : GoodIn wsL_law wsL_isDone := goodIn_ca (goodIn_ca (goodIn_ca (zz_L_isDone) (goodIn_sub (fun _ h => List.mem_append_left _ (List.mem_append_left _ (List.mem_append_right _ h))) (by decide +kernel))) (goodIn_sub (fun _ h => List.mem_append_right _ h) (by decide +kernel))) (goodIn_sub (fun _ h => List.mem_append_left _ (List.mem_append_right _ h)) (by decide +kernel))
set_option maxRecDepth 20000 in
theorem gL_law_L_isDone : GoodIn wsL_law (va_wsS RL 91 yL_isDone wsL_isDone) := goodIn_app (goodIn_of _ (by decide +kernel)) ggL_law_L_isDone
