set_option maxRecDepth 20000 in
theorem zz_X7_digest_0 : GoodIn wsL_law wsX7_digest_r1 := goodIn_r _ [272, 273, 28, 29, 30, 274, 209, 210, 7, 211, 130, 131, 31, 32, 212, 213, 214, 215, 22, 216, 217, 218, 219, 220] (by decide +kernel) (by decide +kernel)
set_option maxRecDepth 20000 in
theorem zz_X7_digest_1 : GoodIn wsL_law wsX7_digest_r2 := goodIn_r _ [16, 174, 221, 222, 223, 224, 225, 226, 227, 228, 229, 230, 231, 232, 233, 234, 235, 236, 27, 237, 238, 239, 240, 241] (by decide +kernel) (by decide +kernel)
set_option maxRecDepth 20000 in
theorem zz_X7_digest_2 : GoodIn wsL_law wsX7_digest_r3 := goodIn_r _ [242, 243, 150, 244, 245, 149, 151, 275, 276, 277, 278, 162, 163, 164, 165, 279, 175, 176, 177, 178, 135, 136, 280, 281] (by decide +kernel) (by decide +kernel)
set_option maxRecDepth 20000 in
theorem zz_X7_digest_3 : GoodIn wsL_law wsX7_digest_r4 := goodIn_r _ [282, 283, 284, 285, 286, 51, 287, 113, 114, 180, 181, 288, 289, 290, 291, 18, 198, 199, 197, 292, 200, 201, 202, 293] (by decide +kernel) (by decide +kernel)
set_option maxRecDepth 20000 in
theorem zz_X7_digest_4 : GoodIn wsL_law wsX7_digest_r5 := goodIn_r _ [294, 295, 296, 297, 298, 299, 300, 179, 301, 302, 303, 304, 20, 305, 306, 257, 258, 259, 260, 307, 308, 309, 310, 250] (by decide +kernel) (by decide +kernel)
set_option maxRecDepth 20000 in
theorem zz_X7_digest_5 : GoodIn wsL_law wsX7_digest_r6 := goodIn_r _ [311, 312, 313, 314, 39, 315, 316, 317, 318, 319, 320, 321, 322, 323, 251, 252, 253, 254, 255, 324, 325, 326, 327, 328] (by decide +kernel) (by decide +kernel)
set_option maxRecDepth 20000 in
theorem zz_X7_digest_6 : GoodIn wsL_law wsX7_digest_r7 := goodIn_r _ [329, 330, 331, 332, 333, 334, 335, 336, 337, 338, 339, 340, 341, 342, 116, 109, 110, 343, 344, 345, 346, 347, 348, 349] (by decide +kernel) (by decide +kernel)
set_option maxRecDepth 20000 in
theorem zz_X7_digest_7 : GoodIn wsL_law wsX7_digest_r8 := goodIn_r _ [350, 351, 33, 352, 353, 354, 355, 356, 357, 358, 359, 26, 152, 153, 154, 25, 155, 58, 360, 361, 362, 363, 364, 365] (by decide +kernel) (by decide +kernel)
set_option maxRecDepth 20000 in
theorem zz_X7_digest_8 : GoodIn wsL_law wsX7_digest_r9 := goodIn_r _ [366, 367, 35, 368, 369, 370, 38, 371, 62, 63, 64, 65, 66, 67, 372, 373, 374, 375, 376, 377, 378, 379, 380, 381] (by decide +kernel) (by decide +kernel)
set_option maxRecDepth 20000 in
theorem zz_X7_digest_9 : GoodIn wsL_law wsX7_digest_r10 := goodIn_r _ [382, 383, 384, 385, 386, 387, 388, 389, 390, 391, 392, 393, 394, 395, 396, 397, 398, 399, 400, 401, 402, 403, 404, 43] (by decide +kernel) (by decide +kernel)
set_option maxRecDepth 20000 in
theorem zz_X7_digest_10 : GoodIn wsL_law wsX7_digest_r11 := goodIn_r _ [405, 406, 407, 408, 409, 42, 410, 77, 74, 76, 75, 411, 73, 412, 413, 414, 415, 416, 417, 418, 419, 47, 420, 96] (by decide +kernel) (by decide +kernel)
set_option maxRecDepth 20000 in
theorem zz_X7_digest_11 : GoodIn wsL_law wsX7_digest_r12 := goodIn_r _ [421, 422, 423, 424, 425, 426, 427, 428, 429, 430, 431, 72, 71, 432, 433, 434, 435, 132, 133, 134, 137, 138, 139, 436] (by decide +kernel) (by decide +kernel)
set_option maxRecDepth 20000 in
theorem zz_X7_digest_12 : GoodIn wsL_law wsX7_digest_r13 := goodIn_r _ [437, 438, 439, 440, 441, 442, 443, 444, 445, 446, 447, 448, 449, 450, 451, 452, 453, 454, 455, 456, 457, 458, 459] (by decide +kernel) (by decide +kernel)
set_option maxRecDepth 20000 in
theorem zx_X7_digest_X7 : GoodIn wsL_law wsX70 := goodIn_r _ [553, 554, 555, 556, 557, 558, 559, 560, 561, 562, 563, 564, 565, 566, 567] (by decide +kernel) (by decide +kernel)
set_option maxRecDepth 20000 in
theorem zx_X7_digest_X6 : GoodIn wsL_law wsX60 := goodIn_r _ [598, 599, 600, 601, 602, 603, 604, 605, 606, 607, 608, 609] (by decide +kernel) (by decide +kernel)
set_option maxRecDepth 20000 in
theorem zx_X7_digest_X3 : GoodIn wsL_law wsX30 := goodIn_r _ [583, 584, 585, 586, 587, 588, 589, 590] (by decide +kernel) (by decide +kernel)
set_option maxRecDepth 20000 in
theorem zx_X7_digest_X5 : GoodIn wsL_law wsX50 := goodIn_r _ [591, 592, 593, 594] (by decide +kernel) (by decide +kernel)
set_option maxRecDepth 20000 in
theorem zx_X7_digest_X0 : GoodIn wsL_law wsX00 := goodIn_r _ [595, 596, 597] (by decide +kernel) (by decide +kernel)
set_option maxRecDepth 20000 in
theorem zx_X7_digest_X2 : GoodIn wsL_law wsX20 := goodIn_r _ [570, 571, 572, 573, 574, 575] (by decide +kernel) (by decide +kernel)
set_option maxRecDepth 20000 in
theorem zx_X7_digest_X4 : GoodIn wsL_law wsX40 := goodIn_r _ [568, 569] (by decide +kernel) (by decide +kernel)
set_option maxRecDepth 20000 in
theorem zx_X7_digest_X1 : GoodIn wsL_law wsX10 := goodIn_r _ [576, 577, 578, 579, 580, 581, 582] (by decide +kernel) (by decide +kernel)
set_option maxRecDepth 20000 in
theorem zz_X7_digest_c : GoodIn wsL_law [Cond.code yX7_digest cX7_digest 5 (some .long)] := goodIn_r _ [271] (by decide +kernel) (by decide +kernel)
set_option maxRecDepth 20000 in
theorem zz_X7_digest : GoodIn wsL_law (Cond.code yX7_digest cX7_digest 5 (some .long) :: ((wsX7_digest_r1 ++ (wsX7_digest_r2 ++ (wsX7_digest_r3 ++ (wsX7_digest_r4 ++ (wsX7_digest_r5 ++ (wsX7_digest_r6 ++ (wsX7_digest_r7 ++ (wsX7_digest_r8 ++ (wsX7_digest_r9 ++ (wsX7_digest_r10 ++ (wsX7_digest_r11 ++ (wsX7_digest_r12 ++ (wsX7_digest_r13))))))))))))) ++ wsX70 ++ wsX60 ++ wsX30 ++ wsX50 ++ wsX00 ++ wsX20 ++ wsX40 ++ wsX10)) := goodIn_app zz_X7_digest_c (goodIn_app (goodIn_app (goodIn_app (goodIn_app (goodIn_app (goodIn_app (goodIn_app (goodIn_app (goodIn_app zz_X7_digest_0 (goodIn_app zz_X7_digest_1 (goodIn_app zz_X7_digest_2 (goodIn_app zz_X7_digest_3 (goodIn_app zz_X7_digest_4 (goodIn_app zz_X7_digest_5 (goodIn_app zz_X7_digest_6 (goodIn_app zz_X7_digest_7 (goodIn_app zz_X7_digest_8 (goodIn_app zz_X7_digest_9 (goodIn_app zz_X7_digest_10 (goodIn_app zz_X7_digest_11 (zz_X7_digest_12))))))))))))) zx_X7_digest_X7) zx_X7_digest_X6) zx_X7_digest_X3) zx_X7_digest_X5) zx_X7_digest_X0) zx_X7_digest_X2) zx_X7_digest_X4) zx_X7_digest_X1)
set_option maxRecDepth 20000 in
theorem ggL_law_X7_digest : GoodIn wsL_law wsX7_digest := goodIn_ca (goodIn_ca (zz_X7_digest) (goodIn_sub (fun _ h => List.mem_append_left _ (List.mem_append_left _ (List.mem_append_right _ h))) (by decide +kernel))) (goodIn_sub (fun _ h => List.mem_append_left _ (List.mem_append_right _ h)) (by decide +kernel))
set_option maxRecDepth 20000 in
theorem gL_law_X7_digest : GoodIn wsL_law (wsV RL 87 RX7 yX7_digest wsX7_digest) := goodIn_app (goodIn_of _ (by decide +kernel)) ggL_law_X7_digest
