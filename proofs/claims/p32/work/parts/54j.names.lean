set_option maxRecDepth 20000 in
theorem zz_L_isSo_0 : GoodIn wsL_law wsL_isSo_r1 := goodIn_r _ [208, 209, 210, 7, 211, 130, 131, 31, 28, 29, 30, 32, 212, 213, 214, 215, 22, 216, 217, 218, 219, 220, 16, 174] (by decide +kernel) (by decide +kernel)
set_option maxRecDepth 20000 in
theorem zz_L_isSo_1 : GoodIn wsL_law wsL_isSo_r2 := goodIn_r _ [221, 222, 223, 224, 225, 226, 227, 228, 229, 230, 231, 232, 233, 234, 235, 236, 27, 237, 238, 239, 240, 241, 242, 243] (by decide +kernel) (by decide +kernel)
set_option maxRecDepth 20000 in
theorem zz_L_isSo_2 : GoodIn wsL_law wsL_isSo_r3 := goodIn_r _ [150, 244, 245, 149, 151, 542, 321, 322, 323, 250, 251, 252, 253, 254, 255, 319, 324, 325, 326, 327, 328, 329, 330, 135] (by decide +kernel) (by decide +kernel)
set_option maxRecDepth 20000 in
theorem zz_L_isSo_3 : GoodIn wsL_law wsL_isSo_r4 := goodIn_r _ [136, 331, 332, 333, 334, 335, 336, 337, 338, 339, 340, 341, 51, 342, 116, 109, 110, 343, 546, 302, 303, 304, 20, 305] (by decide +kernel) (by decide +kernel)
set_option maxRecDepth 20000 in
theorem zz_L_isSo_4 : GoodIn wsL_law wsL_isSo_r5 := goodIn_r _ [306, 257, 258, 259, 260, 307, 308, 309, 310, 547, 276, 277, 278, 162, 163, 164, 165, 279, 175, 176, 177, 178, 280, 281] (by decide +kernel) (by decide +kernel)
set_option maxRecDepth 20000 in
theorem zz_L_isSo_5 : GoodIn wsL_law wsL_isSo_r6 := goodIn_r _ [282, 283, 284, 285, 286, 287, 113, 114, 180, 181, 548, 549, 3, 550, 551, 541, 289, 290, 291, 18, 198, 199, 197, 292] (by decide +kernel) (by decide +kernel)
set_option maxRecDepth 20000 in
theorem zz_L_isSo_6 : GoodIn wsL_law wsL_isSo_r7 := goodIn_r _ [200, 201, 202, 293, 294, 295, 296, 297, 298, 299, 300, 179] (by decide +kernel) (by decide +kernel)
set_option maxRecDepth 20000 in
theorem zx_L_isSo_X7 : GoodIn wsL_law wsX70 := goodIn_r _ [553, 554, 555, 556, 557, 558, 559, 560, 561, 562, 563, 564, 565, 566, 567] (by decide +kernel) (by decide +kernel)
set_option maxRecDepth 20000 in
theorem zx_L_isSo_X6 : GoodIn wsL_law wsX60 := goodIn_r _ [598, 599, 600, 601, 602, 603, 604, 605, 606, 607, 608, 609] (by decide +kernel) (by decide +kernel)
set_option maxRecDepth 20000 in
theorem zx_L_isSo_X3 : GoodIn wsL_law wsX30 := goodIn_r _ [583, 584, 585, 586, 587, 588, 589, 590] (by decide +kernel) (by decide +kernel)
set_option maxRecDepth 20000 in
theorem zx_L_isSo_X0 : GoodIn wsL_law wsX00 := goodIn_r _ [595, 596, 597] (by decide +kernel) (by decide +kernel)
set_option maxRecDepth 20000 in
theorem zx_L_isSo_X5 : GoodIn wsL_law wsX50 := goodIn_r _ [591, 592, 593, 594] (by decide +kernel) (by decide +kernel)
set_option maxRecDepth 20000 in
theorem zz_L_isSo_c : GoodIn wsL_law [Cond.code yL_isSo cL_isSo 10 (some .boolean)] := goodIn_r _ [545] (by decide +kernel) (by decide +kernel)
set_option maxRecDepth 20000 in
theorem zz_L_isSo : GoodIn wsL_law (Cond.code yL_isSo cL_isSo 10 (some .boolean) :: ((wsL_isSo_r1 ++ (wsL_isSo_r2 ++ (wsL_isSo_r3 ++ (wsL_isSo_r4 ++ (wsL_isSo_r5 ++ (wsL_isSo_r6 ++ (wsL_isSo_r7))))))) ++ wsX70 ++ wsX60 ++ wsX30 ++ wsX00 ++ wsX50)) := goodIn_app zz_L_isSo_c (goodIn_app (goodIn_app (goodIn_app (goodIn_app (goodIn_app (goodIn_app zz_L_isSo_0 (goodIn_app zz_L_isSo_1 (goodIn_app zz_L_isSo_2 (goodIn_app zz_L_isSo_3 (goodIn_app zz_L_isSo_4 (goodIn_app zz_L_isSo_5 (zz_L_isSo_6))))))) zx_L_isSo_X7) zx_L_isSo_X6) zx_L_isSo_X3) zx_L_isSo_X0) zx_L_isSo_X5)
set_option maxRecDepth 20000 in
theorem ggL_law_L_isSo : GoodIn wsL_law wsL_isSo := goodIn_ca (goodIn_ca (zz_L_isSo) (goodIn_sub (fun _ h => List.mem_append_left _ (List.mem_append_left _ (List.mem_append_right _ h))) (by decide +kernel))) (goodIn_sub (fun _ h => List.mem_append_left _ (List.mem_append_right _ h)) (by decide +kernel))
set_option maxRecDepth 20000 in
theorem gL_law_L_isSo : GoodIn wsL_law (va_wsS RL 101 yL_isSo wsL_isSo) := goodIn_app (goodIn_of _ (by decide +kernel)) ggL_law_L_isSo
set_option maxRecDepth 20000 in
theorem ggL_law_X7_isSound : GoodIn wsL_law wsX7_isSound := goodIn_r _ [439, 440, 441, 442, 7, 443, 30, 22, 216, 444, 445, 446, 447, 319, 20, 250, 306, 251, 221, 222, 223, 224, 225, 226, 227, 448, 449, 450, 451, 326, 32, 228, 229, 230, 231, 28, 16, 232, 452, 453, 454, 455, 241, 254, 456, 457, 458, 459, 18, 293, 294, 295, 296, 197, 292, 553, 554, 555, 556, 557, 558, 559, 560, 561, 562, 563, 564, 565, 566, 567, 598, 599, 600, 601, 602, 603, 604, 605, 606, 607, 608, 609, 595, 596, 597, 583, 584, 585, 586, 587, 588, 589, 590, 591, 592, 593, 594] (by decide +kernel) (by decide +kernel)
set_option maxRecDepth 20000 in
theorem gL_law_X7_isSound : GoodIn wsL_law (wsV RL 105 RX7 yX7_isSound wsX7_isSound) := goodIn_app (goodIn_of _ (by decide +kernel)) ggL_law_X7_isSound
