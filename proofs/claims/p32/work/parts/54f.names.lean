set_option maxRecDepth 20000 in
theorem ggL_law_L_cell : GoodIn wsL_law wsL_cell := goodIn_r _ [120, 121] (by decide +kernel) (by decide +kernel)
set_option maxRecDepth 20000 in
theorem gL_law_L_cell : GoodIn wsL_law (va_wsS RL 12 yL_cell wsL_cell) := goodIn_app (goodIn_of _ (by decide +kernel)) ggL_law_L_cell
set_option maxRecDepth 20000 in
theorem ggL_law_X7_desk : GoodIn wsL_law wsX7_desk := goodIn_ca (goodIn_r _ [211, 130, 131, 31, 28, 29, 30, 32, 212, 213, 214, 7, 215, 22, 216, 217, 218, 219, 220, 16, 174, 221, 222, 223, 224, 225, 226, 227, 228, 229, 230, 231, 232, 233, 234, 235, 236, 27, 237, 238, 239, 240, 241, 242, 243, 150, 244, 245, 149, 151, 553, 554, 555, 556, 557, 558, 559, 560, 561, 562, 563, 564, 565, 566, 567, 598, 599, 600, 601, 602, 603, 604, 605, 606, 607, 608, 609, 583, 584, 585, 586, 587, 588, 589, 590] (by decide +kernel) (by decide +kernel)) (goodIn_sub (fun _ h => List.mem_append_left _ (List.mem_append_left _ (List.mem_append_right _ h))) (by decide +kernel))
set_option maxRecDepth 20000 in
theorem gL_law_X7_desk : GoodIn wsL_law (wsV RL 46 RX7 yX7_desk wsX7_desk) := goodIn_app (goodIn_of _ (by decide +kernel)) ggL_law_X7_desk
