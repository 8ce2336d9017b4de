/-! words among words, 13 -/
set_option maxRecDepth 20000 in
theorem ggL_isHeld_L_holds_p20 : GoodIn wsL_isHeld wsL_holds_r20 := goodIn_r _ [463, 464, 465, 466, 467, 468, 469, 470, 471, 472, 473, 474, 475, 476, 477, 478, 479] (by decide +kernel) (by decide +kernel)
set_option maxRecDepth 20000 in
theorem ggL_isHeld_L_holds_p21 : GoodIn wsL_isHeld wsX70 := goodIn_r _ [480, 481, 482, 483, 484, 485] (by decide +kernel) (by decide +kernel)
set_option maxRecDepth 20000 in
theorem ggL_isHeld_L_holds_p22 : GoodIn wsL_isHeld wsX20 := goodIn_r _ [486, 487, 488] (by decide +kernel) (by decide +kernel)
set_option maxRecDepth 20000 in
theorem ggL_isHeld_L_holds_p23 : GoodIn wsL_isHeld wsX60 := goodIn_r _ [489, 490, 491, 492, 493] (by decide +kernel) (by decide +kernel)
set_option maxRecDepth 20000 in
theorem ggL_isHeld_L_holds_p24 : GoodIn wsL_isHeld wsX00 := goodIn_r _ [494, 495, 496, 497, 498, 499, 500] (by decide +kernel) (by decide +kernel)
set_option maxRecDepth 20000 in
theorem ggL_isHeld_L_holds_p25 : GoodIn wsL_isHeld wsX40 := goodIn_r _ [501, 502, 503] (by decide +kernel) (by decide +kernel)
set_option maxRecDepth 20000 in
theorem ggL_isHeld_L_holds_p26 : GoodIn wsL_isHeld wsX30 := goodIn_r _ [504, 505, 506, 507] (by decide +kernel) (by decide +kernel)
