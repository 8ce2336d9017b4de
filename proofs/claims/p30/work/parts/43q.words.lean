/-! words among words, 17 -/
set_option maxRecDepth 20000 in
theorem ggL_law_L_isHeld_p21 : GoodIn wsL_law wsX70 := goodIn_r _ [482, 483, 484, 485, 486, 487] (by decide +kernel) (by decide +kernel)
set_option maxRecDepth 20000 in
theorem ggL_law_L_isHeld_p22 : GoodIn wsL_law wsX20 := goodIn_r _ [488, 489, 490] (by decide +kernel) (by decide +kernel)
set_option maxRecDepth 20000 in
theorem ggL_law_L_isHeld_p23 : GoodIn wsL_law wsX60 := goodIn_r _ [491, 492, 493, 494, 495] (by decide +kernel) (by decide +kernel)
set_option maxRecDepth 20000 in
theorem ggL_law_L_isHeld_p24 : GoodIn wsL_law wsX00 := goodIn_r _ [496, 497, 498, 499, 500, 501, 502] (by decide +kernel) (by decide +kernel)
set_option maxRecDepth 20000 in
theorem ggL_law_L_isHeld_p25 : GoodIn wsL_law wsX40 := goodIn_r _ [503, 504, 505] (by decide +kernel) (by decide +kernel)
set_option maxRecDepth 20000 in
theorem ggL_law_L_isHeld_p26 : GoodIn wsL_law wsX30 := goodIn_r _ [506, 507, 508, 509] (by decide +kernel) (by decide +kernel)
set_option maxRecDepth 20000 in
theorem ggL_law_L_isHeld_p27 : GoodIn wsL_law wsX10 := goodIn_r _ [510, 511, 512, 513, 514, 515] (by decide +kernel) (by decide +kernel)
