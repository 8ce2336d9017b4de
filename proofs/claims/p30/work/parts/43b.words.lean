/-! words among words, 2 -/
set_option maxRecDepth 20000 in
theorem ggL_holds_X7_init_p8 : GoodIn wsL_holds wsX00 := goodIn_r _ [488, 489, 490, 491, 492, 493, 494] (by decide +kernel) (by decide +kernel)
set_option maxRecDepth 20000 in
theorem ggL_holds_X7_init_p9 : GoodIn wsL_holds wsX40 := goodIn_r _ [495, 496, 497] (by decide +kernel) (by decide +kernel)
set_option maxRecDepth 20000 in
theorem ggL_holds_X7_init_p10 : GoodIn wsL_holds wsX30 := goodIn_r _ [498, 499, 500, 501] (by decide +kernel) (by decide +kernel)
set_option maxRecDepth 20000 in
theorem ggL_holds_X7_init_p11 : GoodIn wsL_holds wsX10 := goodIn_r _ [502, 503, 504, 505, 506, 507] (by decide +kernel) (by decide +kernel)
set_option maxRecDepth 20000 in
theorem ggL_holds_L_acts_p1 : GoodIn wsL_holds (.code yL_acts cL_acts 14 (some .boolean) :: wsL_acts_r1) := goodIn_r _ [109, 110, 111, 112, 103, 113, 114, 115, 116, 3, 117, 118, 119, 120, 121, 122, 123, 124, 125, 15, 126, 17, 127, 128, 38] (by decide +kernel) (by decide +kernel)
set_option maxRecDepth 20000 in
theorem ggL_holds_L_acts_p2 : GoodIn wsL_holds wsL_acts_r2 := goodIn_r _ [39, 40, 129, 130, 90, 131, 132, 133, 134, 135, 136, 137, 138, 139, 140, 141, 142, 143, 144, 145, 146, 147, 148, 149] (by decide +kernel) (by decide +kernel)
set_option maxRecDepth 20000 in
theorem ggL_holds_L_acts_p3 : GoodIn wsL_holds wsL_acts_r3 := goodIn_r _ [150, 151, 152, 153, 154, 155, 156, 157, 158, 99, 100, 159, 160, 161, 162, 163, 164, 165, 166, 167, 168, 169, 170, 171] (by decide +kernel) (by decide +kernel)
