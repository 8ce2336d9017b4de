/-! words among words, 3 -/
set_option maxRecDepth 20000 in
theorem ggL_holds_L_acts_p4 : GoodIn wsL_holds wsL_acts_r4 := goodIn_r _ [172, 173, 174, 175, 176, 177, 178, 93, 94, 95, 96, 97, 98, 179, 180, 181, 182, 183, 184, 185, 186, 187, 188] (by decide +kernel) (by decide +kernel)
set_option maxRecDepth 20000 in
theorem ggL_holds_L_acts_p5 : GoodIn wsL_holds wsX20 := goodIn_r _ [480, 481, 482] (by decide +kernel) (by decide +kernel)
set_option maxRecDepth 20000 in
theorem ggL_holds_L_acts_p6 : GoodIn wsL_holds wsX70 := goodIn_r _ [474, 475, 476, 477, 478, 479] (by decide +kernel) (by decide +kernel)
set_option maxRecDepth 20000 in
theorem ggL_holds_X7_addGenerator_p1 : GoodIn wsL_holds (.code yX7_addGenerator cX7_addGenerator 3 (some .int) :: wsX7_addGenerator_r1) := goodIn_r _ [207, 208, 209, 34, 210, 211, 3, 212, 118, 119, 213, 214, 215, 216, 217, 33, 218, 219, 80, 64, 68, 220, 221, 67, 222] (by decide +kernel) (by decide +kernel)
set_option maxRecDepth 20000 in
theorem ggL_holds_X7_addGenerator_p2 : GoodIn wsL_holds wsX7_addGenerator_r2 := goodIn_r _ [223, 85, 84, 87, 74, 224, 225, 226, 227, 86, 73, 75, 228, 229, 230, 231, 232, 233, 234, 235, 236, 237, 238, 239] (by decide +kernel) (by decide +kernel)
set_option maxRecDepth 20000 in
theorem ggL_holds_X7_addGenerator_p3 : GoodIn wsL_holds wsX7_addGenerator_r3 := goodIn_r _ [240, 241, 242, 243, 244, 245, 246, 247, 248, 249] (by decide +kernel) (by decide +kernel)
set_option maxRecDepth 20000 in
theorem ggL_holds_X7_addGenerator_p4 : GoodIn wsL_holds wsX70 := goodIn_r _ [474, 475, 476, 477, 478, 479] (by decide +kernel) (by decide +kernel)
