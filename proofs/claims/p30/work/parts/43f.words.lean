/-! words among words, 6 -/
set_option maxRecDepth 20000 in
theorem ggL_holds_L_isGroup_p1 : GoodIn wsL_holds (.code yL_isGroup cL_isGroup 13 (some .boolean) :: wsL_isGroup_r1) := goodIn_r _ [379, 257, 193, 194, 103, 195, 196, 197, 198, 199, 200, 201, 202, 203, 380, 381, 382, 3, 383, 34, 384, 385, 386, 387, 210] (by decide +kernel) (by decide +kernel)
set_option maxRecDepth 20000 in
theorem ggL_holds_L_isGroup_p2 : GoodIn wsL_holds wsL_isGroup_r2 := goodIn_r _ [211, 212, 118, 119, 213, 214, 215, 216, 388, 67, 389, 390, 86, 228, 229, 230, 231, 73, 75, 232, 233, 234, 235, 236] (by decide +kernel) (by decide +kernel)
set_option maxRecDepth 20000 in
theorem ggL_holds_L_isGroup_p3 : GoodIn wsL_holds wsL_isGroup_r3 := goodIn_r _ [237, 238, 239, 391, 392, 393, 394, 124, 125, 395, 33, 396, 397, 80, 64, 398, 399, 400, 99, 100, 401, 402, 403, 404] (by decide +kernel) (by decide +kernel)
set_option maxRecDepth 20000 in
theorem ggL_holds_L_isGroup_p4 : GoodIn wsL_holds wsL_isGroup_r4 := goodIn_r _ [405, 406, 407, 69, 68, 81, 82, 83, 84, 85, 87, 88, 89, 90, 91, 92, 93, 94, 95, 96, 97, 98, 221, 222] (by decide +kernel) (by decide +kernel)
set_option maxRecDepth 20000 in
theorem ggL_holds_L_isGroup_p5 : GoodIn wsL_holds wsL_isGroup_r5 := goodIn_r _ [223, 74, 224, 225, 226, 227, 240, 241, 242, 243, 244, 245, 246, 247, 248, 249, 408] (by decide +kernel) (by decide +kernel)
set_option maxRecDepth 20000 in
theorem ggL_holds_L_isGroup_p6 : GoodIn wsL_holds wsX70 := goodIn_r _ [474, 475, 476, 477, 478, 479] (by decide +kernel) (by decide +kernel)
set_option maxRecDepth 20000 in
theorem ggL_holds_L_isGroup_p7 : GoodIn wsL_holds wsX30 := goodIn_r _ [498, 499, 500, 501] (by decide +kernel) (by decide +kernel)
