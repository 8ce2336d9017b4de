/-! words among words, 5 -/
set_option maxRecDepth 20000 in
theorem ggL_holds_L_isGraph_p6 : GoodIn wsL_holds wsL_isGraph_r6 := goodIn_r _ [328, 329, 140, 141, 142, 330, 331, 332, 333, 334, 335, 336, 337, 338, 339, 340, 341, 175, 176, 177, 38, 178, 342, 343] (by decide +kernel) (by decide +kernel)
set_option maxRecDepth 20000 in
theorem ggL_holds_L_isGraph_p7 : GoodIn wsL_holds wsL_isGraph_r7 := goodIn_r _ [344, 4, 345, 346, 347, 348, 349, 22, 350, 21, 351, 352, 46, 353, 354, 355, 356, 357, 358, 45, 44, 359, 360, 361] (by decide +kernel) (by decide +kernel)
set_option maxRecDepth 20000 in
theorem ggL_holds_L_isGraph_p8 : GoodIn wsL_holds wsL_isGraph_r8 := goodIn_r _ [362, 363, 364, 99, 100, 365, 366, 367, 368, 369, 370, 371, 372, 373, 374, 375, 376] (by decide +kernel) (by decide +kernel)
set_option maxRecDepth 20000 in
theorem ggL_holds_L_isGraph_p9 : GoodIn wsL_holds wsX20 := goodIn_r _ [480, 481, 482] (by decide +kernel) (by decide +kernel)
set_option maxRecDepth 20000 in
theorem ggL_holds_L_isGraph_p10 : GoodIn wsL_holds wsX70 := goodIn_r _ [474, 475, 476, 477, 478, 479] (by decide +kernel) (by decide +kernel)
set_option maxRecDepth 20000 in
theorem ggL_holds_L_isGraph_p11 : GoodIn wsL_holds wsX00 := goodIn_r _ [488, 489, 490, 491, 492, 493, 494] (by decide +kernel) (by decide +kernel)
set_option maxRecDepth 20000 in
theorem ggL_holds_L_isGraph_p12 : GoodIn wsL_holds wsX60 := goodIn_r _ [483, 484, 485, 486, 487] (by decide +kernel) (by decide +kernel)
