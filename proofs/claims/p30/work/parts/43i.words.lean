/-! words among words, 9 -/
set_option maxRecDepth 20000 in
theorem ggL_holds_L_arePairs_p5 : GoodIn wsL_holds wsL_arePairs_r5 := goodIn_r _ [308, 309, 310, 311, 130, 90, 131, 312, 313, 314, 173, 174, 315, 316, 317, 318, 319, 320, 321, 322, 323, 324, 325, 446] (by decide +kernel) (by decide +kernel)
set_option maxRecDepth 20000 in
theorem ggL_holds_L_arePairs_p6 : GoodIn wsL_holds wsL_arePairs_r6 := goodIn_r _ [447, 448, 449, 30, 140, 141, 142, 450, 29, 451, 452, 59, 60, 350, 21, 351, 352, 46, 353, 354, 355, 356, 357, 358] (by decide +kernel) (by decide +kernel)
set_option maxRecDepth 20000 in
theorem ggL_holds_L_arePairs_p7 : GoodIn wsL_holds wsL_arePairs_r7 := goodIn_r _ [45, 44, 359, 360, 361, 362, 363, 364, 99, 100, 365, 366, 367, 368, 453, 454, 455, 57, 456, 457, 458, 459, 186, 187] (by decide +kernel) (by decide +kernel)
set_option maxRecDepth 20000 in
theorem ggL_holds_L_arePairs_p8 : GoodIn wsL_holds wsL_arePairs_r8 := goodIn_r _ [188, 460, 461, 462, 463, 464, 465, 466, 18, 467, 468, 469, 470, 38, 471, 472, 473, 175, 176, 177, 178] (by decide +kernel) (by decide +kernel)
set_option maxRecDepth 20000 in
theorem ggL_holds_L_arePairs_p9 : GoodIn wsL_holds wsX70 := goodIn_r _ [474, 475, 476, 477, 478, 479] (by decide +kernel) (by decide +kernel)
set_option maxRecDepth 20000 in
theorem ggL_holds_L_arePairs_p10 : GoodIn wsL_holds wsX00 := goodIn_r _ [488, 489, 490, 491, 492, 493, 494] (by decide +kernel) (by decide +kernel)
set_option maxRecDepth 20000 in
theorem ggL_holds_L_arePairs_p11 : GoodIn wsL_holds wsX20 := goodIn_r _ [480, 481, 482] (by decide +kernel) (by decide +kernel)
