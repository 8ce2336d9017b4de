/-! words among words, 8 -/
set_option maxRecDepth 20000 in
theorem ggL_holds_L_isTurned_p7 : GoodIn wsL_holds wsX70 := goodIn_r _ [474, 475, 476, 477, 478, 479] (by decide +kernel) (by decide +kernel)
set_option maxRecDepth 20000 in
theorem ggL_holds_L_isTurned_p8 : GoodIn wsL_holds wsX20 := goodIn_r _ [480, 481, 482] (by decide +kernel) (by decide +kernel)
set_option maxRecDepth 20000 in
theorem ggL_holds_L_isTurned_p9 : GoodIn wsL_holds wsX00 := goodIn_r _ [488, 489, 490, 491, 492, 493, 494] (by decide +kernel) (by decide +kernel)
set_option maxRecDepth 20000 in
theorem ggL_holds_L_arePairs_p1 : GoodIn wsL_holds (.code yL_arePairs cL_arePairs 10 (some .boolean) :: wsL_arePairs_r1) := goodIn_r _ [433, 434, 435, 103, 436, 437, 111, 112, 113, 201, 202, 203, 264, 265, 266, 5, 198, 199, 200, 143, 144, 145, 135, 132, 133] (by decide +kernel) (by decide +kernel)
set_option maxRecDepth 20000 in
theorem ggL_holds_L_arePairs_p2 : GoodIn wsL_holds wsL_arePairs_r2 := goodIn_r _ [134, 110, 149, 150, 151, 146, 147, 148, 438, 439, 440, 3, 441, 120, 121, 122, 123, 124, 125, 15, 442, 443, 444, 445] (by decide +kernel) (by decide +kernel)
set_option maxRecDepth 20000 in
theorem ggL_holds_L_arePairs_p3 : GoodIn wsL_holds wsL_arePairs_r3 := goodIn_r _ [275, 276, 277, 278, 26, 279, 25, 280, 281, 282, 283, 284, 285, 286, 287, 50, 288, 17, 289, 290, 40, 39, 291, 292] (by decide +kernel) (by decide +kernel)
set_option maxRecDepth 20000 in
theorem ggL_holds_L_arePairs_p4 : GoodIn wsL_holds wsL_arePairs_r4 := goodIn_r _ [293, 294, 51, 295, 93, 94, 95, 96, 97, 98, 296, 297, 298, 299, 52, 300, 301, 302, 303, 304, 305, 306, 53, 307] (by decide +kernel) (by decide +kernel)
