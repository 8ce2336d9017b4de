/-! words among words, 4 -/
set_option maxRecDepth 20000 in
theorem ggL_holds_X7_addGenerator_p5 : GoodIn wsL_holds wsX30 := goodIn_r _ [498, 499, 500, 501] (by decide +kernel) (by decide +kernel)
set_option maxRecDepth 20000 in
theorem ggL_holds_X7_addGenerator_p6 : GoodIn wsL_holds wsX10 := goodIn_r _ [502, 503, 504, 505, 506, 507] (by decide +kernel) (by decide +kernel)
set_option maxRecDepth 20000 in
theorem ggL_holds_L_isGraph_p1 : GoodIn wsL_holds (.code yL_isGraph cL_isGraph 11 (some .boolean) :: wsL_isGraph_r1) := goodIn_r _ [260, 111, 112, 103, 113, 261, 262, 263, 201, 202, 203, 264, 265, 266, 5, 198, 199, 200, 143, 144, 145, 135, 132, 133, 134] (by decide +kernel) (by decide +kernel)
set_option maxRecDepth 20000 in
theorem ggL_holds_L_isGraph_p2 : GoodIn wsL_holds wsL_isGraph_r2 := goodIn_r _ [110, 149, 150, 151, 146, 147, 148, 267, 268, 269, 3, 270, 120, 121, 122, 123, 124, 125, 15, 271, 272, 273, 274, 275] (by decide +kernel) (by decide +kernel)
set_option maxRecDepth 20000 in
theorem ggL_holds_L_isGraph_p3 : GoodIn wsL_holds wsL_isGraph_r3 := goodIn_r _ [276, 277, 278, 26, 279, 25, 280, 281, 282, 283, 284, 285, 286, 287, 50, 288, 17, 289, 290, 40, 39, 291, 292, 293] (by decide +kernel) (by decide +kernel)
set_option maxRecDepth 20000 in
theorem ggL_holds_L_isGraph_p4 : GoodIn wsL_holds wsL_isGraph_r4 := goodIn_r _ [294, 51, 295, 93, 94, 95, 96, 97, 98, 296, 297, 298, 299, 52, 300, 301, 302, 303, 304, 305, 306, 53, 307, 308] (by decide +kernel) (by decide +kernel)
set_option maxRecDepth 20000 in
theorem ggL_holds_L_isGraph_p5 : GoodIn wsL_holds wsL_isGraph_r5 := goodIn_r _ [309, 310, 311, 130, 90, 131, 312, 313, 314, 173, 174, 315, 316, 317, 318, 319, 320, 321, 322, 323, 324, 325, 326, 327] (by decide +kernel) (by decide +kernel)
