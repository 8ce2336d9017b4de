/-! words among words, 7 -/
set_option maxRecDepth 20000 in
theorem ggL_holds_L_isGroup_p8 : GoodIn wsL_holds wsX10 := goodIn_r _ [502, 503, 504, 505, 506, 507] (by decide +kernel) (by decide +kernel)
set_option maxRecDepth 20000 in
theorem ggL_holds_L_isTurned_p1 : GoodIn wsL_holds (.code yL_isTurned cL_isTurned 10 (some .boolean) :: wsL_isTurned_r1) := goodIn_r _ [411, 5, 111, 112, 103, 113, 201, 202, 203, 264, 265, 266, 198, 199, 200, 143, 144, 145, 135, 132, 133, 134, 110, 149, 150] (by decide +kernel) (by decide +kernel)
set_option maxRecDepth 20000 in
theorem ggL_holds_L_isTurned_p2 : GoodIn wsL_holds wsL_isTurned_r2 := goodIn_r _ [151, 146, 147, 148, 412, 413, 414, 3, 415, 26, 120, 121, 122, 123, 124, 125, 15, 279, 25, 280, 281, 282, 283, 284] (by decide +kernel) (by decide +kernel)
set_option maxRecDepth 20000 in
theorem ggL_holds_L_isTurned_p3 : GoodIn wsL_holds wsL_isTurned_r3 := goodIn_r _ [285, 286, 287, 50, 288, 17, 289, 290, 40, 39, 291, 292, 293, 294, 51, 295, 93, 94, 95, 96, 97, 98, 296, 297] (by decide +kernel) (by decide +kernel)
set_option maxRecDepth 20000 in
theorem ggL_holds_L_isTurned_p4 : GoodIn wsL_holds wsL_isTurned_r4 := goodIn_r _ [298, 299, 52, 300, 301, 302, 303, 304, 305, 306, 53, 307, 308, 309, 310, 311, 130, 90, 131, 312, 313, 314, 173, 174] (by decide +kernel) (by decide +kernel)
set_option maxRecDepth 20000 in
theorem ggL_holds_L_isTurned_p5 : GoodIn wsL_holds wsL_isTurned_r5 := goodIn_r _ [315, 316, 317, 318, 416, 417, 418, 419, 420, 421, 422, 140, 141, 142, 423, 424, 425, 322, 323, 324, 325, 426, 427, 428] (by decide +kernel) (by decide +kernel)
set_option maxRecDepth 20000 in
theorem ggL_holds_L_isTurned_p6 : GoodIn wsL_holds wsL_isTurned_r6 := goodIn_r _ [429, 430] (by decide +kernel) (by decide +kernel)
