/-! words among words, 1 -/
set_option maxRecDepth 20000 in
theorem ggL_holds_X7_init_p1 : GoodIn wsL_holds (.code yX7_init cX7_init 2 none :: wsX7_init_r1) := goodIn_r _ [10, 11, 12, 13, 14, 15, 16, 17, 18, 19, 20, 21, 22, 23, 24, 25, 26, 27, 28, 29, 30, 31, 32, 33, 34] (by decide +kernel) (by decide +kernel)
set_option maxRecDepth 20000 in
theorem ggL_holds_X7_init_p2 : GoodIn wsL_holds wsX7_init_r2 := goodIn_r _ [35, 36, 37, 38, 5, 39, 40, 41, 42, 43, 44, 45, 4, 46, 47, 48, 49, 50, 51, 52, 53, 54, 55, 56] (by decide +kernel) (by decide +kernel)
set_option maxRecDepth 20000 in
theorem ggL_holds_X7_init_p3 : GoodIn wsL_holds wsX7_init_r3 := goodIn_r _ [57, 58, 59, 60, 61, 62, 63, 64, 65, 66, 67, 68, 69, 70, 71, 72, 73, 74, 75, 76, 77, 78, 79, 80] (by decide +kernel) (by decide +kernel)
set_option maxRecDepth 20000 in
theorem ggL_holds_X7_init_p4 : GoodIn wsL_holds wsX7_init_r4 := goodIn_r _ [81, 82, 83, 84, 85, 86, 87, 88, 89, 90, 91, 92, 93, 94, 95, 96, 97, 98, 99, 3, 100] (by decide +kernel) (by decide +kernel)
set_option maxRecDepth 20000 in
theorem ggL_holds_X7_init_p5 : GoodIn wsL_holds wsX70 := goodIn_r _ [474, 475, 476, 477, 478, 479] (by decide +kernel) (by decide +kernel)
set_option maxRecDepth 20000 in
theorem ggL_holds_X7_init_p6 : GoodIn wsL_holds wsX20 := goodIn_r _ [480, 481, 482] (by decide +kernel) (by decide +kernel)
set_option maxRecDepth 20000 in
theorem ggL_holds_X7_init_p7 : GoodIn wsL_holds wsX60 := goodIn_r _ [483, 484, 485, 486, 487] (by decide +kernel) (by decide +kernel)
