section
set_option maxRecDepth 20000 in
theorem ggL_law_X7_init : GoodIn wsL_law wsX7_init := goodIn_r _ [10, 11, 12, 13, 14, 15, 16, 17, 18, 19, 20, 21, 22, 23, 24, 25, 26, 27, 28, 29, 30, 31, 32, 33, 34, 35, 36, 37, 38, 39, 40, 41, 42, 43, 44, 45, 46, 6, 47, 48, 49, 50, 51, 52, 53, 54, 55, 56, 57, 58, 59, 60, 61, 62, 63, 64, 65, 66, 67, 68, 69, 70, 71, 72, 73, 74, 75, 76, 77, 78, 79, 80, 81, 82, 83, 84, 85, 86, 87, 88, 89, 90, 91, 92, 93, 94, 95, 96, 97, 98, 99, 100, 2, 101, 725, 726, 727, 728, 729, 730, 748, 749, 750, 751, 752, 753, 754, 755, 756, 757, 758, 759, 760, 761, 762, 763, 764, 765, 766, 767, 768, 769, 770, 771, 772, 773, 774, 775] (by decide +kernel) (by decide +kernel)
set_option maxRecDepth 20000 in
theorem gL_law_X7_init : GoodIn wsL_law (wsX7_init) := ggL_law_X7_init
set_option maxRecDepth 20000 in
theorem ggL_law_X8_init : GoodIn wsL_law wsX8_init := goodIn_r _ [104, 105, 12, 13, 39, 106, 107, 108, 109, 110, 111, 112, 113, 114, 115, 116, 117, 118, 119, 120, 121, 122, 123, 5, 124, 125, 126, 127, 128, 129, 130, 131, 132, 133, 134, 731, 732, 733, 734, 735, 736, 737, 738, 739, 740, 741, 742, 743, 744, 745, 746, 747] (by decide +kernel) (by decide +kernel)
set_option maxRecDepth 20000 in
theorem gL_law_X8_init : GoodIn wsL_law (wsX8_init) := ggL_law_X8_init
set_option maxRecDepth 20000 in
theorem ggL_law_L_begin : GoodIn wsL_law wsL_begin := goodIn_ca (goodIn_ca (goodIn_r _ [138, 139, 140, 141, 142, 143, 2, 144, 145, 146, 147, 148, 149, 150, 151, 152, 15, 153, 17, 154, 155, 38, 40, 41, 156, 157, 91, 158, 748, 749, 750, 725, 726, 727, 728, 729, 730] (by decide +kernel) (by decide +kernel)) (goodIn_sub (fun _ h => List.mem_append_left _ (List.mem_append_left _ (List.mem_append_right _ h))) (by decide +kernel))) (goodIn_sub (fun _ h => List.mem_append_left _ (List.mem_append_right _ h)) (by decide +kernel))
set_option maxRecDepth 20000 in
theorem gL_law_L_begin : GoodIn wsL_law (va_wsS RL 104 yL_begin wsL_begin) := goodIn_app (goodIn_of _ (by decide +kernel)) ggL_law_L_begin
set_option maxRecDepth 20000 in
theorem ggL_law_X8_begin : GoodIn wsL_law wsX8_begin := goodIn_r _ [162, 106, 107, 108, 163, 164, 5, 165, 166, 167, 168, 169, 170, 171, 172, 173, 731, 732, 733, 734, 735, 736, 737, 738, 739, 740, 741, 742, 743, 744, 745, 746, 747] (by decide +kernel) (by decide +kernel)
set_option maxRecDepth 20000 in
theorem gL_law_X8_begin : GoodIn wsL_law (wsV RL 109 RX8 yX8_begin wsX8_begin) := goodIn_app (goodIn_of _ (by decide +kernel)) ggL_law_X8_begin
set_option maxRecDepth 20000 in
theorem ggL_law_X8_thrown : GoodIn wsL_law wsX8_thrown := goodIn_r _ [177, 173, 731, 732, 733, 734, 735, 736, 737, 738, 739, 740, 741, 742, 743, 744, 745, 746, 747] (by decide +kernel) (by decide +kernel)
set_option maxRecDepth 20000 in
theorem gL_law_X8_thrown : GoodIn wsL_law (wsV RL 110 RX8 yX8_thrown wsX8_thrown) := goodIn_app (goodIn_of _ (by decide +kernel)) ggL_law_X8_thrown
set_option maxRecDepth 20000 in
theorem ggL_law_L_toggle : GoodIn wsL_law wsL_toggle := goodIn_ca (goodIn_ca (goodIn_r _ [180, 139, 140, 181, 182, 183, 2, 184, 145, 146, 147, 148, 149, 150, 151, 152, 15, 185, 186, 187, 188, 17, 189, 190, 40, 191, 192, 193, 100, 101, 725, 726, 727, 728, 729, 730, 748, 749, 750] (by decide +kernel) (by decide +kernel)) (goodIn_sub (fun _ h => List.mem_append_left _ (List.mem_append_left _ (List.mem_append_right _ h))) (by decide +kernel))) (goodIn_sub (fun _ h => List.mem_append_left _ (List.mem_append_right _ h)) (by decide +kernel))
set_option maxRecDepth 20000 in
theorem gL_law_L_toggle : GoodIn wsL_law (va_wsS RL 114 yL_toggle wsL_toggle) := goodIn_app (goodIn_of _ (by decide +kernel)) ggL_law_L_toggle
set_option maxRecDepth 20000 in
theorem ggL_law_X8_toggle : GoodIn wsL_law wsX8_toggle := goodIn_r _ [197, 107, 198, 199, 200, 5, 201, 202, 203, 204, 205, 106, 163, 164, 165, 166, 167, 168, 169, 170, 171, 172, 173, 206, 207, 208, 209, 731, 732, 733, 734, 735, 736, 737, 738, 739, 740, 741, 742, 743, 744, 745, 746, 747] (by decide +kernel) (by decide +kernel)
set_option maxRecDepth 20000 in
theorem gL_law_X8_toggle : GoodIn wsL_law (wsV RL 117 RX8 yX8_toggle wsX8_toggle) := goodIn_app (goodIn_of _ (by decide +kernel)) ggL_law_X8_toggle
set_option maxRecDepth 20000 in
theorem ggL_law_L_setColour : GoodIn wsL_law wsL_setColour := goodIn_ca (goodIn_ca (goodIn_r _ [212, 139, 140, 213, 214, 215, 2, 216, 145, 146, 147, 148, 149, 150, 151, 152, 15, 185, 186, 187, 748, 749, 750, 725, 726, 727, 728, 729, 730] (by decide +kernel) (by decide +kernel)) (goodIn_sub (fun _ h => List.mem_append_left _ (List.mem_append_left _ (List.mem_append_right _ h))) (by decide +kernel))) (goodIn_sub (fun _ h => List.mem_append_left _ (List.mem_append_right _ h)) (by decide +kernel))
set_option maxRecDepth 20000 in
theorem gL_law_L_setColour : GoodIn wsL_law (va_wsS RL 118 yL_setColour wsL_setColour) := goodIn_app (goodIn_of _ (by decide +kernel)) ggL_law_L_setColour
set_option maxRecDepth 20000 in
theorem ggL_law_X8_setColour : GoodIn wsL_law wsX8_setColour := goodIn_r _ [220, 108, 202, 203, 204, 5, 205, 106, 163, 164, 165, 166, 167, 168, 169, 170, 171, 172, 173, 731, 732, 733, 734, 735, 736, 737, 738, 739, 740, 741, 742, 743, 744, 745, 746, 747] (by decide +kernel) (by decide +kernel)
set_option maxRecDepth 20000 in
theorem gL_law_X8_setColour : GoodIn wsL_law (wsV RL 120 RX8 yX8_setColour wsX8_setColour) := goodIn_app (goodIn_of _ (by decide +kernel)) ggL_law_X8_setColour
set_option maxRecDepth 20000 in
theorem ggL_law_L_swap : GoodIn wsL_law wsL_swap := goodIn_ca (goodIn_r _ [223, 139, 224, 225, 226, 2, 227, 147, 148, 149, 150, 151, 152, 15, 185, 186, 187, 228, 17, 229, 230, 41, 40, 38, 100, 101, 725, 726, 727, 728, 729, 730, 748, 749, 750] (by decide +kernel) (by decide +kernel)) (goodIn_sub (fun _ h => List.mem_append_left _ (List.mem_append_right _ h)) (by decide +kernel))
set_option maxRecDepth 20000 in
theorem gL_law_L_swap : GoodIn wsL_law (va_wsS RL 121 yL_swap wsL_swap) := goodIn_app (goodIn_of _ (by decide +kernel)) ggL_law_L_swap
set_option maxRecDepth 20000 in
theorem ggL_law_X8_swap : GoodIn wsL_law wsX8_swap := goodIn_r _ [234, 107, 108, 198, 199, 200, 5, 201, 202, 203, 204, 205, 106, 163, 164, 165, 166, 167, 168, 169, 170, 171, 172, 173, 235, 236, 237, 731, 732, 733, 734, 735, 736, 737, 738, 739, 740, 741, 742, 743, 744, 745, 746, 747] (by decide +kernel) (by decide +kernel)
set_option maxRecDepth 20000 in
theorem gL_law_X8_swap : GoodIn wsL_law (wsV RL 124 RX8 yX8_swap wsX8_swap) := goodIn_app (goodIn_of _ (by decide +kernel)) ggL_law_X8_swap
set_option maxRecDepth 20000 in
theorem ggL_law_L_copy : GoodIn wsL_law wsL_copy := goodIn_ca (goodIn_r _ [240, 139, 241, 242, 243, 2, 244, 147, 148, 149, 150, 151, 152, 15, 245, 17, 246, 247, 38, 40, 41, 725, 726, 727, 728, 729, 730, 748, 749, 750] (by decide +kernel) (by decide +kernel)) (goodIn_sub (fun _ h => List.mem_append_left _ (List.mem_append_right _ h)) (by decide +kernel))
set_option maxRecDepth 20000 in
theorem gL_law_L_copy : GoodIn wsL_law (va_wsS RL 125 yL_copy wsL_copy) := goodIn_app (goodIn_of _ (by decide +kernel)) ggL_law_L_copy
set_option maxRecDepth 20000 in
theorem ggL_law_X8_copy : GoodIn wsL_law wsX8_copy := goodIn_r _ [251, 106, 107, 108, 163, 164, 5, 165, 166, 167, 168, 169, 170, 171, 172, 173, 731, 732, 733, 734, 735, 736, 737, 738, 739, 740, 741, 742, 743, 744, 745, 746, 747] (by decide +kernel) (by decide +kernel)
set_option maxRecDepth 20000 in
theorem gL_law_X8_copy : GoodIn wsL_law (wsV RL 128 RX8 yX8_copy wsX8_copy) := goodIn_app (goodIn_of _ (by decide +kernel)) ggL_law_X8_copy
set_option maxRecDepth 20000 in
theorem ggL_law_L_complement : GoodIn wsL_law wsL_complement := goodIn_ca (goodIn_r _ [254, 139, 255, 256, 257, 2, 258, 147, 148, 149, 150, 151, 152, 15, 259, 17, 260, 261, 38, 40, 262, 263, 264, 265, 266, 267, 94, 95, 96, 97, 98, 99, 725, 726, 727, 728, 729, 730, 748, 749, 750] (by decide +kernel) (by decide +kernel)) (goodIn_sub (fun _ h => List.mem_append_left _ (List.mem_append_right _ h)) (by decide +kernel))
set_option maxRecDepth 20000 in
theorem gL_law_L_complement : GoodIn wsL_law (va_wsS RL 129 yL_complement wsL_complement) := goodIn_app (goodIn_of _ (by decide +kernel)) ggL_law_L_complement
set_option maxRecDepth 20000 in
theorem ggL_law_X8_complement : GoodIn wsL_law wsX8_complement := goodIn_r _ [271, 106, 107, 163, 164, 5, 165, 166, 167, 168, 169, 170, 171, 172, 173, 272, 273, 274, 275, 206, 207, 208, 209, 731, 732, 733, 734, 735, 736, 737, 738, 739, 740, 741, 742, 743, 744, 745, 746, 747] (by decide +kernel) (by decide +kernel)
set_option maxRecDepth 20000 in
theorem gL_law_X8_complement : GoodIn wsL_law (wsV RL 132 RX8 yX8_complement wsX8_complement) := goodIn_app (goodIn_of _ (by decide +kernel)) ggL_law_X8_complement
set_option maxRecDepth 20000 in
theorem ggL_law_L_size : GoodIn wsL_law wsL_size := goodIn_ca (goodIn_r _ [278, 139, 279, 280, 281, 2, 282, 147, 148, 149, 150, 151, 152, 15, 748, 749, 750, 725, 726, 727, 728, 729, 730] (by decide +kernel) (by decide +kernel)) (goodIn_sub (fun _ h => List.mem_append_left _ (List.mem_append_right _ h)) (by decide +kernel))
set_option maxRecDepth 20000 in
theorem gL_law_L_size : GoodIn wsL_law (va_wsS RL 133 yL_size wsL_size) := goodIn_app (goodIn_of _ (by decide +kernel)) ggL_law_L_size
set_option maxRecDepth 20000 in
theorem ggL_law_X8_size : GoodIn wsL_law wsX8_size := goodIn_r _ [286, 106, 163, 164, 5, 165, 166, 167, 168, 169, 170, 171, 172, 173, 731, 732, 733, 734, 735, 736, 737, 738, 739, 740, 741, 742, 743, 744, 745, 746, 747] (by decide +kernel) (by decide +kernel)
set_option maxRecDepth 20000 in
theorem gL_law_X8_size : GoodIn wsL_law (wsV RL 135 RX8 yX8_size wsX8_size) := goodIn_app (goodIn_of _ (by decide +kernel)) ggL_law_X8_size
set_option maxRecDepth 20000 in
theorem ggL_law_L_edges : GoodIn wsL_law wsL_edges := goodIn_ca (goodIn_r _ [289, 139, 290, 291, 292, 2, 293, 147, 148, 149, 150, 151, 152, 15, 264, 17, 265, 266, 38, 40, 267, 94, 95, 96, 97, 98, 99, 725, 726, 727, 728, 729, 730, 748, 749, 750] (by decide +kernel) (by decide +kernel)) (goodIn_sub (fun _ h => List.mem_append_left _ (List.mem_append_right _ h)) (by decide +kernel))
set_option maxRecDepth 20000 in
theorem gL_law_L_edges : GoodIn wsL_law (va_wsS RL 136 yL_edges wsL_edges) := goodIn_app (goodIn_of _ (by decide +kernel)) ggL_law_L_edges
set_option maxRecDepth 20000 in
theorem ggL_law_X8_edges : GoodIn wsL_law wsX8_edges := goodIn_r _ [297, 163, 164, 5, 165, 166, 167, 168, 169, 170, 171, 172, 173, 272, 273, 274, 275, 206, 207, 208, 209, 107, 731, 732, 733, 734, 735, 736, 737, 738, 739, 740, 741, 742, 743, 744, 745, 746, 747] (by decide +kernel) (by decide +kernel)
set_option maxRecDepth 20000 in
theorem gL_law_X8_edges : GoodIn wsL_law (wsV RL 138 RX8 yX8_edges wsX8_edges) := goodIn_app (goodIn_of _ (by decide +kernel)) ggL_law_X8_edges
set_option maxRecDepth 20000 in
theorem ggL_law_L_neighbours : GoodIn wsL_law wsL_neighbours := goodIn_ca (goodIn_r _ [300, 139, 301, 302, 303, 2, 304, 147, 148, 149, 150, 151, 152, 15, 185, 186, 187, 748, 749, 750, 725, 726, 727, 728, 729, 730] (by decide +kernel) (by decide +kernel)) (goodIn_sub (fun _ h => List.mem_append_left _ (List.mem_append_right _ h)) (by decide +kernel))
set_option maxRecDepth 20000 in
theorem gL_law_L_neighbours : GoodIn wsL_law (va_wsS RL 139 yL_neighbours wsL_neighbours) := goodIn_app (goodIn_of _ (by decide +kernel)) ggL_law_L_neighbours
set_option maxRecDepth 20000 in
theorem ggL_law_X8_neighbours : GoodIn wsL_law wsX8_neighbours := goodIn_r _ [308, 107, 202, 203, 204, 5, 205, 106, 163, 164, 165, 166, 167, 168, 169, 170, 171, 172, 173, 731, 732, 733, 734, 735, 736, 737, 738, 739, 740, 741, 742, 743, 744, 745, 746, 747] (by decide +kernel) (by decide +kernel)
set_option maxRecDepth 20000 in
theorem gL_law_X8_neighbours : GoodIn wsL_law (wsV RL 141 RX8 yX8_neighbours wsX8_neighbours) := goodIn_app (goodIn_of _ (by decide +kernel)) ggL_law_X8_neighbours
set_option maxRecDepth 20000 in
theorem ggL_law_L_colour : GoodIn wsL_law wsL_colour := goodIn_ca (goodIn_r _ [311, 139, 312, 313, 314, 2, 315, 147, 148, 149, 150, 151, 152, 15, 185, 186, 187, 748, 749, 750, 725, 726, 727, 728, 729, 730] (by decide +kernel) (by decide +kernel)) (goodIn_sub (fun _ h => List.mem_append_left _ (List.mem_append_right _ h)) (by decide +kernel))
set_option maxRecDepth 20000 in
theorem gL_law_L_colour : GoodIn wsL_law (va_wsS RL 142 yL_colour wsL_colour) := goodIn_app (goodIn_of _ (by decide +kernel)) ggL_law_L_colour
set_option maxRecDepth 20000 in
theorem ggL_law_X8_colour : GoodIn wsL_law wsX8_colour := goodIn_r _ [319, 108, 202, 203, 204, 5, 205, 106, 163, 164, 165, 166, 167, 168, 169, 170, 171, 172, 173, 731, 732, 733, 734, 735, 736, 737, 738, 739, 740, 741, 742, 743, 744, 745, 746, 747] (by decide +kernel) (by decide +kernel)
set_option maxRecDepth 20000 in
theorem gL_law_X8_colour : GoodIn wsL_law (wsV RL 144 RX8 yX8_colour wsX8_colour) := goodIn_app (goodIn_of _ (by decide +kernel)) ggL_law_X8_colour
set_option maxRecDepth 20000 in
theorem ggL_law_L_classes : GoodIn wsL_law wsL_classes := goodIn_ca (goodIn_r _ [322, 139, 323, 324, 325, 2, 326, 22, 147, 148, 149, 150, 151, 152, 15, 327, 21, 328, 329, 47, 330, 331, 332, 333, 334, 335, 46, 45, 336, 337, 338, 339, 340, 94, 95, 96, 97, 98, 99, 341, 157, 91, 158, 100, 101, 342, 343, 344, 345, 725, 726, 727, 728, 729, 730, 751, 752, 753, 754, 755, 748, 749, 750] (by decide +kernel) (by decide +kernel)) (goodIn_sub (fun _ h => List.mem_append_left _ (List.mem_append_right _ h)) (by decide +kernel))
set_option maxRecDepth 20000 in
theorem gL_law_L_classes : GoodIn wsL_law (va_wsS RL 145 yL_classes wsL_classes) := goodIn_app (goodIn_of _ (by decide +kernel)) ggL_law_L_classes
set_option maxRecDepth 20000 in
theorem ggL_law_X8_classes : GoodIn wsL_law wsX8_classes := goodIn_r _ [349, 163, 164, 5, 165, 166, 167, 168, 169, 170, 171, 172, 173, 350, 351, 352, 353, 354, 355, 356, 357, 358, 106, 113, 112, 359, 360, 361, 362, 108, 363, 364, 365, 366, 107, 367, 368, 369, 731, 732, 733, 734, 735, 736, 737, 738, 739, 740, 741, 742, 743, 744, 745, 746, 747] (by decide +kernel) (by decide +kernel)
set_option maxRecDepth 20000 in
theorem gL_law_X8_classes : GoodIn wsL_law (wsV RL 147 RX8 yX8_classes wsX8_classes) := goodIn_app (goodIn_of _ (by decide +kernel)) ggL_law_X8_classes
set_option maxRecDepth 20000 in
theorem ggL_law_L_classOf : GoodIn wsL_law wsL_classOf := goodIn_ca (goodIn_r _ [372, 139, 373, 374, 375, 2, 376, 22, 147, 148, 149, 150, 151, 152, 15, 185, 186, 187, 327, 21, 328, 329, 47, 330, 331, 332, 333, 334, 335, 46, 45, 336, 337, 338, 339, 340, 94, 95, 96, 97, 98, 99, 341, 157, 91, 158, 100, 101, 342, 343, 344, 345, 725, 726, 727, 728, 729, 730, 751, 752, 753, 754, 755, 748, 749, 750] (by decide +kernel) (by decide +kernel)) (goodIn_sub (fun _ h => List.mem_append_left _ (List.mem_append_right _ h)) (by decide +kernel))
set_option maxRecDepth 20000 in
theorem gL_law_L_classOf : GoodIn wsL_law (va_wsS RL 148 yL_classOf wsL_classOf) := goodIn_app (goodIn_of _ (by decide +kernel)) ggL_law_L_classOf
set_option maxRecDepth 20000 in
theorem ggL_law_X8_classOf : GoodIn wsL_law wsX8_classOf := goodIn_r _ [380, 112, 202, 203, 204, 5, 205, 106, 163, 164, 165, 166, 167, 168, 169, 170, 171, 172, 173, 350, 351, 352, 353, 354, 355, 356, 357, 358, 113, 359, 360, 361, 362, 108, 363, 364, 365, 366, 107, 367, 368, 369, 731, 732, 733, 734, 735, 736, 737, 738, 739, 740, 741, 742, 743, 744, 745, 746, 747] (by decide +kernel) (by decide +kernel)
set_option maxRecDepth 20000 in
theorem gL_law_X8_classOf : GoodIn wsL_law (wsV RL 150 RX8 yX8_classOf wsX8_classOf) := goodIn_app (goodIn_of _ (by decide +kernel)) ggL_law_X8_classOf
set_option maxRecDepth 20000 in
theorem ggL_law_L_rounds : GoodIn wsL_law wsL_rounds := goodIn_ca (goodIn_r _ [383, 139, 384, 385, 386, 2, 387, 22, 147, 148, 149, 150, 151, 152, 15, 327, 21, 328, 329, 47, 330, 331, 332, 333, 334, 335, 46, 45, 336, 337, 338, 339, 340, 94, 95, 96, 97, 98, 99, 341, 157, 91, 158, 100, 101, 342, 343, 344, 345, 725, 726, 727, 728, 729, 730, 751, 752, 753, 754, 755, 748, 749, 750] (by decide +kernel) (by decide +kernel)) (goodIn_sub (fun _ h => List.mem_append_left _ (List.mem_append_right _ h)) (by decide +kernel))
set_option maxRecDepth 20000 in
theorem gL_law_L_rounds : GoodIn wsL_law (va_wsS RL 151 yL_rounds wsL_rounds) := goodIn_app (goodIn_of _ (by decide +kernel)) ggL_law_L_rounds
set_option maxRecDepth 20000 in
theorem ggL_law_X8_rounds : GoodIn wsL_law wsX8_rounds := goodIn_r _ [391, 354, 163, 164, 5, 165, 166, 167, 168, 169, 170, 171, 172, 173, 350, 351, 352, 353, 355, 356, 357, 358, 106, 113, 112, 359, 360, 361, 362, 108, 363, 364, 365, 366, 107, 367, 368, 369, 731, 732, 733, 734, 735, 736, 737, 738, 739, 740, 741, 742, 743, 744, 745, 746, 747] (by decide +kernel) (by decide +kernel)
set_option maxRecDepth 20000 in
theorem gL_law_X8_rounds : GoodIn wsL_law (wsV RL 153 RX8 yX8_rounds wsX8_rounds) := goodIn_app (goodIn_of _ (by decide +kernel)) ggL_law_X8_rounds
set_option maxRecDepth 20000 in
theorem ggL_law_L_form : GoodIn wsL_law wsL_form := goodIn_ca (goodIn_r _ [394, 139, 395, 396, 397, 2, 398, 147, 148, 149, 150, 151, 152, 15, 399, 400, 401, 402, 26, 403, 25, 404, 405, 406, 407, 408, 409, 410, 411, 51, 412, 17, 413, 414, 41, 40, 415, 416, 417, 418, 52, 419, 94, 95, 96, 97, 98, 99, 420, 421, 422, 423, 53, 424, 425, 426, 427, 428, 429, 430, 54, 431, 432, 433, 434, 435, 157, 91, 158, 436, 437, 438, 262, 263, 439, 440, 441, 442, 443, 444, 445, 446, 447, 448, 449, 725, 726, 727, 728, 729, 730, 756, 757, 758, 759, 760, 761, 762, 748, 749, 750] (by decide +kernel) (by decide +kernel)) (goodIn_sub (fun _ h => List.mem_append_left _ (List.mem_append_right _ h)) (by decide +kernel))
set_option maxRecDepth 20000 in
theorem gL_law_L_form : GoodIn wsL_law (va_wsS RL 154 yL_form wsL_form) := goodIn_app (goodIn_of _ (by decide +kernel)) ggL_law_L_form
set_option maxRecDepth 20000 in
theorem ggL_law_X8_form : GoodIn wsL_law wsX8_form := goodIn_r _ [453, 163, 164, 5, 165, 166, 167, 168, 169, 170, 171, 172, 173, 454, 455, 456, 457, 458, 106, 111, 109, 459, 460, 461, 462, 463, 464, 465, 466, 108, 206, 207, 208, 209, 107, 467, 468, 469, 470, 471, 472, 473, 731, 732, 733, 734, 735, 736, 737, 738, 739, 740, 741, 742, 743, 744, 745, 746, 747] (by decide +kernel) (by decide +kernel)
set_option maxRecDepth 20000 in
theorem gL_law_X8_form : GoodIn wsL_law (wsV RL 156 RX8 yX8_form wsX8_form) := goodIn_app (goodIn_of _ (by decide +kernel)) ggL_law_X8_form
set_option maxRecDepth 20000 in
theorem ggL_law_L_placeOf : GoodIn wsL_law wsL_placeOf := goodIn_ca (goodIn_r _ [476, 139, 477, 478, 479, 2, 480, 26, 147, 148, 149, 150, 151, 152, 15, 185, 186, 187, 403, 25, 404, 405, 406, 407, 408, 409, 410, 411, 51, 412, 17, 413, 414, 41, 40, 415, 416, 417, 418, 52, 419, 94, 95, 96, 97, 98, 99, 420, 421, 422, 423, 53, 424, 425, 426, 427, 428, 429, 430, 54, 431, 432, 433, 434, 435, 157, 91, 158, 436, 437, 438, 262, 263, 439, 440, 441, 442, 447, 448, 449, 725, 726, 727, 728, 729, 730, 748, 749, 750, 756, 757, 758, 759, 760, 761, 762] (by decide +kernel) (by decide +kernel)) (goodIn_sub (fun _ h => List.mem_append_left _ (List.mem_append_right _ h)) (by decide +kernel))
set_option maxRecDepth 20000 in
theorem gL_law_L_placeOf : GoodIn wsL_law (va_wsS RL 157 yL_placeOf wsL_placeOf) := goodIn_app (goodIn_of _ (by decide +kernel)) ggL_law_L_placeOf
set_option maxRecDepth 20000 in
theorem ggL_law_X8_placeOf : GoodIn wsL_law wsX8_placeOf := goodIn_r _ [484, 111, 202, 203, 204, 5, 205, 106, 163, 164, 165, 166, 167, 168, 169, 170, 171, 172, 173, 454, 455, 456, 457, 458, 109, 459, 460, 461, 462, 463, 464, 465, 466, 108, 206, 207, 208, 209, 107, 467, 468, 469, 470, 471, 472, 473, 731, 732, 733, 734, 735, 736, 737, 738, 739, 740, 741, 742, 743, 744, 745, 746, 747] (by decide +kernel) (by decide +kernel)
set_option maxRecDepth 20000 in
theorem gL_law_X8_placeOf : GoodIn wsL_law (wsV RL 159 RX8 yX8_placeOf wsX8_placeOf) := goodIn_app (goodIn_of _ (by decide +kernel)) ggL_law_X8_placeOf
set_option maxRecDepth 20000 in
theorem ggL_law_L_areAlike : GoodIn wsL_law wsL_areAlike := goodIn_ca (goodIn_r _ [487, 139, 488, 489, 490, 2, 491, 147, 148, 149, 150, 151, 152, 15, 492, 493, 494, 495, 399, 400, 401, 402, 26, 403, 25, 404, 405, 406, 407, 408, 409, 410, 411, 51, 412, 17, 413, 414, 41, 40, 415, 416, 417, 418, 52, 419, 94, 95, 96, 97, 98, 99, 420, 421, 422, 423, 53, 424, 425, 426, 427, 428, 429, 430, 54, 431, 432, 433, 434, 435, 157, 91, 158, 436, 437, 438, 262, 263, 439, 440, 441, 442, 443, 444, 445, 446, 447, 448, 449, 725, 726, 727, 728, 729, 730, 756, 757, 758, 759, 760, 761, 762, 748, 749, 750] (by decide +kernel) (by decide +kernel)) (goodIn_sub (fun _ h => List.mem_append_left _ (List.mem_append_right _ h)) (by decide +kernel))
set_option maxRecDepth 20000 in
theorem gL_law_L_areAlike : GoodIn wsL_law (va_wsS RL 160 yL_areAlike wsL_areAlike) := goodIn_app (goodIn_of _ (by decide +kernel)) ggL_law_L_areAlike
set_option maxRecDepth 20000 in
theorem ggL_law_X8_areAlike : GoodIn wsL_law wsX8_areAlike := goodIn_r _ [499, 163, 164, 5, 165, 166, 167, 168, 169, 170, 171, 172, 173, 500, 501, 502, 503, 106, 504, 505, 506, 507, 110, 508, 509, 510, 511, 459, 460, 461, 462, 109, 512, 513, 514, 515, 108, 206, 207, 208, 209, 107, 470, 471, 472, 473, 731, 732, 733, 734, 735, 736, 737, 738, 739, 740, 741, 742, 743, 744, 745, 746, 747] (by decide +kernel) (by decide +kernel)
set_option maxRecDepth 20000 in
theorem gL_law_X8_areAlike : GoodIn wsL_law (wsV RL 162 RX8 yX8_areAlike wsX8_areAlike) := goodIn_app (goodIn_of _ (by decide +kernel)) ggL_law_X8_areAlike
set_option maxRecDepth 20000 in
theorem ggL_law_L_image : GoodIn wsL_law wsL_image := goodIn_ca (goodIn_r _ [518, 139, 519, 520, 521, 2, 522, 30, 147, 148, 149, 150, 151, 152, 15, 185, 186, 187, 492, 493, 494, 495, 399, 400, 401, 402, 26, 403, 25, 404, 405, 406, 407, 408, 409, 410, 411, 51, 412, 17, 413, 414, 41, 40, 415, 416, 417, 418, 52, 419, 94, 95, 96, 97, 98, 99, 420, 421, 422, 423, 53, 424, 425, 426, 427, 428, 429, 430, 54, 431, 432, 433, 434, 435, 157, 91, 158, 436, 437, 438, 262, 263, 439, 440, 441, 442, 443, 444, 445, 446, 447, 448, 449, 523, 29, 524, 525, 60, 61, 327, 21, 328, 329, 47, 330, 331, 332, 333, 334, 335, 46, 45, 336, 337, 338, 339, 340, 341, 100, 101, 342, 343, 344, 345, 526, 527, 528, 58, 529, 530, 531, 532, 191, 192, 193, 725, 726, 727, 728, 729, 730, 763, 764, 765, 748, 749, 750, 756, 757, 758, 759, 760, 761, 762, 751, 752, 753, 754, 755] (by decide +kernel) (by decide +kernel)) (goodIn_sub (fun _ h => List.mem_append_left _ (List.mem_append_right _ h)) (by decide +kernel))
set_option maxRecDepth 20000 in
theorem gL_law_L_image : GoodIn wsL_law (va_wsS RL 163 yL_image wsL_image) := goodIn_app (goodIn_of _ (by decide +kernel)) ggL_law_L_image
set_option maxRecDepth 20000 in
theorem ggL_law_X8_image : GoodIn wsL_law wsX8_image := goodIn_r _ [536, 109, 163, 164, 5, 165, 166, 167, 168, 202, 203, 204, 205, 106, 169, 170, 171, 172, 173, 500, 501, 502, 503, 504, 505, 506, 507, 110, 508, 509, 510, 511, 459, 460, 461, 462, 512, 513, 514, 515, 108, 206, 207, 208, 209, 107, 470, 471, 472, 473, 731, 732, 733, 734, 735, 736, 737, 738, 739, 740, 741, 742, 743, 744, 745, 746, 747] (by decide +kernel) (by decide +kernel)
set_option maxRecDepth 20000 in
theorem gL_law_X8_image : GoodIn wsL_law (wsV RL 165 RX8 yX8_image wsX8_image) := goodIn_app (goodIn_of _ (by decide +kernel)) ggL_law_X8_image
set_option maxRecDepth 20000 in
theorem ggL_law_L_copies : GoodIn wsL_law wsL_copies := goodIn_ca (goodIn_r _ [539, 139, 540, 541, 542, 2, 543, 18, 147, 148, 149, 150, 151, 152, 15, 399, 400, 401, 402, 26, 403, 25, 404, 405, 406, 407, 408, 409, 410, 411, 51, 412, 17, 413, 414, 41, 40, 415, 416, 417, 418, 52, 419, 94, 95, 96, 97, 98, 99, 420, 421, 422, 423, 53, 424, 425, 426, 427, 428, 429, 430, 54, 431, 432, 433, 434, 435, 157, 91, 158, 436, 437, 438, 262, 263, 439, 440, 441, 442, 443, 444, 445, 446, 447, 448, 449, 544, 545, 546, 547, 38, 100, 101, 548, 549, 550, 264, 265, 266, 267, 748, 749, 750, 725, 726, 727, 728, 729, 730, 756, 757, 758, 759, 760, 761, 762] (by decide +kernel) (by decide +kernel)) (goodIn_sub (fun _ h => List.mem_append_left _ (List.mem_append_right _ h)) (by decide +kernel))
set_option maxRecDepth 20000 in
theorem gL_law_L_copies : GoodIn wsL_law (va_wsS RL 166 yL_copies wsL_copies) := goodIn_app (goodIn_of _ (by decide +kernel)) ggL_law_L_copies
set_option maxRecDepth 20000 in
theorem ggL_law_X8_copies : GoodIn wsL_law wsX8_copies := goodIn_r _ [554, 106, 163, 164, 5, 165, 166, 167, 168, 169, 170, 171, 172, 173, 504, 505, 506, 507, 110, 508, 509, 510, 511, 459, 460, 461, 462, 109, 512, 513, 514, 515, 108, 206, 207, 208, 209, 107, 470, 471, 472, 473, 731, 732, 733, 734, 735, 736, 737, 738, 739, 740, 741, 742, 743, 744, 745, 746, 747] (by decide +kernel) (by decide +kernel)
set_option maxRecDepth 20000 in
theorem gL_law_X8_copies : GoodIn wsL_law (wsV RL 168 RX8 yX8_copies wsX8_copies) := goodIn_app (goodIn_of _ (by decide +kernel)) ggL_law_X8_copies
set_option maxRecDepth 20000 in
theorem ggL_law_L_symmetries : GoodIn wsL_law wsL_symmetries := goodIn_ca (goodIn_r _ [557, 139, 558, 559, 560, 2, 561, 26, 147, 148, 149, 150, 151, 152, 15, 403, 25, 404, 405, 406, 407, 408, 409, 410, 411, 51, 412, 17, 413, 414, 41, 40, 415, 416, 417, 418, 52, 419, 94, 95, 96, 97, 98, 99, 420, 421, 422, 423, 53, 424, 425, 426, 427, 428, 429, 430, 54, 431, 432, 433, 434, 435, 157, 91, 158, 436, 437, 438, 262, 263, 439, 440, 441, 442, 562, 563, 564, 725, 726, 727, 728, 729, 730, 748, 749, 750, 756, 757, 758, 759, 760, 761, 762] (by decide +kernel) (by decide +kernel)) (goodIn_sub (fun _ h => List.mem_append_left _ (List.mem_append_right _ h)) (by decide +kernel))
set_option maxRecDepth 20000 in
theorem gL_law_L_symmetries : GoodIn wsL_law (va_wsS RL 169 yL_symmetries wsL_symmetries) := goodIn_app (goodIn_of _ (by decide +kernel)) ggL_law_L_symmetries
set_option maxRecDepth 20000 in
theorem ggL_law_X8_symmetries : GoodIn wsL_law wsX8_symmetries := goodIn_r _ [568, 163, 164, 5, 165, 166, 167, 168, 169, 170, 171, 172, 173, 569, 570, 571, 572, 106, 114, 109, 504, 505, 506, 507, 110, 459, 460, 461, 462, 512, 513, 514, 515, 108, 206, 207, 208, 209, 107, 470, 471, 472, 473, 731, 732, 733, 734, 735, 736, 737, 738, 739, 740, 741, 742, 743, 744, 745, 746, 747] (by decide +kernel) (by decide +kernel)
set_option maxRecDepth 20000 in
theorem gL_law_X8_symmetries : GoodIn wsL_law (wsV RL 171 RX8 yX8_symmetries wsX8_symmetries) := goodIn_app (goodIn_of _ (by decide +kernel)) ggL_law_X8_symmetries
set_option maxRecDepth 20000 in
theorem ggL_law_L_orbits : GoodIn wsL_law wsL_orbits := goodIn_ca (goodIn_r _ [575, 139, 576, 577, 578, 2, 579, 26, 147, 148, 149, 150, 151, 152, 15, 403, 25, 404, 405, 406, 407, 408, 409, 410, 411, 51, 412, 17, 413, 414, 41, 40, 415, 416, 417, 418, 52, 419, 94, 95, 96, 97, 98, 99, 420, 421, 422, 423, 53, 424, 425, 426, 427, 428, 429, 430, 54, 431, 432, 433, 434, 435, 157, 91, 158, 436, 437, 438, 262, 263, 439, 440, 441, 442, 580, 581, 582, 446, 447, 448, 449, 583, 725, 726, 727, 728, 729, 730, 748, 749, 750, 756, 757, 758, 759, 760, 761, 762] (by decide +kernel) (by decide +kernel)) (goodIn_sub (fun _ h => List.mem_append_left _ (List.mem_append_right _ h)) (by decide +kernel))
set_option maxRecDepth 20000 in
theorem gL_law_L_orbits : GoodIn wsL_law (va_wsS RL 172 yL_orbits wsL_orbits) := goodIn_app (goodIn_of _ (by decide +kernel)) ggL_law_L_orbits
set_option maxRecDepth 20000 in
theorem ggL_law_X8_orbits : GoodIn wsL_law wsX8_orbits := goodIn_r _ [587, 106, 114, 163, 164, 5, 165, 166, 167, 168, 169, 170, 171, 172, 173, 569, 570, 571, 572, 109, 504, 505, 506, 507, 110, 459, 460, 461, 462, 512, 513, 514, 515, 108, 206, 207, 208, 209, 107, 470, 471, 472, 473, 731, 732, 733, 734, 735, 736, 737, 738, 739, 740, 741, 742, 743, 744, 745, 746, 747] (by decide +kernel) (by decide +kernel)
set_option maxRecDepth 20000 in
theorem gL_law_X8_orbits : GoodIn wsL_law (wsV RL 174 RX8 yX8_orbits wsX8_orbits) := goodIn_app (goodIn_of _ (by decide +kernel)) ggL_law_X8_orbits
set_option maxRecDepth 20000 in
theorem ggL_law_L_orbit : GoodIn wsL_law wsL_orbit := goodIn_ca (goodIn_r _ [590, 139, 591, 592, 593, 2, 594, 26, 147, 148, 149, 150, 151, 152, 15, 185, 186, 187, 403, 25, 404, 405, 406, 407, 408, 409, 410, 411, 51, 412, 17, 413, 414, 41, 40, 415, 416, 417, 418, 52, 419, 94, 95, 96, 97, 98, 99, 420, 421, 422, 423, 53, 424, 425, 426, 427, 428, 429, 430, 54, 431, 432, 433, 434, 435, 157, 91, 158, 436, 437, 438, 262, 263, 439, 440, 441, 442, 580, 581, 582, 446, 447, 448, 449, 725, 726, 727, 728, 729, 730, 748, 749, 750, 756, 757, 758, 759, 760, 761, 762] (by decide +kernel) (by decide +kernel)) (goodIn_sub (fun _ h => List.mem_append_left _ (List.mem_append_right _ h)) (by decide +kernel))
set_option maxRecDepth 20000 in
theorem gL_law_L_orbit : GoodIn wsL_law (va_wsS RL 175 yL_orbit wsL_orbit) := goodIn_app (goodIn_of _ (by decide +kernel)) ggL_law_L_orbit
set_option maxRecDepth 20000 in
theorem ggL_law_X8_orbit : GoodIn wsL_law wsX8_orbit := goodIn_r _ [598, 114, 202, 203, 204, 5, 205, 106, 163, 164, 165, 166, 167, 168, 169, 170, 171, 172, 173, 569, 570, 571, 572, 109, 504, 505, 506, 507, 110, 459, 460, 461, 462, 512, 513, 514, 515, 108, 206, 207, 208, 209, 107, 470, 471, 472, 473, 731, 732, 733, 734, 735, 736, 737, 738, 739, 740, 741, 742, 743, 744, 745, 746, 747] (by decide +kernel) (by decide +kernel)
set_option maxRecDepth 20000 in
theorem gL_law_X8_orbit : GoodIn wsL_law (wsV RL 177 RX8 yX8_orbit wsX8_orbit) := goodIn_app (goodIn_of _ (by decide +kernel)) ggL_law_X8_orbit
set_option maxRecDepth 20000 in
theorem ggL_law_L_addGenerator : GoodIn wsL_law wsL_addGenerator := goodIn_ca (goodIn_ca (goodIn_r _ [601, 140, 602, 603, 604, 605, 2, 606, 607, 608, 34, 609, 610, 611, 145, 146, 612, 613, 614, 615, 616, 33, 617, 618, 81, 65, 69, 619, 620, 68, 621, 622, 86, 85, 88, 75, 623, 624, 625, 626, 87, 74, 76, 627, 628, 629, 630, 631, 632, 633, 634, 635, 636, 637, 638, 639, 640, 641, 642, 643, 644, 645, 646, 647, 648, 725, 726, 727, 728, 729, 730, 766, 767, 768, 769, 770, 771, 772, 773, 774, 775] (by decide +kernel) (by decide +kernel)) (goodIn_sub (fun _ h => List.mem_append_right _ h) (by decide +kernel))) (goodIn_sub (fun _ h => List.mem_append_left _ (List.mem_append_left _ (List.mem_append_right _ h))) (by decide +kernel))
set_option maxRecDepth 20000 in
theorem gL_law_L_addGenerator : GoodIn wsL_law (va_wsS RL 180 yL_addGenerator wsL_addGenerator) := goodIn_app (goodIn_of _ (by decide +kernel)) ggL_law_L_addGenerator
set_option maxRecDepth 20000 in
theorem ggL_law_X8_addGenerator : GoodIn wsL_law wsX8_addGenerator := goodIn_r _ [652, 126, 173, 115, 120, 125, 653, 654, 5, 655, 656, 657, 658, 659, 660, 661, 662, 121, 122, 123, 124, 116, 119, 117, 127, 128, 129, 130, 131, 132, 133, 134, 731, 732, 733, 734, 735, 736, 737, 738, 739, 740, 741, 742, 743, 744, 745, 746, 747] (by decide +kernel) (by decide +kernel)
set_option maxRecDepth 20000 in
theorem gL_law_X8_addGenerator : GoodIn wsL_law (wsV RL 183 RX8 yX8_addGenerator wsX8_addGenerator) := goodIn_app (goodIn_of _ (by decide +kernel)) ggL_law_X8_addGenerator
set_option maxRecDepth 20000 in
theorem ggL_law_X7_forgetGenerators : GoodIn wsL_law wsX7_forgetGenerators := goodIn_r _ [666, 34, 78, 33, 79, 80, 81, 69, 82, 68, 83, 84, 85, 86, 76, 74, 87, 88, 89, 90, 91, 92, 93, 94, 95, 96, 97, 98, 99, 100, 2, 101, 725, 726, 727, 728, 729, 730, 766, 767, 768, 769, 770, 771, 772, 773, 774, 775] (by decide +kernel) (by decide +kernel)
set_option maxRecDepth 20000 in
theorem gL_law_X7_forgetGenerators : GoodIn wsL_law (wsV RL 184 RX7 yX7_forgetGenerators wsX7_forgetGenerators) := goodIn_app (goodIn_of _ (by decide +kernel)) ggL_law_X7_forgetGenerators
set_option maxRecDepth 20000 in
theorem ggL_law_X8_forgetGenerators : GoodIn wsL_law wsX8_forgetGenerators := goodIn_r _ [670, 173, 126, 121, 122, 123, 5, 124, 116, 119, 125, 120, 115, 117, 127, 128, 129, 130, 131, 132, 133, 134, 731, 732, 733, 734, 735, 736, 737, 738, 739, 740, 741, 742, 743, 744, 745, 746, 747] (by decide +kernel) (by decide +kernel)
set_option maxRecDepth 20000 in
theorem gL_law_X8_forgetGenerators : GoodIn wsL_law (wsV RL 187 RX8 yX8_forgetGenerators wsX8_forgetGenerators) := goodIn_app (goodIn_of _ (by decide +kernel)) ggL_law_X8_forgetGenerators
set_option maxRecDepth 20000 in
theorem ggL_law_X7_order : GoodIn wsL_law wsX7_order := goodIn_r _ [674, 34, 725, 726, 727, 728, 729, 730, 766, 767, 768, 769, 770, 771, 772, 773, 774, 775] (by decide +kernel) (by decide +kernel)
set_option maxRecDepth 20000 in
theorem gL_law_X7_order : GoodIn wsL_law (wsV RL 188 RX7 yX7_order wsX7_order) := goodIn_app (goodIn_of _ (by decide +kernel)) ggL_law_X7_order
set_option maxRecDepth 20000 in
theorem ggL_law_X8_order : GoodIn wsL_law wsX8_order := goodIn_r _ [678, 173, 125, 731, 732, 733, 734, 735, 736, 737, 738, 739, 740, 741, 742, 743, 744, 745, 746, 747] (by decide +kernel) (by decide +kernel)
set_option maxRecDepth 20000 in
theorem gL_law_X8_order : GoodIn wsL_law (wsV RL 191 RX8 yX8_order wsX8_order) := goodIn_app (goodIn_of _ (by decide +kernel)) ggL_law_X8_order
set_option maxRecDepth 20000 in
theorem ggL_law_L_isInGroup : GoodIn wsL_law wsL_isInGroup := goodIn_ca (goodIn_r _ [681, 140, 682, 683, 684, 2, 685, 34, 609, 610, 611, 145, 146, 612, 613, 614, 615, 686, 68, 687, 688, 87, 627, 628, 629, 630, 74, 76, 631, 632, 633, 634, 635, 636, 637, 638, 725, 726, 727, 728, 729, 730, 766, 767, 768, 769, 770, 771, 772, 773, 774, 775] (by decide +kernel) (by decide +kernel)) (goodIn_sub (fun _ h => List.mem_append_left _ (List.mem_append_left _ (List.mem_append_right _ h))) (by decide +kernel))
set_option maxRecDepth 20000 in
theorem gL_law_L_isInGroup : GoodIn wsL_law (va_wsS RL 192 yL_isInGroup wsL_isInGroup) := goodIn_app (goodIn_of _ (by decide +kernel)) ggL_law_L_isInGroup
set_option maxRecDepth 20000 in
theorem ggL_law_X8_isInGroup : GoodIn wsL_law wsX8_isInGroup := goodIn_r _ [692, 173, 119, 653, 654, 5, 655, 656, 657, 658, 659, 660, 661, 662, 120, 131, 132, 133, 134, 731, 732, 733, 734, 735, 736, 737, 738, 739, 740, 741, 742, 743, 744, 745, 746, 747] (by decide +kernel) (by decide +kernel)
set_option maxRecDepth 20000 in
theorem gL_law_X8_isInGroup : GoodIn wsL_law (wsV RL 194 RX8 yX8_isInGroup wsX8_isInGroup) := goodIn_app (goodIn_of _ (by decide +kernel)) ggL_law_X8_isInGroup
set_option maxRecDepth 20000 in
theorem ggL_law_L_moves : GoodIn wsL_law wsL_moves := goodIn_ca (goodIn_r _ [695, 139, 696, 697, 698, 2, 699, 151, 152, 34, 700, 33, 701, 702, 81, 65, 703, 704, 705, 100, 101, 631, 613, 632, 725, 726, 727, 728, 729, 730, 766, 767, 768, 769] (by decide +kernel) (by decide +kernel)) (goodIn_sub (fun _ h => List.mem_append_left _ (List.mem_append_right _ h)) (by decide +kernel))
set_option maxRecDepth 20000 in
theorem gL_law_L_moves : GoodIn wsL_law (va_wsS RL 195 yL_moves wsL_moves) := goodIn_app (goodIn_of _ (by decide +kernel)) ggL_law_L_moves
set_option maxRecDepth 20000 in
theorem ggL_law_X8_moves : GoodIn wsL_law wsX8_moves := goodIn_r _ [709, 125, 117, 166, 167, 5, 168, 169, 170, 171, 172, 173, 731, 732, 733, 734, 735, 736, 737, 738, 739, 740, 741, 742, 743, 744, 745, 746, 747] (by decide +kernel) (by decide +kernel)
set_option maxRecDepth 20000 in
theorem gL_law_X8_moves : GoodIn wsL_law (wsV RL 197 RX8 yX8_moves wsX8_moves) := goodIn_app (goodIn_of _ (by decide +kernel)) ggL_law_X8_moves
set_option maxRecDepth 20000 in
theorem ggL_law_L_fixing : GoodIn wsL_law wsL_fixing := goodIn_ca (goodIn_r _ [712, 140, 713, 714, 715, 2, 716, 145, 146, 34, 717, 33, 718, 719, 70, 81, 65, 69, 82, 68, 83, 84, 85, 86, 76, 74, 87, 88, 89, 90, 91, 92, 93, 94, 95, 96, 97, 98, 99, 100, 101, 620, 621, 622, 75, 623, 624, 625, 626, 627, 628, 629, 630, 631, 613, 632, 633, 634, 635, 636, 637, 638, 639, 640, 641, 642, 643, 644, 645, 646, 647, 648, 720, 725, 726, 727, 728, 729, 730, 766, 767, 768, 769, 770, 771, 772, 773, 774, 775] (by decide +kernel) (by decide +kernel)) (goodIn_sub (fun _ h => List.mem_append_left _ (List.mem_append_left _ (List.mem_append_right _ h))) (by decide +kernel))
set_option maxRecDepth 20000 in
theorem gL_law_L_fixing : GoodIn wsL_law (va_wsS RL 198 yL_fixing wsL_fixing) := goodIn_app (goodIn_of _ (by decide +kernel)) ggL_law_L_fixing
set_option maxRecDepth 20000 in
theorem ggL_law_X8_fixing : GoodIn wsL_law wsX8_fixing := goodIn_r _ [724, 125, 117, 166, 167, 5, 168, 169, 170, 171, 172, 173, 731, 732, 733, 734, 735, 736, 737, 738, 739, 740, 741, 742, 743, 744, 745, 746, 747] (by decide +kernel) (by decide +kernel)
set_option maxRecDepth 20000 in
theorem gL_law_X8_fixing : GoodIn wsL_law (wsV RL 200 RX8 yX8_fixing wsX8_fixing) := goodIn_app (goodIn_of _ (by decide +kernel)) ggL_law_X8_fixing
theorem wd_L_law_0 : Cond.constantLong RL 178 4294967295 ∈ wsL_law := by decide +kernel
end
