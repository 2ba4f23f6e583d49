set_option maxRecDepth 20000 in
theorem ggL_law_X6_init : GoodIn wsL_law wsX6_init := goodIn_r _ [8, 9, 10, 11, 12, 13, 14, 15, 16, 17, 18, 19, 20, 21, 22, 23, 24, 25, 26, 27, 28, 29, 30, 31, 32, 33, 34, 35, 36, 37, 38, 39, 40, 41, 42, 43, 44, 45, 46, 47, 48, 49, 50, 51, 52, 53, 54, 55, 56, 57, 58, 59, 60, 61, 62, 63, 64, 65, 66, 67, 68, 69, 70, 71, 72, 73, 74, 75, 76, 77, 78, 79, 80, 81, 82, 83, 84, 777, 778, 779, 780, 781, 782, 783, 743, 744, 745, 746, 747, 748, 749, 750, 751, 752, 753, 784, 785, 786, 787, 788, 789, 790, 791, 792, 793, 794, 795, 796, 797, 798, 799] (by decide +kernel) (by decide +kernel)
set_option maxRecDepth 20000 in
theorem gL_law_X6_init : GoodIn wsL_law (wsX6_init) := ggL_law_X6_init
set_option maxRecDepth 20000 in
theorem ggL_law_X7_init : GoodIn wsL_law wsX7_init := goodIn_r _ [87, 88, 10, 11, 35, 89, 90, 91, 92, 93, 94, 95, 96, 97, 98, 99, 100, 101, 102, 754, 755, 756, 757, 758, 759, 760, 761, 762, 763, 764, 765, 766, 767, 768, 769, 770, 771, 772, 773, 774, 775, 776] (by decide +kernel) (by decide +kernel)
set_option maxRecDepth 20000 in
theorem gL_law_X7_init : GoodIn wsL_law (wsX7_init) := ggL_law_X7_init
set_option maxRecDepth 20000 in
theorem ggL_law_X6_frame : GoodIn wsL_law wsX6_frame := goodIn_r _ [106, 22, 18, 15, 107, 34, 108, 109, 110, 111, 112, 2, 113, 40, 114, 115, 116, 117, 118, 119, 120, 121, 122, 123, 124, 125, 126, 127, 128, 42, 129, 84, 130, 131, 132, 21, 133, 57, 134, 135, 136, 137, 138, 81, 139, 140, 141, 142, 143, 144, 145, 146, 147, 148, 149, 150, 151, 152, 153, 14, 154, 46, 47, 48, 51, 155, 156, 157, 158, 49, 50, 52, 743, 744, 745, 746, 747, 748, 749, 750, 751, 752, 753, 784, 792, 793, 794, 795, 777, 778, 779, 780, 781, 782, 783, 796, 797, 798, 799] (by decide +kernel) (by decide +kernel)
set_option maxRecDepth 20000 in
theorem gL_law_X6_frame : GoodIn wsL_law (wsV RL 13 RX6 yX6_frame wsX6_frame) := goodIn_app (goodIn_of _ (by decide +kernel)) ggL_law_X6_frame
set_option maxRecDepth 20000 in
theorem ggL_law_X7_frame : GoodIn wsL_law wsX7_frame := goodIn_r _ [162, 163, 164, 165, 166, 92, 95, 93, 94, 167, 168, 169, 5, 170, 171, 172, 173, 174, 175, 176, 177, 178, 179, 180, 89, 90, 181, 182, 183, 184, 185, 186, 187, 188, 189, 190, 191, 192, 91, 193, 194, 195, 196, 197, 198, 199, 200, 201, 202, 203, 754, 755, 756, 757, 758, 759, 760, 761, 762, 763, 764, 765, 766, 767, 768, 769, 770, 771, 772, 773, 774, 775, 776] (by decide +kernel) (by decide +kernel)
set_option maxRecDepth 20000 in
theorem gL_law_X7_frame : GoodIn wsL_law (wsV RL 17 RX7 yX7_frame wsX7_frame) := goodIn_app (goodIn_of _ (by decide +kernel)) ggL_law_X7_frame
set_option maxRecDepth 20000 in
theorem ggL_law_X6_ofWire : GoodIn wsL_law wsX6_ofWire := goodIn_r _ [207, 15, 208, 209, 210, 211, 212, 213, 214, 215, 14, 216, 51, 743, 744, 745, 746, 747, 748, 749, 750, 751, 752, 753, 777, 778, 779, 780, 781, 782, 783] (by decide +kernel) (by decide +kernel)
set_option maxRecDepth 20000 in
theorem gL_law_X6_ofWire : GoodIn wsL_law (wsV RL 18 RX6 yX6_ofWire wsX6_ofWire) := goodIn_app (goodIn_of _ (by decide +kernel)) ggL_law_X6_ofWire
set_option maxRecDepth 20000 in
theorem ggL_law_X7_ofWire : GoodIn wsL_law wsX7_ofWire := goodIn_r _ [220, 92, 93, 94, 221, 222, 223, 5, 224, 166, 225, 226, 227, 228, 201, 202, 203, 229, 230, 231, 232, 754, 755, 756, 757, 758, 759, 760, 761, 762, 763, 764, 765, 766, 767, 768, 769, 770, 771, 772, 773, 774, 775, 776] (by decide +kernel) (by decide +kernel)
set_option maxRecDepth 20000 in
theorem gL_law_X7_ofWire : GoodIn wsL_law (wsV RL 22 RX7 yX7_ofWire wsX7_ofWire) := goodIn_app (goodIn_of _ (by decide +kernel)) ggL_law_X7_ofWire
set_option maxRecDepth 20000 in
theorem ggL_law_X6_number : GoodIn wsL_law wsX6_number := goodIn_r _ [236, 15, 109, 237, 238, 239, 240, 14, 241, 51, 48, 50, 242, 243, 244, 245, 743, 744, 745, 746, 747, 748, 749, 750, 751, 752, 753, 777, 778, 779, 780, 781, 782, 783] (by decide +kernel) (by decide +kernel)
set_option maxRecDepth 20000 in
theorem gL_law_X6_number : GoodIn wsL_law (wsV RL 23 RX6 yX6_number wsX6_number) := goodIn_app (goodIn_of _ (by decide +kernel)) ggL_law_X6_number
set_option maxRecDepth 20000 in
theorem ggL_law_X7_number : GoodIn wsL_law wsX7_number := goodIn_r _ [249, 166, 171, 172, 5, 173, 250, 251, 252, 253, 94, 229, 230, 231, 232, 225, 226, 227, 228, 92, 93, 201, 202, 203, 254, 255, 256, 257, 258, 259, 260, 261, 754, 755, 756, 757, 758, 759, 760, 761, 762, 763, 764, 765, 766, 767, 768, 769, 770, 771, 772, 773, 774, 775, 776] (by decide +kernel) (by decide +kernel)
set_option maxRecDepth 20000 in
theorem gL_law_X7_number : GoodIn wsL_law (wsV RL 27 RX7 yX7_number wsX7_number) := goodIn_app (goodIn_of _ (by decide +kernel)) ggL_law_X7_number
set_option maxRecDepth 20000 in
theorem ggL_law_X6_figure : GoodIn wsL_law wsX6_figure := goodIn_r _ [265, 15, 237, 213, 214, 215, 14, 216, 51, 266, 267, 268, 269, 50, 49, 270, 743, 744, 745, 746, 747, 748, 749, 750, 751, 752, 753, 777, 778, 779, 780, 781, 782, 783] (by decide +kernel) (by decide +kernel)
set_option maxRecDepth 20000 in
theorem gL_law_X6_figure : GoodIn wsL_law (wsV RL 28 RX6 yX6_figure wsX6_figure) := goodIn_app (goodIn_of _ (by decide +kernel)) ggL_law_X6_figure
set_option maxRecDepth 20000 in
theorem ggL_law_X7_figure : GoodIn wsL_law wsX7_figure := goodIn_r _ [274, 221, 222, 223, 5, 224, 166, 254, 255, 256, 257, 229, 230, 231, 232, 225, 226, 227, 228, 92, 93, 201, 202, 203, 171, 172, 173, 275, 276, 277, 278, 754, 755, 756, 757, 758, 759, 760, 761, 762, 763, 764, 765, 766, 767, 768, 769, 770, 771, 772, 773, 774, 775, 776] (by decide +kernel) (by decide +kernel)
set_option maxRecDepth 20000 in
theorem gL_law_X7_figure : GoodIn wsL_law (wsV RL 31 RX7 yX7_figure wsX7_figure) := goodIn_app (goodIn_of _ (by decide +kernel)) ggL_law_X7_figure
set_option maxRecDepth 20000 in
theorem ggL_law_X6_slide : GoodIn wsL_law wsX6_slide := goodIn_r _ [282, 15, 210, 211, 213, 214, 215, 14, 216, 51, 743, 744, 745, 746, 747, 748, 749, 750, 751, 752, 753, 777, 778, 779, 780, 781, 782, 783] (by decide +kernel) (by decide +kernel)
set_option maxRecDepth 20000 in
theorem gL_law_X6_slide : GoodIn wsL_law (wsV RL 32 RX6 yX6_slide wsX6_slide) := goodIn_app (goodIn_of _ (by decide +kernel)) ggL_law_X6_slide
set_option maxRecDepth 20000 in
theorem ggL_law_X7_slide : GoodIn wsL_law wsX7_slide := goodIn_r _ [286, 94, 221, 222, 223, 5, 224, 166, 225, 226, 227, 228, 92, 93, 201, 202, 203, 171, 172, 173, 754, 755, 756, 757, 758, 759, 760, 761, 762, 763, 764, 765, 766, 767, 768, 769, 770, 771, 772, 773, 774, 775, 776] (by decide +kernel) (by decide +kernel)
set_option maxRecDepth 20000 in
theorem gL_law_X7_slide : GoodIn wsL_law (wsV RL 35 RX7 yX7_slide wsX7_slide) := goodIn_app (goodIn_of _ (by decide +kernel)) ggL_law_X7_slide
set_option maxRecDepth 20000 in
theorem ggL_law_X6_add : GoodIn wsL_law wsX6_add := goodIn_r _ [290, 15, 291, 292, 293, 14, 294, 51, 52, 295, 239, 240, 241, 48, 50, 238, 296, 297, 298, 299, 300, 301, 302, 303, 304, 305, 306, 307, 308, 267, 268, 269, 49, 270, 214, 215, 216, 743, 744, 745, 746, 747, 748, 749, 750, 751, 752, 753, 777, 778, 779, 780, 781, 782, 783] (by decide +kernel) (by decide +kernel)
set_option maxRecDepth 20000 in
theorem gL_law_X6_add : GoodIn wsL_law (wsV RL 36 RX6 yX6_add wsX6_add) := goodIn_app (goodIn_of _ (by decide +kernel)) ggL_law_X6_add
set_option maxRecDepth 20000 in
theorem ggL_law_X7_add : GoodIn wsL_law wsX7_add := goodIn_r _ [312, 166, 313, 314, 315, 5, 316, 254, 255, 256, 257, 229, 230, 231, 232, 225, 226, 227, 228, 92, 93, 201, 202, 203, 250, 251, 252, 253, 94, 317, 318, 319, 320, 275, 276, 277, 278, 321, 322, 323, 324, 325, 326, 327, 754, 755, 756, 757, 758, 759, 760, 761, 762, 763, 764, 765, 766, 767, 768, 769, 770, 771, 772, 773, 774, 775, 776] (by decide +kernel) (by decide +kernel)
set_option maxRecDepth 20000 in
theorem gL_law_X7_add : GoodIn wsL_law (wsV RL 39 RX7 yX7_add wsX7_add) := goodIn_app (goodIn_of _ (by decide +kernel)) ggL_law_X7_add
set_option maxRecDepth 20000 in
theorem ggL_law_X6_take : GoodIn wsL_law wsX6_take := goodIn_r _ [331, 15, 332, 333, 334, 14, 335, 51, 295, 239, 240, 241, 48, 50, 238, 296, 297, 298, 299, 300, 301, 302, 303, 304, 305, 306, 307, 308, 267, 268, 269, 49, 270, 214, 215, 216, 743, 744, 745, 746, 747, 748, 749, 750, 751, 752, 753, 777, 778, 779, 780, 781, 782, 783] (by decide +kernel) (by decide +kernel)
set_option maxRecDepth 20000 in
theorem gL_law_X6_take : GoodIn wsL_law (wsV RL 40 RX6 yX6_take wsX6_take) := goodIn_app (goodIn_of _ (by decide +kernel)) ggL_law_X6_take
set_option maxRecDepth 20000 in
theorem ggL_law_X7_take : GoodIn wsL_law wsX7_take := goodIn_r _ [339, 166, 250, 251, 252, 5, 253, 94, 229, 230, 231, 232, 225, 226, 227, 228, 92, 93, 201, 202, 203, 317, 318, 319, 320, 275, 276, 277, 278, 321, 322, 323, 324, 325, 326, 327, 754, 755, 756, 757, 758, 759, 760, 761, 762, 763, 764, 765, 766, 767, 768, 769, 770, 771, 772, 773, 774, 775, 776] (by decide +kernel) (by decide +kernel)
set_option maxRecDepth 20000 in
theorem gL_law_X7_take : GoodIn wsL_law (wsV RL 43 RX7 yX7_take wsX7_take) := goodIn_app (goodIn_of _ (by decide +kernel)) ggL_law_X7_take
set_option maxRecDepth 20000 in
theorem ggL_law_X6_work : GoodIn wsL_law wsX6_work := goodIn_r _ [343, 15, 291, 292, 293, 14, 294, 51, 52, 295, 239, 240, 241, 48, 50, 238, 344, 301, 302, 303, 304, 305, 306, 307, 308, 267, 268, 269, 49, 270, 214, 215, 216, 345, 346, 347, 348, 743, 744, 745, 746, 747, 748, 749, 750, 751, 752, 753, 777, 778, 779, 780, 781, 782, 783] (by decide +kernel) (by decide +kernel)
set_option maxRecDepth 20000 in
theorem gL_law_X6_work : GoodIn wsL_law (wsV RL 44 RX6 yX6_work wsX6_work) := goodIn_app (goodIn_of _ (by decide +kernel)) ggL_law_X6_work
set_option maxRecDepth 20000 in
theorem ggL_law_X7_work : GoodIn wsL_law wsX7_work := goodIn_r _ [352, 166, 171, 172, 5, 173, 313, 314, 315, 316, 254, 255, 256, 257, 229, 230, 231, 232, 225, 226, 227, 228, 92, 93, 201, 202, 203, 250, 251, 252, 253, 94, 321, 322, 323, 324, 275, 276, 277, 278, 325, 326, 327, 353, 354, 355, 356, 754, 755, 756, 757, 758, 759, 760, 761, 762, 763, 764, 765, 766, 767, 768, 769, 770, 771, 772, 773, 774, 775, 776] (by decide +kernel) (by decide +kernel)
set_option maxRecDepth 20000 in
theorem gL_law_X7_work : GoodIn wsL_law (wsV RL 47 RX7 yX7_work wsX7_work) := goodIn_app (goodIn_of _ (by decide +kernel)) ggL_law_X7_work
set_option maxRecDepth 20000 in
theorem ggL_law_X6_day : GoodIn wsL_law wsX6_day := goodIn_r _ [360, 15, 109, 18, 16, 26, 361, 362, 2, 363, 110, 111, 112, 113, 40, 114, 115, 116, 117, 118, 119, 120, 121, 122, 123, 124, 125, 126, 127, 128, 42, 129, 84, 364, 365, 366, 367, 368, 369, 136, 137, 138, 81, 213, 214, 215, 14, 216, 51, 151, 152, 153, 154, 46, 47, 48, 155, 156, 157, 158, 49, 50, 52, 149, 150, 370, 371, 372, 25, 373, 61, 62, 63, 64, 374, 375, 306, 376, 377, 239, 240, 241, 378, 379, 380, 381, 382, 383, 384, 385, 386, 387, 292, 293, 294, 295, 388, 346, 347, 348, 308, 267, 268, 269, 270, 389, 297, 298, 299, 300, 301, 302, 303, 304, 305, 307, 390, 391, 392, 393, 394, 333, 334, 335, 395, 396, 397, 398, 399, 400, 401, 402, 403, 404, 405, 406, 407, 408, 409, 410, 211, 238, 743, 744, 745, 746, 747, 748, 749, 750, 751, 752, 753, 777, 778, 779, 780, 781, 782, 783, 796, 797, 798, 799, 785, 786, 787, 788] (by decide +kernel) (by decide +kernel)
set_option maxRecDepth 20000 in
theorem gL_law_X6_day : GoodIn wsL_law (wsV RL 48 RX6 yX6_day wsX6_day) := goodIn_app (goodIn_of _ (by decide +kernel)) ggL_law_X6_day
set_option maxRecDepth 20000 in
theorem ggL_law_X7_day : GoodIn wsL_law wsX7_day := goodIn_r _ [414, 163, 166, 91, 96, 94, 168, 169, 5, 170, 171, 172, 173, 174, 175, 176, 177, 178, 179, 180, 89, 90, 181, 182, 183, 184, 415, 416, 417, 418, 419, 221, 222, 223, 224, 420, 421, 422, 423, 424, 425, 426, 250, 251, 252, 253, 229, 230, 231, 232, 225, 226, 227, 228, 92, 93, 201, 202, 203, 427, 428, 429, 430, 325, 326, 327, 313, 314, 315, 316, 254, 255, 256, 257, 321, 322, 323, 324, 275, 276, 277, 278, 353, 354, 355, 356, 317, 318, 319, 320, 431, 432, 433, 434, 754, 755, 756, 757, 758, 759, 760, 761, 762, 763, 764, 765, 766, 767, 768, 769, 770, 771, 772, 773, 774, 775, 776] (by decide +kernel) (by decide +kernel)
set_option maxRecDepth 20000 in
theorem gL_law_X7_day : GoodIn wsL_law (wsV RL 52 RX7 yX7_day wsX7_day) := goodIn_app (goodIn_of _ (by decide +kernel)) ggL_law_X7_day
set_option maxRecDepth 20000 in
theorem ggL_law_X6_order : GoodIn wsL_law wsX6_order := goodIn_r _ [438, 15, 109, 18, 368, 30, 110, 111, 112, 2, 113, 40, 114, 115, 116, 117, 118, 119, 120, 121, 122, 123, 124, 125, 126, 127, 128, 42, 129, 84, 439, 440, 441, 442, 443, 136, 137, 138, 81, 444, 445, 446, 29, 447, 68, 70, 69, 448, 449, 450, 451, 452, 292, 293, 14, 294, 51, 52, 295, 239, 240, 241, 48, 50, 453, 454, 455, 456, 457, 458, 301, 302, 303, 304, 305, 306, 307, 308, 267, 268, 269, 49, 270, 214, 215, 216, 459, 460, 461, 462, 463, 464, 465, 466, 743, 744, 745, 746, 747, 748, 749, 750, 751, 752, 753, 777, 778, 779, 780, 781, 782, 783, 796, 797, 798, 799, 789, 790, 791] (by decide +kernel) (by decide +kernel)
set_option maxRecDepth 20000 in
theorem gL_law_X6_order : GoodIn wsL_law (wsV RL 53 RX6 yX6_order wsX6_order) := goodIn_app (goodIn_of _ (by decide +kernel)) ggL_law_X6_order
set_option maxRecDepth 20000 in
theorem ggL_law_X7_order : GoodIn wsL_law wsX7_order := goodIn_r _ [470, 163, 166, 91, 419, 168, 169, 5, 170, 171, 172, 173, 174, 175, 176, 177, 178, 179, 180, 89, 90, 181, 182, 183, 184, 313, 314, 315, 316, 254, 255, 256, 257, 229, 230, 231, 232, 225, 226, 227, 228, 92, 93, 201, 202, 203, 250, 251, 252, 253, 94, 471, 472, 473, 474, 97, 475, 476, 477, 478, 479, 480, 481, 482, 483, 484, 485, 321, 322, 323, 324, 275, 276, 277, 278, 325, 326, 327, 754, 755, 756, 757, 758, 759, 760, 761, 762, 763, 764, 765, 766, 767, 768, 769, 770, 771, 772, 773, 774, 775, 776] (by decide +kernel) (by decide +kernel)
set_option maxRecDepth 20000 in
theorem gL_law_X7_order : GoodIn wsL_law (wsV RL 56 RX7 yX7_order wsX7_order) := goodIn_app (goodIn_of _ (by decide +kernel)) ggL_law_X7_order
set_option maxRecDepth 20000 in
theorem ggL_law_X6_fewest : GoodIn wsL_law wsX6_fewest := goodIn_r _ [489, 18, 36, 110, 111, 112, 2, 113, 40, 114, 115, 116, 117, 118, 119, 120, 121, 122, 123, 124, 125, 126, 127, 128, 42, 129, 84, 439, 440, 441, 442, 443, 136, 137, 138, 81, 490, 491, 492, 493, 494, 495, 306, 496, 369, 743, 744, 745, 746, 747, 748, 749, 750, 751, 752, 753, 796, 797, 798, 799] (by decide +kernel) (by decide +kernel)
set_option maxRecDepth 20000 in
theorem gL_law_X6_fewest : GoodIn wsL_law (wsV RL 57 RX6 yX6_fewest wsX6_fewest) := goodIn_app (goodIn_of _ (by decide +kernel)) ggL_law_X6_fewest
set_option maxRecDepth 20000 in
theorem ggL_law_X7_fewest : GoodIn wsL_law wsX7_fewest := goodIn_r _ [500, 163, 91, 98, 168, 169, 5, 170, 171, 172, 173, 174, 175, 176, 177, 178, 179, 180, 89, 90, 181, 182, 183, 184, 754, 755, 756, 757, 758, 759, 760, 761, 762, 763, 764, 765, 766, 767, 768, 769, 770, 771, 772, 773, 774, 775, 776] (by decide +kernel) (by decide +kernel)
set_option maxRecDepth 20000 in
theorem gL_law_X7_fewest : GoodIn wsL_law (wsV RL 60 RX7 yX7_fewest wsX7_fewest) := goodIn_app (goodIn_of _ (by decide +kernel)) ggL_law_X7_fewest
set_option maxRecDepth 20000 in
theorem ggL_law_X6_added : GoodIn wsL_law wsX6_added := goodIn_r _ [504, 15, 109, 18, 110, 111, 112, 2, 113, 40, 114, 115, 116, 117, 118, 119, 120, 121, 122, 123, 124, 125, 126, 127, 128, 42, 129, 84, 369, 136, 137, 138, 81, 213, 214, 215, 14, 216, 51, 505, 506, 507, 508, 237, 494, 495, 306, 496, 238, 239, 240, 241, 48, 50, 509, 510, 511, 512, 266, 267, 268, 269, 49, 270, 743, 744, 745, 746, 747, 748, 749, 750, 751, 752, 753, 777, 778, 779, 780, 781, 782, 783, 796, 797, 798, 799] (by decide +kernel) (by decide +kernel)
set_option maxRecDepth 20000 in
theorem gL_law_X6_added : GoodIn wsL_law (wsV RL 61 RX6 yX6_added wsX6_added) := goodIn_app (goodIn_of _ (by decide +kernel)) ggL_law_X6_added
set_option maxRecDepth 20000 in
theorem ggL_law_X7_added : GoodIn wsL_law wsX7_added := goodIn_r _ [516, 163, 166, 91, 168, 169, 5, 170, 171, 172, 173, 174, 175, 176, 177, 178, 179, 180, 89, 90, 181, 182, 183, 184, 221, 222, 223, 224, 313, 314, 315, 316, 254, 255, 256, 257, 229, 230, 231, 232, 225, 226, 227, 228, 92, 93, 201, 202, 203, 250, 251, 252, 253, 94, 517, 518, 519, 520, 275, 276, 277, 278, 754, 755, 756, 757, 758, 759, 760, 761, 762, 763, 764, 765, 766, 767, 768, 769, 770, 771, 772, 773, 774, 775, 776] (by decide +kernel) (by decide +kernel)
set_option maxRecDepth 20000 in
theorem gL_law_X7_added : GoodIn wsL_law (wsV RL 64 RX7 yX7_added wsX7_added) := goodIn_app (goodIn_of _ (by decide +kernel)) ggL_law_X7_added
set_option maxRecDepth 20000 in
theorem ggL_law_X6_turn : GoodIn wsL_law wsX6_turn := goodIn_r _ [524, 15, 109, 211, 743, 744, 745, 746, 747, 748, 749, 750, 751, 752, 753, 777, 778, 779, 780, 781, 782, 783] (by decide +kernel) (by decide +kernel)
set_option maxRecDepth 20000 in
theorem gL_law_X6_turn : GoodIn wsL_law (wsV RL 65 RX6 yX6_turn wsX6_turn) := goodIn_app (goodIn_of _ (by decide +kernel)) ggL_law_X6_turn
set_option maxRecDepth 20000 in
theorem ggL_law_X7_turn : GoodIn wsL_law wsX7_turn := goodIn_r _ [528, 166, 94, 171, 172, 5, 173, 754, 755, 756, 757, 758, 759, 760, 761, 762, 763, 764, 765, 766, 767, 768, 769, 770, 771, 772, 773, 774, 775, 776] (by decide +kernel) (by decide +kernel)
set_option maxRecDepth 20000 in
theorem gL_law_X7_turn : GoodIn wsL_law (wsV RL 68 RX7 yX7_turn wsX7_turn) := goodIn_app (goodIn_of _ (by decide +kernel)) ggL_law_X7_turn
set_option maxRecDepth 20000 in
theorem ggL_law_X6_reading : GoodIn wsL_law wsX6_reading := goodIn_r _ [532, 15, 34, 108, 213, 214, 215, 14, 216, 51, 533, 534, 535, 33, 536, 77, 74, 75, 76, 743, 744, 745, 746, 747, 748, 749, 750, 751, 752, 753, 792, 793, 794, 795, 777, 778, 779, 780, 781, 782, 783] (by decide +kernel) (by decide +kernel)
set_option maxRecDepth 20000 in
theorem gL_law_X6_reading : GoodIn wsL_law (wsV RL 69 RX6 yX6_reading wsX6_reading) := goodIn_app (goodIn_of _ (by decide +kernel)) ggL_law_X6_reading
set_option maxRecDepth 20000 in
theorem ggL_law_X7_reading : GoodIn wsL_law wsX7_reading := goodIn_r _ [540, 167, 99, 100, 101, 221, 222, 223, 5, 224, 166, 171, 172, 173, 754, 755, 756, 757, 758, 759, 760, 761, 762, 763, 764, 765, 766, 767, 768, 769, 770, 771, 772, 773, 774, 775, 776] (by decide +kernel) (by decide +kernel)
set_option maxRecDepth 20000 in
theorem gL_law_X7_reading : GoodIn wsL_law (wsV RL 73 RX7 yX7_reading wsX7_reading) := goodIn_app (goodIn_of _ (by decide +kernel)) ggL_law_X7_reading
