set_option maxRecDepth 20000 in
theorem ggL_law_X6_init : GoodIn wsL_law wsX6_init := goodIn_r _ [8, 9, 10, 11, 12, 13, 14, 15, 16, 17, 18, 19, 20, 21, 22, 23, 24, 25, 26, 27, 28, 29, 30, 31, 32, 33, 34, 35, 36, 37, 38, 39, 40, 41, 42, 43, 44, 45, 46, 47, 48, 49, 50, 51, 52, 53, 54, 55, 56, 57, 58, 59, 60, 61, 62, 63, 64, 65, 66, 67, 68, 69, 70, 71, 72, 73, 74, 75, 76, 77, 78, 79, 80, 81, 82, 83, 824, 825, 826, 827, 828, 829, 830, 831, 866, 867, 868, 869, 870, 871, 872, 873, 874, 875, 876, 877, 878, 879, 880, 881, 882, 883, 884, 885, 886, 887, 888, 889, 890, 891] (by decide +kernel) (by decide +kernel)
set_option maxRecDepth 20000 in
theorem gL_law_X6_init : GoodIn wsL_law (wsX6_init) := ggL_law_X6_init
set_option maxRecDepth 20000 in
theorem ggL_law_X7_init : GoodIn wsL_law wsX7_init := goodIn_r _ [86, 87, 10, 11, 46, 88, 89, 90, 91, 92, 93, 94, 95, 96, 97, 98, 99, 100, 101, 102, 103, 104, 105, 106, 107, 108, 832, 833, 834, 835, 836, 837, 838, 839, 840, 841, 842, 843, 844, 845, 846, 847, 848, 849, 850, 851, 852, 853, 854, 855, 856, 857, 858, 859, 860, 861, 862, 863, 864, 865] (by decide +kernel) (by decide +kernel)
set_option maxRecDepth 20000 in
theorem gL_law_X7_init : GoodIn wsL_law (wsX7_init) := ggL_law_X7_init
set_option maxRecDepth 20000 in
theorem ggL_law_X6_program : GoodIn wsL_law wsX6_program := goodIn_r _ [112, 31, 13, 17, 22, 30, 113, 114, 2, 115, 116, 117, 118, 119, 120, 121, 34, 122, 82, 123, 124, 125, 126, 127, 128, 129, 130, 83, 131, 132, 133, 134, 135, 136, 137, 16, 138, 41, 42, 139, 140, 141, 40, 142, 51, 52, 143, 144, 145, 146, 81, 147, 148, 149, 150, 151, 152, 153, 154, 155, 156, 157, 158, 49, 159, 160, 161, 162, 163, 164, 165, 166, 167, 168, 169, 170, 171, 172, 173, 174, 175, 176, 177, 178, 179, 180, 181, 50, 182, 183, 184, 185, 186, 47, 187, 188, 189, 190, 48, 191, 192, 193, 29, 194, 77, 195, 196, 197, 198, 824, 825, 826, 827, 828, 829, 830, 831, 866, 867, 880, 881, 882, 886, 887, 888, 889, 890, 891, 883, 884, 885] (by decide +kernel) (by decide +kernel)
set_option maxRecDepth 20000 in
theorem gL_law_X6_program : GoodIn wsL_law (wsV RL 13 RX6 yX6_program wsX6_program) := goodIn_app (goodIn_of _ (by decide +kernel)) ggL_law_X6_program
set_option maxRecDepth 20000 in
theorem ggL_law_X7_program : GoodIn wsL_law wsX7_program := goodIn_r _ [202, 203, 204, 205, 206, 207, 88, 92, 89, 93, 90, 94, 91, 95, 208, 209, 210, 5, 211, 212, 213, 214, 215, 216, 217, 218, 219, 220, 221, 222, 223, 224, 105, 106, 225, 226, 227, 228, 229, 230, 231, 232, 233, 234, 235, 236, 237, 238, 239, 107, 240, 241, 242, 243, 244, 245, 246, 247, 248, 249, 250, 251, 832, 833, 834, 835, 836, 837, 838, 839, 840, 841, 842, 843, 844, 845, 846, 847, 848, 849, 850, 851, 852, 853, 854, 855, 856, 857, 858, 859, 860, 861, 862, 863, 864, 865] (by decide +kernel) (by decide +kernel)
set_option maxRecDepth 20000 in
theorem gL_law_X7_program : GoodIn wsL_law (wsV RL 17 RX7 yX7_program wsX7_program) := goodIn_app (goodIn_of _ (by decide +kernel)) ggL_law_X7_program
set_option maxRecDepth 20000 in
theorem ggL_law_X6_ofFunction : GoodIn wsL_law wsX6_ofFunction := goodIn_r _ [255, 22, 21, 256, 167, 168, 40, 169, 51, 257, 258, 259, 20, 260, 57, 58, 261, 188, 189, 190, 59, 60, 262, 263, 264, 265, 65, 266, 267, 268, 269, 270, 271, 272, 273, 50, 274, 275, 276, 277, 49, 182, 278, 279, 280, 281, 282, 61, 283, 284, 285, 286, 287, 288, 289, 290, 291, 292, 293, 294, 64, 62, 63, 295, 296, 297, 298, 299, 300, 301, 302, 303, 304, 305, 306, 307, 308, 309, 310, 311, 312, 313, 314, 824, 825, 826, 827, 828, 829, 830, 831, 886, 887, 888, 889, 890, 891, 868, 869, 870, 871, 872, 873, 874, 875, 876] (by decide +kernel) (by decide +kernel)
set_option maxRecDepth 20000 in
theorem gL_law_X6_ofFunction : GoodIn wsL_law (wsV RL 18 RX6 yX6_ofFunction wsX6_ofFunction) := goodIn_app (goodIn_of _ (by decide +kernel)) ggL_law_X6_ofFunction
set_option maxRecDepth 20000 in
theorem ggL_law_X7_ofFunction : GoodIn wsL_law wsX7_ofFunction := goodIn_r _ [318, 88, 89, 90, 100, 319, 320, 321, 5, 322, 206, 213, 214, 215, 323, 324, 325, 326, 91, 327, 328, 329, 330, 331, 332, 333, 334, 207, 335, 336, 337, 338, 339, 340, 341, 342, 343, 344, 345, 346, 96, 97, 347, 348, 349, 350, 351, 352, 353, 354, 355, 356, 357, 358, 98, 99, 359, 360, 361, 362, 832, 833, 834, 835, 836, 837, 838, 839, 840, 841, 842, 843, 844, 845, 846, 847, 848, 849, 850, 851, 852, 853, 854, 855, 856, 857, 858, 859, 860, 861, 862, 863, 864, 865] (by decide +kernel) (by decide +kernel)
set_option maxRecDepth 20000 in
theorem gL_law_X7_ofFunction : GoodIn wsL_law (wsV RL 22 RX7 yX7_ofFunction wsX7_ofFunction) := goodIn_app (goodIn_of _ (by decide +kernel)) ggL_law_X7_ofFunction
set_option maxRecDepth 20000 in
theorem ggL_law_X6_step : GoodIn wsL_law wsX6_step := goodIn_r _ [366, 22, 367, 275, 276, 40, 277, 49, 182, 167, 168, 169, 51, 368, 271, 272, 273, 50, 274, 824, 825, 826, 827, 828, 829, 830, 831, 886, 887, 888, 889, 890, 891] (by decide +kernel) (by decide +kernel)
set_option maxRecDepth 20000 in
theorem gL_law_X6_step : GoodIn wsL_law (wsV RL 23 RX6 yX6_step wsX6_step) := goodIn_app (goodIn_of _ (by decide +kernel)) ggL_law_X6_step
set_option maxRecDepth 20000 in
theorem ggL_law_X7_step : GoodIn wsL_law wsX7_step := goodIn_r _ [372, 91, 373, 374, 375, 5, 376, 90, 319, 320, 321, 322, 206, 213, 214, 215, 832, 833, 834, 835, 836, 837, 838, 839, 840, 841, 842, 843, 844, 845, 846, 847, 848, 849, 850, 851, 852, 853, 854, 855, 856, 857, 858, 859, 860, 861, 862, 863, 864, 865] (by decide +kernel) (by decide +kernel)
set_option maxRecDepth 20000 in
theorem gL_law_X7_step : GoodIn wsL_law (wsV RL 26 RX7 yX7_step wsX7_step) := goodIn_app (goodIn_of _ (by decide +kernel)) ggL_law_X7_step
set_option maxRecDepth 20000 in
theorem ggL_law_X6_patch : GoodIn wsL_law wsX6_patch := goodIn_r _ [380, 22, 367, 275, 276, 40, 277, 49, 182, 167, 168, 169, 51, 368, 271, 272, 273, 50, 274, 381, 382, 383, 384, 824, 825, 826, 827, 828, 829, 830, 831, 886, 887, 888, 889, 890, 891] (by decide +kernel) (by decide +kernel)
set_option maxRecDepth 20000 in
theorem gL_law_X6_patch : GoodIn wsL_law (wsV RL 27 RX6 yX6_patch wsX6_patch) := goodIn_app (goodIn_of _ (by decide +kernel)) ggL_law_X6_patch
set_option maxRecDepth 20000 in
theorem ggL_law_X7_patch : GoodIn wsL_law wsX7_patch := goodIn_r _ [388, 91, 373, 374, 375, 5, 376, 90, 319, 320, 321, 322, 206, 213, 214, 215, 832, 833, 834, 835, 836, 837, 838, 839, 840, 841, 842, 843, 844, 845, 846, 847, 848, 849, 850, 851, 852, 853, 854, 855, 856, 857, 858, 859, 860, 861, 862, 863, 864, 865] (by decide +kernel) (by decide +kernel)
set_option maxRecDepth 20000 in
theorem gL_law_X7_patch : GoodIn wsL_law (wsV RL 31 RX7 yX7_patch wsX7_patch) := goodIn_app (goodIn_of _ (by decide +kernel)) ggL_law_X7_patch
set_option maxRecDepth 20000 in
theorem ggL_law_X6_guard : GoodIn wsL_law wsX6_guard := goodIn_r _ [392, 22, 256, 167, 168, 40, 169, 51, 393, 394, 2, 395, 824, 825, 826, 827, 828, 829, 830, 831, 886, 887, 888, 889, 890, 891] (by decide +kernel) (by decide +kernel)
set_option maxRecDepth 20000 in
theorem gL_law_X6_guard : GoodIn wsL_law (wsV RL 32 RX6 yX6_guard wsX6_guard) := goodIn_app (goodIn_of _ (by decide +kernel)) ggL_law_X6_guard
set_option maxRecDepth 20000 in
theorem ggL_law_X7_guard : GoodIn wsL_law wsX7_guard := goodIn_r _ [399, 89, 319, 320, 321, 5, 322, 206, 213, 214, 215, 400, 401, 402, 212, 832, 833, 834, 835, 836, 837, 838, 839, 840, 841, 842, 843, 844, 845, 846, 847, 848, 849, 850, 851, 852, 853, 854, 855, 856, 857, 858, 859, 860, 861, 862, 863, 864, 865] (by decide +kernel) (by decide +kernel)
set_option maxRecDepth 20000 in
theorem gL_law_X7_guard : GoodIn wsL_law (wsV RL 35 RX7 yX7_guard wsX7_guard) := goodIn_app (goodIn_of _ (by decide +kernel)) ggL_law_X7_guard
set_option maxRecDepth 20000 in
theorem ggL_law_X6_live : GoodIn wsL_law wsX6_live := goodIn_r _ [406, 22, 407, 408, 2, 409, 410, 411, 412, 40, 413, 51, 824, 825, 826, 827, 828, 829, 830, 831, 886, 887, 888, 889, 890, 891] (by decide +kernel) (by decide +kernel)
set_option maxRecDepth 20000 in
theorem gL_law_X6_live : GoodIn wsL_law (wsV RL 36 RX6 yX6_live wsX6_live) := goodIn_app (goodIn_of _ (by decide +kernel)) ggL_law_X6_live
set_option maxRecDepth 20000 in
theorem ggL_law_X7_live : GoodIn wsL_law wsX7_live := goodIn_r _ [417, 418, 206, 207, 213, 214, 5, 215, 832, 833, 834, 835, 836, 837, 838, 839, 840, 841, 842, 843, 844, 845, 846, 847, 848, 849, 850, 851, 852, 853, 854, 855, 856, 857, 858, 859, 860, 861, 862, 863, 864, 865] (by decide +kernel) (by decide +kernel)
set_option maxRecDepth 20000 in
theorem gL_law_X7_live : GoodIn wsL_law (wsV RL 40 RX7 yX7_live wsX7_live) := goodIn_app (goodIn_of _ (by decide +kernel)) ggL_law_X7_live
set_option maxRecDepth 20000 in
theorem ggL_law_X6_run : GoodIn wsL_law wsX6_run := goodIn_r _ [422, 22, 21, 256, 167, 168, 40, 169, 51, 257, 258, 259, 20, 260, 57, 58, 261, 188, 189, 190, 59, 60, 423, 288, 289, 290, 291, 292, 293, 294, 61, 64, 62, 63, 270, 271, 272, 273, 50, 274, 275, 276, 277, 49, 182, 295, 296, 297, 298, 278, 299, 300, 301, 302, 303, 304, 305, 306, 307, 308, 309, 310, 311, 312, 313, 314, 424, 425, 426, 427, 428, 429, 430, 431, 824, 825, 826, 827, 828, 829, 830, 831, 868, 869, 870, 871, 872, 873, 874, 875, 876, 886, 887, 888, 889, 890, 891] (by decide +kernel) (by decide +kernel)
set_option maxRecDepth 20000 in
theorem gL_law_X6_run : GoodIn wsL_law (wsV RL 41 RX6 yX6_run wsX6_run) := goodIn_app (goodIn_of _ (by decide +kernel)) ggL_law_X6_run
set_option maxRecDepth 20000 in
theorem ggL_law_X7_run : GoodIn wsL_law wsX7_run := goodIn_r _ [435, 212, 340, 341, 342, 319, 320, 321, 5, 322, 206, 213, 214, 215, 335, 336, 337, 338, 339, 343, 344, 345, 346, 96, 97, 347, 348, 349, 350, 90, 91, 207, 351, 352, 353, 354, 355, 356, 357, 358, 98, 99, 359, 360, 361, 362, 88, 89, 832, 833, 834, 835, 836, 837, 838, 839, 840, 841, 842, 843, 844, 845, 846, 847, 848, 849, 850, 851, 852, 853, 854, 855, 856, 857, 858, 859, 860, 861, 862, 863, 864, 865] (by decide +kernel) (by decide +kernel)
set_option maxRecDepth 20000 in
theorem gL_law_X7_run : GoodIn wsL_law (wsV RL 44 RX7 yX7_run wsX7_run) := goodIn_app (goodIn_of _ (by decide +kernel)) ggL_law_X7_run
set_option maxRecDepth 20000 in
theorem ggL_law_X6_performed : GoodIn wsL_law wsX6_performed := goodIn_r _ [439, 22, 21, 256, 167, 168, 40, 169, 51, 257, 258, 259, 20, 260, 57, 58, 261, 188, 189, 190, 59, 60, 423, 288, 289, 290, 291, 292, 293, 294, 61, 64, 62, 63, 270, 271, 272, 273, 50, 274, 275, 276, 277, 49, 182, 295, 296, 297, 298, 278, 299, 300, 301, 302, 303, 304, 305, 306, 307, 308, 309, 310, 311, 312, 313, 314, 440, 441, 442, 443, 444, 445, 446, 447, 448, 449, 450, 451, 452, 824, 825, 826, 827, 828, 829, 830, 831, 886, 887, 888, 889, 890, 891, 868, 869, 870, 871, 872, 873, 874, 875, 876] (by decide +kernel) (by decide +kernel)
set_option maxRecDepth 20000 in
theorem gL_law_X6_performed : GoodIn wsL_law (wsV RL 45 RX6 yX6_performed wsX6_performed) := goodIn_app (goodIn_of _ (by decide +kernel)) ggL_law_X6_performed
set_option maxRecDepth 20000 in
theorem ggL_law_X7_performed : GoodIn wsL_law wsX7_performed := goodIn_r _ [456, 340, 98, 319, 320, 321, 5, 322, 206, 213, 214, 215, 335, 336, 337, 338, 339, 341, 342, 343, 344, 345, 346, 96, 97, 347, 348, 349, 350, 90, 91, 207, 351, 352, 353, 354, 355, 356, 357, 358, 99, 359, 360, 361, 362, 88, 89, 832, 833, 834, 835, 836, 837, 838, 839, 840, 841, 842, 843, 844, 845, 846, 847, 848, 849, 850, 851, 852, 853, 854, 855, 856, 857, 858, 859, 860, 861, 862, 863, 864, 865] (by decide +kernel) (by decide +kernel)
set_option maxRecDepth 20000 in
theorem gL_law_X7_performed : GoodIn wsL_law (wsV RL 48 RX7 yX7_performed wsX7_performed) := goodIn_app (goodIn_of _ (by decide +kernel)) ggL_law_X7_performed
set_option maxRecDepth 20000 in
theorem ggL_law_X6_path : GoodIn wsL_law wsX6_path := goodIn_r _ [460, 22, 21, 256, 167, 168, 40, 169, 51, 257, 258, 259, 20, 260, 57, 58, 261, 188, 189, 190, 59, 60, 423, 288, 289, 290, 291, 292, 293, 294, 61, 64, 62, 63, 270, 271, 272, 273, 50, 274, 275, 276, 277, 49, 182, 295, 296, 297, 298, 278, 299, 300, 301, 302, 303, 304, 305, 306, 307, 308, 309, 310, 311, 312, 313, 314, 461, 429, 430, 431, 824, 825, 826, 827, 828, 829, 830, 831, 886, 887, 888, 889, 890, 891, 868, 869, 870, 871, 872, 873, 874, 875, 876] (by decide +kernel) (by decide +kernel)
set_option maxRecDepth 20000 in
theorem gL_law_X6_path : GoodIn wsL_law (wsV RL 49 RX6 yX6_path wsX6_path) := goodIn_app (goodIn_of _ (by decide +kernel)) ggL_law_X6_path
set_option maxRecDepth 20000 in
theorem ggL_law_X7_path : GoodIn wsL_law wsX7_path := goodIn_r _ [465, 466, 342, 99, 319, 320, 321, 5, 322, 206, 213, 214, 215, 335, 336, 337, 338, 339, 340, 341, 343, 344, 345, 346, 96, 97, 347, 348, 349, 350, 90, 91, 207, 351, 352, 353, 354, 355, 356, 357, 358, 98, 359, 360, 361, 362, 88, 89, 832, 833, 834, 835, 836, 837, 838, 839, 840, 841, 842, 843, 844, 845, 846, 847, 848, 849, 850, 851, 852, 853, 854, 855, 856, 857, 858, 859, 860, 861, 862, 863, 864, 865] (by decide +kernel) (by decide +kernel)
set_option maxRecDepth 20000 in
theorem gL_law_X7_path : GoodIn wsL_law (wsV RL 52 RX7 yX7_path wsX7_path) := goodIn_app (goodIn_of _ (by decide +kernel)) ggL_law_X7_path
set_option maxRecDepth 20000 in
theorem ggL_law_X6_day : GoodIn wsL_law wsX6_day := goodIn_r _ [470, 31, 22, 13, 26, 21, 113, 114, 2, 115, 116, 117, 118, 471, 472, 25, 473, 410, 411, 412, 40, 413, 51, 119, 120, 121, 34, 122, 82, 123, 124, 125, 126, 127, 128, 129, 130, 83, 131, 132, 133, 134, 474, 475, 476, 477, 144, 145, 146, 81, 478, 479, 480, 481, 482, 483, 484, 69, 70, 71, 485, 258, 259, 20, 260, 57, 58, 261, 188, 189, 190, 59, 60, 486, 487, 488, 489, 490, 167, 168, 169, 491, 492, 493, 494, 495, 288, 289, 290, 291, 292, 293, 294, 61, 64, 62, 63, 270, 271, 272, 273, 50, 274, 275, 276, 277, 49, 182, 295, 296, 297, 298, 278, 299, 300, 301, 302, 303, 304, 305, 306, 307, 308, 309, 310, 311, 312, 313, 314, 496, 497, 498, 499, 500, 501, 502, 503, 65, 266, 267, 268, 269, 824, 825, 826, 827, 828, 829, 830, 831, 886, 887, 888, 889, 890, 891, 883, 884, 885, 877, 878, 879, 868, 869, 870, 871, 872, 873, 874, 875, 876] (by decide +kernel) (by decide +kernel)
set_option maxRecDepth 20000 in
theorem gL_law_X6_day : GoodIn wsL_law (wsV RL 53 RX6 yX6_day wsX6_day) := goodIn_app (goodIn_of _ (by decide +kernel)) ggL_law_X6_day
set_option maxRecDepth 20000 in
theorem ggL_law_X7_day : GoodIn wsL_law wsX7_day := goodIn_r _ [507, 203, 508, 466, 509, 510, 206, 107, 207, 101, 89, 209, 210, 5, 211, 212, 213, 214, 215, 216, 217, 218, 219, 220, 221, 222, 223, 224, 105, 106, 225, 226, 227, 228, 229, 230, 231, 511, 512, 513, 514, 515, 516, 517, 518, 519, 520, 521, 522, 523, 524, 525, 526, 527, 340, 341, 319, 320, 321, 322, 335, 336, 337, 338, 339, 342, 343, 344, 345, 346, 96, 97, 347, 348, 349, 350, 90, 91, 351, 352, 353, 354, 355, 356, 357, 358, 98, 99, 359, 360, 361, 362, 88, 528, 415, 416, 417, 418, 529, 397, 398, 399, 400, 401, 402, 530, 531, 532, 533, 100, 323, 324, 325, 326, 832, 833, 834, 835, 836, 837, 838, 839, 840, 841, 842, 843, 844, 845, 846, 847, 848, 849, 850, 851, 852, 853, 854, 855, 856, 857, 858, 859, 860, 861, 862, 863, 864, 865] (by decide +kernel) (by decide +kernel)
set_option maxRecDepth 20000 in
theorem gL_law_X7_day : GoodIn wsL_law (wsV RL 57 RX7 yX7_day wsX7_day) := goodIn_app (goodIn_of _ (by decide +kernel)) ggL_law_X7_day
set_option maxRecDepth 20000 in
theorem ggL_law_X6_witness : GoodIn wsL_law wsX6_witness := goodIn_r _ [537, 22, 21, 256, 167, 168, 40, 169, 51, 393, 394, 2, 395, 257, 258, 259, 20, 260, 57, 58, 261, 188, 189, 190, 59, 60, 538, 284, 285, 286, 287, 288, 289, 290, 291, 292, 293, 294, 61, 64, 62, 63, 270, 271, 272, 273, 50, 274, 275, 276, 277, 49, 182, 295, 296, 297, 298, 278, 299, 300, 301, 302, 303, 304, 305, 306, 307, 308, 309, 310, 311, 312, 313, 314, 824, 825, 826, 827, 828, 829, 830, 831, 868, 869, 870, 871, 872, 873, 874, 875, 876, 886, 887, 888, 889, 890, 891] (by decide +kernel) (by decide +kernel)
set_option maxRecDepth 20000 in
theorem gL_law_X6_witness : GoodIn wsL_law (wsV RL 58 RX6 yX6_witness wsX6_witness) := goodIn_app (goodIn_of _ (by decide +kernel)) ggL_law_X6_witness
set_option maxRecDepth 20000 in
theorem ggL_law_X7_witness : GoodIn wsL_law wsX7_witness := goodIn_r _ [542, 319, 320, 321, 5, 322, 206, 213, 214, 215, 400, 401, 402, 212, 331, 332, 333, 334, 207, 335, 336, 337, 338, 339, 340, 341, 342, 343, 344, 345, 346, 96, 97, 347, 348, 349, 350, 90, 91, 351, 352, 353, 354, 355, 356, 357, 358, 98, 99, 359, 360, 361, 362, 88, 89, 832, 833, 834, 835, 836, 837, 838, 839, 840, 841, 842, 843, 844, 845, 846, 847, 848, 849, 850, 851, 852, 853, 854, 855, 856, 857, 858, 859, 860, 861, 862, 863, 864, 865] (by decide +kernel) (by decide +kernel)
set_option maxRecDepth 20000 in
theorem gL_law_X7_witness : GoodIn wsL_law (wsV RL 61 RX7 yX7_witness wsX7_witness) := goodIn_app (goodIn_of _ (by decide +kernel)) ggL_law_X7_witness
set_option maxRecDepth 20000 in
theorem ggL_law_X6_free : GoodIn wsL_law wsX6_free := goodIn_r _ [546, 22, 21, 256, 167, 168, 40, 169, 51, 257, 258, 259, 20, 260, 57, 58, 261, 188, 189, 190, 59, 60, 538, 284, 285, 286, 287, 288, 289, 290, 291, 292, 293, 294, 61, 64, 62, 63, 270, 271, 272, 273, 50, 274, 275, 276, 277, 49, 182, 295, 296, 297, 298, 278, 299, 300, 301, 302, 303, 304, 305, 306, 307, 308, 309, 310, 311, 312, 313, 314, 547, 548, 549, 550, 824, 825, 826, 827, 828, 829, 830, 831, 886, 887, 888, 889, 890, 891, 868, 869, 870, 871, 872, 873, 874, 875, 876] (by decide +kernel) (by decide +kernel)
set_option maxRecDepth 20000 in
theorem gL_law_X6_free : GoodIn wsL_law (wsV RL 62 RX6 yX6_free wsX6_free) := goodIn_app (goodIn_of _ (by decide +kernel)) ggL_law_X6_free
set_option maxRecDepth 20000 in
theorem ggL_law_X7_free : GoodIn wsL_law wsX7_free := goodIn_r _ [554, 319, 320, 321, 5, 322, 206, 213, 214, 215, 331, 332, 333, 334, 207, 335, 336, 337, 338, 339, 340, 341, 342, 343, 344, 345, 346, 96, 97, 347, 348, 349, 350, 90, 91, 351, 352, 353, 354, 355, 356, 357, 358, 98, 99, 359, 360, 361, 362, 88, 89, 832, 833, 834, 835, 836, 837, 838, 839, 840, 841, 842, 843, 844, 845, 846, 847, 848, 849, 850, 851, 852, 853, 854, 855, 856, 857, 858, 859, 860, 861, 862, 863, 864, 865] (by decide +kernel) (by decide +kernel)
set_option maxRecDepth 20000 in
theorem gL_law_X7_free : GoodIn wsL_law (wsV RL 65 RX7 yX7_free wsX7_free) := goodIn_app (goodIn_of _ (by decide +kernel)) ggL_law_X7_free
set_option maxRecDepth 20000 in
theorem ggL_law_X6_plugs : GoodIn wsL_law wsX6_plugs := goodIn_r _ [558, 22, 21, 256, 167, 168, 40, 169, 51, 257, 258, 259, 20, 260, 57, 58, 261, 188, 189, 190, 59, 60, 559, 560, 561, 562, 563, 564, 565, 566, 61, 291, 292, 293, 294, 64, 62, 63, 270, 271, 272, 273, 50, 274, 275, 276, 277, 49, 182, 295, 296, 297, 298, 278, 299, 300, 301, 302, 303, 304, 305, 306, 307, 308, 309, 310, 311, 312, 313, 314, 824, 825, 826, 827, 828, 829, 830, 831, 886, 887, 888, 889, 890, 891, 868, 869, 870, 871, 872, 873, 874, 875, 876] (by decide +kernel) (by decide +kernel)
set_option maxRecDepth 20000 in
theorem gL_law_X6_plugs : GoodIn wsL_law (wsV RL 66 RX6 yX6_plugs wsX6_plugs) := goodIn_app (goodIn_of _ (by decide +kernel)) ggL_law_X6_plugs
set_option maxRecDepth 20000 in
theorem ggL_law_X7_plugs : GoodIn wsL_law wsX7_plugs := goodIn_r _ [570, 206, 102, 88, 101, 89, 319, 320, 321, 5, 322, 213, 214, 215, 571, 572, 573, 574, 335, 336, 337, 338, 339, 340, 341, 342, 343, 344, 345, 346, 96, 97, 347, 348, 349, 350, 90, 91, 207, 351, 352, 353, 354, 355, 356, 357, 358, 98, 99, 359, 360, 361, 362, 832, 833, 834, 835, 836, 837, 838, 839, 840, 841, 842, 843, 844, 845, 846, 847, 848, 849, 850, 851, 852, 853, 854, 855, 856, 857, 858, 859, 860, 861, 862, 863, 864, 865] (by decide +kernel) (by decide +kernel)
set_option maxRecDepth 20000 in
theorem gL_law_X7_plugs : GoodIn wsL_law (wsV RL 69 RX7 yX7_plugs wsX7_plugs) := goodIn_app (goodIn_of _ (by decide +kernel)) ggL_law_X7_plugs
set_option maxRecDepth 20000 in
theorem ggL_law_X6_more : GoodIn wsL_law wsX6_more := goodIn_r _ [578, 22, 21, 256, 167, 168, 40, 169, 51, 257, 258, 259, 20, 260, 57, 58, 261, 188, 189, 190, 59, 60, 538, 284, 285, 286, 287, 288, 289, 290, 291, 292, 293, 294, 61, 64, 62, 63, 270, 271, 272, 273, 50, 274, 275, 276, 277, 49, 182, 295, 296, 297, 298, 278, 299, 300, 301, 302, 303, 304, 305, 306, 307, 308, 309, 310, 311, 312, 313, 314, 824, 825, 826, 827, 828, 829, 830, 831, 868, 869, 870, 871, 872, 873, 874, 875, 876, 886, 887, 888, 889, 890, 891] (by decide +kernel) (by decide +kernel)
set_option maxRecDepth 20000 in
theorem gL_law_X6_more : GoodIn wsL_law (wsV RL 70 RX6 yX6_more wsX6_more) := goodIn_app (goodIn_of _ (by decide +kernel)) ggL_law_X6_more
set_option maxRecDepth 20000 in
theorem ggL_law_X7_more : GoodIn wsL_law wsX7_more := goodIn_r _ [582, 319, 320, 321, 5, 322, 206, 213, 214, 215, 331, 332, 333, 334, 207, 335, 336, 337, 338, 339, 340, 341, 342, 343, 344, 345, 346, 96, 97, 347, 348, 349, 350, 90, 91, 351, 352, 353, 354, 355, 356, 357, 358, 98, 99, 359, 360, 361, 362, 88, 89, 832, 833, 834, 835, 836, 837, 838, 839, 840, 841, 842, 843, 844, 845, 846, 847, 848, 849, 850, 851, 852, 853, 854, 855, 856, 857, 858, 859, 860, 861, 862, 863, 864, 865] (by decide +kernel) (by decide +kernel)
set_option maxRecDepth 20000 in
theorem gL_law_X7_more : GoodIn wsL_law (wsV RL 73 RX7 yX7_more wsX7_more) := goodIn_app (goodIn_of _ (by decide +kernel)) ggL_law_X7_more
set_option maxRecDepth 20000 in
theorem ggL_law_X6_reading : GoodIn wsL_law wsX6_reading := goodIn_r _ [586, 22, 30, 256, 167, 168, 40, 169, 51, 587, 588, 2, 589, 590, 591, 592, 29, 593, 77, 75, 76, 824, 825, 826, 827, 828, 829, 830, 831, 886, 887, 888, 889, 890, 891, 880, 881, 882] (by decide +kernel) (by decide +kernel)
set_option maxRecDepth 20000 in
theorem gL_law_X6_reading : GoodIn wsL_law (wsV RL 74 RX6 yX6_reading wsX6_reading) := goodIn_app (goodIn_of _ (by decide +kernel)) ggL_law_X6_reading
set_option maxRecDepth 20000 in
theorem ggL_law_X7_reading : GoodIn wsL_law wsX7_reading := goodIn_r _ [597, 466, 208, 103, 104, 319, 320, 321, 5, 322, 206, 213, 214, 215, 832, 833, 834, 835, 836, 837, 838, 839, 840, 841, 842, 843, 844, 845, 846, 847, 848, 849, 850, 851, 852, 853, 854, 855, 856, 857, 858, 859, 860, 861, 862, 863, 864, 865] (by decide +kernel) (by decide +kernel)
set_option maxRecDepth 20000 in
theorem gL_law_X7_reading : GoodIn wsL_law (wsV RL 77 RX7 yX7_reading wsX7_reading) := goodIn_app (goodIn_of _ (by decide +kernel)) ggL_law_X7_reading
set_option maxRecDepth 20000 in
theorem ggL_law_X6_back : GoodIn wsL_law wsX6_back := goodIn_r _ [601, 30, 191, 192, 193, 29, 194, 77, 195, 196, 197, 198, 824, 825, 826, 827, 828, 829, 830, 831, 880, 881, 882] (by decide +kernel) (by decide +kernel)
set_option maxRecDepth 20000 in
theorem gL_law_X6_back : GoodIn wsL_law (wsV RL 78 RX6 yX6_back wsX6_back) := goodIn_app (goodIn_of _ (by decide +kernel)) ggL_law_X6_back
set_option maxRecDepth 20000 in
theorem ggL_law_X7_back : GoodIn wsL_law wsX7_back := goodIn_r _ [605, 208, 213, 214, 5, 215, 832, 833, 834, 835, 836, 837, 838, 839, 840, 841, 842, 843, 844, 845, 846, 847, 848, 849, 850, 851, 852, 853, 854, 855, 856, 857, 858, 859, 860, 861, 862, 863, 864, 865] (by decide +kernel) (by decide +kernel)
set_option maxRecDepth 20000 in
theorem gL_law_X7_back : GoodIn wsL_law (wsV RL 81 RX7 yX7_back wsX7_back) := goodIn_app (goodIn_of _ (by decide +kernel)) ggL_law_X7_back
set_option maxRecDepth 20000 in
theorem ggL_law_X6_kinds : GoodIn wsL_law wsX6_kinds := goodIn_r _ [609, 22, 21, 30, 256, 167, 168, 40, 169, 51, 257, 258, 259, 20, 260, 57, 58, 261, 188, 189, 190, 59, 60, 610, 611, 612, 29, 613, 77, 75, 76, 614, 288, 289, 290, 291, 292, 293, 294, 61, 64, 62, 63, 270, 271, 272, 273, 50, 274, 275, 276, 277, 49, 182, 295, 296, 297, 298, 278, 299, 300, 301, 302, 303, 304, 305, 306, 307, 308, 309, 310, 311, 312, 313, 314, 615, 824, 825, 826, 827, 828, 829, 830, 831, 868, 869, 870, 871, 872, 873, 874, 875, 876, 886, 887, 888, 889, 890, 891, 880, 881, 882] (by decide +kernel) (by decide +kernel)
set_option maxRecDepth 20000 in
theorem gL_law_X6_kinds : GoodIn wsL_law (wsV RL 82 RX6 yX6_kinds wsX6_kinds) := goodIn_app (goodIn_of _ (by decide +kernel)) ggL_law_X6_kinds
set_option maxRecDepth 20000 in
theorem ggL_law_X7_kinds : GoodIn wsL_law wsX7_kinds := goodIn_r _ [619, 88, 319, 320, 321, 5, 322, 206, 213, 214, 215, 620, 621, 622, 623, 208, 103, 104, 335, 336, 337, 338, 339, 340, 341, 342, 343, 344, 345, 346, 96, 97, 347, 348, 349, 350, 90, 91, 207, 351, 352, 353, 354, 355, 356, 357, 358, 98, 99, 359, 360, 361, 362, 89, 832, 833, 834, 835, 836, 837, 838, 839, 840, 841, 842, 843, 844, 845, 846, 847, 848, 849, 850, 851, 852, 853, 854, 855, 856, 857, 858, 859, 860, 861, 862, 863, 864, 865] (by decide +kernel) (by decide +kernel)
set_option maxRecDepth 20000 in
theorem gL_law_X7_kinds : GoodIn wsL_law (wsV RL 85 RX7 yX7_kinds wsX7_kinds) := goodIn_app (goodIn_of _ (by decide +kernel)) ggL_law_X7_kinds
set_option maxRecDepth 20000 in
theorem ggL_law_X6_guards : GoodIn wsL_law wsX6_guards := goodIn_r _ [627, 22, 21, 30, 256, 167, 168, 40, 169, 51, 257, 258, 259, 20, 260, 57, 58, 261, 188, 189, 190, 59, 60, 610, 611, 612, 29, 613, 77, 75, 76, 614, 288, 289, 290, 291, 292, 293, 294, 61, 64, 62, 63, 270, 271, 272, 273, 50, 274, 275, 276, 277, 49, 182, 295, 296, 297, 298, 278, 299, 300, 301, 302, 303, 304, 305, 306, 307, 308, 309, 310, 311, 312, 313, 314, 615, 824, 825, 826, 827, 828, 829, 830, 831, 868, 869, 870, 871, 872, 873, 874, 875, 876, 886, 887, 888, 889, 890, 891, 880, 881, 882] (by decide +kernel) (by decide +kernel)
set_option maxRecDepth 20000 in
theorem gL_law_X6_guards : GoodIn wsL_law (wsV RL 86 RX6 yX6_guards wsX6_guards) := goodIn_app (goodIn_of _ (by decide +kernel)) ggL_law_X6_guards
set_option maxRecDepth 20000 in
theorem ggL_law_X7_guards : GoodIn wsL_law wsX7_guards := goodIn_r _ [631, 89, 319, 320, 321, 5, 322, 206, 213, 214, 215, 620, 621, 622, 623, 208, 103, 104, 335, 336, 337, 338, 339, 340, 341, 342, 343, 344, 345, 346, 96, 97, 347, 348, 349, 350, 90, 91, 207, 351, 352, 353, 354, 355, 356, 357, 358, 98, 99, 359, 360, 361, 362, 88, 832, 833, 834, 835, 836, 837, 838, 839, 840, 841, 842, 843, 844, 845, 846, 847, 848, 849, 850, 851, 852, 853, 854, 855, 856, 857, 858, 859, 860, 861, 862, 863, 864, 865] (by decide +kernel) (by decide +kernel)
set_option maxRecDepth 20000 in
theorem gL_law_X7_guards : GoodIn wsL_law (wsV RL 89 RX7 yX7_guards wsX7_guards) := goodIn_app (goodIn_of _ (by decide +kernel)) ggL_law_X7_guards
set_option maxRecDepth 20000 in
theorem ggL_law_X6_lives : GoodIn wsL_law wsX6_lives := goodIn_r _ [635, 22, 21, 30, 410, 411, 412, 40, 413, 51, 257, 258, 259, 20, 260, 57, 58, 261, 188, 189, 190, 59, 60, 610, 611, 612, 29, 613, 77, 75, 76, 614, 288, 289, 290, 291, 292, 293, 294, 61, 64, 62, 63, 270, 271, 272, 273, 50, 274, 275, 276, 277, 49, 182, 167, 168, 169, 295, 296, 297, 298, 278, 299, 300, 301, 302, 303, 304, 305, 306, 307, 308, 309, 310, 311, 312, 313, 314, 615, 824, 825, 826, 827, 828, 829, 830, 831, 868, 869, 870, 871, 872, 873, 874, 875, 876, 886, 887, 888, 889, 890, 891, 880, 881, 882] (by decide +kernel) (by decide +kernel)
set_option maxRecDepth 20000 in
theorem gL_law_X6_lives : GoodIn wsL_law (wsV RL 90 RX6 yX6_lives wsX6_lives) := goodIn_app (goodIn_of _ (by decide +kernel)) ggL_law_X6_lives
set_option maxRecDepth 20000 in
theorem ggL_law_X7_lives : GoodIn wsL_law wsX7_lives := goodIn_r _ [639, 206, 207, 620, 621, 622, 5, 623, 208, 103, 104, 335, 336, 337, 338, 339, 340, 341, 342, 343, 344, 345, 346, 96, 97, 347, 348, 349, 350, 90, 91, 351, 352, 353, 354, 355, 356, 357, 358, 98, 99, 359, 360, 361, 362, 88, 89, 832, 833, 834, 835, 836, 837, 838, 839, 840, 841, 842, 843, 844, 845, 846, 847, 848, 849, 850, 851, 852, 853, 854, 855, 856, 857, 858, 859, 860, 861, 862, 863, 864, 865] (by decide +kernel) (by decide +kernel)
set_option maxRecDepth 20000 in
theorem gL_law_X7_lives : GoodIn wsL_law (wsV RL 94 RX7 yX7_lives wsX7_lives) := goodIn_app (goodIn_of _ (by decide +kernel)) ggL_law_X7_lives
set_option maxRecDepth 20000 in
theorem ggL_law_X6_odds : GoodIn wsL_law wsX6_odds := goodIn_r _ [643, 22, 644, 21, 256, 167, 168, 40, 169, 51, 587, 588, 2, 589, 257, 258, 259, 20, 260, 57, 58, 261, 188, 189, 190, 59, 60, 645, 646, 647, 648, 61, 283, 284, 285, 286, 287, 288, 289, 290, 291, 292, 293, 294, 64, 62, 63, 270, 271, 272, 273, 50, 274, 275, 276, 277, 49, 182, 295, 296, 297, 298, 278, 299, 300, 301, 302, 303, 304, 305, 306, 307, 308, 309, 310, 311, 312, 313, 314, 824, 825, 826, 827, 828, 829, 830, 831, 886, 887, 888, 889, 890, 891, 868, 869, 870, 871, 872, 873, 874, 875, 876] (by decide +kernel) (by decide +kernel)
set_option maxRecDepth 20000 in
theorem gL_law_X6_odds : GoodIn wsL_law (wsV RL 95 RX6 yX6_odds wsX6_odds) := goodIn_app (goodIn_of _ (by decide +kernel)) ggL_law_X6_odds
set_option maxRecDepth 20000 in
theorem ggL_law_X7_odds : GoodIn wsL_law wsX7_odds := goodIn_r _ [652, 466, 653, 319, 320, 321, 5, 322, 206, 213, 214, 215, 654, 655, 656, 657, 331, 332, 333, 334, 207, 335, 336, 337, 338, 339, 340, 341, 342, 343, 344, 345, 346, 96, 97, 347, 348, 349, 350, 90, 91, 351, 352, 353, 354, 355, 356, 357, 358, 98, 99, 359, 360, 361, 362, 88, 89, 658, 659, 660, 832, 833, 834, 835, 836, 837, 838, 839, 840, 841, 842, 843, 844, 845, 846, 847, 848, 849, 850, 851, 852, 853, 854, 855, 856, 857, 858, 859, 860, 861, 862, 863, 864, 865] (by decide +kernel) (by decide +kernel)
set_option maxRecDepth 20000 in
theorem gL_law_X7_odds : GoodIn wsL_law (wsV RL 99 RX7 yX7_odds wsX7_odds) := goodIn_app (goodIn_of _ (by decide +kernel)) ggL_law_X7_odds
set_option maxRecDepth 20000 in
theorem ggL_law_X6_sheet : GoodIn wsL_law wsX6_sheet := goodIn_r _ [664, 31, 13, 113, 114, 2, 115, 116, 117, 118, 131, 132, 133, 134, 665, 666, 667, 34, 668, 82, 83, 81, 669, 670, 671, 672, 824, 825, 826, 827, 828, 829, 830, 831, 883, 884, 885] (by decide +kernel) (by decide +kernel)
set_option maxRecDepth 20000 in
theorem gL_law_X6_sheet : GoodIn wsL_law (wsV RL 100 RX6 yX6_sheet wsX6_sheet) := goodIn_app (goodIn_of _ (by decide +kernel)) ggL_law_X6_sheet
set_option maxRecDepth 20000 in
theorem ggL_law_X7_sheet : GoodIn wsL_law wsX7_sheet := goodIn_r _ [676, 203, 105, 106, 107, 209, 210, 5, 211, 212, 213, 214, 215, 216, 217, 218, 219, 220, 225, 226, 227, 228, 832, 833, 834, 835, 836, 837, 838, 839, 840, 841, 842, 843, 844, 845, 846, 847, 848, 849, 850, 851, 852, 853, 854, 855, 856, 857, 858, 859, 860, 861, 862, 863, 864, 865] (by decide +kernel) (by decide +kernel)
set_option maxRecDepth 20000 in
theorem gL_law_X7_sheet : GoodIn wsL_law (wsV RL 103 RX7 yX7_sheet wsX7_sheet) := goodIn_app (goodIn_of _ (by decide +kernel)) ggL_law_X7_sheet
set_option maxRecDepth 20000 in
theorem ggL_law_X6_lose : GoodIn wsL_law wsX6_lose := goodIn_r _ [680, 13, 113, 114, 2, 115, 681, 124, 125, 34, 126, 82, 682, 683, 684, 685, 83, 824, 825, 826, 827, 828, 829, 830, 831, 883, 884, 885] (by decide +kernel) (by decide +kernel)
set_option maxRecDepth 20000 in
theorem gL_law_X6_lose : GoodIn wsL_law (wsV RL 104 RX6 yX6_lose wsX6_lose) := goodIn_app (goodIn_of _ (by decide +kernel)) ggL_law_X6_lose
set_option maxRecDepth 20000 in
theorem ggL_law_X7_lose : GoodIn wsL_law wsX7_lose := goodIn_r _ [689, 105, 209, 210, 5, 211, 212, 213, 214, 215, 832, 833, 834, 835, 836, 837, 838, 839, 840, 841, 842, 843, 844, 845, 846, 847, 848, 849, 850, 851, 852, 853, 854, 855, 856, 857, 858, 859, 860, 861, 862, 863, 864, 865] (by decide +kernel) (by decide +kernel)
set_option maxRecDepth 20000 in
theorem gL_law_X7_lose : GoodIn wsL_law (wsV RL 107 RX7 yX7_lose wsX7_lose) := goodIn_app (goodIn_of _ (by decide +kernel)) ggL_law_X7_lose
set_option maxRecDepth 20000 in
theorem ggL_law_X6_put : GoodIn wsL_law wsX6_put := goodIn_r _ [693, 31, 13, 113, 114, 2, 115, 681, 124, 125, 34, 126, 82, 131, 132, 133, 134, 694, 128, 129, 130, 83, 695, 696, 697, 698, 81, 127, 699, 700, 701, 702, 824, 825, 826, 827, 828, 829, 830, 831, 883, 884, 885] (by decide +kernel) (by decide +kernel)
set_option maxRecDepth 20000 in
theorem gL_law_X6_put : GoodIn wsL_law (wsV RL 108 RX6 yX6_put wsX6_put) := goodIn_app (goodIn_of _ (by decide +kernel)) ggL_law_X6_put
set_option maxRecDepth 20000 in
theorem ggL_law_X7_put : GoodIn wsL_law wsX7_put := goodIn_r _ [706, 107, 106, 209, 210, 5, 211, 212, 213, 214, 215, 216, 217, 218, 219, 220, 707, 708, 709, 710, 105, 225, 226, 227, 228, 832, 833, 834, 835, 836, 837, 838, 839, 840, 841, 842, 843, 844, 845, 846, 847, 848, 849, 850, 851, 852, 853, 854, 855, 856, 857, 858, 859, 860, 861, 862, 863, 864, 865] (by decide +kernel) (by decide +kernel)
set_option maxRecDepth 20000 in
theorem gL_law_X7_put : GoodIn wsL_law (wsV RL 111 RX7 yX7_put wsX7_put) := goodIn_app (goodIn_of _ (by decide +kernel)) ggL_law_X7_put
set_option maxRecDepth 20000 in
theorem ggL_law_X6_cell : GoodIn wsL_law wsX6_cell := goodIn_r _ [714, 31, 644, 13, 113, 114, 2, 115, 116, 117, 118, 119, 120, 121, 34, 122, 82, 123, 124, 125, 126, 127, 128, 129, 130, 83, 715, 144, 145, 146, 81, 824, 825, 826, 827, 828, 829, 830, 831, 883, 884, 885] (by decide +kernel) (by decide +kernel)
set_option maxRecDepth 20000 in
theorem gL_law_X6_cell : GoodIn wsL_law (wsV RL 112 RX6 yX6_cell wsX6_cell) := goodIn_app (goodIn_of _ (by decide +kernel)) ggL_law_X6_cell
set_option maxRecDepth 20000 in
theorem ggL_law_X7_cell : GoodIn wsL_law wsX7_cell := goodIn_r _ [719, 220, 203, 105, 106, 107, 209, 210, 5, 211, 212, 213, 214, 215, 654, 655, 656, 657, 720, 721, 722, 723, 707, 708, 709, 710, 832, 833, 834, 835, 836, 837, 838, 839, 840, 841, 842, 843, 844, 845, 846, 847, 848, 849, 850, 851, 852, 853, 854, 855, 856, 857, 858, 859, 860, 861, 862, 863, 864, 865] (by decide +kernel) (by decide +kernel)
set_option maxRecDepth 20000 in
theorem gL_law_X7_cell : GoodIn wsL_law (wsV RL 115 RX7 yX7_cell wsX7_cell) := goodIn_app (goodIn_of _ (by decide +kernel)) ggL_law_X7_cell
set_option maxRecDepth 20000 in
theorem ggL_law_X6_copy : GoodIn wsL_law wsX6_copy := goodIn_r _ [727, 31, 13, 728, 188, 189, 190, 113, 114, 2, 115, 681, 124, 125, 34, 126, 82, 131, 132, 133, 134, 694, 128, 129, 130, 83, 824, 825, 826, 827, 828, 829, 830, 831, 883, 884, 885] (by decide +kernel) (by decide +kernel)
set_option maxRecDepth 20000 in
theorem gL_law_X6_copy : GoodIn wsL_law (wsV RL 116 RX6 yX6_copy wsX6_copy) := goodIn_app (goodIn_of _ (by decide +kernel)) ggL_law_X6_copy
set_option maxRecDepth 20000 in
theorem ggL_law_X7_copy : GoodIn wsL_law wsX7_copy := goodIn_r _ [732, 105, 106, 108, 107, 209, 210, 5, 211, 212, 213, 214, 215, 216, 217, 218, 219, 220, 225, 226, 227, 228, 229, 230, 231, 832, 833, 834, 835, 836, 837, 838, 839, 840, 841, 842, 843, 844, 845, 846, 847, 848, 849, 850, 851, 852, 853, 854, 855, 856, 857, 858, 859, 860, 861, 862, 863, 864, 865] (by decide +kernel) (by decide +kernel)
set_option maxRecDepth 20000 in
theorem gL_law_X7_copy : GoodIn wsL_law (wsV RL 119 RX7 yX7_copy wsX7_copy) := goodIn_app (goodIn_of _ (by decide +kernel)) ggL_law_X7_copy
set_option maxRecDepth 20000 in
theorem ggL_law_X6_tell : GoodIn wsL_law wsX6_tell := goodIn_r _ [736, 22, 256, 167, 168, 40, 169, 51, 737, 738, 739, 2, 740, 741, 742, 743, 744, 32, 745, 746, 747, 748, 749, 750, 751, 752, 824, 825, 826, 827, 828, 829, 830, 831, 886, 887, 888, 889, 890, 891] (by decide +kernel) (by decide +kernel)
set_option maxRecDepth 20000 in
theorem gL_law_X6_tell : GoodIn wsL_law (wsV RL 120 RX6 yX6_tell wsX6_tell) := goodIn_app (goodIn_of _ (by decide +kernel)) ggL_law_X6_tell
set_option maxRecDepth 20000 in
theorem ggL_law_X7_tell : GoodIn wsL_law wsX7_tell := goodIn_r _ [756, 88, 90, 319, 320, 321, 5, 322, 206, 213, 214, 215, 757, 758, 759, 760, 761, 832, 833, 834, 835, 836, 837, 838, 839, 840, 841, 842, 843, 844, 845, 846, 847, 848, 849, 850, 851, 852, 853, 854, 855, 856, 857, 858, 859, 860, 861, 862, 863, 864, 865] (by decide +kernel) (by decide +kernel)
set_option maxRecDepth 20000 in
theorem gL_law_X7_tell : GoodIn wsL_law (wsV RL 123 RX7 yX7_tell wsX7_tell) := goodIn_app (goodIn_of _ (by decide +kernel)) ggL_law_X7_tell
set_option maxRecDepth 20000 in
theorem ggL_law_X6_name : GoodIn wsL_law wsX6_name := goodIn_r _ [765, 22, 256, 167, 168, 40, 169, 51, 741, 742, 743, 2, 744, 32, 824, 825, 826, 827, 828, 829, 830, 831, 886, 887, 888, 889, 890, 891] (by decide +kernel) (by decide +kernel)
set_option maxRecDepth 20000 in
theorem gL_law_X6_name : GoodIn wsL_law (wsV RL 124 RX6 yX6_name wsX6_name) := goodIn_app (goodIn_of _ (by decide +kernel)) ggL_law_X6_name
set_option maxRecDepth 20000 in
theorem ggL_law_X7_name : GoodIn wsL_law wsX7_name := goodIn_r _ [769, 88, 319, 320, 321, 5, 322, 206, 213, 214, 215, 757, 758, 759, 760, 761, 832, 833, 834, 835, 836, 837, 838, 839, 840, 841, 842, 843, 844, 845, 846, 847, 848, 849, 850, 851, 852, 853, 854, 855, 856, 857, 858, 859, 860, 861, 862, 863, 864, 865] (by decide +kernel) (by decide +kernel)
set_option maxRecDepth 20000 in
theorem gL_law_X7_name : GoodIn wsL_law (wsV RL 127 RX7 yX7_name wsX7_name) := goodIn_app (goodIn_of _ (by decide +kernel)) ggL_law_X7_name
set_option maxRecDepth 20000 in
theorem ggL_law_X6_as : GoodIn wsL_law wsX6_as := goodIn_r _ [773, 31, 22, 256, 167, 168, 40, 169, 51, 131, 132, 133, 2, 134, 824, 825, 826, 827, 828, 829, 830, 831, 886, 887, 888, 889, 890, 891] (by decide +kernel) (by decide +kernel)
set_option maxRecDepth 20000 in
theorem gL_law_X6_as : GoodIn wsL_law (wsV RL 128 RX6 yX6_as wsX6_as) := goodIn_app (goodIn_of _ (by decide +kernel)) ggL_law_X6_as
set_option maxRecDepth 20000 in
theorem ggL_law_X7_as : GoodIn wsL_law wsX7_as := goodIn_r _ [777, 203, 88, 319, 320, 321, 5, 322, 206, 213, 214, 215, 216, 217, 218, 219, 220, 225, 226, 227, 228, 832, 833, 834, 835, 836, 837, 838, 839, 840, 841, 842, 843, 844, 845, 846, 847, 848, 849, 850, 851, 852, 853, 854, 855, 856, 857, 858, 859, 860, 861, 862, 863, 864, 865] (by decide +kernel) (by decide +kernel)
set_option maxRecDepth 20000 in
theorem gL_law_X7_as : GoodIn wsL_law (wsV RL 131 RX7 yX7_as wsX7_as) := goodIn_app (goodIn_of _ (by decide +kernel)) ggL_law_X7_as
set_option maxRecDepth 20000 in
theorem ggL_law_X6_trace : GoodIn wsL_law wsX6_trace := goodIn_r _ [781, 32, 824, 825, 826, 827, 828, 829, 830, 831] (by decide +kernel) (by decide +kernel)
set_option maxRecDepth 20000 in
theorem gL_law_X6_trace : GoodIn wsL_law (wsV RL 132 RX6 yX6_trace wsX6_trace) := goodIn_app (goodIn_of _ (by decide +kernel)) ggL_law_X6_trace
set_option maxRecDepth 20000 in
theorem ggL_law_X7_trace : GoodIn wsL_law wsX7_trace := goodIn_r _ [785, 761, 832, 833, 834, 835, 836, 837, 838, 839, 840, 841, 842, 843, 844, 845, 846, 847, 848, 849, 850, 851, 852, 853, 854, 855, 856, 857, 858, 859, 860, 861, 862, 863, 864, 865] (by decide +kernel) (by decide +kernel)
set_option maxRecDepth 20000 in
theorem gL_law_X7_trace : GoodIn wsL_law (wsV RL 135 RX7 yX7_trace wsX7_trace) := goodIn_app (goodIn_of _ (by decide +kernel)) ggL_law_X7_trace
set_option maxRecDepth 20000 in
theorem ggL_law_X6_fault : GoodIn wsL_law wsX6_fault := goodIn_r _ [789, 31, 824, 825, 826, 827, 828, 829, 830, 831] (by decide +kernel) (by decide +kernel)
set_option maxRecDepth 20000 in
theorem gL_law_X6_fault : GoodIn wsL_law (wsV RL 136 RX6 yX6_fault wsX6_fault) := goodIn_app (goodIn_of _ (by decide +kernel)) ggL_law_X6_fault
set_option maxRecDepth 20000 in
theorem ggL_law_X7_fault : GoodIn wsL_law wsX7_fault := goodIn_r _ [793, 220, 832, 833, 834, 835, 836, 837, 838, 839, 840, 841, 842, 843, 844, 845, 846, 847, 848, 849, 850, 851, 852, 853, 854, 855, 856, 857, 858, 859, 860, 861, 862, 863, 864, 865] (by decide +kernel) (by decide +kernel)
set_option maxRecDepth 20000 in
theorem gL_law_X7_fault : GoodIn wsL_law (wsV RL 139 RX7 yX7_fault wsX7_fault) := goodIn_app (goodIn_of _ (by decide +kernel)) ggL_law_X7_fault
set_option maxRecDepth 20000 in
theorem ggL_law_X6_many : GoodIn wsL_law wsX6_many := goodIn_r _ [797, 22, 21, 30, 798, 799, 800, 40, 801, 51, 49, 802, 803, 804, 805, 806, 807, 808, 257, 258, 259, 20, 260, 57, 58, 261, 188, 189, 190, 59, 60, 423, 288, 289, 290, 291, 292, 293, 294, 61, 64, 62, 63, 270, 271, 272, 273, 50, 274, 275, 276, 277, 182, 167, 168, 169, 295, 296, 297, 298, 278, 299, 300, 301, 302, 303, 304, 305, 306, 307, 308, 309, 310, 311, 312, 313, 314, 809, 810, 811, 812, 824, 825, 826, 827, 828, 829, 830, 831, 886, 887, 888, 889, 890, 891, 880, 881, 882, 868, 869, 870, 871, 872, 873, 874, 875, 876] (by decide +kernel) (by decide +kernel)
set_option maxRecDepth 20000 in
theorem gL_law_X6_many : GoodIn wsL_law (wsV RL 140 RX6 yX6_many wsX6_many) := goodIn_app (goodIn_of _ (by decide +kernel)) ggL_law_X6_many
set_option maxRecDepth 20000 in
theorem ggL_law_X7_many : GoodIn wsL_law wsX7_many := goodIn_r _ [816, 206, 90, 207, 208, 817, 818, 5, 819, 820, 821, 822, 823, 335, 336, 337, 338, 339, 340, 341, 342, 343, 344, 345, 346, 96, 97, 347, 348, 349, 350, 91, 351, 352, 353, 354, 355, 356, 357, 358, 98, 99, 359, 360, 361, 362, 88, 89, 832, 833, 834, 835, 836, 837, 838, 839, 840, 841, 842, 843, 844, 845, 846, 847, 848, 849, 850, 851, 852, 853, 854, 855, 856, 857, 858, 859, 860, 861, 862, 863, 864, 865] (by decide +kernel) (by decide +kernel)
set_option maxRecDepth 20000 in
theorem gL_law_X7_many : GoodIn wsL_law (wsV RL 143 RX7 yX7_many wsX7_many) := goodIn_app (goodIn_of _ (by decide +kernel)) ggL_law_X7_many
