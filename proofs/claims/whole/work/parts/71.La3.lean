set_option maxRecDepth 20000 in
theorem ggL_law_X4_done : GoodIn wsL_law wsX4_done := goodIn_r _ [409, 24, 19, 20, 15, 207, 23, 208, 209, 49, 54, 57, 210, 211, 212, 213, 45, 53, 55, 58, 59, 60, 61, 214, 14, 215, 216, 30, 31, 32, 33, 34, 35, 36, 37, 38, 39, 40, 217, 2, 218, 219, 48, 220, 221, 65, 222, 52, 223, 224, 73, 74, 225, 226, 227, 228, 229, 230, 231, 66, 232, 233, 234, 235, 67, 169, 170, 106, 107, 108, 236, 237, 238, 239, 240, 241, 242, 243, 68, 104, 105, 244, 245, 246, 247, 69, 248, 249, 250, 251, 252, 253, 254, 56, 255, 256, 257, 258, 259, 260, 261, 262, 263, 264, 265, 266, 267, 268, 269, 270, 271, 272, 129, 130, 273, 274, 275, 276, 277, 278, 279, 280, 281, 282, 283, 284, 285, 286, 287, 288, 289, 290, 291, 292, 293, 294, 295, 296, 297, 298, 299, 712, 713, 714, 715, 716, 717, 718, 763, 764, 765, 766, 767, 768, 769, 770, 771, 772, 773, 752, 753, 754, 755, 756, 757, 758, 759, 760, 761, 762, 774, 775, 776, 777, 778, 779, 780] (by decide +kernel) (by decide +kernel)
set_option maxRecDepth 20000 in
theorem gL_law_X4_done : GoodIn wsL_law (wsV RL 61 RX4 yX4_done wsX4_done) := goodIn_app (goodIn_of _ (by decide +kernel)) ggL_law_X4_done
set_option maxRecDepth 20000 in
theorem ggL_law_X5_done : GoodIn wsL_law wsX5_done := goodIn_r _ [413, 194, 304, 336, 337, 338, 5, 339, 333, 340, 341, 342, 343, 93, 79, 82, 83, 344, 301, 302, 303, 88, 305, 306, 307, 308, 92, 309, 310, 91, 311, 312, 313, 314, 315, 316, 89, 90, 119, 120, 121, 317, 318, 319, 320, 321, 322, 323, 324, 345, 346, 347, 348, 334, 349, 350, 351, 352, 335, 353, 354, 355, 356, 357, 358, 359, 360, 361, 362, 363, 364, 365, 366, 367, 368, 369, 370, 371, 372, 373, 80, 374, 375, 376, 377, 378, 379, 380, 381, 719, 720, 721, 722, 723, 724, 725, 726, 727, 728, 729, 730, 731, 732, 733, 734, 735, 736, 737, 738, 739, 740, 741, 742, 743, 744, 745, 746, 747, 748, 749, 750, 751] (by decide +kernel) (by decide +kernel)
set_option maxRecDepth 20000 in
theorem gL_law_X5_done : GoodIn wsL_law (wsV RL 64 RX5 yX5_done wsX5_done) := goodIn_app (goodIn_of _ (by decide +kernel)) ggL_law_X5_done
set_option maxRecDepth 20000 in
theorem ggL_law_X4_scales : GoodIn wsL_law wsX4_scales := goodIn_r _ [417, 15, 171, 172, 2, 173, 106, 107, 108, 418, 14, 419, 420, 32, 129, 130, 421, 422, 423, 424, 30, 281, 282, 283, 284, 712, 713, 714, 715, 716, 717, 718, 752, 753, 754, 755, 756, 757, 758, 759, 760, 761, 762] (by decide +kernel) (by decide +kernel)
set_option maxRecDepth 20000 in
theorem gL_law_X4_scales : GoodIn wsL_law (wsV RL 65 RX4 yX4_scales wsX4_scales) := goodIn_app (goodIn_of _ (by decide +kernel)) ggL_law_X4_scales
set_option maxRecDepth 20000 in
theorem ggL_law_X5_scales : GoodIn wsL_law wsX5_scales := goodIn_r _ [428, 179, 81, 79, 119, 120, 5, 121, 719, 720, 721, 722, 723, 724, 725, 726, 727, 728, 729, 730, 731, 732, 733, 734, 735, 736, 737, 738, 739, 740, 741, 742, 743, 744, 745, 746, 747, 748, 749, 750, 751] (by decide +kernel) (by decide +kernel)
set_option maxRecDepth 20000 in
theorem gL_law_X5_scales : GoodIn wsL_law (wsV RL 68 RX5 yX5_scales wsX5_scales) := goodIn_app (goodIn_of _ (by decide +kernel)) ggL_law_X5_scales
set_option maxRecDepth 20000 in
theorem ggL_law_X4_says : GoodIn wsL_law wsX4_says := goodIn_r _ [432, 433, 434, 15, 168, 169, 2, 170, 106, 107, 108, 435, 14, 436, 437, 438, 439, 440, 441, 31, 442, 132, 133, 134, 135, 136, 137, 443, 444, 445, 712, 713, 714, 715, 716, 717, 718, 752, 753, 754, 755, 756, 757, 758, 759, 760, 761, 762] (by decide +kernel) (by decide +kernel)
set_option maxRecDepth 20000 in
theorem gL_law_X4_says : GoodIn wsL_law (wsV RL 69 RX4 yX4_says wsX4_says) := goodIn_app (goodIn_of _ (by decide +kernel)) ggL_law_X4_says
set_option maxRecDepth 20000 in
theorem ggL_law_X5_says : GoodIn wsL_law wsX5_says := goodIn_r _ [449, 450, 451, 452, 83, 180, 181, 5, 182, 183, 119, 120, 121, 453, 454, 455, 456, 80, 457, 458, 459, 719, 720, 721, 722, 723, 724, 725, 726, 727, 728, 729, 730, 731, 732, 733, 734, 735, 736, 737, 738, 739, 740, 741, 742, 743, 744, 745, 746, 747, 748, 749, 750, 751] (by decide +kernel) (by decide +kernel)
set_option maxRecDepth 20000 in
theorem gL_law_X5_says : GoodIn wsL_law (wsV RL 73 RX5 yX5_says wsX5_says) := goodIn_app (goodIn_of _ (by decide +kernel)) ggL_law_X5_says
set_option maxRecDepth 20000 in
theorem ggL_law_X4_cheap : GoodIn wsL_law wsX4_cheap := goodIn_r _ [463, 15, 168, 169, 2, 170, 106, 107, 108, 464, 465, 466, 467, 439, 14, 440, 441, 31, 131, 132, 133, 134, 135, 136, 137, 468, 469, 470, 30, 129, 130, 712, 713, 714, 715, 716, 717, 718, 752, 753, 754, 755, 756, 757, 758, 759, 760, 761, 762] (by decide +kernel) (by decide +kernel)
set_option maxRecDepth 20000 in
theorem gL_law_X4_cheap : GoodIn wsL_law (wsV RL 74 RX4 yX4_cheap wsX4_cheap) := goodIn_app (goodIn_of _ (by decide +kernel)) ggL_law_X4_cheap
set_option maxRecDepth 20000 in
theorem ggL_law_X5_cheap : GoodIn wsL_law wsX5_cheap := goodIn_r _ [474, 451, 83, 180, 181, 5, 182, 183, 119, 120, 121, 475, 476, 477, 478, 453, 454, 455, 456, 80, 146, 147, 148, 479, 480, 481, 482, 79, 719, 720, 721, 722, 723, 724, 725, 726, 727, 728, 729, 730, 731, 732, 733, 734, 735, 736, 737, 738, 739, 740, 741, 742, 743, 744, 745, 746, 747, 748, 749, 750, 751] (by decide +kernel) (by decide +kernel)
set_option maxRecDepth 20000 in
theorem gL_law_X5_cheap : GoodIn wsL_law (wsV RL 77 RX5 yX5_cheap wsX5_cheap) := goodIn_app (goodIn_of _ (by decide +kernel)) ggL_law_X5_cheap
set_option maxRecDepth 20000 in
theorem ggL_law_X4_pool : GoodIn wsL_law wsX4_pool := goodIn_r _ [486, 106, 107, 2, 108, 487, 488, 489, 490, 15, 131, 132, 133, 134, 135, 136, 137, 491, 14, 492, 493, 34, 129, 130, 494, 495, 496, 497, 435, 436, 437, 438, 439, 440, 441, 31, 442, 712, 713, 714, 715, 716, 717, 718, 752, 753, 754, 755, 756, 757, 758, 759, 760, 761, 762] (by decide +kernel) (by decide +kernel)
set_option maxRecDepth 20000 in
theorem gL_law_X4_pool : GoodIn wsL_law (wsV RL 78 RX4 yX4_pool wsX4_pool) := goodIn_app (goodIn_of _ (by decide +kernel)) ggL_law_X4_pool
set_option maxRecDepth 20000 in
theorem ggL_law_X5_pool : GoodIn wsL_law wsX5_pool := goodIn_r _ [501, 451, 83, 119, 120, 5, 121, 502, 503, 504, 505, 453, 454, 455, 456, 80, 146, 147, 148, 719, 720, 721, 722, 723, 724, 725, 726, 727, 728, 729, 730, 731, 732, 733, 734, 735, 736, 737, 738, 739, 740, 741, 742, 743, 744, 745, 746, 747, 748, 749, 750, 751] (by decide +kernel) (by decide +kernel)
set_option maxRecDepth 20000 in
theorem gL_law_X5_pool : GoodIn wsL_law (wsV RL 81 RX5 yX5_pool wsX5_pool) := goodIn_app (goodIn_of _ (by decide +kernel)) ggL_law_X5_pool
set_option maxRecDepth 20000 in
theorem ggL_law_X4_wish : GoodIn wsL_law wsX4_wish := goodIn_r _ [509, 15, 171, 172, 2, 173, 106, 107, 108, 712, 713, 714, 715, 716, 717, 718, 752, 753, 754, 755, 756, 757, 758, 759, 760, 761, 762] (by decide +kernel) (by decide +kernel)
set_option maxRecDepth 20000 in
theorem gL_law_X4_wish : GoodIn wsL_law (wsV RL 82 RX4 yX4_wish wsX4_wish) := goodIn_app (goodIn_of _ (by decide +kernel)) ggL_law_X4_wish
set_option maxRecDepth 20000 in
theorem ggL_law_X5_wish : GoodIn wsL_law wsX5_wish := goodIn_r _ [513, 179, 514, 84, 119, 120, 5, 121, 719, 720, 721, 722, 723, 724, 725, 726, 727, 728, 729, 730, 731, 732, 733, 734, 735, 736, 737, 738, 739, 740, 741, 742, 743, 744, 745, 746, 747, 748, 749, 750, 751] (by decide +kernel) (by decide +kernel)
set_option maxRecDepth 20000 in
theorem gL_law_X5_wish : GoodIn wsL_law (wsV RL 85 RX5 yX5_wish wsX5_wish) := goodIn_app (goodIn_of _ (by decide +kernel)) ggL_law_X5_wish
