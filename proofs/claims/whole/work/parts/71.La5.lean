set_option maxRecDepth 20000 in
theorem ggL_law_X4_weather : GoodIn wsL_law wsX4_weather := goodIn_r _ [598, 599, 600, 601, 602, 106, 107, 2, 108, 603, 604, 605, 606, 26, 607, 608, 283, 609, 443, 444, 445, 712, 713, 714, 715, 716, 717, 718] (by decide +kernel) (by decide +kernel)
set_option maxRecDepth 20000 in
theorem gL_law_X4_weather : GoodIn wsL_law (wsV RL 110 RX4 yX4_weather wsX4_weather) := goodIn_app (goodIn_of _ (by decide +kernel)) ggL_law_X4_weather
set_option maxRecDepth 20000 in
theorem ggL_law_X5_weather : GoodIn wsL_law wsX5_weather := goodIn_r _ [613, 614, 451, 615, 616, 94, 95, 119, 120, 5, 121, 617, 618, 619, 719, 720, 721, 722, 723, 724, 725, 726, 727, 728, 729, 730, 731, 732, 733, 734, 735, 736, 737, 738, 739, 740, 741, 742, 743, 744, 745, 746, 747, 748, 749, 750, 751] (by decide +kernel) (by decide +kernel)
set_option maxRecDepth 20000 in
theorem gL_law_X5_weather : GoodIn wsL_law (wsV RL 114 RX5 yX5_weather wsX5_weather) := goodIn_app (goodIn_of _ (by decide +kernel)) ggL_law_X5_weather
set_option maxRecDepth 20000 in
theorem ggL_law_X4_synonyms : GoodIn wsL_law wsX4_synonyms := goodIn_r _ [623, 106, 107, 2, 108] (by decide +kernel) (by decide +kernel)
set_option maxRecDepth 20000 in
theorem gL_law_X4_synonyms : GoodIn wsL_law (wsV RL 115 RX4 yX4_synonyms wsX4_synonyms) := goodIn_app (goodIn_of _ (by decide +kernel)) ggL_law_X4_synonyms
set_option maxRecDepth 20000 in
theorem ggL_law_X5_synonyms : GoodIn wsL_law wsX5_synonyms := goodIn_r _ [627, 614, 628, 450, 113, 119, 120, 5, 121] (by decide +kernel) (by decide +kernel)
set_option maxRecDepth 20000 in
theorem gL_law_X5_synonyms : GoodIn wsL_law (wsV RL 119 RX5 yX5_synonyms wsX5_synonyms) := goodIn_app (goodIn_of _ (by decide +kernel)) ggL_law_X5_synonyms
set_option maxRecDepth 20000 in
theorem ggL_law_X4_year : GoodIn wsL_law wsX4_year := goodIn_r _ [632, 16, 15, 106, 107, 2, 108, 214, 14, 215, 216, 30, 31, 32, 33, 34, 35, 36, 37, 38, 39, 40, 217, 218, 633, 634, 635, 636, 637, 638, 639, 640, 266, 267, 268, 169, 170, 104, 105, 269, 270, 271, 272, 129, 130, 273, 274, 275, 276, 277, 278, 279, 280, 281, 282, 283, 284, 285, 286, 287, 288, 641, 642, 643, 442, 132, 133, 134, 135, 136, 137, 644, 645, 646, 712, 713, 714, 715, 716, 717, 718, 752, 753, 754, 755, 756, 757, 758, 759, 760, 761, 762] (by decide +kernel) (by decide +kernel)
set_option maxRecDepth 20000 in
theorem gL_law_X4_year : GoodIn wsL_law (wsV RL 120 RX4 yX4_year wsX4_year) := goodIn_app (goodIn_of _ (by decide +kernel)) ggL_law_X4_year
set_option maxRecDepth 20000 in
theorem ggL_law_X5_year : GoodIn wsL_law wsX5_year := goodIn_r _ [650, 651, 113, 114, 652, 653, 654, 82, 83, 119, 120, 5, 121, 340, 341, 342, 343, 93, 79, 349, 350, 351, 352, 335, 353, 354, 355, 356, 357, 655, 656, 657, 358, 359, 360, 361, 362, 363, 364, 365, 366, 367, 368, 369, 370, 371, 372, 373, 80, 374, 375, 376, 377, 146, 147, 148, 479, 480, 481, 482, 378, 379, 380, 381, 719, 720, 721, 722, 723, 724, 725, 726, 727, 728, 729, 730, 731, 732, 733, 734, 735, 736, 737, 738, 739, 740, 741, 742, 743, 744, 745, 746, 747, 748, 749, 750, 751] (by decide +kernel) (by decide +kernel)
set_option maxRecDepth 20000 in
theorem gL_law_X5_year : GoodIn wsL_law (wsV RL 123 RX5 yX5_year wsX5_year) := goodIn_app (goodIn_of _ (by decide +kernel)) ggL_law_X5_year
set_option maxRecDepth 20000 in
theorem ggL_law_X4_image : GoodIn wsL_law wsX4_image := goodIn_r _ [661, 17, 12, 13, 14, 15, 106, 107, 2, 108, 27, 28, 29, 10, 11, 18, 30, 31, 32, 33, 34, 35, 36, 37, 38, 39, 40, 214, 215, 216, 217, 218, 712, 713, 714, 715, 716, 717, 718, 752, 753, 754, 755, 756, 757, 758, 759, 760, 761, 762] (by decide +kernel) (by decide +kernel)
set_option maxRecDepth 20000 in
theorem gL_law_X4_image : GoodIn wsL_law (wsV RL 124 RX4 yX4_image wsX4_image) := goodIn_app (goodIn_of _ (by decide +kernel)) ggL_law_X4_image
set_option maxRecDepth 20000 in
theorem ggL_law_X5_image : GoodIn wsL_law wsX5_image := goodIn_r _ [665, 666, 667, 98, 119, 120, 5, 121, 668, 669, 670, 671, 514, 550, 79, 80, 81, 82, 83, 84, 85, 86, 87, 672, 673, 674, 675, 96, 676, 677, 678, 679, 719, 720, 721, 722, 723, 724, 725, 726, 727, 728, 729, 730, 731, 732, 733, 734, 735, 736, 737, 738, 739, 740, 741, 742, 743, 744, 745, 746, 747, 748, 749, 750, 751] (by decide +kernel) (by decide +kernel)
set_option maxRecDepth 20000 in
theorem gL_law_X5_image : GoodIn wsL_law (wsV RL 127 RX5 yX5_image wsX5_image) := goodIn_app (goodIn_of _ (by decide +kernel)) ggL_law_X5_image
set_option maxRecDepth 20000 in
theorem ggL_law_X4_restore : GoodIn wsL_law wsX4_restore := goodIn_r _ [683, 17, 15, 106, 107, 2, 108, 214, 14, 215, 216, 30, 31, 32, 33, 34, 35, 36, 37, 38, 39, 40, 217, 218, 712, 713, 714, 715, 716, 717, 718, 752, 753, 754, 755, 756, 757, 758, 759, 760, 761, 762] (by decide +kernel) (by decide +kernel)
set_option maxRecDepth 20000 in
theorem gL_law_X4_restore : GoodIn wsL_law (wsV RL 128 RX4 yX4_restore wsX4_restore) := goodIn_app (goodIn_of _ (by decide +kernel)) ggL_law_X4_restore
set_option maxRecDepth 20000 in
theorem ggL_law_X5_restore : GoodIn wsL_law wsX5_restore := goodIn_r _ [687, 98, 666, 667, 119, 120, 5, 121, 668, 669, 670, 671, 514, 550, 79, 80, 81, 82, 83, 84, 85, 86, 87, 672, 673, 674, 675, 96, 676, 677, 678, 679, 719, 720, 721, 722, 723, 724, 725, 726, 727, 728, 729, 730, 731, 732, 733, 734, 735, 736, 737, 738, 739, 740, 741, 742, 743, 744, 745, 746, 747, 748, 749, 750, 751] (by decide +kernel) (by decide +kernel)
set_option maxRecDepth 20000 in
theorem gL_law_X5_restore : GoodIn wsL_law (wsV RL 131 RX5 yX5_restore wsX5_restore) := goodIn_app (goodIn_of _ (by decide +kernel)) ggL_law_X5_restore
set_option maxRecDepth 20000 in
theorem ggL_law_X4_told : GoodIn wsL_law wsX4_told := goodIn_r _ [691, 15, 106, 107, 2, 108, 692, 693, 694, 695, 20, 696, 697, 698, 699, 103, 104, 105, 712, 713, 714, 715, 716, 717, 718, 752, 753, 754, 755, 756, 757, 758, 759, 760, 761, 762] (by decide +kernel) (by decide +kernel)
set_option maxRecDepth 20000 in
theorem gL_law_X4_told : GoodIn wsL_law (wsV RL 132 RX4 yX4_told wsX4_told) := goodIn_app (goodIn_of _ (by decide +kernel)) ggL_law_X4_told
set_option maxRecDepth 20000 in
theorem ggL_law_X5_told : GoodIn wsL_law wsX5_told := goodIn_r _ [703, 704, 705, 615, 706, 82, 628, 707, 83, 194, 514, 550, 119, 120, 5, 121, 708, 709, 710, 711, 79, 80, 142, 143, 144, 145, 81, 719, 720, 721, 722, 723, 724, 725, 726, 727, 728, 729, 730, 731, 732, 733, 734, 735, 736, 737, 738, 739, 740, 741, 742, 743, 744, 745, 746, 747, 748, 749, 750, 751] (by decide +kernel) (by decide +kernel)
set_option maxRecDepth 20000 in
theorem gL_law_X5_told : GoodIn wsL_law (wsV RL 135 RX5 yX5_told wsX5_told) := goodIn_app (goodIn_of _ (by decide +kernel)) ggL_law_X5_told
