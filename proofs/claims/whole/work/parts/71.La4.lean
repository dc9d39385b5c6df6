set_option maxRecDepth 20000 in
theorem ggL_law_X4_unwish : GoodIn wsL_law wsX4_unwish := goodIn_r _ [518, 15, 712, 713, 714, 715, 716, 717, 718, 752, 753, 754, 755, 756, 757, 758, 759, 760, 761, 762] (by decide +kernel) (by decide +kernel)
set_option maxRecDepth 20000 in
theorem gL_law_X4_unwish : GoodIn wsL_law (wsV RL 86 RX4 yX4_unwish wsX4_unwish) := goodIn_app (goodIn_of _ (by decide +kernel)) ggL_law_X4_unwish
set_option maxRecDepth 20000 in
theorem ggL_law_X5_unwish : GoodIn wsL_law wsX5_unwish := goodIn_r _ [522, 514, 719, 720, 721, 722, 723, 724, 725, 726, 727, 728, 729, 730, 731, 732, 733, 734, 735, 736, 737, 738, 739, 740, 741, 742, 743, 744, 745, 746, 747, 748, 749, 750, 751] (by decide +kernel) (by decide +kernel)
set_option maxRecDepth 20000 in
theorem gL_law_X5_unwish : GoodIn wsL_law (wsV RL 89 RX5 yX5_unwish wsX5_unwish) := goodIn_app (goodIn_of _ (by decide +kernel)) ggL_law_X5_unwish
set_option maxRecDepth 20000 in
theorem ggL_law_X4_nine : GoodIn wsL_law wsX4_nine := goodIn_r _ [526, 106, 107, 2, 108, 527, 528, 529, 530, 15, 131, 132, 133, 134, 135, 136, 137, 531, 14, 532, 533, 36, 35, 712, 713, 714, 715, 716, 717, 718, 752, 753, 754, 755, 756, 757, 758, 759, 760, 761, 762] (by decide +kernel) (by decide +kernel)
set_option maxRecDepth 20000 in
theorem gL_law_X4_nine : GoodIn wsL_law (wsV RL 90 RX4 yX4_nine wsX4_nine) := goodIn_app (goodIn_of _ (by decide +kernel)) ggL_law_X4_nine
set_option maxRecDepth 20000 in
theorem ggL_law_X5_nine : GoodIn wsL_law wsX5_nine := goodIn_r _ [537, 119, 120, 5, 121, 146, 147, 148, 538, 539, 540, 541, 514, 84, 719, 720, 721, 722, 723, 724, 725, 726, 727, 728, 729, 730, 731, 732, 733, 734, 735, 736, 737, 738, 739, 740, 741, 742, 743, 744, 745, 746, 747, 748, 749, 750, 751] (by decide +kernel) (by decide +kernel)
set_option maxRecDepth 20000 in
theorem gL_law_X5_nine : GoodIn wsL_law (wsV RL 93 RX5 yX5_nine wsX5_nine) := goodIn_app (goodIn_of _ (by decide +kernel)) ggL_law_X5_nine
set_option maxRecDepth 20000 in
theorem ggL_law_X4_seen : GoodIn wsL_law wsX4_seen := goodIn_r _ [545, 15, 171, 172, 2, 173, 106, 107, 108, 131, 132, 133, 134, 135, 136, 137, 712, 713, 714, 715, 716, 717, 718, 752, 753, 754, 755, 756, 757, 758, 759, 760, 761, 762] (by decide +kernel) (by decide +kernel)
set_option maxRecDepth 20000 in
theorem gL_law_X4_seen : GoodIn wsL_law (wsV RL 94 RX4 yX4_seen wsX4_seen) := goodIn_app (goodIn_of _ (by decide +kernel)) ggL_law_X4_seen
set_option maxRecDepth 20000 in
theorem ggL_law_X5_seen : GoodIn wsL_law wsX5_seen := goodIn_r _ [549, 179, 114, 550, 85, 86, 87, 119, 120, 5, 121, 146, 147, 148, 719, 720, 721, 722, 723, 724, 725, 726, 727, 728, 729, 730, 731, 732, 733, 734, 735, 736, 737, 738, 739, 740, 741, 742, 743, 744, 745, 746, 747, 748, 749, 750, 751] (by decide +kernel) (by decide +kernel)
set_option maxRecDepth 20000 in
theorem gL_law_X5_seen : GoodIn wsL_law (wsV RL 97 RX5 yX5_seen wsX5_seen) := goodIn_app (goodIn_of _ (by decide +kernel)) ggL_law_X5_seen
set_option maxRecDepth 20000 in
theorem ggL_law_X4_forget : GoodIn wsL_law wsX4_forget := goodIn_r _ [554, 15, 712, 713, 714, 715, 716, 717, 718, 752, 753, 754, 755, 756, 757, 758, 759, 760, 761, 762] (by decide +kernel) (by decide +kernel)
set_option maxRecDepth 20000 in
theorem gL_law_X4_forget : GoodIn wsL_law (wsV RL 98 RX4 yX4_forget wsX4_forget) := goodIn_app (goodIn_of _ (by decide +kernel)) ggL_law_X4_forget
set_option maxRecDepth 20000 in
theorem ggL_law_X5_forget : GoodIn wsL_law wsX5_forget := goodIn_r _ [558, 550, 719, 720, 721, 722, 723, 724, 725, 726, 727, 728, 729, 730, 731, 732, 733, 734, 735, 736, 737, 738, 739, 740, 741, 742, 743, 744, 745, 746, 747, 748, 749, 750, 751] (by decide +kernel) (by decide +kernel)
set_option maxRecDepth 20000 in
theorem gL_law_X5_forget : GoodIn wsL_law (wsV RL 101 RX5 yX5_forget wsX5_forget) := goodIn_app (goodIn_of _ (by decide +kernel)) ggL_law_X5_forget
set_option maxRecDepth 20000 in
theorem ggL_law_X4_hollow : GoodIn wsL_law wsX4_hollow := goodIn_r _ [562, 15, 563, 14, 564, 565, 40, 39, 37, 38, 712, 713, 714, 715, 716, 717, 718, 752, 753, 754, 755, 756, 757, 758, 759, 760, 761, 762] (by decide +kernel) (by decide +kernel)
set_option maxRecDepth 20000 in
theorem gL_law_X4_hollow : GoodIn wsL_law (wsV RL 102 RX4 yX4_hollow wsX4_hollow) := goodIn_app (goodIn_of _ (by decide +kernel)) ggL_law_X4_hollow
set_option maxRecDepth 20000 in
theorem ggL_law_X5_hollow : GoodIn wsL_law wsX5_hollow := goodIn_r _ [569, 550, 85, 86, 87, 719, 720, 721, 722, 723, 724, 725, 726, 727, 728, 729, 730, 731, 732, 733, 734, 735, 736, 737, 738, 739, 740, 741, 742, 743, 744, 745, 746, 747, 748, 749, 750, 751] (by decide +kernel) (by decide +kernel)
set_option maxRecDepth 20000 in
theorem gL_law_X5_hollow : GoodIn wsL_law (wsV RL 105 RX5 yX5_hollow wsX5_hollow) := goodIn_app (goodIn_of _ (by decide +kernel)) ggL_law_X5_hollow
set_option maxRecDepth 20000 in
theorem ggL_law_X4_lay : GoodIn wsL_law wsX4_lay := goodIn_r _ [573, 15, 106, 107, 2, 108, 563, 14, 564, 565, 40, 39, 37, 38, 131, 132, 133, 134, 135, 136, 137, 574, 575, 576, 577, 578, 579, 580, 581, 582, 583, 282, 283, 284, 712, 713, 714, 715, 716, 717, 718, 752, 753, 754, 755, 756, 757, 758, 759, 760, 761, 762] (by decide +kernel) (by decide +kernel)
set_option maxRecDepth 20000 in
theorem gL_law_X4_lay : GoodIn wsL_law (wsV RL 106 RX4 yX4_lay wsX4_lay) := goodIn_app (goodIn_of _ (by decide +kernel)) ggL_law_X4_lay
set_option maxRecDepth 20000 in
theorem ggL_law_X5_lay : GoodIn wsL_law wsX5_lay := goodIn_r _ [587, 114, 119, 120, 5, 121, 588, 567, 568, 569, 550, 85, 86, 87, 146, 147, 148, 589, 590, 591, 592, 593, 594, 719, 720, 721, 722, 723, 724, 725, 726, 727, 728, 729, 730, 731, 732, 733, 734, 735, 736, 737, 738, 739, 740, 741, 742, 743, 744, 745, 746, 747, 748, 749, 750, 751] (by decide +kernel) (by decide +kernel)
set_option maxRecDepth 20000 in
theorem gL_law_X5_lay : GoodIn wsL_law (wsV RL 109 RX5 yX5_lay wsX5_lay) := goodIn_app (goodIn_of _ (by decide +kernel)) ggL_law_X5_lay
