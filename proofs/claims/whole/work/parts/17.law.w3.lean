set_option maxRecDepth 20000 in
theorem ggL_law_X7_need : GoodIn wsL_law wsX7_need := goodIn_r _ [637, 315, 638, 639, 507, 508, 509, 5, 510, 118, 119, 120, 640, 641, 642, 643, 644, 645, 646, 647, 648, 649, 650, 651, 89, 91, 455, 456, 457, 592, 593, 594, 595, 317, 458, 459, 460, 461, 90, 316, 462, 463, 464, 465, 88, 86, 466, 467, 468, 469, 439, 440, 441, 442, 87, 470, 471, 472, 863, 864, 865, 866, 867, 868, 869, 870, 871, 872, 873, 874, 875, 876, 877, 878, 879, 880, 881, 882, 883, 884, 885, 886, 887, 888, 889, 890, 891] (by decide +kernel) (by decide +kernel)
set_option maxRecDepth 20000 in
theorem gL_law_X7_need : GoodIn wsL_law (wsV RL 76 RX7 yX7_need wsX7_need) := goodIn_app (goodIn_of _ (by decide +kernel)) ggL_law_X7_need
set_option maxRecDepth 20000 in
theorem ggL_law_X6_race : GoodIn wsL_law wsX6_race := goodIn_r _ [655, 19, 264, 497, 498, 499, 18, 500, 40, 501, 308, 309, 39, 310, 57, 656, 657, 658, 659, 660, 661, 662, 663, 54, 56, 405, 177, 178, 179, 334, 327, 328, 329, 856, 857, 858, 859, 860, 861, 862, 894, 895, 896, 897, 903, 904, 905, 906, 907] (by decide +kernel) (by decide +kernel)
set_option maxRecDepth 20000 in
theorem gL_law_X6_race : GoodIn wsL_law (wsV RL 77 RX6 yX6_race wsX6_race) := goodIn_app (goodIn_of _ (by decide +kernel)) ggL_law_X6_race
set_option maxRecDepth 20000 in
theorem ggL_law_X7_race : GoodIn wsL_law wsX7_race := goodIn_r _ [667, 118, 119, 5, 120, 507, 508, 509, 510, 315, 668, 669, 670, 671, 672, 673, 674, 675, 87, 89, 863, 864, 865, 866, 867, 868, 869, 870, 871, 872, 873, 874, 875, 876, 877, 878, 879, 880, 881, 882, 883, 884, 885, 886, 887, 888, 889, 890, 891] (by decide +kernel) (by decide +kernel)
set_option maxRecDepth 20000 in
theorem gL_law_X7_race : GoodIn wsL_law (wsV RL 80 RX7 yX7_race wsX7_race) := goodIn_app (goodIn_of _ (by decide +kernel)) ggL_law_X7_race
set_option maxRecDepth 20000 in
theorem ggL_law_X6_odds : GoodIn wsL_law wsX6_odds := goodIn_r _ [679, 19, 264, 24, 326, 327, 328, 39, 329, 57, 356, 357, 358, 23, 359, 75, 360, 76, 78, 361, 362, 363, 364, 365, 53, 366, 367, 368, 369, 54, 55, 56, 370, 371, 372, 43, 373, 62, 63, 61, 374, 680, 681, 682, 683, 626, 627, 628, 629, 392, 393, 394, 395, 355, 348, 349, 350, 334, 396, 2, 397, 398, 177, 178, 179, 399, 181, 182, 400, 401, 402, 403, 404, 405, 379, 856, 857, 858, 859, 860, 861, 862, 894, 895, 896, 897, 903, 904, 905, 906, 907, 898, 899, 900, 901, 902, 908, 909, 910] (by decide +kernel) (by decide +kernel)
set_option maxRecDepth 20000 in
theorem gL_law_X6_odds : GoodIn wsL_law (wsV RL 81 RX6 yX6_odds wsX6_odds) := goodIn_app (goodIn_of _ (by decide +kernel)) ggL_law_X6_odds
set_option maxRecDepth 20000 in
theorem ggL_law_X7_odds : GoodIn wsL_law wsX7_odds := goodIn_r _ [687, 492, 431, 432, 433, 5, 434, 315, 118, 119, 120, 688, 689, 690, 691, 89, 91, 455, 456, 457, 462, 463, 464, 465, 88, 86, 466, 467, 468, 469, 439, 440, 441, 442, 87, 470, 471, 472, 863, 864, 865, 866, 867, 868, 869, 870, 871, 872, 873, 874, 875, 876, 877, 878, 879, 880, 881, 882, 883, 884, 885, 886, 887, 888, 889, 890, 891] (by decide +kernel) (by decide +kernel)
set_option maxRecDepth 20000 in
theorem gL_law_X7_odds : GoodIn wsL_law (wsV RL 84 RX7 yX7_odds wsX7_odds) := goodIn_app (goodIn_of _ (by decide +kernel)) ggL_law_X7_odds
set_option maxRecDepth 20000 in
theorem ggL_law_X6_see : GoodIn wsL_law wsX6_see := goodIn_r _ [695, 19, 264, 325, 326, 327, 328, 39, 329, 57, 696, 697, 698, 47, 699, 70, 700, 701, 702, 703, 67, 68, 69, 856, 857, 858, 859, 860, 861, 862, 894, 895, 896, 897, 903, 904, 905, 906, 907, 911, 912, 913, 914] (by decide +kernel) (by decide +kernel)
set_option maxRecDepth 20000 in
theorem gL_law_X6_see : GoodIn wsL_law (wsV RL 85 RX6 yX6_see wsX6_see) := goodIn_app (goodIn_of _ (by decide +kernel)) ggL_law_X6_see
set_option maxRecDepth 20000 in
theorem ggL_law_X7_see : GoodIn wsL_law wsX7_see := goodIn_r _ [707, 708, 709, 319, 93, 431, 432, 433, 5, 434, 315, 118, 119, 120, 863, 864, 865, 866, 867, 868, 869, 870, 871, 872, 873, 874, 875, 876, 877, 878, 879, 880, 881, 882, 883, 884, 885, 886, 887, 888, 889, 890, 891] (by decide +kernel) (by decide +kernel)
set_option maxRecDepth 20000 in
theorem gL_law_X7_see : GoodIn wsL_law (wsV RL 88 RX7 yX7_see wsX7_see) := goodIn_app (goodIn_of _ (by decide +kernel)) ggL_law_X7_see
set_option maxRecDepth 20000 in
theorem ggL_law_X6_forget : GoodIn wsL_law wsX6_forget := goodIn_r _ [713, 19, 325, 696, 697, 698, 47, 699, 70, 714, 284, 285, 286, 856, 857, 858, 859, 860, 861, 862, 894, 895, 896, 897, 911, 912, 913, 914] (by decide +kernel) (by decide +kernel)
set_option maxRecDepth 20000 in
theorem gL_law_X6_forget : GoodIn wsL_law (wsV RL 89 RX6 yX6_forget wsX6_forget) := goodIn_app (goodIn_of _ (by decide +kernel)) ggL_law_X6_forget
set_option maxRecDepth 20000 in
theorem ggL_law_X7_forget : GoodIn wsL_law wsX7_forget := goodIn_r _ [718, 319, 863, 864, 865, 866, 867, 868, 869, 870, 871, 872, 873, 874, 875, 876, 877, 878, 879, 880, 881, 882, 883, 884, 885, 886, 887, 888, 889, 890, 891] (by decide +kernel) (by decide +kernel)
set_option maxRecDepth 20000 in
theorem gL_law_X7_forget : GoodIn wsL_law (wsV RL 92 RX7 yX7_forget wsX7_forget) := goodIn_app (goodIn_of _ (by decide +kernel)) ggL_law_X7_forget
set_option maxRecDepth 20000 in
theorem ggL_law_X6_drawn : GoodIn wsL_law wsX6_drawn := goodIn_r _ [722, 19, 24, 497, 498, 499, 18, 500, 40, 501, 308, 309, 39, 310, 57, 356, 357, 358, 23, 359, 75, 360, 76, 78, 361, 362, 363, 364, 365, 53, 366, 367, 368, 369, 54, 55, 56, 370, 371, 372, 43, 373, 62, 63, 61, 374, 723, 724, 725, 726, 80, 79, 727, 728, 729, 730, 392, 393, 394, 395, 355, 348, 349, 350, 334, 327, 328, 329, 396, 2, 397, 398, 177, 178, 179, 399, 181, 182, 400, 401, 402, 403, 404, 405, 731, 732, 733, 734, 735, 519, 520, 521, 736, 737, 738, 739, 740, 741, 742, 743, 744, 745, 746, 747, 748, 344, 345, 346, 749, 750, 751, 752, 856, 857, 858, 859, 860, 861, 862, 894, 895, 896, 897, 903, 904, 905, 906, 907, 898, 899, 900, 901, 902, 908, 909, 910] (by decide +kernel) (by decide +kernel)
set_option maxRecDepth 20000 in
theorem gL_law_X6_drawn : GoodIn wsL_law (wsV RL 93 RX6 yX6_drawn wsX6_drawn) := goodIn_app (goodIn_of _ (by decide +kernel)) ggL_law_X6_drawn
set_option maxRecDepth 20000 in
theorem ggL_law_X7_drawn : GoodIn wsL_law wsX7_drawn := goodIn_r _ [756, 757, 758, 759, 89, 91, 315, 118, 119, 5, 120, 507, 508, 509, 510, 455, 456, 457, 760, 761, 762, 763, 764, 765, 766, 767, 462, 463, 464, 465, 88, 86, 466, 467, 468, 469, 439, 440, 441, 442, 87, 470, 471, 472, 768, 769, 770, 771, 772, 773, 863, 864, 865, 866, 867, 868, 869, 870, 871, 872, 873, 874, 875, 876, 877, 878, 879, 880, 881, 882, 883, 884, 885, 886, 887, 888, 889, 890, 891] (by decide +kernel) (by decide +kernel)
set_option maxRecDepth 20000 in
theorem gL_law_X7_drawn : GoodIn wsL_law (wsV RL 96 RX7 yX7_drawn wsX7_drawn) := goodIn_app (goodIn_of _ (by decide +kernel)) ggL_law_X7_drawn
