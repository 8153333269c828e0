set_option maxRecDepth 20000 in
theorem ggL_law_X7_scrape : GoodIn wsL_law wsX7_scrape := goodIn_r _ [543, 89, 86, 431, 432, 433, 5, 434, 315, 118, 119, 120, 863, 864, 865, 866, 867, 868, 869, 870, 871, 872, 873, 874, 875, 876, 877, 878, 879, 880, 881, 882, 883, 884, 885, 886, 887, 888, 889, 890, 891] (by decide +kernel) (by decide +kernel)
set_option maxRecDepth 20000 in
theorem gL_law_X7_scrape : GoodIn wsL_law (wsV RL 55 RX7 yX7_scrape wsX7_scrape) := goodIn_app (goodIn_of _ (by decide +kernel)) ggL_law_X7_scrape
set_option maxRecDepth 20000 in
theorem ggL_law_X6_change : GoodIn wsL_law wsX6_change := goodIn_r _ [547, 19, 264, 326, 327, 328, 39, 329, 57, 485, 486, 2, 487, 330, 331, 332, 333, 53, 334, 548, 549, 550, 551, 54, 856, 857, 858, 859, 860, 861, 862, 894, 895, 896, 897, 903, 904, 905, 906, 907] (by decide +kernel) (by decide +kernel)
set_option maxRecDepth 20000 in
theorem gL_law_X6_change : GoodIn wsL_law (wsV RL 56 RX6 yX6_change wsX6_change) := goodIn_app (goodIn_of _ (by decide +kernel)) ggL_law_X6_change
set_option maxRecDepth 20000 in
theorem ggL_law_X7_change : GoodIn wsL_law wsX7_change := goodIn_r _ [555, 492, 556, 86, 87, 431, 432, 433, 5, 434, 315, 118, 119, 120, 863, 864, 865, 866, 867, 868, 869, 870, 871, 872, 873, 874, 875, 876, 877, 878, 879, 880, 881, 882, 883, 884, 885, 886, 887, 888, 889, 890, 891] (by decide +kernel) (by decide +kernel)
set_option maxRecDepth 20000 in
theorem gL_law_X7_change : GoodIn wsL_law (wsV RL 60 RX7 yX7_change wsX7_change) := goodIn_app (goodIn_of _ (by decide +kernel)) ggL_law_X7_change
set_option maxRecDepth 20000 in
theorem ggL_law_X6_lean : GoodIn wsL_law wsX6_lean := goodIn_r _ [560, 19, 264, 326, 327, 328, 39, 329, 57, 339, 340, 341, 342, 55, 334, 561, 562, 563, 564, 856, 857, 858, 859, 860, 861, 862, 894, 895, 896, 897, 903, 904, 905, 906, 907] (by decide +kernel) (by decide +kernel)
set_option maxRecDepth 20000 in
theorem gL_law_X6_lean : GoodIn wsL_law (wsV RL 61 RX6 yX6_lean wsX6_lean) := goodIn_app (goodIn_of _ (by decide +kernel)) ggL_law_X6_lean
set_option maxRecDepth 20000 in
theorem ggL_law_X7_lean : GoodIn wsL_law wsX7_lean := goodIn_r _ [568, 569, 88, 431, 432, 433, 5, 434, 315, 118, 119, 120, 863, 864, 865, 866, 867, 868, 869, 870, 871, 872, 873, 874, 875, 876, 877, 878, 879, 880, 881, 882, 883, 884, 885, 886, 887, 888, 889, 890, 891] (by decide +kernel) (by decide +kernel)
set_option maxRecDepth 20000 in
theorem gL_law_X7_lean : GoodIn wsL_law (wsV RL 64 RX7 yX7_lean wsX7_lean) := goodIn_app (goodIn_of _ (by decide +kernel)) ggL_law_X7_lean
set_option maxRecDepth 20000 in
theorem ggL_law_X6_force : GoodIn wsL_law wsX6_force := goodIn_r _ [573, 19, 24, 497, 498, 499, 18, 500, 40, 501, 308, 309, 39, 310, 57, 356, 357, 358, 23, 359, 75, 360, 76, 78, 361, 362, 363, 364, 365, 53, 366, 367, 368, 369, 54, 55, 56, 370, 371, 372, 43, 373, 62, 63, 61, 374, 574, 575, 576, 577, 380, 381, 382, 383, 384, 385, 386, 387, 388, 389, 390, 391, 392, 393, 394, 395, 355, 348, 349, 350, 334, 327, 328, 329, 396, 2, 397, 398, 177, 178, 179, 399, 181, 182, 400, 401, 402, 403, 404, 405, 406, 407, 408, 409, 578, 352, 353, 354, 856, 857, 858, 859, 860, 861, 862, 894, 895, 896, 897, 903, 904, 905, 906, 907, 898, 899, 900, 901, 902, 908, 909, 910] (by decide +kernel) (by decide +kernel)
set_option maxRecDepth 20000 in
theorem gL_law_X6_force : GoodIn wsL_law (wsV RL 65 RX6 yX6_force wsX6_force) := goodIn_app (goodIn_of _ (by decide +kernel)) ggL_law_X6_force
set_option maxRecDepth 20000 in
theorem ggL_law_X7_force : GoodIn wsL_law wsX7_force := goodIn_r _ [582, 583, 118, 119, 5, 120, 507, 508, 509, 510, 315, 584, 585, 586, 587, 91, 588, 589, 590, 591, 89, 455, 456, 457, 592, 593, 594, 595, 317, 458, 459, 460, 461, 90, 316, 462, 463, 464, 465, 88, 86, 466, 467, 468, 469, 439, 440, 441, 442, 87, 470, 471, 472, 443, 444, 445, 446, 863, 864, 865, 866, 867, 868, 869, 870, 871, 872, 873, 874, 875, 876, 877, 878, 879, 880, 881, 882, 883, 884, 885, 886, 887, 888, 889, 890, 891] (by decide +kernel) (by decide +kernel)
set_option maxRecDepth 20000 in
theorem gL_law_X7_force : GoodIn wsL_law (wsV RL 68 RX7 yX7_force wsX7_force) := goodIn_app (goodIn_of _ (by decide +kernel)) ggL_law_X7_force
set_option maxRecDepth 20000 in
theorem ggL_law_X6_order : GoodIn wsL_law wsX6_order := goodIn_r _ [599, 19, 24, 497, 498, 499, 18, 500, 40, 501, 308, 309, 39, 310, 57, 356, 357, 358, 23, 359, 75, 360, 76, 78, 361, 362, 363, 364, 365, 53, 366, 367, 368, 369, 54, 55, 56, 370, 371, 372, 43, 373, 62, 63, 61, 374, 600, 601, 602, 603, 604, 519, 520, 521, 355, 348, 349, 350, 334, 327, 328, 329, 605, 380, 381, 382, 383, 384, 385, 386, 387, 388, 389, 390, 391, 392, 393, 394, 395, 396, 2, 397, 398, 177, 178, 179, 399, 181, 182, 400, 401, 402, 403, 404, 405, 406, 407, 408, 409, 856, 857, 858, 859, 860, 861, 862, 894, 895, 896, 897, 903, 904, 905, 906, 907, 898, 899, 900, 901, 902, 908, 909, 910] (by decide +kernel) (by decide +kernel)
set_option maxRecDepth 20000 in
theorem gL_law_X6_order : GoodIn wsL_law (wsV RL 69 RX6 yX6_order wsX6_order) := goodIn_app (goodIn_of _ (by decide +kernel)) ggL_law_X6_order
set_option maxRecDepth 20000 in
theorem ggL_law_X7_order : GoodIn wsL_law wsX7_order := goodIn_r _ [609, 507, 508, 509, 5, 510, 315, 610, 611, 612, 613, 92, 451, 452, 453, 454, 89, 91, 317, 455, 456, 457, 439, 440, 441, 442, 87, 458, 459, 460, 461, 90, 316, 462, 463, 464, 465, 88, 86, 466, 467, 468, 469, 470, 471, 472, 863, 864, 865, 866, 867, 868, 869, 870, 871, 872, 873, 874, 875, 876, 877, 878, 879, 880, 881, 882, 883, 884, 885, 886, 887, 888, 889, 890, 891] (by decide +kernel) (by decide +kernel)
set_option maxRecDepth 20000 in
theorem gL_law_X7_order : GoodIn wsL_law (wsV RL 72 RX7 yX7_order wsX7_order) := goodIn_app (goodIn_of _ (by decide +kernel)) ggL_law_X7_order
set_option maxRecDepth 20000 in
theorem ggL_law_X6_need : GoodIn wsL_law wsX6_need := goodIn_r _ [617, 19, 264, 27, 24, 307, 308, 309, 39, 310, 57, 497, 498, 499, 18, 500, 40, 501, 356, 357, 358, 23, 359, 75, 360, 76, 78, 361, 362, 363, 364, 365, 53, 366, 367, 368, 369, 54, 55, 56, 370, 371, 372, 43, 373, 62, 63, 61, 374, 618, 619, 620, 621, 605, 622, 623, 624, 625, 626, 627, 628, 629, 630, 401, 402, 403, 404, 181, 178, 182, 405, 177, 179, 334, 327, 328, 329, 384, 385, 386, 387, 388, 389, 390, 391, 392, 393, 394, 395, 355, 348, 349, 350, 396, 2, 397, 398, 399, 400, 604, 519, 520, 521, 631, 632, 633, 856, 857, 858, 859, 860, 861, 862, 894, 895, 896, 897, 903, 904, 905, 906, 907, 898, 899, 900, 901, 902, 908, 909, 910] (by decide +kernel) (by decide +kernel)
set_option maxRecDepth 20000 in
theorem gL_law_X6_need : GoodIn wsL_law (wsV RL 73 RX6 yX6_need wsX6_need) := goodIn_app (goodIn_of _ (by decide +kernel)) ggL_law_X6_need
