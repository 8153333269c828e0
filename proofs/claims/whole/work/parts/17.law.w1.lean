set_option maxRecDepth 20000 in
theorem ggL_law_X6_clause : GoodIn wsL_law wsX6_clause := goodIn_r _ [324, 19, 264, 24, 325, 326, 327, 328, 39, 329, 57, 330, 331, 332, 333, 53, 334, 335, 336, 337, 338, 54, 339, 340, 341, 342, 55, 343, 344, 345, 346, 56, 347, 348, 349, 350, 351, 352, 353, 354, 355, 356, 357, 358, 23, 359, 75, 360, 76, 78, 361, 362, 363, 364, 365, 366, 367, 368, 369, 370, 371, 372, 43, 373, 62, 63, 61, 374, 375, 376, 377, 378, 379, 380, 381, 382, 383, 384, 385, 386, 387, 388, 389, 390, 391, 392, 393, 394, 395, 396, 2, 397, 398, 177, 178, 179, 399, 181, 182, 400, 401, 402, 403, 404, 405, 406, 407, 408, 409, 410, 411, 412, 47, 413, 414, 415, 416, 417, 70, 67, 68, 69, 418, 419, 420, 421, 422, 423, 424, 425, 426, 856, 857, 858, 859, 860, 861, 862, 894, 895, 896, 897, 903, 904, 905, 906, 907, 898, 899, 900, 901, 902, 908, 909, 910, 911, 912, 913, 914] (by decide +kernel) (by decide +kernel)
set_option maxRecDepth 20000 in
theorem gL_law_X6_clause : GoodIn wsL_law (wsV RL 31 RX6 yX6_clause wsX6_clause) := goodIn_app (goodIn_of _ (by decide +kernel)) ggL_law_X6_clause
set_option maxRecDepth 20000 in
theorem ggL_law_X7_clause : GoodIn wsL_law wsX7_clause := goodIn_r _ [430, 431, 432, 433, 5, 434, 315, 118, 119, 120, 435, 436, 437, 438, 86, 87, 88, 89, 439, 440, 441, 442, 443, 444, 445, 446, 447, 448, 449, 450, 92, 451, 452, 453, 454, 91, 317, 455, 456, 457, 458, 459, 460, 461, 90, 316, 462, 463, 464, 465, 466, 467, 468, 469, 470, 471, 472, 473, 474, 475, 476, 319, 93, 477, 478, 479, 480, 863, 864, 865, 866, 867, 868, 869, 870, 871, 872, 873, 874, 875, 876, 877, 878, 879, 880, 881, 882, 883, 884, 885, 886, 887, 888, 889, 890, 891] (by decide +kernel) (by decide +kernel)
set_option maxRecDepth 20000 in
theorem gL_law_X7_clause : GoodIn wsL_law (wsV RL 35 RX7 yX7_clause wsX7_clause) := goodIn_app (goodIn_of _ (by decide +kernel)) ggL_law_X7_clause
set_option maxRecDepth 20000 in
theorem ggL_law_X6_as : GoodIn wsL_law wsX6_as := goodIn_r _ [484, 19, 264, 326, 327, 328, 39, 329, 57, 485, 486, 2, 487, 330, 331, 332, 333, 53, 334, 856, 857, 858, 859, 860, 861, 862, 894, 895, 896, 897, 903, 904, 905, 906, 907] (by decide +kernel) (by decide +kernel)
set_option maxRecDepth 20000 in
theorem gL_law_X6_as : GoodIn wsL_law (wsV RL 36 RX6 yX6_as wsX6_as) := goodIn_app (goodIn_of _ (by decide +kernel)) ggL_law_X6_as
set_option maxRecDepth 20000 in
theorem ggL_law_X7_as : GoodIn wsL_law wsX7_as := goodIn_r _ [491, 492, 86, 431, 432, 433, 5, 434, 315, 118, 119, 120, 863, 864, 865, 866, 867, 868, 869, 870, 871, 872, 873, 874, 875, 876, 877, 878, 879, 880, 881, 882, 883, 884, 885, 886, 887, 888, 889, 890, 891] (by decide +kernel) (by decide +kernel)
set_option maxRecDepth 20000 in
theorem gL_law_X7_as : GoodIn wsL_law (wsV RL 39 RX7 yX7_as wsX7_as) := goodIn_app (goodIn_of _ (by decide +kernel)) ggL_law_X7_as
set_option maxRecDepth 20000 in
theorem ggL_law_X6_rain : GoodIn wsL_law wsX6_rain := goodIn_r _ [496, 19, 265, 497, 498, 499, 18, 500, 40, 501, 308, 309, 39, 310, 57, 502, 389, 390, 43, 391, 62, 61, 856, 857, 858, 859, 860, 861, 862, 894, 895, 896, 897, 903, 904, 905, 906, 907, 908, 909, 910] (by decide +kernel) (by decide +kernel)
set_option maxRecDepth 20000 in
theorem gL_law_X6_rain : GoodIn wsL_law (wsV RL 40 RX6 yX6_rain wsX6_rain) := goodIn_app (goodIn_of _ (by decide +kernel)) ggL_law_X6_rain
set_option maxRecDepth 20000 in
theorem ggL_law_X7_rain : GoodIn wsL_law wsX7_rain := goodIn_r _ [506, 507, 508, 509, 5, 510, 315, 458, 459, 460, 461, 90, 316, 863, 864, 865, 866, 867, 868, 869, 870, 871, 872, 873, 874, 875, 876, 877, 878, 879, 880, 881, 882, 883, 884, 885, 886, 887, 888, 889, 890, 891] (by decide +kernel) (by decide +kernel)
set_option maxRecDepth 20000 in
theorem gL_law_X7_rain : GoodIn wsL_law (wsV RL 43 RX7 yX7_rain wsX7_rain) := goodIn_app (goodIn_of _ (by decide +kernel)) ggL_law_X7_rain
set_option maxRecDepth 20000 in
theorem ggL_law_X6_week : GoodIn wsL_law wsX6_week := goodIn_r _ [514, 19, 265, 264, 497, 498, 499, 18, 500, 40, 501, 308, 309, 39, 310, 57, 515, 385, 386, 43, 387, 63, 502, 389, 390, 391, 62, 61, 516, 393, 394, 395, 55, 53, 355, 348, 349, 350, 56, 54, 334, 327, 328, 329, 396, 2, 397, 398, 177, 178, 179, 399, 181, 182, 400, 401, 402, 403, 404, 405, 517, 407, 408, 409, 518, 519, 520, 521, 856, 857, 858, 859, 860, 861, 862, 894, 895, 896, 897, 903, 904, 905, 906, 907, 908, 909, 910] (by decide +kernel) (by decide +kernel)
set_option maxRecDepth 20000 in
theorem gL_law_X6_week : GoodIn wsL_law (wsV RL 44 RX6 yX6_week wsX6_week) := goodIn_app (goodIn_of _ (by decide +kernel)) ggL_law_X6_week
set_option maxRecDepth 20000 in
theorem ggL_law_X7_week : GoodIn wsL_law wsX7_week := goodIn_r _ [525, 317, 89, 507, 508, 509, 5, 510, 315, 458, 459, 460, 461, 90, 316, 462, 463, 464, 465, 88, 86, 466, 467, 468, 469, 439, 440, 441, 442, 87, 470, 471, 472, 863, 864, 865, 866, 867, 868, 869, 870, 871, 872, 873, 874, 875, 876, 877, 878, 879, 880, 881, 882, 883, 884, 885, 886, 887, 888, 889, 890, 891] (by decide +kernel) (by decide +kernel)
set_option maxRecDepth 20000 in
theorem gL_law_X7_week : GoodIn wsL_law (wsV RL 47 RX7 yX7_week wsX7_week) := goodIn_app (goodIn_of _ (by decide +kernel)) ggL_law_X7_week
set_option maxRecDepth 20000 in
theorem ggL_law_X6_breathe : GoodIn wsL_law wsX6_breathe := goodIn_r _ [529, 19, 264, 530, 326, 327, 328, 39, 329, 57, 347, 348, 349, 350, 56, 54, 334, 531, 401, 402, 403, 404, 181, 178, 182, 405, 177, 179, 343, 344, 345, 346, 856, 857, 858, 859, 860, 861, 862, 894, 895, 896, 897, 903, 904, 905, 906, 907] (by decide +kernel) (by decide +kernel)
set_option maxRecDepth 20000 in
theorem gL_law_X6_breathe : GoodIn wsL_law (wsV RL 48 RX6 yX6_breathe wsX6_breathe) := goodIn_app (goodIn_of _ (by decide +kernel)) ggL_law_X6_breathe
set_option maxRecDepth 20000 in
theorem ggL_law_X7_breathe : GoodIn wsL_law wsX7_breathe := goodIn_r _ [535, 89, 318, 431, 432, 433, 5, 434, 315, 118, 119, 120, 439, 440, 441, 442, 87, 863, 864, 865, 866, 867, 868, 869, 870, 871, 872, 873, 874, 875, 876, 877, 878, 879, 880, 881, 882, 883, 884, 885, 886, 887, 888, 889, 890, 891] (by decide +kernel) (by decide +kernel)
set_option maxRecDepth 20000 in
theorem gL_law_X7_breathe : GoodIn wsL_law (wsV RL 51 RX7 yX7_breathe wsX7_breathe) := goodIn_app (goodIn_of _ (by decide +kernel)) ggL_law_X7_breathe
set_option maxRecDepth 20000 in
theorem ggL_law_X6_scrape : GoodIn wsL_law wsX6_scrape := goodIn_r _ [539, 19, 264, 326, 327, 328, 39, 329, 57, 343, 344, 345, 346, 56, 334, 330, 331, 332, 333, 53, 531, 401, 402, 403, 404, 181, 178, 182, 405, 177, 179, 856, 857, 858, 859, 860, 861, 862, 894, 895, 896, 897, 903, 904, 905, 906, 907] (by decide +kernel) (by decide +kernel)
set_option maxRecDepth 20000 in
theorem gL_law_X6_scrape : GoodIn wsL_law (wsV RL 52 RX6 yX6_scrape wsX6_scrape) := goodIn_app (goodIn_of _ (by decide +kernel)) ggL_law_X6_scrape
