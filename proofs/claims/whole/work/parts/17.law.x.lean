theorem mw_inp {big ws : List Cond} (ps : List Nat) (hp : ws = ps.filterMap (fun i => big[i]?)) : ∀ w ∈ ws, w ∈ big := by
  intro w hw
  rw [hp] at hw
  obtain ⟨i, -, hi⟩ := List.mem_filterMap.mp hw
  exact List.mem_of_getElem? hi
theorem mw_inapp {big a b : List Cond} (ha : ∀ w ∈ a, w ∈ big) (hb : ∀ w ∈ b, w ∈ big) : ∀ w ∈ a ++ b, w ∈ big := fun w h => (List.mem_append.mp h).elim (ha w) (hb w)
set_option maxRecDepth 20000 in
theorem mi_wsL_law_r1 : ∀ w ∈ wsL_law_r1, w ∈ lw_tbl := mw_inp [48, 49, 32, 693, 694, 39, 50, 51, 52, 53, 54, 55, 56, 57, 33, 178, 70, 71, 34, 179, 180, 152, 153, 38] (by decide +kernel)
set_option maxRecDepth 20000 in
theorem mi_wsL_law_r2 : ∀ w ∈ wsL_law_r2, w ∈ lw_tbl := mw_inp [181, 182, 183, 184, 59, 60, 61, 69, 62, 63, 73, 74, 75, 76, 77, 35, 133, 98, 99, 36, 136, 114, 115, 37] (by decide +kernel)
set_option maxRecDepth 20000 in
theorem mi_wsL_law_r3 : ∀ w ∈ wsL_law_r3, w ∈ lw_tbl := mw_inp [139, 141, 79, 80, 81, 82, 83, 84, 85, 86, 101, 102, 103, 104, 105, 106, 117, 118, 119, 120, 121, 122, 123, 155] (by decide +kernel)
set_option maxRecDepth 20000 in
theorem mi_wsL_law_r4 : ∀ w ∈ wsL_law_r4, w ∈ lw_tbl := mw_inp [156, 157, 158, 162, 163, 160, 164, 165, 166, 695, 696, 697, 698, 699, 707, 708, 709, 710, 711, 712, 713, 716, 722, 723] (by decide +kernel)
set_option maxRecDepth 20000 in
theorem mi_wsL_law_r5 : ∀ w ∈ wsL_law_r5, w ∈ lw_tbl := mw_inp [724, 725, 726, 718, 200, 201, 202, 203, 204, 205, 206, 207, 208, 209, 210, 211, 787, 788, 789, 790, 791, 700, 792, 793] (by decide +kernel)
set_option maxRecDepth 20000 in
theorem mi_wsL_law_r6 : ∀ w ∈ wsL_law_r6, w ∈ lw_tbl := mw_inp [794, 212, 213, 214, 215, 216, 217, 218, 219, 795, 796, 797, 798, 220, 221, 222, 223, 224, 225, 226, 227, 228, 230, 0] (by decide +kernel)
set_option maxRecDepth 20000 in
theorem mi_wsL_law_r7 : ∀ w ∈ wsL_law_r7, w ∈ lw_tbl := mw_inp [231, 232, 233, 234, 236, 237, 238, 40, 239, 240, 241, 242, 243, 1030, 244, 245, 246, 247, 248, 1029, 250, 251, 252, 253] (by decide +kernel)
set_option maxRecDepth 20000 in
theorem mi_wsL_law_r8 : ∀ w ∈ wsL_law_r8, w ∈ lw_tbl := mw_inp [254, 255, 256, 257, 258, 259, 41, 260, 264, 265, 42, 266, 267, 268, 269, 261, 262, 263, 270, 271, 272, 273, 274, 43] (by decide +kernel)
set_option maxRecDepth 20000 in
theorem mi_wsL_law_r9 : ∀ w ∈ wsL_law_r9, w ∈ lw_tbl := mw_inp [275, 276, 277, 278, 279, 280, 281, 282, 283, 284, 285, 286, 287, 288, 289, 290, 291, 293, 294, 44, 295, 296, 297, 298] (by decide +kernel)
set_option maxRecDepth 20000 in
theorem mi_wsL_law_r10 : ∀ w ∈ wsL_law_r10, w ∈ lw_tbl := mw_inp [299, 300, 301, 302, 304, 306, 308, 309, 310, 311, 312, 45, 313, 314, 315, 316, 317, 318, 319, 320, 321, 322, 323, 324] (by decide +kernel)
set_option maxRecDepth 20000 in
theorem mi_wsL_law_r11 : ∀ w ∈ wsL_law_r11, w ∈ lw_tbl := mw_inp [799, 800, 801, 802, 803, 805, 4, 806, 701, 816, 817, 807, 809, 5, 810, 814, 815, 811, 812, 813, 326, 327, 328, 329] (by decide +kernel)
set_option maxRecDepth 20000 in
theorem mi_wsL_law_r12 : ∀ w ∈ wsL_law_r12, w ∈ lw_tbl := mw_inp [135, 138, 330, 331, 332, 333, 334, 335, 336, 337, 338, 339, 340, 341, 342, 343, 344, 345, 346, 347, 348, 349, 350, 351] (by decide +kernel)
set_option maxRecDepth 20000 in
theorem mi_wsL_law_r13 : ∀ w ∈ wsL_law_r13, w ∈ lw_tbl := mw_inp [352, 353, 354, 355, 356, 357, 358, 359, 360, 361, 362, 363, 364, 365, 366, 367, 368, 369, 370, 371, 372, 373, 374, 818] (by decide +kernel)
set_option maxRecDepth 20000 in
theorem mi_wsL_law_r14 : ∀ w ∈ wsL_law_r14, w ∈ lw_tbl := mw_inp [819, 820, 821, 702, 703, 704, 705, 715, 706, 375, 376, 377, 378, 140, 379, 380, 381, 382, 383, 384, 385, 386, 387, 388] (by decide +kernel)
set_option maxRecDepth 20000 in
theorem mi_wsL_law_r15 : ∀ w ∈ wsL_law_r15, w ∈ lw_tbl := mw_inp [389, 390, 391, 392, 393, 394, 395, 396, 397, 398, 399, 400, 401, 402, 403, 404, 405, 406, 407, 408, 409, 410, 411, 412] (by decide +kernel)
set_option maxRecDepth 20000 in
theorem mi_wsL_law_r16 : ∀ w ∈ wsL_law_r16, w ∈ lw_tbl := mw_inp [134, 137, 413, 414, 415, 416, 417, 419, 418, 46, 420, 421, 422, 423, 424, 425, 426, 427, 428, 429, 430, 432, 1, 433] (by decide +kernel)
set_option maxRecDepth 20000 in
theorem mi_wsL_law_r17 : ∀ w ∈ wsL_law_r17, w ∈ lw_tbl := mw_inp [434, 435, 436, 437, 438, 439, 440, 441, 442, 443, 444, 445, 447, 448, 449, 450, 451, 452, 453, 454, 455, 456, 457, 458] (by decide +kernel)
set_option maxRecDepth 20000 in
theorem mi_wsL_law_r18 : ∀ w ∈ wsL_law_r18, w ∈ lw_tbl := mw_inp [459, 460, 461, 462, 463, 464, 465, 467, 2, 468, 470, 471, 472, 473, 474, 475, 476, 477, 478, 927, 928, 929, 930, 918] (by decide +kernel)
set_option maxRecDepth 20000 in
theorem mi_wsL_law_r19 : ∀ w ∈ wsL_law_r19, w ∈ lw_tbl := mw_inp [920, 22, 921, 931, 933, 24, 934, 862, 864, 13, 865, 869, 871, 14, 872, 935, 937, 25, 938, 881, 883, 16, 884, 847] (by decide +kernel)
set_option maxRecDepth 20000 in
theorem mi_wsL_law_r20 : ∀ w ∈ wsL_law_r20, w ∈ lw_tbl := mw_inp [848, 849, 830, 832, 7, 833, 854, 856, 11, 857, 858, 860, 12, 861, 866, 867, 868, 939, 941, 26, 942, 943, 945, 27] (by decide +kernel)
set_option maxRecDepth 20000 in
theorem mi_wsL_law_r21 : ∀ w ∈ wsL_law_r21, w ∈ lw_tbl := mw_inp [946, 479, 480, 481, 482, 483, 484, 485, 947, 948, 949, 950, 922, 486, 487, 488, 489, 490, 491, 492, 493, 494, 495, 822] (by decide +kernel)
set_option maxRecDepth 20000 in
theorem mi_wsL_law_r22 : ∀ w ∈ wsL_law_r22, w ∈ lw_tbl := mw_inp [823, 824, 825, 826, 828, 6, 829, 496, 497, 498, 499, 500, 501, 502, 503, 504, 505, 506, 951, 952, 953, 954, 507, 508] (by decide +kernel)
set_option maxRecDepth 20000 in
theorem mi_wsL_law_r23 : ∀ w ∈ wsL_law_r23, w ∈ lw_tbl := mw_inp [509, 510, 142, 511, 955, 956, 957, 958, 512, 513, 514, 515, 959, 960, 961, 962, 516, 517, 518, 519, 520, 521, 522, 523] (by decide +kernel)
set_option maxRecDepth 20000 in
theorem mi_wsL_law_r24 : ∀ w ∈ wsL_law_r24, w ∈ lw_tbl := mw_inp [963, 964, 965, 966, 967, 524, 525, 526, 527, 528, 529, 530, 531, 968, 969, 970, 971, 972, 532, 533, 534, 535, 536, 537] (by decide +kernel)
set_option maxRecDepth 20000 in
theorem mi_wsL_law_r25 : ∀ w ∈ wsL_law_r25, w ∈ lw_tbl := mw_inp [538, 539, 540, 834, 835, 836, 837, 838, 839, 841, 8, 842, 843, 845, 9, 846, 850, 852, 10, 853, 541, 542, 543, 544] (by decide +kernel)
set_option maxRecDepth 20000 in
theorem mi_wsL_law_r26 : ∀ w ∈ wsL_law_r26, w ∈ lw_tbl := mw_inp [545, 546, 547, 548, 549, 550, 873, 874, 875, 876, 877, 879, 15, 880, 551, 552, 553, 554, 555, 556, 557, 558, 559, 561] (by decide +kernel)
set_option maxRecDepth 20000 in
theorem mi_wsL_law_r27 : ∀ w ∈ wsL_law_r27, w ∈ lw_tbl := mw_inp [3, 562, 563, 564, 565, 566, 567, 568, 569, 570, 885, 886, 887, 888, 889, 714, 890, 892, 17, 893, 894, 896, 18, 897] (by decide +kernel)
set_option maxRecDepth 20000 in
theorem mi_wsL_law_r28 : ∀ w ∈ wsL_law_r28, w ∈ lw_tbl := mw_inp [898, 900, 19, 901, 571, 572, 573, 574, 575, 576, 577, 578, 579, 580, 581, 582, 902, 903, 904, 905, 906, 908, 20, 909] (by decide +kernel)
set_option maxRecDepth 20000 in
theorem mi_wsL_law_r29 : ∀ w ∈ wsL_law_r29, w ∈ lw_tbl := mw_inp [910, 912, 21, 913, 583, 584, 585, 586, 587, 588, 589, 590, 914, 915, 916, 917, 923, 925, 23, 926, 591, 592, 593, 594] (by decide +kernel)
set_option maxRecDepth 20000 in
theorem mi_wsL_law_r30 : ∀ w ∈ wsL_law_r30, w ∈ lw_tbl := mw_inp [595, 596, 597, 598, 599, 600, 601, 602, 973, 974, 975, 976, 977, 978, 603, 604, 605, 606, 607, 979, 980, 981, 982, 608] (by decide +kernel)
set_option maxRecDepth 20000 in
theorem mi_wsL_law_r31 : ∀ w ∈ wsL_law_r31, w ∈ lw_tbl := mw_inp [609, 610, 611, 612, 613, 614, 615, 616, 617, 618, 619, 620, 621, 622, 623, 624, 625, 626, 627, 628, 629, 630, 631, 632] (by decide +kernel)
set_option maxRecDepth 20000 in
theorem mi_wsL_law_r32 : ∀ w ∈ wsL_law_r32, w ∈ lw_tbl := mw_inp [633, 634, 635, 636, 637, 638, 639, 640, 641, 983, 984, 985, 986, 987, 988, 717, 989, 991, 28, 992, 993, 994, 995, 996] (by decide +kernel)
set_option maxRecDepth 20000 in
theorem mi_wsL_law_r33 : ∀ w ∈ wsL_law_r33, w ∈ lw_tbl := mw_inp [997, 998, 999, 1000, 1001, 1002, 642, 643, 644, 645, 646, 647, 648, 649, 650, 651, 652, 653, 654, 655, 656, 1003, 1004, 1005] (by decide +kernel)
set_option maxRecDepth 20000 in
theorem mi_wsL_law_r34 : ∀ w ∈ wsL_law_r34, w ∈ lw_tbl := mw_inp [1006, 719, 720, 721, 657, 658, 659, 660, 1007, 1008, 1009, 1010, 661, 662, 663, 664, 665, 666, 667, 668, 669, 670, 47, 671] (by decide +kernel)
set_option maxRecDepth 20000 in
theorem mi_wsL_law_r35 : ∀ w ∈ wsL_law_r35, w ∈ lw_tbl := mw_inp [672, 673, 674, 675, 1011, 1012, 1013, 1014, 1015, 1017, 29, 1018, 676, 677, 678, 679, 680, 681, 682, 683, 684, 685, 686, 687] (by decide +kernel)
set_option maxRecDepth 20000 in
theorem mi_wsL_law_r36 : ∀ w ∈ wsL_law_r36, w ∈ lw_tbl := mw_inp [688, 689, 690, 691, 692, 1019, 1020, 1021, 1022, 1023, 727, 1024, 1026, 30, 1027, 1028] (by decide +kernel)
set_option maxRecDepth 20000 in
theorem mi_wsX60 : ∀ w ∈ wsX60, w ∈ lw_tbl := mw_inp [185, 187, 189, 191, 193, 195, 197] (by decide +kernel)
set_option maxRecDepth 20000 in
theorem mi_wsX70 : ∀ w ∈ wsX70, w ∈ lw_tbl := mw_inp [728, 730, 732, 734, 736, 738, 740, 742, 744, 746, 748, 750, 752, 754, 756, 758, 760, 762, 764, 766, 768, 770, 772, 774, 776, 778, 780, 782, 784] (by decide +kernel)
set_option maxRecDepth 20000 in
theorem mi_wsX20 : ∀ w ∈ wsX20, w ∈ lw_tbl := mw_inp [64, 66] (by decide +kernel)
set_option maxRecDepth 20000 in
theorem mi_wsX40 : ∀ w ∈ wsX40, w ∈ lw_tbl := mw_inp [143, 145, 147, 149] (by decide +kernel)
set_option maxRecDepth 20000 in
theorem mi_wsX10 : ∀ w ∈ wsX10, w ∈ lw_tbl := mw_inp [167, 169, 171, 173, 175] (by decide +kernel)
set_option maxRecDepth 20000 in
theorem mi_wsX00 : ∀ w ∈ wsX00, w ∈ lw_tbl := mw_inp [87, 89, 91, 93, 95] (by decide +kernel)
set_option maxRecDepth 20000 in
theorem mi_wsX50 : ∀ w ∈ wsX50, w ∈ lw_tbl := mw_inp [107, 109, 111] (by decide +kernel)
set_option maxRecDepth 20000 in
theorem mi_wsX30 : ∀ w ∈ wsX30, w ∈ lw_tbl := mw_inp [124, 126, 128, 130] (by decide +kernel)
theorem wsL_law_in : ∀ w ∈ wsL_law, w ∈ lw_tbl := (mw_inapp (mw_inapp (mw_inapp (mw_inapp (mw_inapp (mw_inapp (mw_inapp (mw_inapp (mw_inapp (mw_inapp mi_wsL_law_r1 (mw_inapp mi_wsL_law_r2 (mw_inapp mi_wsL_law_r3 (mw_inapp mi_wsL_law_r4 (mw_inapp mi_wsL_law_r5 (mw_inapp mi_wsL_law_r6 (mw_inapp mi_wsL_law_r7 (mw_inapp mi_wsL_law_r8 (mw_inapp mi_wsL_law_r9 (mw_inapp mi_wsL_law_r10 (mw_inapp mi_wsL_law_r11 (mw_inapp mi_wsL_law_r12 (mw_inapp mi_wsL_law_r13 (mw_inapp mi_wsL_law_r14 (mw_inapp mi_wsL_law_r15 (mw_inapp mi_wsL_law_r16 (mw_inapp mi_wsL_law_r17 (mw_inapp mi_wsL_law_r18 (mw_inapp mi_wsL_law_r19 (mw_inapp mi_wsL_law_r20 (mw_inapp mi_wsL_law_r21 (mw_inapp mi_wsL_law_r22 (mw_inapp mi_wsL_law_r23 (mw_inapp mi_wsL_law_r24 (mw_inapp mi_wsL_law_r25 (mw_inapp mi_wsL_law_r26 (mw_inapp mi_wsL_law_r27 (mw_inapp mi_wsL_law_r28 (mw_inapp mi_wsL_law_r29 (mw_inapp mi_wsL_law_r30 (mw_inapp mi_wsL_law_r31 (mw_inapp mi_wsL_law_r32 (mw_inapp mi_wsL_law_r33 (mw_inapp mi_wsL_law_r34 (mw_inapp mi_wsL_law_r35 mi_wsL_law_r36))))))))))))))))))))))))))))))))))) mi_wsX60) mi_wsX70) mi_wsX20) mi_wsX40) mi_wsX10) mi_wsX00) mi_wsX50) mi_wsX30) (fun _ h => absurd h List.not_mem_nil))
theorem inlX0 : ∀ w ∈ wsX00, w ∈ wsL_law := fun _ h => List.mem_append_left _ (List.mem_append_left _ (List.mem_append_left _ (List.mem_append_right _ h)))
theorem inX0 : ∀ w ∈ wsX00, w ∈ lw_tbl := fun w h => wsL_law_in w (inlX0 w h)
theorem inlX1 : ∀ w ∈ wsX10, w ∈ wsL_law := fun _ h => List.mem_append_left _ (List.mem_append_left _ (List.mem_append_left _ (List.mem_append_left _ (List.mem_append_right _ h))))
theorem inX1 : ∀ w ∈ wsX10, w ∈ lw_tbl := fun w h => wsL_law_in w (inlX1 w h)
theorem inlX2 : ∀ w ∈ wsX20, w ∈ wsL_law := fun _ h => List.mem_append_left _ (List.mem_append_left _ (List.mem_append_left _ (List.mem_append_left _ (List.mem_append_left _ (List.mem_append_left _ (List.mem_append_right _ h))))))
theorem inX2 : ∀ w ∈ wsX20, w ∈ lw_tbl := fun w h => wsL_law_in w (inlX2 w h)
theorem inlX3 : ∀ w ∈ wsX30, w ∈ wsL_law := fun _ h => List.mem_append_left _ (List.mem_append_right _ h)
theorem inX3 : ∀ w ∈ wsX30, w ∈ lw_tbl := fun w h => wsL_law_in w (inlX3 w h)
theorem inlX4 : ∀ w ∈ wsX40, w ∈ wsL_law := fun _ h => List.mem_append_left _ (List.mem_append_left _ (List.mem_append_left _ (List.mem_append_left _ (List.mem_append_left _ (List.mem_append_right _ h)))))
theorem inX4 : ∀ w ∈ wsX40, w ∈ lw_tbl := fun w h => wsL_law_in w (inlX4 w h)
theorem inlX5 : ∀ w ∈ wsX50, w ∈ wsL_law := fun _ h => List.mem_append_left _ (List.mem_append_left _ (List.mem_append_right _ h))
theorem inX5 : ∀ w ∈ wsX50, w ∈ lw_tbl := fun w h => wsL_law_in w (inlX5 w h)
theorem inlX6 : ∀ w ∈ wsX60, w ∈ wsL_law := fun _ h => List.mem_append_left _ (List.mem_append_left _ (List.mem_append_left _ (List.mem_append_left _ (List.mem_append_left _ (List.mem_append_left _ (List.mem_append_left _ (List.mem_append_left _ (List.mem_append_right _ h))))))))
theorem inX6 : ∀ w ∈ wsX60, w ∈ lw_tbl := fun w h => wsL_law_in w (inlX6 w h)
theorem inlX7 : ∀ w ∈ wsX70, w ∈ wsL_law := fun _ h => List.mem_append_left _ (List.mem_append_left _ (List.mem_append_left _ (List.mem_append_left _ (List.mem_append_left _ (List.mem_append_left _ (List.mem_append_left _ (List.mem_append_right _ h)))))))
theorem inX7 : ∀ w ∈ wsX70, w ∈ lw_tbl := fun w h => wsL_law_in w (inlX7 w h)
