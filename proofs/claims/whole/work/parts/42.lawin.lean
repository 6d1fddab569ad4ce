/-! the law's words among the tables' -/
set_option maxRecDepth 20000 in
theorem lwi_wsL_law_r1 : GoodIn lw_tbl wsL_law_r1 := goodIn_r _ [89, 90, 78, 644, 645, 81, 91, 92, 93, 94, 95, 96, 97, 98, 79, 149, 150, 151, 152, 135, 136, 80, 153, 134] (by decide +kernel) (by decide +kernel)
set_option maxRecDepth 20000 in
theorem lwi_wsL_law_r2 : GoodIn lw_tbl wsL_law_r2 := goodIn_r _ [154, 155, 156, 157, 99, 100, 101, 102, 103, 105, 107, 109, 110, 111, 113, 115, 137, 138, 139, 140, 141, 142, 646, 647] (by decide +kernel) (by decide +kernel)
set_option maxRecDepth 20000 in
theorem lwi_wsL_law_r3 : GoodIn lw_tbl wsL_law_r3 := goodIn_r _ [648, 649, 650, 651, 652, 653, 655, 656, 657, 662, 663, 177, 178, 179, 180, 181, 183, 0, 184, 187, 1, 188, 696, 697] (by decide +kernel) (by decide +kernel)
set_option maxRecDepth 20000 in
theorem lwi_wsL_law_r4 : GoodIn lw_tbl wsL_law_r4 := goodIn_r _ [698, 699, 658, 700, 702, 54, 703, 189, 190, 191, 192, 195, 2, 196, 197, 199, 3, 200, 201, 203, 4, 204, 205, 207] (by decide +kernel) (by decide +kernel)
set_option maxRecDepth 20000 in
theorem lwi_wsL_law_r5 : GoodIn lw_tbl wsL_law_r5 := goodIn_r _ [5, 208, 210, 211, 212, 82, 213, 1017, 214, 215, 216, 217, 218, 1018, 220, 221, 222, 223, 224, 225, 226, 227, 228, 229] (by decide +kernel) (by decide +kernel)
set_option maxRecDepth 20000 in
theorem lwi_wsL_law_r6 : GoodIn lw_tbl wsL_law_r6 := goodIn_r _ [83, 230, 231, 232, 233, 234, 236, 237, 84, 238, 239, 240, 85, 241, 242, 243, 244, 245, 246, 247, 248, 249, 250, 251] (by decide +kernel) (by decide +kernel)
set_option maxRecDepth 20000 in
theorem lwi_wsL_law_r7 : GoodIn lw_tbl wsL_law_r7 := goodIn_r _ [252, 254, 256, 258, 260, 6, 261, 262, 264, 7, 265, 268, 8, 269, 270, 272, 271, 86, 275, 9, 276, 277, 279, 10] (by decide +kernel) (by decide +kernel)
set_option maxRecDepth 20000 in
theorem lwi_wsL_law_r8 : GoodIn lw_tbl wsL_law_r8 := goodIn_r _ [280, 281, 283, 11, 284, 287, 12, 288, 291, 13, 292, 293, 295, 14, 296, 298, 299, 300, 302, 15, 303, 304, 306, 16] (by decide +kernel) (by decide +kernel)
set_option maxRecDepth 20000 in
theorem lwi_wsL_law_r9 : GoodIn lw_tbl wsL_law_r9 := goodIn_r _ [307, 308, 310, 17, 311, 314, 18, 315, 318, 19, 319, 320, 322, 20, 323, 324, 326, 21, 327, 328, 329, 87, 330, 331] (by decide +kernel) (by decide +kernel)
set_option maxRecDepth 20000 in
theorem lwi_wsL_law_r10 : GoodIn lw_tbl wsL_law_r10 := goodIn_r _ [333, 22, 334, 335, 337, 23, 338, 341, 342, 344, 24, 345, 346, 348, 25, 349, 350, 352, 26, 353, 354, 355, 88, 356] (by decide +kernel) (by decide +kernel)
set_option maxRecDepth 20000 in
theorem lwi_wsL_law_r11 : GoodIn lw_tbl wsL_law_r11 := goodIn_r _ [357, 358, 359, 360, 362, 27, 363, 364, 366, 28, 367, 368, 370, 29, 371, 704, 705, 706, 707, 660, 708, 710, 55, 711] (by decide +kernel) (by decide +kernel)
set_option maxRecDepth 20000 in
theorem lwi_wsL_law_r12 : GoodIn lw_tbl wsL_law_r12 := goodIn_r _ [712, 714, 56, 715, 716, 718, 57, 719, 720, 721, 722, 723, 725, 58, 726, 727, 729, 59, 730, 731, 732, 733, 734, 736] (by decide +kernel) (by decide +kernel)
set_option maxRecDepth 20000 in
theorem lwi_wsL_law_r13 : GoodIn lw_tbl wsL_law_r13 := goodIn_r _ [60, 737, 661, 738, 739, 740, 741, 743, 61, 744, 745, 747, 62, 748, 749, 750, 751, 752, 754, 63, 755, 756, 758, 64] (by decide +kernel) (by decide +kernel)
set_option maxRecDepth 20000 in
theorem lwi_wsL_law_r14 : GoodIn lw_tbl wsL_law_r14 := goodIn_r _ [759, 760, 761, 762, 763, 764, 765, 766, 768, 65, 769, 770, 771, 772, 773, 774, 775, 776, 777, 778, 779, 780, 781, 782] (by decide +kernel) (by decide +kernel)
set_option maxRecDepth 20000 in
theorem lwi_wsL_law_r15 : GoodIn lw_tbl wsL_law_r15 := goodIn_r _ [783, 784, 785, 786, 787, 374, 375, 376, 377, 378, 380, 30, 381, 386, 31, 387, 788, 789, 790, 791, 792, 793, 794, 388] (by decide +kernel) (by decide +kernel)
set_option maxRecDepth 20000 in
theorem lwi_wsL_law_r16 : GoodIn lw_tbl wsL_law_r16 := goodIn_r _ [389, 390, 391, 392, 795, 796, 797, 798, 394, 395, 396, 397, 400, 32, 401, 402, 404, 33, 405, 799, 800, 801, 802, 803] (by decide +kernel) (by decide +kernel)
set_option maxRecDepth 20000 in
theorem lwi_wsL_law_r17 : GoodIn lw_tbl wsL_law_r17 := goodIn_r _ [804, 805, 806, 807, 808, 406, 407, 408, 409, 809, 810, 811, 812, 411, 412, 413, 414, 813, 814, 815, 816, 817, 818, 819] (by decide +kernel) (by decide +kernel)
set_option maxRecDepth 20000 in
theorem lwi_wsL_law_r18 : GoodIn lw_tbl wsL_law_r18 := goodIn_r _ [415, 416, 417, 418, 422, 34, 423, 820, 821, 822, 823, 824, 825, 826, 827, 828, 829, 424, 425, 426, 427, 830, 831, 832] (by decide +kernel) (by decide +kernel)
set_option maxRecDepth 20000 in
theorem lwi_wsL_law_r19 : GoodIn lw_tbl wsL_law_r19 := goodIn_r _ [833, 428, 429, 430, 431, 435, 35, 436, 437, 834, 835, 836, 837, 438, 439, 440, 441, 444, 36, 445, 838, 839, 840, 841] (by decide +kernel) (by decide +kernel)
set_option maxRecDepth 20000 in
theorem lwi_wsL_law_r20 : GoodIn lw_tbl wsL_law_r20 := goodIn_r _ [842, 844, 66, 845, 446, 447, 448, 449, 452, 37, 453, 846, 847, 848, 849, 454, 455, 456, 457, 460, 38, 461, 850, 851] (by decide +kernel) (by decide +kernel)
set_option maxRecDepth 20000 in
theorem lwi_wsL_law_r21 : GoodIn lw_tbl wsL_law_r21 := goodIn_r _ [852, 853, 462, 463, 464, 465, 468, 39, 469, 854, 855, 856, 857, 858, 860, 67, 861, 862, 864, 68, 865, 470, 471, 472] (by decide +kernel) (by decide +kernel)
set_option maxRecDepth 20000 in
theorem lwi_wsL_law_r22 : GoodIn lw_tbl wsL_law_r22 := goodIn_r _ [473, 474, 475, 476, 477, 866, 867, 868, 869, 870, 478, 479, 480, 481, 871, 872, 873, 874, 483, 484, 485, 486, 487, 489] (by decide +kernel) (by decide +kernel)
set_option maxRecDepth 20000 in
theorem lwi_wsL_law_r23 : GoodIn lw_tbl wsL_law_r23 := goodIn_r _ [40, 490, 493, 41, 494, 875, 876, 877, 878, 879, 880, 881, 495, 496, 497, 498, 499, 501, 42, 502, 882, 883, 884, 885] (by decide +kernel) (by decide +kernel)
set_option maxRecDepth 20000 in
theorem lwi_wsL_law_r24 : GoodIn lw_tbl wsL_law_r24 := goodIn_r _ [503, 504, 505, 506, 886, 887, 888, 889, 509, 510, 511, 512, 890, 891, 892, 893, 514, 515, 516, 517, 894, 895, 896, 897] (by decide +kernel) (by decide +kernel)
set_option maxRecDepth 20000 in
theorem lwi_wsL_law_r25 : GoodIn lw_tbl wsL_law_r25 := goodIn_r _ [898, 900, 69, 901, 518, 519, 520, 521, 902, 903, 904, 905, 522, 523, 524, 525, 526, 528, 43, 529, 531, 530, 906, 907] (by decide +kernel) (by decide +kernel)
set_option maxRecDepth 20000 in
theorem lwi_wsL_law_r26 : GoodIn lw_tbl wsL_law_r26 := goodIn_r _ [908, 909, 910, 912, 70, 913, 532, 533, 534, 535, 536, 538, 44, 539, 914, 915, 916, 917, 918, 919, 920, 540, 541, 542] (by decide +kernel) (by decide +kernel)
set_option maxRecDepth 20000 in
theorem lwi_wsL_law_r27 : GoodIn lw_tbl wsL_law_r27 := goodIn_r _ [543, 544, 546, 45, 547, 552, 553, 554, 550, 46, 551, 921, 922, 923, 924, 925, 927, 71, 928, 929, 931, 72, 932, 555] (by decide +kernel) (by decide +kernel)
set_option maxRecDepth 20000 in
theorem lwi_wsL_law_r28 : GoodIn lw_tbl wsL_law_r28 := goodIn_r _ [556, 557, 558, 933, 934, 935, 936, 559, 560, 561, 562, 937, 938, 939, 940, 563, 564, 565, 566, 567, 569, 47, 570, 941] (by decide +kernel) (by decide +kernel)
set_option maxRecDepth 20000 in
theorem lwi_wsL_law_r29 : GoodIn lw_tbl wsL_law_r29 := goodIn_r _ [942, 943, 944, 945, 947, 73, 948, 949, 951, 74, 952, 571, 572, 573, 574, 575, 577, 48, 578, 579, 580, 582, 49, 583] (by decide +kernel) (by decide +kernel)
set_option maxRecDepth 20000 in
theorem lwi_wsL_law_r30 : GoodIn lw_tbl wsL_law_r30 := goodIn_r _ [585, 586, 587, 953, 954, 955, 956, 957, 959, 75, 960, 961, 962, 963, 964, 965, 966, 967, 968, 969, 970, 588, 589, 590] (by decide +kernel) (by decide +kernel)
set_option maxRecDepth 20000 in
theorem lwi_wsL_law_r31 : GoodIn lw_tbl wsL_law_r31 := goodIn_r _ [591, 594, 50, 595, 971, 972, 973, 974, 975, 976, 977, 596, 597, 598, 599, 600, 602, 51, 603, 978, 979, 980, 981, 659] (by decide +kernel) (by decide +kernel)
set_option maxRecDepth 20000 in
theorem lwi_wsL_law_r32 : GoodIn lw_tbl wsL_law_r32 := goodIn_r _ [604, 605, 606, 607, 982, 983, 984, 985, 608, 609, 610, 611, 612, 613, 614, 615, 986, 987, 988, 989, 616, 990, 991, 992] (by decide +kernel) (by decide +kernel)
set_option maxRecDepth 20000 in
theorem lwi_wsL_law_r33 : GoodIn lw_tbl wsL_law_r33 := goodIn_r _ [993, 617, 618, 619, 620, 623, 52, 624, 625, 626, 627, 994, 995, 996, 997, 664, 998, 1000, 76, 1001, 1002, 1003, 1004, 628] (by decide +kernel) (by decide +kernel)
set_option maxRecDepth 20000 in
theorem lwi_wsL_law_r34 : GoodIn lw_tbl wsL_law_r34 := goodIn_r _ [629, 630, 631, 1005, 1006, 1007, 1008, 654, 632, 633, 634, 635, 1009, 1010, 1011, 1012, 636, 637, 638, 639, 642, 53, 643, 1013] (by decide +kernel) (by decide +kernel)
set_option maxRecDepth 20000 in
theorem lwi_wsL_law_r35 : GoodIn lw_tbl wsL_law_r35 := goodIn_r _ [1014, 1015, 1016] (by decide +kernel) (by decide +kernel)
set_option maxRecDepth 20000 in
theorem lwi_wsX20 : GoodIn lw_tbl wsX20 := goodIn_r _ [158, 160, 162, 164, 166, 168, 170, 172, 174] (by decide +kernel) (by decide +kernel)
set_option maxRecDepth 20000 in
theorem lwi_wsX30 : GoodIn lw_tbl wsX30 := goodIn_r _ [665, 667, 669, 671, 673, 675, 677, 679, 681, 683, 685, 687, 689, 691, 693] (by decide +kernel) (by decide +kernel)
set_option maxRecDepth 20000 in
theorem lwi_wsX10 : GoodIn lw_tbl wsX10 := goodIn_r _ [117, 119, 121, 123, 125, 127, 129, 131] (by decide +kernel) (by decide +kernel)
set_option maxRecDepth 20000 in
theorem lwi_wsX00 : GoodIn lw_tbl wsX00 := goodIn_r _ [144, 146] (by decide +kernel) (by decide +kernel)
theorem wsL_law_good : GoodIn lw_tbl wsL_law := (goodIn_app (goodIn_app (goodIn_app (goodIn_app (goodIn_app (goodIn_app lwi_wsL_law_r1 (goodIn_app lwi_wsL_law_r2 (goodIn_app lwi_wsL_law_r3 (goodIn_app lwi_wsL_law_r4 (goodIn_app lwi_wsL_law_r5 (goodIn_app lwi_wsL_law_r6 (goodIn_app lwi_wsL_law_r7 (goodIn_app lwi_wsL_law_r8 (goodIn_app lwi_wsL_law_r9 (goodIn_app lwi_wsL_law_r10 (goodIn_app lwi_wsL_law_r11 (goodIn_app lwi_wsL_law_r12 (goodIn_app lwi_wsL_law_r13 (goodIn_app lwi_wsL_law_r14 (goodIn_app lwi_wsL_law_r15 (goodIn_app lwi_wsL_law_r16 (goodIn_app lwi_wsL_law_r17 (goodIn_app lwi_wsL_law_r18 (goodIn_app lwi_wsL_law_r19 (goodIn_app lwi_wsL_law_r20 (goodIn_app lwi_wsL_law_r21 (goodIn_app lwi_wsL_law_r22 (goodIn_app lwi_wsL_law_r23 (goodIn_app lwi_wsL_law_r24 (goodIn_app lwi_wsL_law_r25 (goodIn_app lwi_wsL_law_r26 (goodIn_app lwi_wsL_law_r27 (goodIn_app lwi_wsL_law_r28 (goodIn_app lwi_wsL_law_r29 (goodIn_app lwi_wsL_law_r30 (goodIn_app lwi_wsL_law_r31 (goodIn_app lwi_wsL_law_r32 (goodIn_app lwi_wsL_law_r33 (goodIn_app lwi_wsL_law_r34 lwi_wsL_law_r35)))))))))))))))))))))))))))))))))) lwi_wsX20) lwi_wsX30) lwi_wsX10) lwi_wsX00) (fun _ h => absurd h List.not_mem_nil))
theorem wsL_law_in : ∀ w ∈ wsL_law, w ∈ lw_tbl := fun w h => (wsL_law_good w h).1
theorem inX0 : ∀ w ∈ u_ws RX0 TX0 2, w ∈ lw_tbl := fun w h => (lwi_wsX00 w h).1
theorem inX1 : ∀ w ∈ u_ws RX1 TX1 8, w ∈ lw_tbl := fun w h => (lwi_wsX10 w h).1
theorem inX2 : ∀ w ∈ u_ws RX2 TX2 9, w ∈ lw_tbl := fun w h => (lwi_wsX20 w h).1
theorem inX3 : ∀ w ∈ u_ws RX3 TX3 15, w ∈ lw_tbl := fun w h => (lwi_wsX30 w h).1
set_option maxRecDepth 20000 in
theorem nest_eq : nestWs = [108, 116, 189, 196, 208, 212, 220, 235, 239, 295, 305, 306, 307, 316, 321, 333, 342, 343, 355, 356, 365, 373, 381, 389, 405, 414, 430, 431, 436, 471, 507, 515, 544, 563, 27, 29, 31, 35, 37, 39, 66, 262].filterMap (fun i => tables_1[i]?) := by decide +kernel
theorem nest_in : ∀ w ∈ nestWs, w ∈ lw_tbl := by
  intro w hw
  rw [nest_eq] at hw
  obtain ⟨i, -, hi⟩ := List.mem_filterMap.mp hw
  exact List.mem_append_right _ (List.mem_of_getElem? hi)
