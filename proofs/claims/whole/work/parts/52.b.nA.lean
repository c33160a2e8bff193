theorem in_by {big : List Cond} (ws : List Cond) (ps : List Nat) (h : ws = ps.filterMap (fun i => big[i]?)) : ∀ w ∈ ws, w ∈ big := fun w hw => by
  rw [h] at hw
  obtain ⟨i, -, hi⟩ := List.mem_filterMap.mp hw
  exact List.mem_of_getElem? hi
set_option maxRecDepth 20000 in
theorem wrL_1 : ∀ w ∈ wsL_law_r1, w ∈ lw_tbl := in_by _ [71, 72, 57, 671, 672, 68, 73, 74, 75, 76, 77, 78, 79, 80, 58, 336, 98, 99, 59, 337, 338, 143, 144, 60] (by decide +kernel)
set_option maxRecDepth 20000 in
theorem wrL_2 : ∀ w ∈ wsL_law_r2, w ∈ lw_tbl := in_by _ [339, 340, 182, 183, 61, 341, 342, 205, 206, 63, 343, 82, 83, 84, 96, 85, 97, 86, 101, 102, 103, 104, 107, 110] (by decide +kernel)
set_option maxRecDepth 20000 in
theorem wrL_3 : ∀ w ∈ wsL_law_r3, w ∈ lw_tbl := in_by _ [113, 146, 147, 148, 149, 151, 153, 154, 184, 185, 186, 187, 188, 189, 62, 190, 191, 194, 208, 209, 210, 211, 213, 228] (by decide +kernel)
set_option maxRecDepth 20000 in
theorem wrL_4 : ∀ w ∈ wsL_law_r4, w ∈ lw_tbl := in_by _ [215, 230, 231, 232, 64, 233, 1048, 234, 235, 236, 237, 238, 1049, 240, 241, 242, 243, 244, 245, 246, 247, 248, 249, 65] (by decide +kernel)
set_option maxRecDepth 20000 in
theorem wrL_5 : ∀ w ∈ wsL_law_r5, w ∈ lw_tbl := in_by _ [250, 251, 252, 253, 254, 256, 257, 66, 258, 259, 260, 67, 261, 262, 263, 264, 265, 266, 267, 268, 269, 270, 271, 272] (by decide +kernel)
set_option maxRecDepth 20000 in
theorem wrL_6 : ∀ w ∈ wsL_law_r6, w ∈ lw_tbl := in_by _ [274, 276, 278, 279, 280, 281, 87, 282, 283, 284, 285, 286, 287, 288, 289, 116, 119, 121, 124, 290, 292, 0, 293, 294] (by decide +kernel)
set_option maxRecDepth 20000 in
theorem wrL_7 : ∀ w ∈ wsL_law_r7, w ∈ lw_tbl := in_by _ [295, 296, 297, 299, 1, 300, 301, 303, 2, 304, 305, 307, 3, 308, 309, 310, 311, 312, 313, 315, 4, 316, 318, 319] (by decide +kernel)
set_option maxRecDepth 20000 in
theorem wrL_8 : ∀ w ∈ wsL_law_r8, w ∈ lw_tbl := in_by _ [320, 322, 5, 323, 324, 326, 6, 327, 328, 329, 330, 331, 332, 333, 334, 335, 155, 156, 157, 120, 159, 125, 161, 673] (by decide +kernel)
set_option maxRecDepth 20000 in
theorem wrL_9 : ∀ w ∈ wsL_law_r9, w ∈ lw_tbl := in_by _ [674, 675, 676, 682, 683, 684, 685, 691, 692, 693, 694, 695, 697, 698, 699, 700, 707, 708, 709, 710, 712, 713, 715, 716] (by decide +kernel)
set_option maxRecDepth 20000 in
theorem wrL_10 : ∀ w ∈ wsL_law_r10, w ∈ lw_tbl := in_by _ [688, 686, 677, 679, 26, 680, 681, 362, 363, 364, 365, 88, 366, 793, 794, 795, 796, 701, 797, 798, 799, 367, 368, 369] (by decide +kernel)
set_option maxRecDepth 20000 in
theorem wrL_11 : ∀ w ∈ wsL_law_r11, w ∈ lw_tbl := in_by _ [370, 800, 801, 802, 803, 371, 372, 373, 374, 804, 805, 806, 807, 702, 703, 704, 705, 706, 808, 810, 27, 811, 812, 814] (by decide +kernel)
set_option maxRecDepth 20000 in
theorem wrL_12 : ∀ w ∈ wsL_law_r12, w ∈ lw_tbl := in_by _ [28, 815, 816, 818, 29, 819, 711, 820, 822, 30, 823, 824, 826, 31, 827, 828, 830, 32, 831, 832, 834, 33, 835, 375] (by decide +kernel)
set_option maxRecDepth 20000 in
theorem wrL_13 : ∀ w ∈ wsL_law_r13, w ∈ lw_tbl := in_by _ [376, 377, 378, 117, 379, 380, 381, 382, 383, 385, 384, 69, 386, 387, 388, 389, 217, 390, 391, 392, 393, 196, 836, 837] (by decide +kernel)
set_option maxRecDepth 20000 in
theorem wrL_14 : ∀ w ∈ wsL_law_r14, w ∈ lw_tbl := in_by _ [838, 839, 690, 687, 689, 696, 714, 717, 840, 394, 395, 396, 397, 105, 109, 111, 114, 150, 152, 398, 400, 7, 401, 402] (by decide +kernel)
set_option maxRecDepth 20000 in
theorem wrL_15 : ∀ w ∈ wsL_law_r15, w ∈ lw_tbl := in_by _ [403, 404, 405, 118, 406, 408, 8, 409, 115, 410, 411, 412, 112, 106, 413, 841, 842, 843, 844, 861, 845, 847, 34, 848] (by decide +kernel)
set_option maxRecDepth 20000 in
theorem wrL_16 : ∀ w ∈ wsL_law_r16, w ∈ lw_tbl := in_by _ [849, 851, 35, 852, 853, 855, 36, 856, 857, 859, 37, 860, 862, 863, 864, 414, 415, 416, 417, 158, 418, 419, 420, 421] (by decide +kernel)
set_option maxRecDepth 20000 in
theorem wrL_17 : ∀ w ∈ wsL_law_r17, w ∈ lw_tbl := in_by _ [195, 422, 423, 424, 425, 426, 427, 428, 429, 430, 431, 432, 433, 434, 435, 437, 9, 438, 108, 439, 441, 10, 442, 443] (by decide +kernel)
set_option maxRecDepth 20000 in
theorem wrL_18 : ∀ w ∈ wsL_law_r18, w ∈ lw_tbl := in_by _ [445, 11, 446, 447, 449, 12, 450, 451, 453, 13, 454, 122, 455, 457, 14, 458, 459, 460, 461, 462, 463, 465, 15, 466] (by decide +kernel)
set_option maxRecDepth 20000 in
theorem wrL_19 : ∀ w ∈ wsL_law_r19, w ∈ lw_tbl := in_by _ [467, 469, 16, 470, 471, 473, 17, 474, 475, 476, 865, 866, 867, 868, 869, 871, 38, 872, 873, 875, 39, 876, 877, 879] (by decide +kernel)
set_option maxRecDepth 20000 in
theorem wrL_20 : ∀ w ∈ wsL_law_r20, w ∈ lw_tbl := in_by _ [40, 880, 881, 883, 41, 884, 885, 887, 42, 888, 889, 891, 43, 892, 893, 895, 44, 896, 477, 478, 479, 480, 481, 482] (by decide +kernel)
set_option maxRecDepth 20000 in
theorem wrL_21 : ∀ w ∈ wsL_law_r21, w ∈ lw_tbl := in_by _ [483, 484, 485, 486, 487, 488, 897, 898, 899, 900, 901, 903, 45, 904, 489, 490, 491, 492, 493, 494, 495, 496, 497, 498] (by decide +kernel)
set_option maxRecDepth 20000 in
theorem wrL_22 : ∀ w ∈ wsL_law_r22, w ∈ lw_tbl := in_by _ [499, 500, 905, 906, 907, 908, 909, 911, 46, 912, 501, 502, 503, 504, 160, 913, 914, 915, 916, 505, 506, 507, 508, 162] (by decide +kernel)
set_option maxRecDepth 20000 in
theorem wrL_23 : ∀ w ∈ wsL_law_r23, w ∈ lw_tbl := in_by _ [917, 918, 919, 920, 509, 510, 511, 512, 197, 513, 514, 515, 516, 921, 922, 923, 924, 925, 927, 47, 928, 517, 518, 519] (by decide +kernel)
set_option maxRecDepth 20000 in
theorem wrL_24 : ∀ w ∈ wsL_law_r24, w ∈ lw_tbl := in_by _ [520, 521, 929, 930, 931, 932, 933, 935, 48, 936, 937, 939, 49, 940, 522, 523, 524, 525, 526, 528, 18, 529, 530, 531] (by decide +kernel)
set_option maxRecDepth 20000 in
theorem wrL_25 : ∀ w ∈ wsL_law_r25, w ∈ lw_tbl := in_by _ [532, 533, 534, 941, 942, 943, 944, 945, 947, 50, 948, 949, 951, 51, 952, 535, 536, 537, 538, 539, 540, 541, 542, 953] (by decide +kernel)
set_option maxRecDepth 20000 in
theorem wrL_26 : ∀ w ∈ wsL_law_r26, w ∈ lw_tbl := in_by _ [954, 955, 956, 543, 544, 545, 546, 957, 958, 959, 960, 547, 548, 549, 550, 551, 553, 19, 554, 961, 962, 963, 964, 555] (by decide +kernel)
set_option maxRecDepth 20000 in
theorem wrL_27 : ∀ w ∈ wsL_law_r27, w ∈ lw_tbl := in_by _ [556, 557, 558, 559, 561, 20, 562, 563, 564, 565, 566, 965, 966, 967, 968, 969, 970, 971, 567, 568, 569, 570, 571, 573] (by decide +kernel)
set_option maxRecDepth 20000 in
theorem wrL_28 : ∀ w ∈ wsL_law_r28, w ∈ lw_tbl := in_by _ [21, 574, 575, 972, 973, 974, 975, 976, 978, 52, 979, 576, 577, 578, 579, 980, 981, 982, 983, 580, 581, 582, 583, 984] (by decide +kernel)
set_option maxRecDepth 20000 in
theorem wrL_29 : ∀ w ∈ wsL_law_r29, w ∈ lw_tbl := in_by _ [985, 986, 987, 584, 585, 586, 587, 988, 989, 990, 991, 588, 589, 590, 591, 218, 592, 593, 594, 595, 992, 993, 994, 995] (by decide +kernel)
set_option maxRecDepth 20000 in
theorem wrL_30 : ∀ w ∈ wsL_law_r30, w ∈ lw_tbl := in_by _ [596, 597, 598, 599, 996, 997, 998, 999, 600, 601, 602, 603, 604, 606, 22, 607, 212, 214, 216, 1000, 1001, 1002, 1003, 1004] (by decide +kernel)
set_option maxRecDepth 20000 in
theorem wrL_31 : ∀ w ∈ wsL_law_r31, w ∈ lw_tbl := in_by _ [1006, 53, 1007, 608, 609, 610, 611, 1008, 1009, 1010, 1011, 612, 613, 614, 615, 636, 616, 618, 23, 619, 620, 622, 24, 623] (by decide +kernel)
set_option maxRecDepth 20000 in
theorem wrL_32 : ∀ w ∈ wsL_law_r32, w ∈ lw_tbl := in_by _ [624, 625, 70, 626, 627, 628, 629, 630, 631, 632, 633, 634, 635, 1012, 1013, 1014, 1015, 1020, 1016, 1018, 54, 1019, 1021, 1022] (by decide +kernel)
set_option maxRecDepth 20000 in
theorem wrL_33 : ∀ w ∈ wsL_law_r33, w ∈ lw_tbl := in_by _ [1023, 637, 638, 639, 640, 641, 642, 643, 644, 645, 646, 647, 648, 650, 25, 651, 652, 653, 654, 655, 656, 657, 658, 1024] (by decide +kernel)
set_option maxRecDepth 20000 in
theorem wrL_34 : ∀ w ∈ wsL_law_r34, w ∈ lw_tbl := in_by _ [1025, 1026, 1027, 1028, 1029, 1030, 1031, 1032, 1034, 55, 1035, 659, 660, 661, 662, 1036, 1037, 1038, 1039, 663, 664, 665, 666, 1040] (by decide +kernel)
set_option maxRecDepth 20000 in
theorem wrL_35 : ∀ w ∈ wsL_law_r35, w ∈ lw_tbl := in_by _ [1041, 1042, 1043, 667, 668, 669, 670, 123, 1044, 1045, 1046, 1047] (by decide +kernel)
set_option maxRecDepth 20000 in
theorem wrX_0 : ∀ w ∈ wsX00, w ∈ lw_tbl := in_by _ [163, 165, 167, 169, 171, 173, 175, 177, 179] (by decide +kernel)
set_option maxRecDepth 20000 in
theorem wrX_1 : ∀ w ∈ wsX10, w ∈ lw_tbl := in_by _ [126, 128, 130, 132, 134, 136, 138, 140] (by decide +kernel)
set_option maxRecDepth 20000 in
theorem wrX_2 : ∀ w ∈ wsX20, w ∈ lw_tbl := in_by _ [198, 200, 202] (by decide +kernel)
set_option maxRecDepth 20000 in
theorem wrX_3 : ∀ w ∈ wsX30, w ∈ lw_tbl := in_by _ [219, 221, 223, 225] (by decide +kernel)
set_option maxRecDepth 20000 in
theorem wrX_4 : ∀ w ∈ wsX40, w ∈ lw_tbl := in_by _ [89, 91, 93] (by decide +kernel)
set_option maxRecDepth 20000 in
theorem wrX_5 : ∀ w ∈ wsX50, w ∈ lw_tbl := in_by _ [344, 346, 348, 350, 352, 354, 356, 358] (by decide +kernel)
set_option maxRecDepth 20000 in
theorem wrX_6 : ∀ w ∈ wsX60, w ∈ lw_tbl := in_by _ [718, 720, 722, 724, 726, 728, 730, 732, 734, 736, 738, 740, 742, 744, 746, 748, 750, 752, 754, 756, 758, 760, 762, 764, 766, 768, 770, 772, 774, 776, 778, 780, 782, 784, 786, 788, 790] (by decide +kernel)
theorem wsL_law_in : ∀ w ∈ wsL_law, w ∈ lw_tbl := by
  unfold wsL_law
  exact List.forall_mem_append.mpr ⟨List.forall_mem_append.mpr ⟨List.forall_mem_append.mpr ⟨List.forall_mem_append.mpr ⟨List.forall_mem_append.mpr ⟨List.forall_mem_append.mpr ⟨List.forall_mem_append.mpr ⟨List.forall_mem_append.mpr ⟨List.forall_mem_append.mpr ⟨wrL_1, List.forall_mem_append.mpr ⟨wrL_2, List.forall_mem_append.mpr ⟨wrL_3, List.forall_mem_append.mpr ⟨wrL_4, List.forall_mem_append.mpr ⟨wrL_5, List.forall_mem_append.mpr ⟨wrL_6, List.forall_mem_append.mpr ⟨wrL_7, List.forall_mem_append.mpr ⟨wrL_8, List.forall_mem_append.mpr ⟨wrL_9, List.forall_mem_append.mpr ⟨wrL_10, List.forall_mem_append.mpr ⟨wrL_11, List.forall_mem_append.mpr ⟨wrL_12, List.forall_mem_append.mpr ⟨wrL_13, List.forall_mem_append.mpr ⟨wrL_14, List.forall_mem_append.mpr ⟨wrL_15, List.forall_mem_append.mpr ⟨wrL_16, List.forall_mem_append.mpr ⟨wrL_17, List.forall_mem_append.mpr ⟨wrL_18, List.forall_mem_append.mpr ⟨wrL_19, List.forall_mem_append.mpr ⟨wrL_20, List.forall_mem_append.mpr ⟨wrL_21, List.forall_mem_append.mpr ⟨wrL_22, List.forall_mem_append.mpr ⟨wrL_23, List.forall_mem_append.mpr ⟨wrL_24, List.forall_mem_append.mpr ⟨wrL_25, List.forall_mem_append.mpr ⟨wrL_26, List.forall_mem_append.mpr ⟨wrL_27, List.forall_mem_append.mpr ⟨wrL_28, List.forall_mem_append.mpr ⟨wrL_29, List.forall_mem_append.mpr ⟨wrL_30, List.forall_mem_append.mpr ⟨wrL_31, List.forall_mem_append.mpr ⟨wrL_32, List.forall_mem_append.mpr ⟨wrL_33, List.forall_mem_append.mpr ⟨wrL_34, wrL_35⟩⟩⟩⟩⟩⟩⟩⟩⟩⟩⟩⟩⟩⟩⟩⟩⟩⟩⟩⟩⟩⟩⟩⟩⟩⟩⟩⟩⟩⟩⟩⟩⟩⟩, wrX_5⟩, wrX_6⟩, wrX_4⟩, wrX_1⟩, wrX_0⟩, wrX_2⟩, wrX_3⟩, fun _ h => absurd h List.not_mem_nil⟩
theorem inlX0 : ∀ w ∈ wsX00, w ∈ wsL_law := fun _ h => List.mem_append_left _ (List.mem_append_left _ (List.mem_append_left _ (List.mem_append_right _ h)))
theorem inlX1 : ∀ w ∈ wsX10, w ∈ wsL_law := fun _ h => List.mem_append_left _ (List.mem_append_left _ (List.mem_append_left _ (List.mem_append_left _ (List.mem_append_right _ h))))
theorem inlX2 : ∀ w ∈ wsX20, w ∈ wsL_law := fun _ h => List.mem_append_left _ (List.mem_append_left _ (List.mem_append_right _ h))
theorem inlX3 : ∀ w ∈ wsX30, w ∈ wsL_law := fun _ h => List.mem_append_left _ (List.mem_append_right _ h)
theorem inlX4 : ∀ w ∈ wsX40, w ∈ wsL_law := fun _ h => List.mem_append_left _ (List.mem_append_left _ (List.mem_append_left _ (List.mem_append_left _ (List.mem_append_left _ (List.mem_append_right _ h)))))
theorem inlX5 : ∀ w ∈ wsX50, w ∈ wsL_law := fun _ h => List.mem_append_left _ (List.mem_append_left _ (List.mem_append_left _ (List.mem_append_left _ (List.mem_append_left _ (List.mem_append_left _ (List.mem_append_left _ (List.mem_append_right _ h)))))))
theorem inlX6 : ∀ w ∈ wsX60, w ∈ wsL_law := fun _ h => List.mem_append_left _ (List.mem_append_left _ (List.mem_append_left _ (List.mem_append_left _ (List.mem_append_left _ (List.mem_append_left _ (List.mem_append_right _ h))))))
