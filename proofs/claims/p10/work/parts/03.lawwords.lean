theorem tb_in {ws : List Cond} (ps : List Nat) (h : ws = ps.filterMap (fun i => lw_tbl[i]?)) : ∀ w ∈ ws, w ∈ lw_tbl := by
  intro w hw
  rw [h] at hw
  obtain ⟨i, -, hi⟩ := List.mem_filterMap.mp hw
  exact List.mem_of_getElem? hi
theorem tb_app {a b : List Cond} (ha : ∀ w ∈ a, w ∈ lw_tbl) (hb : ∀ w ∈ b, w ∈ lw_tbl) : ∀ w ∈ a ++ b, w ∈ lw_tbl := fun w h => (List.mem_append.mp h).elim (ha w) (hb w)
set_option maxRecDepth 20000 in
theorem wlr1 : ∀ w ∈ wsL_law_r1, w ∈ lw_tbl := tb_in [72, 73, 50, 797, 798, 58, 74, 75, 76, 77, 78, 79, 80, 81, 51, 166, 129, 167, 97, 98, 52, 168, 82, 83] (by decide +kernel)
set_option maxRecDepth 20000 in
theorem wlr2 : ∀ w ∈ wsL_law_r2, w ∈ lw_tbl := tb_in [84, 85, 86, 96, 87, 88, 99, 100, 101, 102, 103, 104, 55, 149, 130, 131, 56, 153, 105, 106, 107, 115, 117, 108] (by decide +kernel)
set_option maxRecDepth 20000 in
theorem wlr3 : ∀ w ∈ wsL_law_r3, w ∈ lw_tbl := tb_in [109, 54, 110, 119, 111, 112, 53, 113, 114, 132, 133, 134, 135, 141, 136, 137, 57, 138, 139, 799, 800, 801, 802, 805] (by decide +kernel)
set_option maxRecDepth 20000 in
theorem wlr4 : ∀ w ∈ wsL_law_r4, w ∈ lw_tbl := tb_in [425, 807, 808, 813, 814, 815, 819, 820, 821, 822, 902, 823, 824, 826, 827, 828, 803, 830, 804, 831, 832, 834, 835, 176] (by decide +kernel)
set_option maxRecDepth 20000 in
theorem wlr5 : ∀ w ∈ wsL_law_r5, w ∈ lw_tbl := tb_in [177, 178, 179, 180, 181, 182, 183, 184, 185, 59, 186, 187, 188, 189, 190, 191, 193, 194, 195, 196, 197, 199, 198, 60] (by decide +kernel)
set_option maxRecDepth 20000 in
theorem wlr6 : ∀ w ∈ wsL_law_r6, w ∈ lw_tbl := tb_in [903, 904, 905, 906, 806, 200, 201, 202, 203, 204, 205, 61, 331, 332, 66, 206, 207, 208, 209, 210, 211, 212, 213, 214] (by decide +kernel)
set_option maxRecDepth 20000 in
theorem wlr7 : ∀ w ∈ wsL_law_r7, w ∈ lw_tbl := tb_in [215, 231, 216, 232, 233, 234, 235, 236, 237, 238, 239, 240, 241, 242, 243, 244, 245, 246, 247, 249, 0, 250, 219, 251] (by decide +kernel)
set_option maxRecDepth 20000 in
theorem wlr8 : ∀ w ∈ wsL_law_r8, w ∈ lw_tbl := tb_in [252, 253, 255, 256, 257, 258, 259, 260, 62, 261, 1083, 262, 263, 264, 265, 266, 1084, 268, 269, 270, 271, 272, 273, 274] (by decide +kernel)
set_option maxRecDepth 20000 in
theorem wlr9 : ∀ w ∈ wsL_law_r9, w ∈ lw_tbl := tb_in [275, 276, 277, 63, 278, 279, 280, 281, 282, 284, 285, 64, 286, 287, 288, 65, 289, 290, 291, 292, 293, 294, 295, 296] (by decide +kernel)
set_option maxRecDepth 20000 in
theorem wlr10 : ∀ w ∈ wsL_law_r10, w ∈ lw_tbl := tb_in [297, 298, 299, 300, 302, 304, 312, 314, 1, 315, 316, 317, 318, 319, 321, 2, 322, 217, 323, 324, 325, 326, 327, 328] (by decide +kernel)
set_option maxRecDepth 20000 in
theorem wlr11 : ∀ w ∈ wsL_law_r11, w ∈ lw_tbl := tb_in [329, 330, 333, 334, 335, 336, 337, 338, 339, 347, 348, 349, 350, 351, 352, 353, 354, 218, 355, 357, 3, 358, 359, 360] (by decide +kernel)
set_option maxRecDepth 20000 in
theorem wlr12 : ∀ w ∈ wsL_law_r12, w ∈ lw_tbl := tb_in [67, 362, 363, 364, 365, 426, 428, 4, 429, 430, 431, 432, 433, 434, 436, 5, 437, 438, 439, 440, 441, 442, 443, 444] (by decide +kernel)
set_option maxRecDepth 20000 in
theorem wlr13 : ∀ w ∈ wsL_law_r13, w ∈ lw_tbl := tb_in [445, 367, 371, 446, 447, 448, 449, 450, 451, 452, 453, 140, 454, 456, 6, 457, 458, 460, 7, 474, 475, 476, 477, 461] (by decide +kernel)
set_option maxRecDepth 20000 in
theorem wlr14 : ∀ w ∈ wsL_law_r14, w ∈ lw_tbl := tb_in [462, 464, 8, 469, 465, 466, 468, 9, 470, 472, 10, 473, 478, 480, 11, 481, 482, 483, 484, 485, 120, 121, 118, 486] (by decide +kernel)
set_option maxRecDepth 20000 in
theorem wlr15 : ∀ w ∈ wsL_law_r15, w ∈ lw_tbl := tb_in [488, 12, 489, 490, 492, 13, 493, 494, 496, 14, 497, 530, 531, 498, 499, 68, 500, 501, 502, 503, 504, 505, 506, 507] (by decide +kernel)
set_option maxRecDepth 20000 in
theorem wlr16 : ∀ w ∈ wsL_law_r16, w ∈ lw_tbl := tb_in [508, 509, 1070, 510, 523, 524, 525, 526, 527, 529, 532, 533, 534, 535, 536, 537, 538, 539, 540, 541, 542, 543, 907, 908] (by decide +kernel)
set_option maxRecDepth 20000 in
theorem wlr17 : ∀ w ∈ wsL_law_r17, w ∈ lw_tbl := tb_in [909, 910, 810, 816, 818, 809, 817, 825, 833, 911, 913, 26, 914, 915, 916, 917, 918, 920, 27, 921, 922, 924, 28, 925] (by decide +kernel)
set_option maxRecDepth 20000 in
theorem wlr18 : ∀ w ∈ wsL_law_r18, w ∈ lw_tbl := tb_in [926, 928, 29, 929, 930, 932, 30, 933, 811, 812, 934, 936, 31, 937, 938, 940, 32, 941, 942, 944, 33, 945, 946, 948] (by decide +kernel)
set_option maxRecDepth 20000 in
theorem wlr19 : ∀ w ∈ wsL_law_r19, w ∈ lw_tbl := tb_in [34, 958, 960, 37, 961, 949, 950, 952, 35, 953, 954, 956, 36, 957, 962, 964, 38, 965, 544, 545, 546, 547, 548, 966] (by decide +kernel)
set_option maxRecDepth 20000 in
theorem wlr20 : ∀ w ∈ wsL_law_r20, w ∈ lw_tbl := tb_in [967, 968, 969, 829, 549, 550, 551, 552, 553, 554, 555, 556, 557, 570, 558, 559, 560, 561, 562, 563, 69, 564, 565, 566] (by decide +kernel)
set_option maxRecDepth 20000 in
theorem wlr21 : ∀ w ∈ wsL_law_r21, w ∈ lw_tbl := tb_in [567, 568, 569, 571, 572, 573, 574, 575, 576, 577, 578, 579, 580, 581, 582, 590, 583, 584, 585, 586, 587, 588, 589, 591] (by decide +kernel)
set_option maxRecDepth 20000 in
theorem wlr22 : ∀ w ∈ wsL_law_r22, w ∈ lw_tbl := tb_in [592, 593, 594, 595, 596, 597, 393, 598, 599, 389, 600, 387, 391, 601, 603, 15, 604, 382, 970, 971, 972, 973, 974, 983] (by decide +kernel)
set_option maxRecDepth 20000 in
theorem wlr23 : ∀ w ∈ wsL_law_r23, w ∈ lw_tbl := tb_in [975, 977, 39, 978, 979, 981, 40, 982, 605, 606, 607, 608, 609, 610, 611, 612, 613, 614, 615, 616, 617, 984, 985, 986] (by decide +kernel)
set_option maxRecDepth 20000 in
theorem wlr24 : ∀ w ∈ wsL_law_r24, w ∈ lw_tbl := tb_in [987, 988, 990, 41, 991, 618, 619, 620, 621, 622, 623, 624, 625, 626, 627, 628, 992, 993, 994, 995, 996, 998, 42, 999] (by decide +kernel)
set_option maxRecDepth 20000 in
theorem wlr25 : ∀ w ∈ wsL_law_r25, w ∈ lw_tbl := tb_in [629, 630, 631, 632, 633, 634, 635, 636, 637, 639, 16, 640, 1000, 1001, 1002, 1003, 641, 642, 643, 644, 645, 1004, 1005, 1006] (by decide +kernel)
set_option maxRecDepth 20000 in
theorem wlr26 : ∀ w ∈ wsL_law_r26, w ∈ lw_tbl := tb_in [1007, 646, 647, 648, 649, 650, 651, 652, 653, 156, 654, 655, 70, 656, 657, 658, 659, 661, 663, 664, 660, 676, 677, 678] (by decide +kernel)
set_option maxRecDepth 20000 in
theorem wlr27 : ∀ w ∈ wsL_law_r27, w ∈ lw_tbl := tb_in [679, 662, 689, 680, 682, 17, 683, 684, 685, 686, 690, 691, 693, 18, 694, 695, 697, 19, 698, 703, 699, 700, 701, 702] (by decide +kernel)
set_option maxRecDepth 20000 in
theorem wlr28 : ∀ w ∈ wsL_law_r28, w ∈ lw_tbl := tb_in [704, 705, 707, 20, 708, 713, 709, 710, 711, 712, 1008, 1009, 1010, 1011, 1012, 1014, 43, 1015, 1030, 1020, 1016, 1018, 44, 1019] (by decide +kernel)
set_option maxRecDepth 20000 in
theorem wlr29 : ∀ w ∈ wsL_law_r29, w ∈ lw_tbl := tb_in [1021, 1022, 1023, 1024, 1025, 1026, 1027, 1028, 1029, 714, 715, 716, 717, 718, 719, 720, 1031, 1032, 1033, 1034, 721, 722, 723, 724] (by decide +kernel)
set_option maxRecDepth 20000 in
theorem wlr30 : ∀ w ∈ wsL_law_r30, w ∈ lw_tbl := tb_in [725, 726, 727, 728, 155, 729, 730, 71, 731, 732, 733, 734, 735, 738, 737, 736, 748, 749, 750, 751, 740, 753, 755, 21] (by decide +kernel)
set_option maxRecDepth 20000 in
theorem wlr31 : ∀ w ∈ wsL_law_r31, w ∈ lw_tbl := tb_in [756, 757, 758, 759, 761, 762, 764, 22, 765, 767, 769, 23, 770, 772, 774, 776, 24, 777, 778, 780, 25, 781, 782, 783] (by decide +kernel)
set_option maxRecDepth 20000 in
theorem wlr32 : ∀ w ∈ wsL_law_r32, w ∈ lw_tbl := tb_in [784, 785, 792, 1035, 1036, 1037, 1038, 836, 1039, 1049, 1054, 1062, 1063, 1040, 1042, 45, 1043, 1044, 1045, 1047, 46, 1048, 1050, 1052] (by decide +kernel)
set_option maxRecDepth 20000 in
theorem wlr33 : ∀ w ∈ wsL_law_r33, w ∈ lw_tbl := tb_in [47, 1053, 1055, 1057, 48, 1058, 1059, 1060, 1061, 793, 794, 795, 796, 1064, 1065, 1066, 1067] (by decide +kernel)
set_option maxRecDepth 20000 in
theorem wlcX8 : ∀ w ∈ wsX80, w ∈ lw_tbl := tb_in [169, 171, 173] (by decide +kernel)
set_option maxRecDepth 20000 in
theorem wlcX9 : ∀ w ∈ wsX90, w ∈ lw_tbl := tb_in [837, 839, 841, 843, 845, 847, 849, 851, 853, 855, 857, 859, 861, 863, 865, 867, 869, 871, 873, 875, 877, 879, 881, 883, 885, 887, 889, 891, 893, 895, 897, 899] (by decide +kernel)
set_option maxRecDepth 20000 in
theorem wlcX0 : ∀ w ∈ wsX00, w ∈ lw_tbl := tb_in [89, 91, 93] (by decide +kernel)
set_option maxRecDepth 20000 in
theorem wlcX5 : ∀ w ∈ wsX50, w ∈ lw_tbl := tb_in [157, 159, 161, 163] (by decide +kernel)
set_option maxRecDepth 20000 in
theorem wlcJx4a65c : ∀ w ∈ wsJx4a65c0, w ∈ lw_tbl := tb_in [126, 122, 124] (by decide +kernel)
set_option maxRecDepth 20000 in
theorem wlcX1 : ∀ w ∈ wsX10, w ∈ lw_tbl := tb_in [142, 144, 146] (by decide +kernel)
set_option maxRecDepth 20000 in
theorem wlcX6 : ∀ w ∈ wsX60, w ∈ lw_tbl := tb_in [220, 222, 224, 226, 228] (by decide +kernel)
set_option maxRecDepth 20000 in
theorem wlcX2 : ∀ w ∈ wsX20, w ∈ lw_tbl := tb_in [340, 342, 344] (by decide +kernel)
set_option maxRecDepth 20000 in
theorem wlcX3 : ∀ w ∈ wsX30, w ∈ lw_tbl := tb_in [398, 400, 402, 404, 406, 408, 410, 412, 414, 416, 418, 420, 422] (by decide +kernel)
set_option maxRecDepth 20000 in
theorem wlcX4 : ∀ w ∈ wsX40, w ∈ lw_tbl := tb_in [665, 667, 669, 671, 673] (by decide +kernel)
set_option maxRecDepth 20000 in
theorem wlcX7 : ∀ w ∈ wsX70, w ∈ lw_tbl := tb_in [741, 743, 745] (by decide +kernel)
theorem wsL_law_in : ∀ w ∈ wsL_law, w ∈ lw_tbl := tb_app (tb_app (tb_app (tb_app (tb_app (tb_app (tb_app (tb_app (tb_app (tb_app (tb_app (tb_app (tb_app wlr1 (tb_app wlr2 (tb_app wlr3 (tb_app wlr4 (tb_app wlr5 (tb_app wlr6 (tb_app wlr7 (tb_app wlr8 (tb_app wlr9 (tb_app wlr10 (tb_app wlr11 (tb_app wlr12 (tb_app wlr13 (tb_app wlr14 (tb_app wlr15 (tb_app wlr16 (tb_app wlr17 (tb_app wlr18 (tb_app wlr19 (tb_app wlr20 (tb_app wlr21 (tb_app wlr22 (tb_app wlr23 (tb_app wlr24 (tb_app wlr25 (tb_app wlr26 (tb_app wlr27 (tb_app wlr28 (tb_app wlr29 (tb_app wlr30 (tb_app wlr31 (tb_app wlr32 (wlr33))))))))))))))))))))))))))))))))) wlcX8) wlcX9) wlcX0) wlcX5) wlcJx4a65c) wlcX1) wlcX6) wlcX2) wlcX3) wlcX4) wlcX7) (fun _ h => absurd h List.not_mem_nil)
theorem inlX0 : ∀ w ∈ wsX00, w ∈ wsL_law := fun _ h => List.mem_append_left _ (List.mem_append_left _ (List.mem_append_left _ (List.mem_append_left _ (List.mem_append_left _ (List.mem_append_left _ (List.mem_append_left _ (List.mem_append_left _ (List.mem_append_left _ (List.mem_append_right _ h)))))))))
theorem inX0 : ∀ w ∈ wsX00, w ∈ lw_tbl := fun w h => wsL_law_in w (inlX0 w h)
theorem inlX1 : ∀ w ∈ wsX10, w ∈ wsL_law := fun _ h => List.mem_append_left _ (List.mem_append_left _ (List.mem_append_left _ (List.mem_append_left _ (List.mem_append_left _ (List.mem_append_left _ (List.mem_append_right _ h))))))
theorem inX1 : ∀ w ∈ wsX10, w ∈ lw_tbl := fun w h => wsL_law_in w (inlX1 w h)
theorem inlX2 : ∀ w ∈ wsX20, w ∈ wsL_law := fun _ h => List.mem_append_left _ (List.mem_append_left _ (List.mem_append_left _ (List.mem_append_left _ (List.mem_append_right _ h))))
theorem inX2 : ∀ w ∈ wsX20, w ∈ lw_tbl := fun w h => wsL_law_in w (inlX2 w h)
theorem inlX3 : ∀ w ∈ wsX30, w ∈ wsL_law := fun _ h => List.mem_append_left _ (List.mem_append_left _ (List.mem_append_left _ (List.mem_append_right _ h)))
theorem inX3 : ∀ w ∈ wsX30, w ∈ lw_tbl := fun w h => wsL_law_in w (inlX3 w h)
theorem inlX4 : ∀ w ∈ wsX40, w ∈ wsL_law := fun _ h => List.mem_append_left _ (List.mem_append_left _ (List.mem_append_right _ h))
theorem inX4 : ∀ w ∈ wsX40, w ∈ lw_tbl := fun w h => wsL_law_in w (inlX4 w h)
theorem inlX5 : ∀ w ∈ wsX50, w ∈ wsL_law := fun _ h => List.mem_append_left _ (List.mem_append_left _ (List.mem_append_left _ (List.mem_append_left _ (List.mem_append_left _ (List.mem_append_left _ (List.mem_append_left _ (List.mem_append_left _ (List.mem_append_right _ h))))))))
theorem inX5 : ∀ w ∈ wsX50, w ∈ lw_tbl := fun w h => wsL_law_in w (inlX5 w h)
theorem inlX6 : ∀ w ∈ wsX60, w ∈ wsL_law := fun _ h => List.mem_append_left _ (List.mem_append_left _ (List.mem_append_left _ (List.mem_append_left _ (List.mem_append_left _ (List.mem_append_right _ h)))))
theorem inX6 : ∀ w ∈ wsX60, w ∈ lw_tbl := fun w h => wsL_law_in w (inlX6 w h)
theorem inlX7 : ∀ w ∈ wsX70, w ∈ wsL_law := fun _ h => List.mem_append_left _ (List.mem_append_right _ h)
theorem inX7 : ∀ w ∈ wsX70, w ∈ lw_tbl := fun w h => wsL_law_in w (inlX7 w h)
theorem inlX8 : ∀ w ∈ wsX80, w ∈ wsL_law := fun _ h => List.mem_append_left _ (List.mem_append_left _ (List.mem_append_left _ (List.mem_append_left _ (List.mem_append_left _ (List.mem_append_left _ (List.mem_append_left _ (List.mem_append_left _ (List.mem_append_left _ (List.mem_append_left _ (List.mem_append_left _ (List.mem_append_right _ h)))))))))))
theorem inX8 : ∀ w ∈ wsX80, w ∈ lw_tbl := fun w h => wsL_law_in w (inlX8 w h)
theorem inlX9 : ∀ w ∈ wsX90, w ∈ wsL_law := fun _ h => List.mem_append_left _ (List.mem_append_left _ (List.mem_append_left _ (List.mem_append_left _ (List.mem_append_left _ (List.mem_append_left _ (List.mem_append_left _ (List.mem_append_left _ (List.mem_append_left _ (List.mem_append_left _ (List.mem_append_right _ h))))))))))
theorem inX9 : ∀ w ∈ wsX90, w ∈ lw_tbl := fun w h => wsL_law_in w (inlX9 w h)
theorem inJx145de : ∀ w ∈ wsJx145de0, w ∈ lw_tbl := by decide +kernel
theorem inJx8e188 : ∀ w ∈ wsJx8e1880, w ∈ lw_tbl := by decide +kernel
theorem inJxab1ab : ∀ w ∈ wsJxab1ab0, w ∈ lw_tbl := by decide +kernel
theorem inJ9 : ∀ w ∈ wsJ90, w ∈ lw_tbl := by decide +kernel
theorem inJ0 : ∀ w ∈ wsJ00, w ∈ lw_tbl := by decide +kernel
theorem inJ1 : ∀ w ∈ wsJ10, w ∈ lw_tbl := by decide +kernel
theorem inJ2 : ∀ w ∈ wsJ20, w ∈ lw_tbl := by decide +kernel
theorem inJ10 : ∀ w ∈ wsJ100, w ∈ lw_tbl := by decide +kernel
theorem inJxa1e45 : ∀ w ∈ wsJxa1e450, w ∈ lw_tbl := by decide +kernel
theorem inJxc12de : ∀ w ∈ wsJxc12de0, w ∈ lw_tbl := by decide +kernel
theorem inlJx4a65c : ∀ w ∈ wsJx4a65c0, w ∈ wsL_law := fun _ h => List.mem_append_left _ (List.mem_append_left _ (List.mem_append_left _ (List.mem_append_left _ (List.mem_append_left _ (List.mem_append_left _ (List.mem_append_left _ (List.mem_append_right _ h)))))))
theorem inJx4a65c : ∀ w ∈ wsJx4a65c0, w ∈ lw_tbl := fun w h => wsL_law_in w (inlJx4a65c w h)
theorem inJ7 : ∀ w ∈ wsJ70, w ∈ lw_tbl := by decide +kernel
theorem inJx5ef63 : ∀ w ∈ wsJx5ef630, w ∈ lw_tbl := by decide +kernel
theorem inJxbd725 : ∀ w ∈ wsJxbd7250, w ∈ lw_tbl := by decide +kernel
theorem inJ15 : ∀ w ∈ wsJ150, w ∈ lw_tbl := by decide +kernel
theorem inJxf0a74 : ∀ w ∈ wsJxf0a740, w ∈ lw_tbl := by decide +kernel
theorem inJxa66e6 : ∀ w ∈ wsJxa66e60, w ∈ lw_tbl := by decide +kernel
theorem inJ8 : ∀ w ∈ wsJ80, w ∈ lw_tbl := by decide +kernel
theorem inJ3 : ∀ w ∈ wsJ30, w ∈ lw_tbl := by decide +kernel
