/-! the law's words in the tables, by their places -/
theorem in_pl {big : List Cond} (ws : List Cond) (ps : List Nat) (hp : ws = ps.filterMap (fun i => big[i]?)) : ∀ w ∈ ws, w ∈ big := by
  intro w hw
  rw [hp] at hw
  obtain ⟨i, -, hi⟩ := List.mem_filterMap.mp hw
  exact List.mem_of_getElem? hi
set_option maxRecDepth 20000 in
theorem wsL_law_r1_pl : ∀ w ∈ wsL_law_r1, w ∈ lw_tbl := in_pl wsL_law_r1 [70, 71, 56, 713, 714, 65, 72, 73, 74, 75, 76, 77, 78, 79, 57, 269, 94, 95, 58, 270, 140, 101, 59, 271] (by decide +kernel)
set_option maxRecDepth 20000 in
theorem wsL_law_r2_pl : ∀ w ∈ wsL_law_r2, w ∈ lw_tbl := in_pl wsL_law_r2 [272, 142, 143, 60, 273, 274, 159, 160, 61, 275, 180, 181, 62, 276, 239, 240, 64, 277, 81, 82, 83, 93, 84, 97] (by decide +kernel)
set_option maxRecDepth 20000 in
theorem wsL_law_r3_pl : ∀ w ∈ wsL_law_r3, w ∈ lw_tbl := in_pl wsL_law_r3 [98, 99, 100, 129, 103, 104, 105, 114, 117, 145, 146, 147, 150, 151, 161, 162, 163, 164, 176, 165, 166, 167, 168, 169] (by decide +kernel)
set_option maxRecDepth 20000 in
theorem wsL_law_r4_pl : ∀ w ∈ wsL_law_r4, w ∈ lw_tbl := in_pl wsL_law_r4 [170, 171, 172, 173, 174, 182, 183, 184, 185, 186, 187, 63, 203, 204, 205, 206, 200, 207, 208, 209, 212, 202, 189, 190] (by decide +kernel)
set_option maxRecDepth 20000 in
theorem wsL_law_r5_pl : ∀ w ∈ wsL_law_r5, w ∈ lw_tbl := in_pl wsL_law_r5 [191, 241, 242, 243, 244, 245, 248, 247, 715, 716, 717, 718, 740, 741, 742, 743, 744, 745, 746, 747, 748, 719, 749, 750] (by decide +kernel)
set_option maxRecDepth 20000 in
theorem wsL_law_r6_pl : ∀ w ∈ wsL_law_r6, w ∈ lw_tbl := in_pl wsL_law_r6 [754, 755, 759, 760, 762, 763, 764, 765, 769, 770, 773, 780, 781, 782, 776, 720, 722, 15, 723, 724, 726, 16, 727, 728] (by decide +kernel)
set_option maxRecDepth 20000 in
theorem wsL_law_r7_pl : ∀ w ∈ wsL_law_r7, w ∈ lw_tbl := in_pl wsL_law_r7 [730, 17, 731, 732, 734, 18, 735, 736, 738, 19, 739, 303, 304, 305, 306, 307, 308, 309, 310, 86, 882, 883, 884, 885] (by decide +kernel)
set_option maxRecDepth 20000 in
theorem wsL_law_r8_pl : ∀ w ∈ wsL_law_r8, w ∈ lw_tbl := in_pl wsL_law_r8 [886, 751, 878, 879, 880, 311, 312, 313, 314, 315, 316, 317, 318, 887, 888, 889, 890, 319, 320, 321, 322, 323, 324, 325] (by decide +kernel)
set_option maxRecDepth 20000 in
theorem wsL_law_r9_pl : ∀ w ∈ wsL_law_r9, w ∈ lw_tbl := in_pl wsL_law_r9 [326, 327, 328, 329, 330, 131, 132, 331, 332, 333, 334, 106, 110, 335, 336, 337, 338, 339, 341, 0, 342, 344, 345, 346] (by decide +kernel)
set_option maxRecDepth 20000 in
theorem wsL_law_r10_pl : ∀ w ∈ wsL_law_r10, w ∈ lw_tbl := in_pl wsL_law_r10 [348, 1, 349, 350, 351, 352, 353, 354, 355, 356, 357, 359, 2, 360, 361, 362, 363, 364, 365, 366, 66, 367, 368, 369] (by decide +kernel)
set_option maxRecDepth 20000 in
theorem wsL_law_r11_pl : ∀ w ∈ wsL_law_r11, w ∈ lw_tbl := in_pl wsL_law_r11 [370, 371, 372, 373, 374, 375, 377, 3, 378, 891, 892, 893, 894, 895, 897, 20, 898, 752, 753, 899, 901, 21, 902, 903] (by decide +kernel)
set_option maxRecDepth 20000 in
theorem wsL_law_r12_pl : ∀ w ∈ wsL_law_r12, w ∈ lw_tbl := in_pl wsL_law_r12 [904, 905, 907, 22, 908, 912, 913, 909, 910, 911, 379, 380, 381, 382, 278, 383, 384, 385, 386, 387, 388, 389, 390, 391] (by decide +kernel)
set_option maxRecDepth 20000 in
theorem wsL_law_r13_pl : ∀ w ∈ wsL_law_r13, w ∈ lw_tbl := in_pl wsL_law_r13 [393, 392, 67, 394, 395, 396, 397, 213, 398, 399, 400, 401, 148, 402, 914, 915, 916, 917, 757, 756, 772, 758, 761, 918] (by decide +kernel)
set_option maxRecDepth 20000 in
theorem wsL_law_r14_pl : ∀ w ∈ wsL_law_r14, w ∈ lw_tbl := in_pl wsL_law_r14 [919, 920, 403, 404, 405, 406, 407, 408, 409, 410, 411, 412, 413, 414, 415, 416, 417, 418, 419, 420, 421, 422, 423, 424] (by decide +kernel)
set_option maxRecDepth 20000 in
theorem wsL_law_r15_pl : ∀ w ∈ wsL_law_r15, w ∈ lw_tbl := in_pl wsL_law_r15 [425, 426, 427, 428, 429, 430, 431, 432, 433, 435, 434, 437, 438, 439, 441, 442, 68, 443, 440, 1043, 1044, 1045, 1046, 1002] (by decide +kernel)
set_option maxRecDepth 20000 in
theorem wsL_law_r16_pl : ∀ w ∈ wsL_law_r16, w ∈ lw_tbl := in_pl wsL_law_r16 [1004, 40, 1005, 1047, 1049, 46, 1050, 1051, 1053, 47, 1054, 933, 935, 25, 936, 766, 767, 768, 957, 993, 937, 939, 26, 940] (by decide +kernel)
set_option maxRecDepth 20000 in
theorem wsL_law_r17_pl : ∀ w ∈ wsL_law_r17, w ∈ lw_tbl := in_pl wsL_law_r17 [941, 943, 27, 944, 945, 947, 28, 948, 949, 951, 29, 952, 953, 955, 30, 956, 958, 960, 31, 961, 962, 964, 32, 965] (by decide +kernel)
set_option maxRecDepth 20000 in
theorem wsL_law_r18_pl : ∀ w ∈ wsL_law_r18, w ∈ lw_tbl := in_pl wsL_law_r18 [966, 968, 33, 969, 970, 971, 972, 973, 975, 34, 976, 977, 979, 35, 980, 981, 983, 36, 984, 985, 987, 37, 988, 989] (by decide +kernel)
set_option maxRecDepth 20000 in
theorem wsL_law_r19_pl : ∀ w ∈ wsL_law_r19, w ∈ lw_tbl := in_pl wsL_law_r19 [991, 38, 992, 994, 996, 39, 997, 1010, 1012, 42, 1013, 1055, 1057, 48, 1058, 1059, 1060, 1061, 1062, 1064, 49, 1065, 1066, 1067] (by decide +kernel)
set_option maxRecDepth 20000 in
theorem wsL_law_r20_pl : ∀ w ∈ wsL_law_r20, w ∈ lw_tbl := in_pl wsL_law_r20 [1068, 444, 445, 446, 447, 448, 449, 450, 451, 452, 453, 1069, 1070, 1071, 1072, 1073, 454, 455, 456, 457, 458, 459, 460, 461] (by decide +kernel)
set_option maxRecDepth 20000 in
theorem wsL_law_r21_pl : ∀ w ∈ wsL_law_r21, w ∈ lw_tbl := in_pl wsL_law_r21 [462, 873, 874, 875, 876, 877, 881, 463, 464, 465, 466, 467, 468, 469, 470, 472, 1074, 1075, 1076, 1077, 925, 927, 23, 928] (by decide +kernel)
set_option maxRecDepth 20000 in
theorem wsL_law_r22_pl : ∀ w ∈ wsL_law_r22, w ∈ lw_tbl := in_pl wsL_law_r22 [473, 474, 475, 476, 477, 478, 479, 480, 481, 1078, 1079, 1080, 1081, 1082, 482, 483, 484, 485, 486, 487, 488, 489, 490, 1083] (by decide +kernel)
set_option maxRecDepth 20000 in
theorem wsL_law_r23_pl : ∀ w ∈ wsL_law_r23, w ∈ lw_tbl := in_pl wsL_law_r23 [1084, 1085, 1086, 491, 492, 493, 494, 495, 496, 497, 498, 499, 500, 501, 502, 211, 507, 503, 505, 4, 506, 508, 509, 69] (by decide +kernel)
set_option maxRecDepth 20000 in
theorem wsL_law_r24_pl : ∀ w ∈ wsL_law_r24, w ∈ lw_tbl := in_pl wsL_law_r24 [510, 511, 512, 513, 514, 516, 5, 517, 520, 521, 522, 523, 524, 525, 192, 194, 526, 527, 529, 6, 530, 531, 532, 534] (by decide +kernel)
set_option maxRecDepth 20000 in
theorem wsL_law_r25_pl : ∀ w ∈ wsL_law_r25, w ∈ lw_tbl := in_pl wsL_law_r25 [7, 535, 536, 537, 538, 539, 540, 541, 543, 544, 545, 546, 547, 548, 549, 550, 552, 8, 553, 554, 555, 556, 557, 558] (by decide +kernel)
set_option maxRecDepth 20000 in
theorem wsL_law_r26_pl : ∀ w ∈ wsL_law_r26, w ∈ lw_tbl := in_pl wsL_law_r26 [559, 1087, 1088, 1089, 1090, 929, 931, 24, 932, 560, 561, 562, 563, 1091, 1092, 1093, 1094, 564, 565, 566, 567, 568, 569, 570] (by decide +kernel)
set_option maxRecDepth 20000 in
theorem wsL_law_r27_pl : ∀ w ∈ wsL_law_r27, w ∈ lw_tbl := in_pl wsL_law_r27 [571, 572, 573, 574, 1095, 1096, 1097, 1098, 1026, 576, 577, 578, 579, 580, 581, 582, 583, 584, 585, 586, 587, 921, 922, 923] (by decide +kernel)
set_option maxRecDepth 20000 in
theorem wsL_law_r28_pl : ∀ w ∈ wsL_law_r28, w ∈ lw_tbl := in_pl wsL_law_r28 [924, 588, 589, 590, 591, 592, 593, 594, 595, 596, 598, 9, 599, 210, 600, 602, 10, 603, 604, 605, 606, 607, 609, 11] (by decide +kernel)
set_option maxRecDepth 20000 in
theorem wsL_law_r29_pl : ∀ w ∈ wsL_law_r29, w ∈ lw_tbl := in_pl wsL_law_r29 [610, 611, 613, 12, 614, 615, 616, 617, 618, 619, 620, 621, 622, 998, 999, 1000, 1001, 1006, 1008, 41, 1009, 623, 624, 625] (by decide +kernel)
set_option maxRecDepth 20000 in
theorem wsL_law_r30_pl : ∀ w ∈ wsL_law_r30, w ∈ lw_tbl := in_pl wsL_law_r30 [626, 627, 628, 629, 630, 1014, 1015, 1016, 1017, 1018, 1020, 43, 1021, 631, 632, 633, 634, 1022, 1023, 1024, 1025, 1027, 1029, 44] (by decide +kernel)
set_option maxRecDepth 20000 in
theorem wsL_law_r31_pl : ∀ w ∈ wsL_law_r31, w ∈ lw_tbl := in_pl wsL_law_r31 [1030, 635, 636, 637, 638, 279, 639, 1031, 1032, 1033, 1034, 771, 640, 641, 642, 643, 644, 645, 646, 647, 1035, 1036, 1037, 1038] (by decide +kernel)
set_option maxRecDepth 20000 in
theorem wsL_law_r32_pl : ∀ w ∈ wsL_law_r32, w ∈ lw_tbl := in_pl wsL_law_r32 [1039, 1041, 45, 1042, 648, 649, 650, 651, 652, 653, 654, 655, 1099, 1100, 1101, 1102, 1103, 656, 657, 658, 659, 1104, 1105, 1106] (by decide +kernel)
set_option maxRecDepth 20000 in
theorem wsL_law_r33_pl : ∀ w ∈ wsL_law_r33, w ∈ lw_tbl := in_pl wsL_law_r33 [1107, 660, 661, 662, 663, 664, 665, 666, 667, 249, 251, 252, 254, 668, 669, 671, 13, 672, 673, 674, 675, 676, 677, 679] (by decide +kernel)
set_option maxRecDepth 20000 in
theorem wsL_law_r34_pl : ∀ w ∈ wsL_law_r34, w ∈ lw_tbl := in_pl wsL_law_r34 [14, 680, 681, 682, 1108, 1109, 1110, 1111, 1112, 774, 775, 1113, 1115, 50, 1116, 1117, 1118, 1119, 1120, 1121, 1123, 51, 1124, 683] (by decide +kernel)
set_option maxRecDepth 20000 in
theorem wsL_law_r35_pl : ∀ w ∈ wsL_law_r35, w ∈ lw_tbl := in_pl wsL_law_r35 [684, 685, 686, 687, 688, 689, 690, 691, 1125, 1126, 1127, 1128, 777, 778, 779, 692, 693, 694, 695, 1129, 1130, 1131, 1132, 696] (by decide +kernel)
set_option maxRecDepth 20000 in
theorem wsL_law_r36_pl : ∀ w ∈ wsL_law_r36, w ∈ lw_tbl := in_pl wsL_law_r36 [697, 698, 699, 700, 701, 702, 703, 1133, 1134, 1135, 1136, 1137, 1139, 52, 1140, 1141, 1143, 53, 1144, 704, 705, 706, 707, 708] (by decide +kernel)
set_option maxRecDepth 20000 in
theorem wsL_law_r37_pl : ∀ w ∈ wsL_law_r37, w ∈ lw_tbl := in_pl wsL_law_r37 [709, 710, 711, 712, 1145, 1146, 1147, 1148, 1149, 783, 1150, 1152, 54, 1153, 1154] (by decide +kernel)
set_option maxRecDepth 20000 in
theorem wsX00_pl : ∀ w ∈ wsX00, w ∈ lw_tbl := in_pl wsX00 [195, 197] (by decide +kernel)
set_option maxRecDepth 20000 in
theorem wsX10_pl : ∀ w ∈ wsX10, w ∈ lw_tbl := in_pl wsX10 [88, 90] (by decide +kernel)
set_option maxRecDepth 20000 in
theorem wsX20_pl : ∀ w ∈ wsX20, w ∈ lw_tbl := in_pl wsX20 [120, 122, 124, 126] (by decide +kernel)
set_option maxRecDepth 20000 in
theorem wsX30_pl : ∀ w ∈ wsX30, w ∈ lw_tbl := in_pl wsX30 [214, 216, 218, 220, 222, 224, 226, 228, 230, 232, 234, 236] (by decide +kernel)
set_option maxRecDepth 20000 in
theorem wsX40_pl : ∀ w ∈ wsX40, w ∈ lw_tbl := in_pl wsX40 [256, 258, 260, 262, 264, 266] (by decide +kernel)
set_option maxRecDepth 20000 in
theorem wsX50_pl : ∀ w ∈ wsX50, w ∈ lw_tbl := in_pl wsX50 [133, 135, 137] (by decide +kernel)
set_option maxRecDepth 20000 in
theorem wsX60_pl : ∀ w ∈ wsX60, w ∈ lw_tbl := in_pl wsX60 [152, 154, 156] (by decide +kernel)
set_option maxRecDepth 20000 in
theorem wsX70_pl : ∀ w ∈ wsX70, w ∈ lw_tbl := in_pl wsX70 [177] (by decide +kernel)
set_option maxRecDepth 20000 in
theorem wsX80_pl : ∀ w ∈ wsX80, w ∈ lw_tbl := in_pl wsX80 [280, 282, 284, 286, 288, 290, 292, 294, 296, 298, 300] (by decide +kernel)
set_option maxRecDepth 20000 in
theorem wsX90_pl : ∀ w ∈ wsX90, w ∈ lw_tbl := in_pl wsX90 [784, 786, 788, 790, 792, 794, 796, 798, 800, 802, 804, 806, 808, 810, 812, 814, 816, 818, 820, 822, 824, 826, 828, 830, 832, 834, 836, 838, 840, 842, 844, 846, 848, 850, 852, 854, 856, 858, 860, 862, 864, 866, 868, 870] (by decide +kernel)
theorem wsL_law_in : ∀ w ∈ wsL_law, w ∈ lw_tbl := by
  unfold wsL_law
  exact List.forall_mem_append.mpr ⟨List.forall_mem_append.mpr ⟨List.forall_mem_append.mpr ⟨List.forall_mem_append.mpr ⟨List.forall_mem_append.mpr ⟨List.forall_mem_append.mpr ⟨List.forall_mem_append.mpr ⟨List.forall_mem_append.mpr ⟨List.forall_mem_append.mpr ⟨List.forall_mem_append.mpr ⟨List.forall_mem_append.mpr ⟨List.forall_mem_append.mpr ⟨wsL_law_r1_pl, List.forall_mem_append.mpr ⟨wsL_law_r2_pl, List.forall_mem_append.mpr ⟨wsL_law_r3_pl, List.forall_mem_append.mpr ⟨wsL_law_r4_pl, List.forall_mem_append.mpr ⟨wsL_law_r5_pl, List.forall_mem_append.mpr ⟨wsL_law_r6_pl, List.forall_mem_append.mpr ⟨wsL_law_r7_pl, List.forall_mem_append.mpr ⟨wsL_law_r8_pl, List.forall_mem_append.mpr ⟨wsL_law_r9_pl, List.forall_mem_append.mpr ⟨wsL_law_r10_pl, List.forall_mem_append.mpr ⟨wsL_law_r11_pl, List.forall_mem_append.mpr ⟨wsL_law_r12_pl, List.forall_mem_append.mpr ⟨wsL_law_r13_pl, List.forall_mem_append.mpr ⟨wsL_law_r14_pl, List.forall_mem_append.mpr ⟨wsL_law_r15_pl, List.forall_mem_append.mpr ⟨wsL_law_r16_pl, List.forall_mem_append.mpr ⟨wsL_law_r17_pl, List.forall_mem_append.mpr ⟨wsL_law_r18_pl, List.forall_mem_append.mpr ⟨wsL_law_r19_pl, List.forall_mem_append.mpr ⟨wsL_law_r20_pl, List.forall_mem_append.mpr ⟨wsL_law_r21_pl, List.forall_mem_append.mpr ⟨wsL_law_r22_pl, List.forall_mem_append.mpr ⟨wsL_law_r23_pl, List.forall_mem_append.mpr ⟨wsL_law_r24_pl, List.forall_mem_append.mpr ⟨wsL_law_r25_pl, List.forall_mem_append.mpr ⟨wsL_law_r26_pl, List.forall_mem_append.mpr ⟨wsL_law_r27_pl, List.forall_mem_append.mpr ⟨wsL_law_r28_pl, List.forall_mem_append.mpr ⟨wsL_law_r29_pl, List.forall_mem_append.mpr ⟨wsL_law_r30_pl, List.forall_mem_append.mpr ⟨wsL_law_r31_pl, List.forall_mem_append.mpr ⟨wsL_law_r32_pl, List.forall_mem_append.mpr ⟨wsL_law_r33_pl, List.forall_mem_append.mpr ⟨wsL_law_r34_pl, List.forall_mem_append.mpr ⟨wsL_law_r35_pl, List.forall_mem_append.mpr ⟨wsL_law_r36_pl, wsL_law_r37_pl⟩⟩⟩⟩⟩⟩⟩⟩⟩⟩⟩⟩⟩⟩⟩⟩⟩⟩⟩⟩⟩⟩⟩⟩⟩⟩⟩⟩⟩⟩⟩⟩⟩⟩⟩⟩, wsX80_pl⟩, wsX90_pl⟩, wsX10_pl⟩, wsX50_pl⟩, wsX20_pl⟩, wsX60_pl⟩, wsX70_pl⟩, wsX30_pl⟩, wsX40_pl⟩, wsX00_pl⟩, fun _ h => absurd h List.not_mem_nil⟩
set_option maxRecDepth 20000 in
theorem cNF_pl : ∀ w ∈ cNF.map (fun x => Cond.fieldLinkNest x.1 x.2.1 x.2.2.1 x.2.2.2.1 x.2.2.2.2 "HarpPedals"), w ∈ lw_tbl := in_pl _ [85, 87, 107, 108, 109, 111, 112, 113, 115, 116, 118, 119, 130, 149, 193, 250, 253, 255, 542] (by decide +kernel)
set_option maxRecDepth 20000 in
theorem cNM_pl : ∀ w ∈ cNM.map (fun x => Cond.methodLinkNest x.1 x.2.1 x.2.2 "HarpPedals"), w ∈ lw_tbl := in_pl _ [80, 96, 102, 141, 144, 188, 246, 343, 518, 519, 575] (by decide +kernel)
theorem pl_inst0 : Cond.instantiable RX0 2 ∈ lw_tbl := List.mem_of_getElem? (i := 187) (by decide +kernel)
theorem pl_inst1 : Cond.instantiable RX1 2 ∈ lw_tbl := List.mem_of_getElem? (i := 79) (by decide +kernel)
theorem pl_inst2 : Cond.instantiable RX2 4 ∈ lw_tbl := List.mem_of_getElem? (i := 101) (by decide +kernel)
theorem pl_inst3 : Cond.instantiable RX3 12 ∈ lw_tbl := List.mem_of_getElem? (i := 181) (by decide +kernel)
theorem pl_inst4 : Cond.instantiable RX4 6 ∈ lw_tbl := List.mem_of_getElem? (i := 240) (by decide +kernel)
theorem pl_inst5 : Cond.instantiable RX5 3 ∈ lw_tbl := List.mem_of_getElem? (i := 95) (by decide +kernel)
theorem pl_inst6 : Cond.instantiable RX6 3 ∈ lw_tbl := List.mem_of_getElem? (i := 143) (by decide +kernel)
theorem pl_inst7 : Cond.instantiable RX7 1 ∈ lw_tbl := List.mem_of_getElem? (i := 160) (by decide +kernel)
theorem pl_inst8 : Cond.instantiable RX8 11 ∈ lw_tbl := List.mem_of_getElem? (i := 71) (by decide +kernel)
theorem pl_inst9 : Cond.instantiable RX9 44 ∈ lw_tbl := List.mem_of_getElem? (i := 714) (by decide +kernel)
theorem pl_arr : Cond.arrayClass .int ∈ lw_tbl := List.mem_of_getElem? (i := 93) (by decide +kernel)
theorem pl_over : Cond.arrayOver (.array .int) ∈ lw_tbl := List.mem_of_getElem? (i := 201) (by decide +kernel)
theorem pl_st0 : Cond.laysStatic "HarpPedals$Settings" "NATURAL_TONES" "[I" ∈ lw_tbl := List.mem_of_getElem? (i := 175) (by decide +kernel)
theorem pl_in0 : Cond.initialized "HarpPedals$Settings" ∈ lw_tbl := List.mem_of_getElem? (i := 61) (by decide +kernel)
theorem pl_st1 : Cond.laysStatic "HarpPedals$Settings" "WEIGHTS" "[I" ∈ lw_tbl := List.mem_of_getElem? (i := 471) (by decide +kernel)
theorem pl_in1 : Cond.initialized "HarpPedals$Settings" ∈ lw_tbl := List.mem_of_getElem? (i := 61) (by decide +kernel)
theorem pl_st2 : Cond.laysStatic "HarpPedals$Seen" "KINDS_THAT_COULD" "[I" ∈ lw_tbl := List.mem_of_getElem? (i := 436) (by decide +kernel)
theorem pl_in2 : Cond.initialized "HarpPedals$Seen" ∈ lw_tbl := List.mem_of_getElem? (i := 60) (by decide +kernel)
