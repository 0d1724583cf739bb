set_option maxRecDepth 100000 in
theorem wl_wsL_law_r1 : GoodIn lw_tbl wsL_law_r1 := goodIn_r _ [73, 74, 56, 876, 877, 64, 75, 76, 77, 78, 79, 80, 81, 82, 57, 370, 150, 151, 58, 371, 187, 188, 59, 372] (by decide +kernel) (by decide +kernel)
set_option maxRecDepth 100000 in
theorem wl_wsL_law_r2 : GoodIn lw_tbl wsL_law_r2 := goodIn_r _ [251, 252, 60, 373, 277, 278, 61, 374, 320, 321, 62, 375, 347, 348, 63, 376, 377, 149, 378, 148, 379, 83, 84, 85] (by decide +kernel) (by decide +kernel)
set_option maxRecDepth 100000 in
theorem wl_wsL_law_r3 : GoodIn lw_tbl wsL_law_r3 := goodIn_r _ [86, 87, 93, 95, 98, 106, 109, 112, 117, 120, 153, 154, 155, 156, 160, 164, 189, 190, 191, 192, 195, 197, 201, 203] (by decide +kernel) (by decide +kernel)
set_option maxRecDepth 100000 in
theorem wl_wsL_law_r4 : GoodIn lw_tbl wsL_law_r4 := goodIn_r _ [193, 194, 253, 254, 255, 256, 258, 261, 262, 263, 257, 279, 280, 281, 282, 286, 287, 288, 289, 290, 283, 284, 285, 322] (by decide +kernel) (by decide +kernel)
set_option maxRecDepth 100000 in
theorem wl_wsL_law_r5 : GoodIn lw_tbl wsL_law_r5 := goodIn_r _ [323, 324, 325, 329, 326, 327, 328, 349, 350, 351, 352, 353, 878, 879, 880, 881, 889, 890, 892, 893, 894, 895, 896, 898] (by decide +kernel) (by decide +kernel)
set_option maxRecDepth 100000 in
theorem wl_wsL_law_r6 : GoodIn lw_tbl wsL_law_r6 := goodIn_r _ [900, 901, 902, 912, 913, 914, 915, 923, 925, 926, 929, 930, 931, 932, 882, 401, 402, 403, 404, 408, 91, 405, 406, 407] (by decide +kernel) (by decide +kernel)
set_option maxRecDepth 100000 in
theorem wl_wsL_law_r7 : GoodIn lw_tbl wsL_law_r7 := goodIn_r _ [1042, 1043, 1044, 1045, 1046, 883, 884, 885, 886, 887, 888, 1047, 1048, 1049, 1050, 1051, 1052, 1053, 1055, 25, 1056, 410, 411, 412] (by decide +kernel) (by decide +kernel)
set_option maxRecDepth 100000 in
theorem wl_wsL_law_r8 : GoodIn lw_tbl wsL_law_r8 := goodIn_r _ [413, 94, 96, 414, 415, 416, 1057, 1058, 1059, 1060, 1061, 1062, 1063, 1064, 417, 418, 419, 420, 105, 107, 111, 113, 421, 422] (by decide +kernel) (by decide +kernel)
set_option maxRecDepth 100000 in
theorem wl_wsL_law_r9 : GoodIn lw_tbl wsL_law_r9 := goodIn_r _ [65, 423, 424, 425, 426, 1065, 1066, 1067, 1068, 1069, 1070, 1071, 891, 1072, 1073, 1074, 427, 428, 429, 430, 159, 157, 1075, 1076] (by decide +kernel) (by decide +kernel)
set_option maxRecDepth 100000 in
theorem wl_wsL_law_r10 : GoodIn lw_tbl wsL_law_r10 := goodIn_r _ [1077, 1078, 1079, 1080, 899, 431, 432, 433, 434, 1081, 1082, 1083, 1084, 435, 436, 437, 438, 173, 439, 440, 441, 442, 167, 172] (by decide +kernel) (by decide +kernel)
set_option maxRecDepth 100000 in
theorem wl_wsL_law_r11 : GoodIn lw_tbl wsL_law_r11 := goodIn_r _ [158, 444, 445, 446, 66, 447, 1331, 448, 449, 450, 451, 452, 1332, 455, 456, 457, 458, 459, 460, 461, 462, 463, 464, 465] (by decide +kernel) (by decide +kernel)
set_option maxRecDepth 100000 in
theorem wl_wsL_law_r12 : GoodIn lw_tbl wsL_law_r12 := goodIn_r _ [466, 467, 468, 469, 67, 470, 474, 475, 68, 476, 477, 478, 479, 471, 472, 473, 480, 481, 482, 483, 484, 69, 485, 486] (by decide +kernel) (by decide +kernel)
set_option maxRecDepth 100000 in
theorem wl_wsL_law_r13 : GoodIn lw_tbl wsL_law_r13 := goodIn_r _ [487, 488, 489, 490, 491, 492, 493, 494, 495, 496, 497, 498, 499, 500, 501, 503, 504, 70, 505, 506, 507, 508, 509, 510] (by decide +kernel) (by decide +kernel)
set_option maxRecDepth 100000 in
theorem wl_wsL_law_r14 : GoodIn lw_tbl wsL_law_r14 := goodIn_r _ [511, 512, 514, 516, 518, 519, 520, 521, 522, 71, 523, 524, 525, 526, 527, 528, 529, 530, 531, 1085, 1086, 1087, 1088, 903] (by decide +kernel) (by decide +kernel)
set_option maxRecDepth 100000 in
theorem wl_wsL_law_r15 : GoodIn lw_tbl wsL_law_r15 := goodIn_r _ [1092, 1093, 1089, 1090, 1091, 1094, 1095, 1096, 533, 534, 535, 536, 206, 208, 219, 221, 537, 539, 0, 540, 541, 542, 543, 544] (by decide +kernel) (by decide +kernel)
set_option maxRecDepth 100000 in
theorem wl_wsL_law_r16 : GoodIn lw_tbl wsL_law_r16 := goodIn_r _ [205, 207, 90, 209, 212, 99, 214, 101, 216, 218, 220, 169, 545, 547, 1, 548, 161, 165, 549, 550, 551, 552, 104, 554] (by decide +kernel) (by decide +kernel)
set_option maxRecDepth 100000 in
theorem wl_wsL_law_r17 : GoodIn lw_tbl wsL_law_r17 := goodIn_r _ [555, 556, 557, 558, 559, 560, 561, 562, 563, 564, 566, 2, 567, 568, 569, 570, 571, 572, 574, 3, 575, 576, 577, 578] (by decide +kernel) (by decide +kernel)
set_option maxRecDepth 100000 in
theorem wl_wsL_law_r18 : GoodIn lw_tbl wsL_law_r18 := goodIn_r _ [579, 580, 581, 582, 583, 584, 585, 586, 587, 588, 589, 590, 591, 97, 592, 594, 4, 595, 596, 1097, 1098, 1099, 1100, 1101] (by decide +kernel) (by decide +kernel)
set_option maxRecDepth 100000 in
theorem wl_wsL_law_r19 : GoodIn lw_tbl wsL_law_r19 := goodIn_r _ [908, 909, 910, 911, 1102, 1104, 26, 1105, 920, 921, 922, 1106, 1107, 1109, 27, 1110, 916, 917, 918, 919, 904, 905, 906, 907] (by decide +kernel) (by decide +kernel)
set_option maxRecDepth 100000 in
theorem wl_wsL_law_r20 : GoodIn lw_tbl wsL_law_r20 := goodIn_r _ [1111, 1113, 28, 1114, 1115, 1117, 29, 1118, 1119, 1121, 30, 1122, 1123, 1125, 31, 1126, 1127, 1129, 32, 1130, 1131, 1133, 33, 1134] (by decide +kernel) (by decide +kernel)
set_option maxRecDepth 100000 in
theorem wl_wsL_law_r21 : GoodIn lw_tbl wsL_law_r21 := goodIn_r _ [1135, 1137, 34, 1138, 1139, 1141, 35, 1142, 1143, 1145, 36, 1146, 1147, 1149, 37, 1150, 1151, 1153, 38, 1154, 1155, 1157, 39, 1158] (by decide +kernel) (by decide +kernel)
set_option maxRecDepth 100000 in
theorem wl_wsL_law_r22 : GoodIn lw_tbl wsL_law_r22 := goodIn_r _ [597, 598, 599, 600, 210, 213, 601, 1159, 1160, 1161, 1162, 1163, 602, 603, 604, 605, 171, 200, 202, 1164, 1165, 1166, 1167, 606] (by decide +kernel) (by decide +kernel)
set_option maxRecDepth 100000 in
theorem wl_wsL_law_r23 : GoodIn lw_tbl wsL_law_r23 := goodIn_r _ [607, 608, 609, 610, 611, 612, 613, 1168, 1169, 1170, 1171, 614, 615, 616, 617, 215, 100, 217, 103, 1172, 1173, 1174, 1175, 618] (by decide +kernel) (by decide +kernel)
set_option maxRecDepth 100000 in
theorem wl_wsL_law_r24 : GoodIn lw_tbl wsL_law_r24 := goodIn_r _ [619, 620, 621, 622, 623, 624, 1176, 1177, 1178, 1179, 1180, 625, 626, 627, 628, 629, 631, 5, 632, 633, 634, 635, 636, 637] (by decide +kernel) (by decide +kernel)
set_option maxRecDepth 100000 in
theorem wl_wsL_law_r25 : GoodIn lw_tbl wsL_law_r25 := goodIn_r _ [259, 638, 639, 640, 641, 642, 643, 644, 645, 646, 110, 647, 648, 649, 650, 651, 652, 653, 655, 6, 656, 108, 657, 1181] (by decide +kernel) (by decide +kernel)
set_option maxRecDepth 100000 in
theorem wl_wsL_law_r26 : GoodIn lw_tbl wsL_law_r26 := goodIn_r _ [1182, 1183, 1184, 1185, 1186, 1187, 1188, 1189, 1191, 40, 1192, 924, 658, 659, 660, 661, 662, 664, 7, 665, 260, 666, 667, 668] (by decide +kernel) (by decide +kernel)
set_option maxRecDepth 100000 in
theorem wl_wsL_law_r27 : GoodIn lw_tbl wsL_law_r27 := goodIn_r _ [669, 92, 671, 670, 672, 673, 674, 675, 676, 1193, 1194, 1195, 1196, 1197, 1199, 41, 1200, 1201, 1203, 42, 1204, 1205, 1207, 43] (by decide +kernel) (by decide +kernel)
set_option maxRecDepth 100000 in
theorem wl_wsL_law_r28 : GoodIn lw_tbl wsL_law_r28 := goodIn_r _ [1208, 1209, 1211, 44, 1212, 677, 678, 679, 680, 681, 682, 683, 684, 685, 687, 8, 688, 689, 691, 9, 692, 1213, 1214, 1215] (by decide +kernel) (by decide +kernel)
set_option maxRecDepth 100000 in
theorem wl_wsL_law_r29 : GoodIn lw_tbl wsL_law_r29 := goodIn_r _ [1216, 1217, 1219, 45, 1220, 693, 694, 695, 696, 697, 698, 1221, 1222, 1223, 1224, 699, 700, 701, 702, 1225, 1226, 1227, 1228, 703] (by decide +kernel) (by decide +kernel)
set_option maxRecDepth 100000 in
theorem wl_wsL_law_r30 : GoodIn lw_tbl wsL_law_r30 := goodIn_r _ [704, 705, 706, 1229, 1230, 1231, 1232, 707, 708, 709, 710, 116, 119, 122, 1233, 1234, 1235, 1236, 1237, 897, 711, 712, 713, 714] (by decide +kernel) (by decide +kernel)
set_option maxRecDepth 100000 in
theorem wl_wsL_law_r31 : GoodIn lw_tbl wsL_law_r31 := goodIn_r _ [1238, 1239, 1240, 1241, 715, 716, 717, 718, 292, 719, 721, 10, 722, 723, 724, 725, 726, 291, 168, 204, 731, 732, 727, 729] (by decide +kernel) (by decide +kernel)
set_option maxRecDepth 100000 in
theorem wl_wsL_law_r32 : GoodIn lw_tbl wsL_law_r32 := goodIn_r _ [11, 730, 115, 118, 121, 733, 735, 12, 736, 738, 740, 13, 741, 199, 163, 742, 743, 68, 744, 745, 747, 14, 748, 749] (by decide +kernel) (by decide +kernel)
set_option maxRecDepth 100000 in
theorem wl_wsL_law_r33 : GoodIn lw_tbl wsL_law_r33 := goodIn_r _ [750, 751, 752, 1242, 1243, 1244, 1245, 927, 1246, 1248, 46, 1249, 928, 1250, 1252, 47, 1253, 1254, 1256, 48, 1257, 753, 754, 755] (by decide +kernel) (by decide +kernel)
set_option maxRecDepth 100000 in
theorem wl_wsL_law_r34 : GoodIn lw_tbl wsL_law_r34 := goodIn_r _ [756, 757, 758, 759, 760, 1258, 1259, 1260, 1261, 761, 762, 763, 764, 294, 296, 765, 766, 767, 768, 293, 295, 769, 771, 15] (by decide +kernel) (by decide +kernel)
set_option maxRecDepth 100000 in
theorem wl_wsL_law_r35 : GoodIn lw_tbl wsL_law_r35 := goodIn_r _ [772, 773, 775, 16, 776, 777, 779, 17, 780, 1262, 1263, 1264, 1265, 1266, 1268, 49, 1269, 781, 782, 783, 784, 793, 331, 333] (by decide +kernel) (by decide +kernel)
set_option maxRecDepth 100000 in
theorem wl_wsL_law_r36 : GoodIn lw_tbl wsL_law_r36 := goodIn_r _ [785, 787, 18, 788, 789, 790, 791, 792, 211, 89, 794, 795, 796, 797, 818, 798, 800, 19, 801, 170, 162, 196, 166, 802] (by decide +kernel) (by decide +kernel)
set_option maxRecDepth 100000 in
theorem wl_wsL_law_r37 : GoodIn lw_tbl wsL_law_r37 := goodIn_r _ [803, 804, 805, 806, 808, 20, 809, 198, 810, 811, 812, 813, 814, 815, 816, 817, 819, 821, 21, 822, 330, 332, 823, 824] (by decide +kernel) (by decide +kernel)
set_option maxRecDepth 100000 in
theorem wl_wsL_law_r38 : GoodIn lw_tbl wsL_law_r38 := goodIn_r _ [825, 826, 1270, 1271, 1272, 1273, 1274, 1275, 1276, 1283, 1284, 1277, 1279, 50, 1280, 1281, 1282, 1285, 1287, 51, 1288, 1289, 1290, 1291] (by decide +kernel) (by decide +kernel)
set_option maxRecDepth 100000 in
theorem wl_wsL_law_r39 : GoodIn lw_tbl wsL_law_r39 := goodIn_r _ [827, 828, 829, 830, 831, 832, 834, 22, 835, 1292, 1293, 1294, 1295, 1296, 836, 837, 838, 839, 355, 357, 359, 840, 841, 842] (by decide +kernel) (by decide +kernel)
set_option maxRecDepth 100000 in
theorem wl_wsL_law_r40 : GoodIn lw_tbl wsL_law_r40 := goodIn_r _ [843, 88, 354, 356, 358, 844, 845, 847, 23, 848, 849, 850, 851, 1297, 1298, 1299, 1300, 1301, 1302, 1303, 1304, 1305, 852, 853] (by decide +kernel) (by decide +kernel)
set_option maxRecDepth 100000 in
theorem wl_wsL_law_r41 : GoodIn lw_tbl wsL_law_r41 := goodIn_r _ [854, 855, 856, 857, 858, 859, 860, 862, 861, 72, 102, 114, 1306, 1307, 1308, 1309, 933, 934, 1310, 1312, 52, 1313, 1314, 1316] (by decide +kernel) (by decide +kernel)
set_option maxRecDepth 100000 in
theorem wl_wsL_law_r42 : GoodIn lw_tbl wsL_law_r42 := goodIn_r _ [53, 1317, 863, 864, 865, 866, 1318, 1319, 1320, 1321, 867, 868, 869, 870, 871, 873, 24, 874, 875, 1322, 1323, 1324, 1325, 1326] (by decide +kernel) (by decide +kernel)
set_option maxRecDepth 100000 in
theorem wl_wsL_law_r43 : GoodIn lw_tbl wsL_law_r43 := goodIn_r _ [1327, 1329, 54, 1330] (by decide +kernel) (by decide +kernel)
set_option maxRecDepth 100000 in
theorem wl_wsX70 : GoodIn lw_tbl wsX70 := goodIn_r _ [380, 382, 384, 386, 388, 390, 392, 394, 396, 398] (by decide +kernel) (by decide +kernel)
set_option maxRecDepth 100000 in
theorem wl_wsX80 : GoodIn lw_tbl wsX80 := goodIn_r _ [935, 937, 939, 941, 943, 945, 947, 949, 951, 953, 955, 957, 959, 961, 963, 965, 967, 969, 971, 973, 975, 977, 979, 981, 983, 985, 987, 989, 991, 993, 995, 997, 999, 1001, 1003, 1005, 1007, 1009, 1011, 1013, 1015, 1017, 1019, 1021, 1023, 1025, 1027, 1029, 1031, 1033, 1035, 1037, 1039] (by decide +kernel) (by decide +kernel)
set_option maxRecDepth 100000 in
theorem wl_wsX00 : GoodIn lw_tbl wsX00 := goodIn_r _ [123, 125, 127, 129, 131, 133, 135, 137, 139, 141, 143, 145] (by decide +kernel) (by decide +kernel)
set_option maxRecDepth 100000 in
theorem wl_wsX40 : GoodIn lw_tbl wsX40 := goodIn_r _ [174, 176, 178, 180, 182, 184] (by decide +kernel) (by decide +kernel)
set_option maxRecDepth 100000 in
theorem wl_wsX10 : GoodIn lw_tbl wsX10 := goodIn_r _ [222, 224, 226, 228, 230, 232, 234, 236, 238, 240, 242, 244, 246, 248] (by decide +kernel) (by decide +kernel)
set_option maxRecDepth 100000 in
theorem wl_wsX30 : GoodIn lw_tbl wsX30 := goodIn_r _ [264, 266, 268, 270, 272, 274] (by decide +kernel) (by decide +kernel)
set_option maxRecDepth 100000 in
theorem wl_wsX50 : GoodIn lw_tbl wsX50 := goodIn_r _ [297, 299, 301, 303, 305, 307, 309, 311, 313, 315, 317] (by decide +kernel) (by decide +kernel)
set_option maxRecDepth 100000 in
theorem wl_wsX20 : GoodIn lw_tbl wsX20 := goodIn_r _ [334, 336, 338, 340, 342, 344] (by decide +kernel) (by decide +kernel)
set_option maxRecDepth 100000 in
theorem wl_wsX60 : GoodIn lw_tbl wsX60 := goodIn_r _ [360, 362, 364, 366] (by decide +kernel) (by decide +kernel)
theorem wl_all : GoodIn lw_tbl wsL_law := goodIn_app (goodIn_app (goodIn_app (goodIn_app (goodIn_app (goodIn_app (goodIn_app (goodIn_app (goodIn_app (goodIn_app (goodIn_app wl_wsL_law_r1 (goodIn_app wl_wsL_law_r2 (goodIn_app wl_wsL_law_r3 (goodIn_app wl_wsL_law_r4 (goodIn_app wl_wsL_law_r5 (goodIn_app wl_wsL_law_r6 (goodIn_app wl_wsL_law_r7 (goodIn_app wl_wsL_law_r8 (goodIn_app wl_wsL_law_r9 (goodIn_app wl_wsL_law_r10 (goodIn_app wl_wsL_law_r11 (goodIn_app wl_wsL_law_r12 (goodIn_app wl_wsL_law_r13 (goodIn_app wl_wsL_law_r14 (goodIn_app wl_wsL_law_r15 (goodIn_app wl_wsL_law_r16 (goodIn_app wl_wsL_law_r17 (goodIn_app wl_wsL_law_r18 (goodIn_app wl_wsL_law_r19 (goodIn_app wl_wsL_law_r20 (goodIn_app wl_wsL_law_r21 (goodIn_app wl_wsL_law_r22 (goodIn_app wl_wsL_law_r23 (goodIn_app wl_wsL_law_r24 (goodIn_app wl_wsL_law_r25 (goodIn_app wl_wsL_law_r26 (goodIn_app wl_wsL_law_r27 (goodIn_app wl_wsL_law_r28 (goodIn_app wl_wsL_law_r29 (goodIn_app wl_wsL_law_r30 (goodIn_app wl_wsL_law_r31 (goodIn_app wl_wsL_law_r32 (goodIn_app wl_wsL_law_r33 (goodIn_app wl_wsL_law_r34 (goodIn_app wl_wsL_law_r35 (goodIn_app wl_wsL_law_r36 (goodIn_app wl_wsL_law_r37 (goodIn_app wl_wsL_law_r38 (goodIn_app wl_wsL_law_r39 (goodIn_app wl_wsL_law_r40 (goodIn_app wl_wsL_law_r41 (goodIn_app wl_wsL_law_r42 (wl_wsL_law_r43))))))))))))))))))))))))))))))))))))))))))) wl_wsX70) wl_wsX80) wl_wsX00) wl_wsX40) wl_wsX10) wl_wsX30) wl_wsX50) wl_wsX20) wl_wsX60) (fun w h => absurd h List.not_mem_nil)
theorem wsL_law_in : ∀ w ∈ wsL_law, w ∈ lw_tbl := fun w h => (wl_all w h).1
theorem inlX0 : ∀ w ∈ wsX00, w ∈ wsL_law := fun _ h => List.mem_append_left _ (List.mem_append_left _ (List.mem_append_left _ (List.mem_append_left _ (List.mem_append_left _ (List.mem_append_left _ (List.mem_append_left _ (List.mem_append_right _ h)))))))
theorem inX0 : ∀ w ∈ wsX00, w ∈ lw_tbl := fun w h => wsL_law_in w (inlX0 w h)
theorem inlX1 : ∀ w ∈ wsX10, w ∈ wsL_law := fun _ h => List.mem_append_left _ (List.mem_append_left _ (List.mem_append_left _ (List.mem_append_left _ (List.mem_append_left _ (List.mem_append_right _ h)))))
theorem inX1 : ∀ w ∈ wsX10, w ∈ lw_tbl := fun w h => wsL_law_in w (inlX1 w h)
theorem inlX2 : ∀ w ∈ wsX20, w ∈ wsL_law := fun _ h => List.mem_append_left _ (List.mem_append_left _ (List.mem_append_right _ h))
theorem inX2 : ∀ w ∈ wsX20, w ∈ lw_tbl := fun w h => wsL_law_in w (inlX2 w h)
theorem inlX3 : ∀ w ∈ wsX30, w ∈ wsL_law := fun _ h => List.mem_append_left _ (List.mem_append_left _ (List.mem_append_left _ (List.mem_append_left _ (List.mem_append_right _ h))))
theorem inX3 : ∀ w ∈ wsX30, w ∈ lw_tbl := fun w h => wsL_law_in w (inlX3 w h)
theorem inlX4 : ∀ w ∈ wsX40, w ∈ wsL_law := fun _ h => List.mem_append_left _ (List.mem_append_left _ (List.mem_append_left _ (List.mem_append_left _ (List.mem_append_left _ (List.mem_append_left _ (List.mem_append_right _ h))))))
theorem inX4 : ∀ w ∈ wsX40, w ∈ lw_tbl := fun w h => wsL_law_in w (inlX4 w h)
theorem inlX5 : ∀ w ∈ wsX50, w ∈ wsL_law := fun _ h => List.mem_append_left _ (List.mem_append_left _ (List.mem_append_left _ (List.mem_append_right _ h)))
theorem inX5 : ∀ w ∈ wsX50, w ∈ lw_tbl := fun w h => wsL_law_in w (inlX5 w h)
theorem inlX6 : ∀ w ∈ wsX60, w ∈ wsL_law := fun _ h => List.mem_append_left _ (List.mem_append_right _ h)
theorem inX6 : ∀ w ∈ wsX60, w ∈ lw_tbl := fun w h => wsL_law_in w (inlX6 w h)
theorem inlX7 : ∀ w ∈ wsX70, w ∈ wsL_law := fun _ h => List.mem_append_left _ (List.mem_append_left _ (List.mem_append_left _ (List.mem_append_left _ (List.mem_append_left _ (List.mem_append_left _ (List.mem_append_left _ (List.mem_append_left _ (List.mem_append_left _ (List.mem_append_right _ h)))))))))
theorem inX7 : ∀ w ∈ wsX70, w ∈ lw_tbl := fun w h => wsL_law_in w (inlX7 w h)
theorem inlX8 : ∀ w ∈ wsX80, w ∈ wsL_law := fun _ h => List.mem_append_left _ (List.mem_append_left _ (List.mem_append_left _ (List.mem_append_left _ (List.mem_append_left _ (List.mem_append_left _ (List.mem_append_left _ (List.mem_append_left _ (List.mem_append_right _ h))))))))
theorem inX8 : ∀ w ∈ wsX80, w ∈ lw_tbl := fun w h => wsL_law_in w (inlX8 w h)
theorem inJ11 : ∀ w ∈ wsJ110, w ∈ lw_tbl := by decide +kernel
theorem inJ6 : ∀ w ∈ wsJ60, w ∈ lw_tbl := by decide +kernel
theorem inJ9 : ∀ w ∈ wsJ90, w ∈ lw_tbl := by decide +kernel
theorem inJ0 : ∀ w ∈ wsJ00, w ∈ lw_tbl := by decide +kernel
theorem inJ1 : ∀ w ∈ wsJ10, w ∈ lw_tbl := by decide +kernel
theorem inJ2 : ∀ w ∈ wsJ20, w ∈ lw_tbl := by decide +kernel
theorem inJ10 : ∀ w ∈ wsJ100, w ∈ lw_tbl := by decide +kernel
theorem inJ3 : ∀ w ∈ wsJ30, w ∈ lw_tbl := by decide +kernel
