/-! the law's words are the tables' -/
theorem lin_p {big : List Cond} (ws : List Cond) (ps : List Nat) (hp : ws = ps.filterMap (fun i => big[i]?)) : ∀ w ∈ ws, w ∈ big := by
  intro w hw
  rw [hp] at hw
  obtain ⟨i, -, hi⟩ := List.mem_filterMap.mp hw
  first | exact List.mem_of_getElem? hi | exact List.getElem?_mem hi
theorem lin_app {big a b : List Cond} (h : ∀ w ∈ a, w ∈ big) (g : ∀ w ∈ b, w ∈ big) : ∀ w ∈ a ++ b, w ∈ big := fun w hw => (List.mem_append.mp hw).elim (h w) (g w)
set_option maxRecDepth 20000 in
theorem lin_1 : ∀ w ∈ wsL_law_r1, w ∈ lw_tbl := lin_p _ [92, 93, 75, 920, 921, 83, 1393, 94, 95, 96, 97, 98, 99, 100, 101, 76, 255, 118, 119, 77, 256, 257, 137, 138] (by decide +kernel)
set_option maxRecDepth 20000 in
theorem lin_2 : ∀ w ∈ wsL_law_r2, w ∈ lw_tbl := lin_p _ [78, 258, 164, 165, 79, 259, 201, 202, 80, 260, 220, 221, 81, 261, 233, 234, 82, 262, 116, 263, 264, 265, 102, 103] (by decide +kernel)
set_option maxRecDepth 20000 in
theorem lin_3 : ∀ w ∈ wsL_law_r3, w ∈ lw_tbl := lin_p _ [104, 105, 106, 107, 117, 108, 121, 122, 123, 124, 125, 126, 127, 140, 141, 142, 143, 145, 146, 147, 167, 168, 169, 204] (by decide +kernel)
set_option maxRecDepth 20000 in
theorem lin_4 : ∀ w ∈ wsL_law_r4, w ∈ lw_tbl := lin_p _ [205, 206, 207, 208, 223, 224, 225, 236, 237, 238, 239, 922, 923, 924, 925, 928, 929, 930, 931, 932, 933, 934, 935, 936] (by decide +kernel)
set_option maxRecDepth 20000 in
theorem lin_5 : ∀ w ∈ wsL_law_r5, w ∈ lw_tbl := lin_p _ [937, 938, 939, 940, 941, 942, 943, 944, 945, 946, 947, 948, 949, 955, 956, 957, 963, 289, 290, 291, 292, 293, 294, 295] (by decide +kernel)
set_option maxRecDepth 20000 in
theorem lin_6 : ∀ w ∈ wsL_law_r6, w ∈ lw_tbl := lin_p _ [296, 297, 299, 0, 300, 301, 302, 303, 304, 305, 1047, 1048, 1049, 1050, 1051, 1053, 25, 1054, 1055, 1057, 26, 1058, 306, 307] (by decide +kernel)
set_option maxRecDepth 20000 in
theorem lin_7 : ∀ w ∈ wsL_law_r7, w ∈ lw_tbl := lin_p _ [308, 309, 310, 312, 1, 313, 314, 315, 316, 317, 318, 319, 320, 321, 322, 323, 324, 325, 326, 327, 328, 329, 330, 331] (by decide +kernel)
set_option maxRecDepth 20000 in
theorem lin_8 : ∀ w ∈ wsL_law_r8, w ∈ lw_tbl := lin_p _ [332, 333, 334, 335, 336, 337, 1059, 1060, 1061, 1062, 338, 339, 340, 341, 342, 344, 2, 345, 346, 347, 84, 348, 349, 350] (by decide +kernel)
set_option maxRecDepth 20000 in
theorem lin_9 : ∀ w ∈ wsL_law_r9, w ∈ lw_tbl := lin_p _ [351, 352, 353, 354, 355, 356, 358, 360, 359, 85, 357, 1063, 1064, 1065, 1066, 361, 362, 363, 364, 365, 366, 367, 368, 1067] (by decide +kernel)
set_option maxRecDepth 20000 in
theorem lin_10 : ∀ w ∈ wsL_law_r10, w ∈ lw_tbl := lin_p _ [1068, 1069, 1070, 369, 370, 371, 372, 373, 374, 375, 376, 377, 378, 379, 380, 1071, 1072, 1073, 1074, 1075, 1077, 27, 1078, 926] (by decide +kernel)
set_option maxRecDepth 20000 in
theorem lin_11 : ∀ w ∈ wsL_law_r11, w ∈ lw_tbl := lin_p _ [381, 382, 383, 384, 1079, 1080, 1081, 1082, 385, 386, 387, 388, 412, 389, 391, 3, 392, 393, 394, 395, 396, 398, 400, 401] (by decide +kernel)
set_option maxRecDepth 20000 in
theorem lin_12 : ∀ w ∈ wsL_law_r12, w ∈ lw_tbl := lin_p _ [402, 403, 404, 405, 86, 406, 407, 409, 410, 411, 413, 414, 415, 416, 417, 418, 419, 420, 421, 1083, 1084, 1085, 1086, 1087] (by decide +kernel)
set_option maxRecDepth 20000 in
theorem lin_13 : ∀ w ∈ wsL_law_r13, w ∈ lw_tbl := lin_p _ [1089, 28, 1090, 1091, 1092, 1094, 29, 1095, 422, 423, 424, 425, 426, 427, 428, 429, 430, 431, 432, 433, 434, 435, 436, 437] (by decide +kernel)
set_option maxRecDepth 20000 in
theorem lin_14 : ∀ w ∈ wsL_law_r14, w ∈ lw_tbl := lin_p _ [438, 439, 440, 441, 442, 1096, 1097, 1098, 1099, 1100, 1102, 30, 1103, 1104, 1106, 31, 1107, 1108, 1110, 32, 1111, 443, 444, 445] (by decide +kernel)
set_option maxRecDepth 20000 in
theorem lin_15 : ∀ w ∈ wsL_law_r15, w ∈ lw_tbl := lin_p _ [446, 447, 448, 449, 450, 451, 452, 453, 454, 455, 457, 4, 458, 459, 460, 461, 462, 463, 464, 465, 87, 466, 467, 468] (by decide +kernel)
set_option maxRecDepth 20000 in
theorem lin_16 : ∀ w ∈ wsL_law_r16, w ∈ lw_tbl := lin_p _ [469, 470, 471, 472, 473, 1112, 1113, 1114, 1115, 1116, 1118, 33, 1119, 1120, 1122, 34, 1123, 1124, 1126, 35, 1127, 1128, 1130, 36] (by decide +kernel)
set_option maxRecDepth 20000 in
theorem lin_17 : ∀ w ∈ wsL_law_r17, w ∈ lw_tbl := lin_p _ [1131, 474, 475, 476, 477, 478, 479, 480, 481, 1132, 1133, 1134, 1135, 1136, 1138, 37, 1139, 482, 483, 484, 485, 486, 487, 488] (by decide +kernel)
set_option maxRecDepth 20000 in
theorem lin_18 : ∀ w ∈ wsL_law_r18, w ∈ lw_tbl := lin_p _ [489, 490, 1140, 1141, 1142, 1143, 1144, 1146, 38, 1147, 1148, 1150, 39, 1151, 927, 491, 492, 493, 494, 495, 496, 497, 498, 500] (by decide +kernel)
set_option maxRecDepth 20000 in
theorem lin_19 : ∀ w ∈ wsL_law_r19, w ∈ lw_tbl := lin_p _ [501, 502, 148, 149, 150, 499, 503, 504, 505, 506, 507, 508, 509, 510, 511, 512, 513, 515, 5, 516, 517, 519, 6, 520] (by decide +kernel)
set_option maxRecDepth 20000 in
theorem lin_20 : ∀ w ∈ wsL_law_r20, w ∈ lw_tbl := lin_p _ [521, 523, 7, 524, 525, 526, 527, 535, 536, 537, 88, 538, 1394, 539, 540, 541, 542, 543, 1395, 545, 547, 8, 548, 549] (by decide +kernel)
set_option maxRecDepth 20000 in
theorem lin_21 : ∀ w ∈ wsL_law_r21, w ∈ lw_tbl := lin_p _ [550, 551, 552, 553, 554, 555, 556, 557, 558, 89, 559, 560, 561, 562, 563, 565, 566, 90, 567, 568, 569, 91, 570, 571] (by decide +kernel)
set_option maxRecDepth 20000 in
theorem lin_22 : ∀ w ∈ wsL_law_r22, w ∈ lw_tbl := lin_p _ [572, 573, 574, 575, 576, 577, 578, 579, 580, 581, 583, 585, 587, 589, 9, 590, 591, 592, 593, 594, 595, 597, 599, 10] (by decide +kernel)
set_option maxRecDepth 20000 in
theorem lin_23 : ∀ w ∈ wsL_law_r23, w ∈ lw_tbl := lin_p _ [600, 601, 603, 11, 604, 605, 607, 12, 608, 609, 611, 612, 613, 615, 13, 616, 617, 618, 619, 620, 621, 622, 623, 1152] (by decide +kernel)
set_option maxRecDepth 20000 in
theorem lin_24 : ∀ w ∈ wsL_law_r24, w ∈ lw_tbl := lin_p _ [1153, 1154, 1155, 950, 951, 952, 954, 1156, 1158, 40, 1159, 1160, 1162, 41, 1163, 1164, 1166, 42, 1167, 1168, 1170, 43, 1171, 953] (by decide +kernel)
set_option maxRecDepth 20000 in
theorem lin_25 : ∀ w ∈ wsL_law_r25, w ∈ lw_tbl := lin_p _ [1172, 1174, 44, 1175, 1176, 1178, 45, 1179, 1180, 1182, 46, 1183, 1184, 1186, 47, 1187, 1188, 1190, 48, 1191, 1192, 1194, 49, 1195] (by decide +kernel)
set_option maxRecDepth 20000 in
theorem lin_26 : ∀ w ∈ wsL_law_r26, w ∈ lw_tbl := lin_p _ [625, 626, 627, 628, 1196, 1197, 1198, 1199, 629, 630, 631, 632, 633, 634, 635, 636, 637, 638, 639, 640, 641, 1200, 1201, 1202] (by decide +kernel)
set_option maxRecDepth 20000 in
theorem lin_27 : ∀ w ∈ wsL_law_r27, w ∈ lw_tbl := lin_p _ [1203, 1204, 1206, 50, 1207, 642, 643, 644, 645, 655, 656, 657, 646, 647, 648, 649, 650, 651, 652, 653, 654, 1208, 1209, 1210] (by decide +kernel)
set_option maxRecDepth 20000 in
theorem lin_28 : ∀ w ∈ wsL_law_r28, w ∈ lw_tbl := lin_p _ [1211, 1212, 1214, 51, 1215, 1216, 1218, 52, 1219, 1220, 1222, 53, 1223, 658, 659, 660, 661, 662, 663, 664, 665, 666, 667, 668] (by decide +kernel)
set_option maxRecDepth 20000 in
theorem lin_29 : ∀ w ∈ wsL_law_r29, w ∈ lw_tbl := lin_p _ [1224, 1225, 1226, 1227, 1228, 1230, 54, 1231, 669, 670, 671, 672, 673, 674, 675, 676, 170, 175, 176, 177, 178, 179, 677, 678] (by decide +kernel)
set_option maxRecDepth 20000 in
theorem lin_30 : ∀ w ∈ wsL_law_r30, w ∈ lw_tbl := lin_p _ [679, 680, 681, 683, 14, 684, 685, 687, 15, 688, 171, 172, 173, 174, 689, 690, 691, 692, 693, 694, 695, 696, 697, 1232] (by decide +kernel)
set_option maxRecDepth 20000 in
theorem lin_31 : ∀ w ∈ wsL_law_r31, w ∈ lw_tbl := lin_p _ [1233, 1234, 1235, 958, 959, 960, 961, 962, 1236, 1238, 55, 1239, 1240, 1242, 56, 1243, 698, 699, 700, 701, 702, 703, 704, 705] (by decide +kernel)
set_option maxRecDepth 20000 in
theorem lin_32 : ∀ w ∈ wsL_law_r32, w ∈ lw_tbl := lin_p _ [706, 711, 712, 713, 227, 226, 707, 708, 709, 710, 714, 715, 716, 717, 718, 719, 720, 721, 1244, 1245, 1246, 1247, 1248, 1250] (by decide +kernel)
set_option maxRecDepth 20000 in
theorem lin_33 : ∀ w ∈ wsL_law_r33, w ∈ lw_tbl := lin_p _ [57, 1251, 722, 723, 724, 725, 726, 727, 728, 729, 1252, 1253, 1254, 1255, 1256, 1258, 58, 1259, 1260, 1262, 59, 1263, 1264, 1266] (by decide +kernel)
set_option maxRecDepth 20000 in
theorem lin_34 : ∀ w ∈ wsL_law_r34, w ∈ lw_tbl := lin_p _ [60, 1267, 731, 732, 733, 734, 735, 736, 737, 738, 739, 740, 741, 743, 16, 744, 749, 745, 747, 17, 748, 750, 752, 18] (by decide +kernel)
set_option maxRecDepth 20000 in
theorem lin_35 : ∀ w ∈ wsL_law_r35, w ∈ lw_tbl := lin_p _ [753, 209, 210, 754, 755, 756, 757, 758, 759, 760, 761, 1268, 1269, 1270, 1271, 762, 763, 764, 765, 1272, 1273, 1274, 1275, 766] (by decide +kernel)
set_option maxRecDepth 20000 in
theorem lin_36 : ∀ w ∈ wsL_law_r36, w ∈ lw_tbl := lin_p _ [767, 768, 769, 770, 771, 772, 773, 774, 1276, 1277, 1278, 1279, 1280, 1282, 61, 1283, 1284, 1286, 62, 1287, 775, 776, 777, 778] (by decide +kernel)
set_option maxRecDepth 20000 in
theorem lin_37 : ∀ w ∈ wsL_law_r37, w ∈ lw_tbl := lin_p _ [779, 780, 781, 782, 1288, 1289, 1290, 1291, 783, 784, 785, 786, 1292, 1293, 1294, 1295, 787, 788, 789, 790, 791, 793, 19, 794] (by decide +kernel)
set_option maxRecDepth 20000 in
theorem lin_38 : ∀ w ∈ wsL_law_r38, w ∈ lw_tbl := lin_p _ [1296, 1297, 1298, 1299, 795, 796, 797, 798, 799, 801, 20, 802, 803, 804, 806, 21, 807, 808, 1300, 1301, 1302, 1303, 1304, 1306] (by decide +kernel)
set_option maxRecDepth 20000 in
theorem lin_39 : ∀ w ∈ wsL_law_r39, w ∈ lw_tbl := lin_p _ [63, 1307, 1308, 1310, 64, 1311, 809, 810, 811, 812, 1312, 1313, 1314, 1315, 1316, 1318, 65, 1319, 813, 814, 815, 816, 1320, 1321] (by decide +kernel)
set_option maxRecDepth 20000 in
theorem lin_40 : ∀ w ∈ wsL_law_r40, w ∈ lw_tbl := lin_p _ [1322, 1323, 817, 818, 819, 820, 821, 822, 823, 824, 825, 826, 827, 828, 829, 830, 1324, 1325, 1326, 1327, 1328, 1330, 66, 1331] (by decide +kernel)
set_option maxRecDepth 20000 in
theorem lin_41 : ∀ w ∈ wsL_law_r41, w ∈ lw_tbl := lin_p _ [831, 832, 833, 834, 835, 836, 837, 838, 839, 841, 22, 842, 1332, 1333, 1334, 1335, 1336, 1338, 67, 1339, 1340, 1342, 68, 1343] (by decide +kernel)
set_option maxRecDepth 20000 in
theorem lin_42 : ∀ w ∈ wsL_law_r42, w ∈ lw_tbl := lin_p _ [843, 844, 845, 846, 847, 848, 849, 850, 856, 857, 851, 853, 23, 854, 855, 1344, 1345, 1346, 1347, 1348, 1350, 69, 1351, 1352] (by decide +kernel)
set_option maxRecDepth 20000 in
theorem lin_43 : ∀ w ∈ wsL_law_r43, w ∈ lw_tbl := lin_p _ [858, 859, 860, 861, 862, 863, 864, 865, 866, 867, 868, 869, 1353, 1354, 1355, 1356, 870, 871, 872, 873, 874, 875, 876, 877] (by decide +kernel)
set_option maxRecDepth 20000 in
theorem lin_44 : ∀ w ∈ wsL_law_r44, w ∈ lw_tbl := lin_p _ [240, 878, 879, 880, 881, 241, 242, 243, 882, 883, 884, 885, 886, 887, 888, 890, 891, 893, 24, 894, 1357, 1358, 1359, 1360] (by decide +kernel)
set_option maxRecDepth 20000 in
theorem lin_45 : ∀ w ∈ wsL_law_r45, w ∈ lw_tbl := lin_p _ [964, 1361, 1363, 70, 1364, 1365, 1367, 71, 1368, 1369, 1371, 72, 1372, 1373, 1375, 73, 1376, 895, 896, 897, 898, 899, 900, 901] (by decide +kernel)
set_option maxRecDepth 20000 in
theorem lin_46 : ∀ w ∈ wsL_law_r46, w ∈ lw_tbl := lin_p _ [902, 1377, 1378, 1379, 1380, 903, 904, 905, 906, 907, 1381, 1382, 1383, 1384, 965, 908, 909, 910, 911, 1385, 1386, 1387, 1388, 912] (by decide +kernel)
set_option maxRecDepth 20000 in
theorem lin_47 : ∀ w ∈ wsL_law_r47, w ∈ lw_tbl := lin_p _ [913, 914, 915, 916, 917, 918, 919, 1389, 1390, 1391, 1392] (by decide +kernel)
theorem inTX0 : ∀ w ∈ wsX00, w ∈ lw_tbl := lin_p _ [244, 246, 248, 250, 252] (by decide +kernel)
theorem inTX1 : ∀ w ∈ wsX10, w ∈ lw_tbl := lin_p _ [] (by decide +kernel)
theorem inTX2 : ∀ w ∈ wsX20, w ∈ lw_tbl := lin_p _ [228, 230] (by decide +kernel)
theorem inTX3 : ∀ w ∈ wsX30, w ∈ lw_tbl := lin_p _ [128, 130, 132, 134] (by decide +kernel)
theorem inTX4 : ∀ w ∈ wsX40, w ∈ lw_tbl := lin_p _ [151, 153, 155, 157, 159, 161] (by decide +kernel)
theorem inTX5 : ∀ w ∈ wsX50, w ∈ lw_tbl := lin_p _ [109, 111, 113] (by decide +kernel)
theorem inTX6 : ∀ w ∈ wsX60, w ∈ lw_tbl := lin_p _ [211, 213, 215, 217] (by decide +kernel)
theorem inTX7 : ∀ w ∈ wsX70, w ∈ lw_tbl := lin_p _ [180, 182, 184, 186, 188, 190, 192, 194, 196, 198] (by decide +kernel)
theorem inTX8 : ∀ w ∈ wsX80, w ∈ lw_tbl := lin_p _ [266, 268, 270, 272, 274, 276, 278, 280, 282, 284, 286] (by decide +kernel)
theorem inTX9 : ∀ w ∈ wsX90, w ∈ lw_tbl := lin_p _ [966, 968, 970, 972, 974, 976, 978, 980, 982, 984, 986, 988, 990, 992, 994, 996, 998, 1000, 1002, 1004, 1006, 1008, 1010, 1012, 1014, 1016, 1018, 1020, 1022, 1024, 1026, 1028, 1030, 1032, 1034, 1036, 1038, 1040, 1042, 1044] (by decide +kernel)
theorem lin_law : ∀ w ∈ wsL_law, w ∈ lw_tbl := lin_app (lin_app (lin_app (lin_app (lin_app (lin_app (lin_app (lin_app (lin_app (lin_app (lin_app lin_1 (lin_app lin_2 (lin_app lin_3 (lin_app lin_4 (lin_app lin_5 (lin_app lin_6 (lin_app lin_7 (lin_app lin_8 (lin_app lin_9 (lin_app lin_10 (lin_app lin_11 (lin_app lin_12 (lin_app lin_13 (lin_app lin_14 (lin_app lin_15 (lin_app lin_16 (lin_app lin_17 (lin_app lin_18 (lin_app lin_19 (lin_app lin_20 (lin_app lin_21 (lin_app lin_22 (lin_app lin_23 (lin_app lin_24 (lin_app lin_25 (lin_app lin_26 (lin_app lin_27 (lin_app lin_28 (lin_app lin_29 (lin_app lin_30 (lin_app lin_31 (lin_app lin_32 (lin_app lin_33 (lin_app lin_34 (lin_app lin_35 (lin_app lin_36 (lin_app lin_37 (lin_app lin_38 (lin_app lin_39 (lin_app lin_40 (lin_app lin_41 (lin_app lin_42 (lin_app lin_43 (lin_app lin_44 (lin_app lin_45 (lin_app lin_46 (lin_47))))))))))))))))))))))))))))))))))))))))))))))) inTX8) inTX9) inTX5) inTX3) inTX4) inTX7) inTX6) inTX2) inTX0) (fun _ h => absurd h List.not_mem_nil)
