/-! ===== the checks, by program ===== -/
theorem ab_fl_ok : ∀ f ∈ ab_fl, ab_flok f = true := by decide +kernel
theorem ab_ml_ok : ∀ f ∈ ab_ml, ab_mlok ab_P ab_hw f = true := by decide +kernel
theorem mX0_init : ab_mcok ab_P 0 2 (295, 79, 294, 0) = true := by decide +kernel
theorem mX0_take : ab_mcok ab_P 1 0 (765, 79, 763, 764) = true := by decide +kernel
theorem mX0_addChild : ab_mcok ab_P 2 0 (912, 79, 910, 911) = true := by decide +kernel
theorem mX0_append : ab_mcok ab_P 3 0 (770, 79, 769, 24) = true := by decide +kernel
theorem mX0_alike : ab_mcok ab_P 4 0 (778, 79, 777, 25) = true := by decide +kernel
theorem mX0_onesOf : ab_mcok ab_P 5 0 (774, 79, 772, 773) = true := by decide +kernel
theorem mX0_leads : ab_mcok ab_P 6 0 (790, 79, 789, 26) = true := by decide +kernel
theorem mX0_howMany : ab_mcok ab_P 7 0 (786, 79, 784, 785) = true := by decide +kernel
theorem mX0_loneOnes : ab_mcok ab_P 8 0 (798, 79, 796, 797) = true := by decide +kernel
theorem mX0_debtOf : ab_mcok ab_P 9 0 (807, 79, 805, 806) = true := by decide +kernel
theorem mX0_wealthOf : ab_mcok ab_P 10 0 (819, 79, 817, 818) = true := by decide +kernel
theorem mX0_totalOf : ab_mcok ab_P 11 0 (811, 79, 810, 27) = true := by decide +kernel
theorem mX0_worthHaving : ab_mcok ab_P 12 0 (900, 79, 898, 899) = true := by decide +kernel
theorem mX0_worthHavingOfChild : ab_mcok ab_P 13 0 (908, 79, 906, 907) = true := by decide +kernel
theorem mX0_livingOnes : ab_mcok ab_P 14 0 (831, 79, 830, 28) = true := by decide +kernel
theorem mX0_voters : ab_mcok ab_P 15 0 (827, 79, 825, 826) = true := by decide +kernel
theorem mX0_livingOnesOf : ab_mcok ab_P 16 0 (839, 79, 837, 838) = true := by decide +kernel
theorem mX0_holds : ab_mcok ab_P 17 0 (929, 79, 927, 928) = true := by decide +kernel
theorem mX0_weigh : ab_mcok ab_P 18 0 (939, 79, 937, 938) = true := by decide +kernel
theorem mX0_shift : ab_mcok ab_P 19 0 (947, 79, 945, 946) = true := by decide +kernel
theorem mX1_init : ab_mcok ab_P 20 2 (131, 76, 130, 0) = true := by decide +kernel
theorem mX1_clear : ab_mcok ab_P 21 0 (190, 76, 189, 0) = true := by decide +kernel
theorem mX1_copy : ab_mcok ab_P 22 0 (998, 76, 996, 997) = true := by decide +kernel
theorem mX1_weight : ab_mcok ab_P 23 0 (697, 76, 695, 696) = true := by decide +kernel
theorem mX1_shareOf : ab_mcok ab_P 24 0 (693, 76, 691, 692) = true := by decide +kernel
theorem mX1_sumOf : ab_mcok ab_P 25 0 (688, 76, 686, 687) = true := by decide +kernel
theorem mX1_sumOfOne : ab_mcok ab_P 26 0 (756, 76, 754, 755) = true := by decide +kernel
theorem mX1_weightIn : ab_mcok ab_P 27 0 (943, 76, 941, 942) = true := by decide +kernel
theorem mX1_lettersOfAll : ab_mcok ab_P 28 0 (1065, 76, 1063, 1064) = true := by decide +kernel
theorem mX1_worthsOfAll : ab_mcok ab_P 29 0 (1069, 76, 1067, 1068) = true := by decide +kernel
theorem mX2_init : ab_mcok ab_P 30 2 (144, 78, 143, 0) = true := by decide +kernel
theorem mX2_hasPlace : ab_mcok ab_P 31 0 (674, 78, 672, 673) = true := by decide +kernel
theorem mX2_letterAt : ab_mcok ab_P 32 0 (670, 78, 668, 669) = true := by decide +kernel
theorem mX2_clear : ab_mcok ab_P 33 0 (607, 78, 605, 606) = true := by decide +kernel
theorem mX2_add : ab_mcok ab_P 34 0 (611, 78, 609, 610) = true := by decide +kernel
theorem mX2_addAll : ab_mcok ab_P 35 0 (737, 78, 735, 736) = true := by decide +kernel
theorem mX2_copy : ab_mcok ab_P 36 0 (732, 78, 730, 731) = true := by decide +kernel
theorem mX2_join : ab_mcok ab_P 37 0 (746, 78, 744, 745) = true := by decide +kernel
theorem mX3_init : ab_mcok ab_P 38 2 (138, 77, 137, 0) = true := by decide +kernel
theorem mX3_copy : ab_mcok ab_P 39 0 (1002, 77, 1000, 1001) = true := by decide +kernel
theorem mX4_init : ab_mcok ab_P 40 2 (346, 81, 345, 0) = true := by decide +kernel
theorem mX4_find : ab_mcok ab_P 41 0 (964, 81, 962, 963) = true := by decide +kernel
theorem mX4_weigh : ab_mcok ab_P 42 0 (968, 81, 967, 33) = true := by decide +kernel
theorem mX4_fits : ab_mcok ab_P 43 0 (975, 81, 974, 34) = true := by decide +kernel
theorem mX4_take : ab_mcok ab_P 44 0 (979, 81, 978, 35) = true := by decide +kernel
theorem mX5_init : ab_mcok ab_P 45 2 (321, 80, 320, 0) = true := by decide +kernel
theorem mX5_find : ab_mcok ab_P 46 0 (848, 80, 846, 847) = true := by decide +kernel
theorem mX5_takeShares : ab_mcok ab_P 47 0 (852, 80, 851, 29) = true := by decide +kernel
theorem mX5_addPlace : ab_mcok ab_P 48 0 (861, 80, 860, 30) = true := by decide +kernel
theorem mX5_leastEntry : ab_mcok ab_P 49 0 (875, 80, 874, 31) = true := by decide +kernel
theorem mX5_unit : ab_mcok ab_P 50 1 (867, 80, 866, 0) = true := by decide +kernel
theorem mX5_shiftOf : ab_mcok ab_P 51 1 (871, 80, 870, 0) = true := by decide +kernel
theorem mX5_reach : ab_mcok ab_P 52 0 (880, 80, 878, 879) = true := by decide +kernel
theorem mX5_leastFor : ab_mcok ab_P 53 0 (888, 80, 886, 887) = true := by decide +kernel
theorem mX5_atPlace : ab_mcok ab_P 54 0 (892, 80, 890, 891) = true := by decide +kernel
theorem mX6_init : ab_mcok ab_P 55 2 (119, 74, 118, 0) = true := by decide +kernel
theorem mX6_exchange : ab_mcok ab_P 56 0 (641, 74, 639, 640) = true := by decide +kernel
theorem mX6_tell : ab_mcok ab_P 57 0 (469, 74, 467, 468) = true := by decide +kernel
theorem mX6_begin : ab_mcok ab_P 58 0 (473, 74, 472, 1) = true := by decide +kernel
theorem mX6_refuse : ab_mcok ab_P 59 0 (495, 74, 494, 5) = true := by decide +kernel
theorem mX6_tellLine : ab_mcok ab_P 60 0 (503, 74, 502, 7) = true := by decide +kernel
theorem mX6_tellLaw : ab_mcok ab_P 61 0 (560, 74, 559, 9) = true := by decide +kernel
theorem mX6_tellFee : ab_mcok ab_P 62 0 (573, 74, 572, 12) = true := by decide +kernel
theorem mX6_tellLetter : ab_mcok ab_P 63 0 (578, 74, 577, 13) = true := by decide +kernel
theorem mX6_tellOne : ab_mcok ab_P 64 0 (590, 74, 589, 15) = true := by decide +kernel
theorem mX6_takeKind : ab_mcok ab_P 65 0 (594, 74, 593, 16) = true := by decide +kernel
theorem mX6_tellList : ab_mcok ab_P 66 0 (616, 74, 615, 18) = true := by decide +kernel
theorem mX6_addListed : ab_mcok ab_P 67 0 (620, 74, 619, 19) = true := by decide +kernel
theorem mX6_tellKnown : ab_mcok ab_P 68 0 (625, 74, 624, 20) = true := by decide +kernel
theorem mX6_allKnownAreListed : ab_mcok ab_P 69 0 (633, 74, 632, 21) = true := by decide +kernel
theorem mX6_takeNumber : ab_mcok ab_P 70 0 (564, 74, 563, 10) = true := by decide +kernel
theorem mX6_takeWord : ab_mcok ab_P 71 0 (582, 74, 581, 14) = true := by decide +kernel
theorem mX6_takeSemicolon : ab_mcok ab_P 72 0 (568, 74, 567, 11) = true := by decide +kernel
theorem mX6_advance : ab_mcok ab_P 73 0 (482, 74, 481, 2) = true := by decide +kernel
theorem mX6_takeFigures : ab_mcok ab_P 74 0 (499, 74, 498, 6) = true := by decide +kernel
theorem mX6_endOfRun : ab_mcok ab_P 75 0 (486, 74, 485, 3) = true := by decide +kernel
theorem mX6_byteAt : ab_mcok ab_P 76 0 (490, 74, 489, 4) = true := by decide +kernel
theorem mX6_says : ab_mcok ab_P 77 0 (508, 74, 507, 8) = true := by decide +kernel
theorem mX6_copyWord : ab_mcok ab_P 78 0 (603, 74, 602, 17) = true := by decide +kernel
theorem mX7_init : ab_mcok ab_P 79 2 (393, 82, 392, 0) = true := by decide +kernel
theorem mX7_begin : ab_mcok ab_P 80 0 (1015, 82, 1013, 1014) = true := by decide +kernel
theorem mX7_faultAt : ab_mcok ab_P 81 0 (1023, 82, 1021, 1022) = true := by decide +kernel
theorem mX7_faultOfPair : ab_mcok ab_P 82 0 (1036, 82, 1034, 1035) = true := by decide +kernel
theorem mX7_firstOfPair : ab_mcok ab_P 83 0 (1040, 82, 1038, 1039) = true := by decide +kernel
theorem mX7_secondOfPair : ab_mcok ab_P 84 0 (1048, 82, 1046, 1047) = true := by decide +kernel
theorem mX7_cellAt : ab_mcok ab_P 85 0 (1044, 82, 1043, 36) = true := by decide +kernel
theorem mX7_put : ab_mcok ab_P 86 0 (1027, 82, 1025, 1026) = true := by decide +kernel
theorem mX8_init : ab_mcok ab_P 87 2 (102, 73, 101, 0) = true := by decide +kernel
theorem mX8_append : ab_mcok ab_P 88 0 (454, 73, 452, 453) = true := by decide +kernel
theorem mX9_init : ab_mcok ab_P 89 2 (125, 75, 124, 0) = true := by decide +kernel
theorem mX9_clear : ab_mcok ab_P 90 0 (477, 75, 475, 476) = true := by decide +kernel
theorem mX9_lists : ab_mcok ab_P 91 0 (637, 75, 635, 636) = true := by decide +kernel
theorem mX9_listedSum : ab_mcok ab_P 92 0 (683, 75, 681, 682) = true := by decide +kernel
theorem mX9_addKnown : ab_mcok ab_P 93 0 (629, 75, 627, 628) = true := by decide +kernel
theorem mX10_init : ab_mcok ab_P 94 2 (94, 72, 93, 0) = true := by decide +kernel
theorem mX10_feed : ab_mcok ab_P 95 0 (450, 72, 448, 449) = true := by decide +kernel
theorem mX10_end : ab_mcok ab_P 96 0 (458, 72, 456, 457) = true := by decide +kernel
theorem mX10_text : ab_mcok ab_P 97 0 (465, 72, 463, 464) = true := by decide +kernel
theorem mX10_fault : ab_mcok ab_P 98 0 (649, 72, 647, 648) = true := by decide +kernel
theorem mX10_rule : ab_mcok ab_P 99 0 (653, 72, 651, 652) = true := by decide +kernel
theorem mX10_worth : ab_mcok ab_P 100 0 (657, 72, 655, 656) = true := by decide +kernel
theorem mX10_one : ab_mcok ab_P 101 0 (662, 72, 660, 661) = true := by decide +kernel
theorem mX10_listed : ab_mcok ab_P 102 0 (678, 72, 676, 677) = true := by decide +kernel
theorem mX10_letter : ab_mcok ab_P 103 0 (701, 72, 699, 700) = true := by decide +kernel
theorem mX10_law : ab_mcok ab_P 104 0 (708, 72, 706, 707) = true := by decide +kernel
theorem mX10_fee : ab_mcok ab_P 105 0 (712, 72, 710, 711) = true := by decide +kernel
theorem mX10_debt : ab_mcok ab_P 106 0 (716, 72, 714, 715) = true := by decide +kernel
theorem mX10_wealth : ab_mcok ab_P 107 0 (720, 72, 718, 719) = true := by decide +kernel
theorem mX10_become : ab_mcok ab_P 108 0 (724, 72, 722, 723) = true := by decide +kernel
theorem mX10_bear : ab_mcok ab_P 109 0 (728, 72, 726, 727) = true := by decide +kernel
theorem mX10_wed : ab_mcok ab_P 110 0 (742, 72, 740, 741) = true := by decide +kernel
theorem mX10_sum : ab_mcok ab_P 111 0 (752, 72, 750, 751) = true := by decide +kernel
theorem mX10_person : ab_mcok ab_P 112 0 (761, 72, 759, 760) = true := by decide +kernel
theorem mX10_persons : ab_mcok ab_P 113 0 (782, 72, 780, 781) = true := by decide +kernel
theorem mX10_lone : ab_mcok ab_P 114 0 (794, 72, 792, 793) = true := by decide +kernel
theorem mX10_owes : ab_mcok ab_P 115 0 (803, 72, 801, 802) = true := by decide +kernel
theorem mX10_has : ab_mcok ab_P 116 0 (815, 72, 813, 814) = true := by decide +kernel
theorem mX10_votes : ab_mcok ab_P 117 0 (823, 72, 821, 822) = true := by decide +kernel
theorem mX10_heirs : ab_mcok ab_P 118 0 (835, 72, 833, 834) = true := by decide +kernel
theorem mX10_change : ab_mcok ab_P 119 0 (843, 72, 841, 842) = true := by decide +kernel
theorem mX10_rid : ab_mcok ab_P 120 0 (896, 72, 894, 895) = true := by decide +kernel
theorem mX10_call : ab_mcok ab_P 121 0 (904, 72, 902, 903) = true := by decide +kernel
theorem mX10_match : ab_mcok ab_P 122 0 (917, 72, 915, 916) = true := by decide +kernel
theorem mX10_crowd : ab_mcok ab_P 123 0 (925, 72, 923, 924) = true := by decide +kernel
theorem mX10_part : ab_mcok ab_P 124 0 (935, 72, 933, 934) = true := by decide +kernel
theorem mX10_know : ab_mcok ab_P 125 0 (951, 72, 949, 950) = true := by decide +kernel
theorem mX10_forget : ab_mcok ab_P 126 0 (956, 72, 954, 955) = true := by decide +kernel
theorem mX10_solve : ab_mcok ab_P 127 0 (960, 72, 958, 959) = true := by decide +kernel
theorem mX10_year : ab_mcok ab_P 128 0 (983, 72, 981, 982) = true := by decide +kernel
theorem mX10_keep : ab_mcok ab_P 129 0 (994, 72, 992, 993) = true := by decide +kernel
theorem mX10_back : ab_mcok ab_P 130 0 (1007, 72, 1005, 1006) = true := by decide +kernel
theorem mX10_sheet : ab_mcok ab_P 131 0 (1011, 72, 1009, 1010) = true := by decide +kernel
theorem mX10_lay : ab_mcok ab_P 132 0 (1019, 72, 1017, 1018) = true := by decide +kernel
theorem mX10_read : ab_mcok ab_P 133 0 (1032, 72, 1030, 1031) = true := by decide +kernel
theorem mX10_torn : ab_mcok ab_P 134 0 (1053, 72, 1051, 1052) = true := by decide +kernel
theorem mX10_count : ab_mcok ab_P 135 0 (1057, 72, 1055, 1056) = true := by decide +kernel
theorem mX10_within : ab_mcok ab_P 136 1 (461, 72, 460, 0) = true := by decide +kernel
theorem mX10_isLetter : ab_mcok ab_P 137 1 (585, 72, 584, 0) = true := by decide +kernel
theorem mX10_isLetterAndWorth : ab_mcok ab_P 138 1 (704, 72, 703, 0) = true := by decide +kernel
theorem mX10_isOne : ab_mcok ab_P 139 0 (666, 72, 665, 23) = true := by decide +kernel
theorem mX10_imagesKept : ab_mcok ab_P 140 0 (1061, 72, 1060, 37) = true := by decide +kernel
theorem mX10_forgetImages : ab_mcok ab_P 141 0 (645, 72, 644, 22) = true := by decide +kernel
theorem mX10_worthOfWedding : ab_mcok ab_P 142 0 (921, 72, 920, 32) = true := by decide +kernel
theorem mX11_init : ab_mcok ab_P 143 2 (1074, 83, 1073, 0) = true := by decide +kernel
theorem mX11_in : ab_mcok ab_P 144 1 (1181, 83, 1180, 0) = true := by decide +kernel
theorem mX11_feed : ab_mcok ab_P 145 0 (1174, 83, 1172, 1173) = true := by decide +kernel
theorem mX11_end : ab_mcok ab_P 146 0 (1178, 83, 1176, 1177) = true := by decide +kernel
theorem mX11_byteAt : ab_mcok ab_P 147 0 (1193, 83, 1192, 39) = true := by decide +kernel
theorem mX11_fails : ab_mcok ab_P 148 0 (1201, 83, 1200, 40) = true := by decide +kernel
theorem mX11_wordHere : ab_mcok ab_P 149 0 (1209, 83, 1208, 42) = true := by decide +kernel
theorem mX11_step : ab_mcok ab_P 150 0 (1189, 83, 1188, 38) = true := by decide +kernel
theorem mX11_number : ab_mcok ab_P 151 0 (1222, 83, 1221, 45) = true := by decide +kernel
theorem mX11_longHere : ab_mcok ab_P 152 0 (1230, 83, 1229, 47) = true := by decide +kernel
theorem mX11_readLetter : ab_mcok ab_P 153 0 (1226, 83, 1225, 46) = true := by decide +kernel
theorem mX11_readOne : ab_mcok ab_P 154 0 (1234, 83, 1233, 48) = true := by decide +kernel
theorem mX11_readNamesMore : ab_mcok ab_P 155 0 (1238, 83, 1237, 49) = true := by decide +kernel
theorem mX11_hasRoom : ab_mcok ab_P 156 0 (1214, 83, 1213, 43) = true := by decide +kernel
theorem mX11_readMore : ab_mcok ab_P 157 0 (1218, 83, 1217, 44) = true := by decide +kernel
theorem mX11_readLine : ab_mcok ab_P 158 0 (1205, 83, 1204, 41) = true := by decide +kernel
theorem mX11_text : ab_mcok ab_P 159 0 (1185, 83, 1183, 1184) = true := by decide +kernel
theorem mX11_fault : ab_mcok ab_P 160 0 (1242, 83, 1240, 1241) = true := by decide +kernel
theorem mX11_people : ab_mcok ab_P 161 0 (1250, 83, 1249, 50) = true := by decide +kernel
theorem mX11_isOne : ab_mcok ab_P 162 0 (1274, 83, 1273, 53) = true := by decide +kernel
theorem mX11_isListed : ab_mcok ab_P 163 0 (1288, 83, 1287, 55) = true := by decide +kernel
theorem mX11_isLetter : ab_mcok ab_P 164 1 (1261, 83, 1260, 0) = true := by decide +kernel
theorem mX11_feeNow : ab_mcok ab_P 165 0 (1254, 83, 1253, 51) = true := by decide +kernel
theorem mX11_worthOf : ab_mcok ab_P 166 0 (1266, 83, 1265, 52) = true := by decide +kernel
theorem mX11_rule : ab_mcok ab_P 167 0 (1246, 83, 1244, 1245) = true := by decide +kernel
theorem mX11_worth : ab_mcok ab_P 168 0 (1258, 83, 1256, 1257) = true := by decide +kernel
theorem mX11_longOf : ab_mcok ab_P 169 0 (1280, 83, 1279, 54) = true := by decide +kernel
theorem mX11_kindOf : ab_mcok ab_P 170 0 (1344, 83, 1343, 60) = true := by decide +kernel
theorem mX11_one : ab_mcok ab_P 171 0 (1270, 83, 1268, 1269) = true := by decide +kernel
theorem mX11_counts : ab_mcok ab_P 172 0 (1296, 83, 1295, 57) = true := by decide +kernel
theorem mX11_listSum : ab_mcok ab_P 173 0 (1292, 83, 1291, 56) = true := by decide +kernel
theorem mX11_listed : ab_mcok ab_P 174 0 (1284, 83, 1282, 1283) = true := by decide +kernel
theorem mX11_sets : ab_mcok ab_P 175 0 (1313, 83, 1312, 59) = true := by decide +kernel
theorem mX11_letterIs : ab_mcok ab_P 176 0 (1304, 83, 1303, 58) = true := by decide +kernel
theorem mX11_letter : ab_mcok ab_P 177 0 (1300, 83, 1298, 1299) = true := by decide +kernel
theorem mX11_law : ab_mcok ab_P 178 0 (1309, 83, 1307, 1308) = true := by decide +kernel
theorem mX11_fee : ab_mcok ab_P 179 0 (1317, 83, 1315, 1316) = true := by decide +kernel
theorem mX11_debt : ab_mcok ab_P 180 0 (1322, 83, 1320, 1321) = true := by decide +kernel
theorem mX11_wealth : ab_mcok ab_P 181 0 (1327, 83, 1325, 1326) = true := by decide +kernel
theorem mX11_become : ab_mcok ab_P 182 0 (1331, 83, 1329, 1330) = true := by decide +kernel
theorem mX11_bear : ab_mcok ab_P 183 0 (1336, 83, 1334, 1335) = true := by decide +kernel
theorem mX11_sumOf : ab_mcok ab_P 184 0 (1352, 83, 1351, 62) = true := by decide +kernel
theorem mX11_weds : ab_mcok ab_P 185 0 (1348, 83, 1347, 61) = true := by decide +kernel
theorem mX11_wed : ab_mcok ab_P 186 0 (1340, 83, 1338, 1339) = true := by decide +kernel
theorem mX11_sum : ab_mcok ab_P 187 0 (1356, 83, 1354, 1355) = true := by decide +kernel
theorem mX11_personOf : ab_mcok ab_P 188 0 (1364, 83, 1363, 63) = true := by decide +kernel
theorem mX11_person : ab_mcok ab_P 189 0 (1360, 83, 1358, 1359) = true := by decide +kernel
theorem mX11_persons : ab_mcok ab_P 190 0 (1368, 83, 1366, 1367) = true := by decide +kernel
theorem mX11_lone : ab_mcok ab_P 191 0 (1372, 83, 1370, 1371) = true := by decide +kernel
theorem mX11_summed : ab_mcok ab_P 192 0 (1380, 83, 1379, 64) = true := by decide +kernel
theorem mX11_owes : ab_mcok ab_P 193 0 (1376, 83, 1374, 1375) = true := by decide +kernel
theorem mX11_has : ab_mcok ab_P 194 0 (1384, 83, 1382, 1383) = true := by decide +kernel
theorem mX11_worthHaving : ab_mcok ab_P 195 0 (1420, 83, 1419, 68) = true := by decide +kernel
theorem mX11_votes : ab_mcok ab_P 196 0 (1388, 83, 1386, 1387) = true := by decide +kernel
theorem mX11_heirs : ab_mcok ab_P 197 0 (1392, 83, 1390, 1391) = true := by decide +kernel
theorem mX11_leastBy : ab_mcok ab_P 198 0 (1406, 83, 1405, 66) = true := by decide +kernel
theorem mX11_layChanges : ab_mcok ab_P 199 0 (1401, 83, 1400, 65) = true := by decide +kernel
theorem mX11_change : ab_mcok ab_P 200 0 (1396, 83, 1394, 1395) = true := by decide +kernel
theorem mX11_worthAt : ab_mcok ab_P 201 0 (1416, 83, 1415, 67) = true := by decide +kernel
theorem mX11_rid : ab_mcok ab_P 202 0 (1410, 83, 1408, 1409) = true := by decide +kernel
theorem mX11_atSum : ab_mcok ab_P 203 0 (1428, 83, 1427, 69) = true := by decide +kernel
theorem mX11_call : ab_mcok ab_P 204 0 (1424, 83, 1422, 1423) = true := by decide +kernel
theorem mX11_copies : ab_mcok ab_P 205 0 (1436, 83, 1435, 70) = true := by decide +kernel
theorem mX11_match : ab_mcok ab_P 206 0 (1432, 83, 1430, 1431) = true := by decide +kernel
theorem mX11_crowd : ab_mcok ab_P 207 0 (1440, 83, 1438, 1439) = true := by decide +kernel
theorem mX11_part : ab_mcok ab_P 208 0 (1445, 83, 1443, 1444) = true := by decide +kernel
theorem mX11_know : ab_mcok ab_P 209 0 (1449, 83, 1447, 1448) = true := by decide +kernel
theorem mX11_forget : ab_mcok ab_P 210 0 (1454, 83, 1452, 1453) = true := by decide +kernel
theorem mX11_solve : ab_mcok ab_P 211 0 (1458, 83, 1456, 1457) = true := by decide +kernel
theorem mX11_year : ab_mcok ab_P 212 0 (1462, 83, 1460, 1461) = true := by decide +kernel
theorem mX11_keep : ab_mcok ab_P 213 0 (1468, 83, 1466, 1467) = true := by decide +kernel
theorem mX11_back : ab_mcok ab_P 214 0 (1472, 83, 1470, 1471) = true := by decide +kernel
theorem mX11_sheet : ab_mcok ab_P 215 0 (1476, 83, 1474, 1475) = true := by decide +kernel
theorem mX11_lay : ab_mcok ab_P 216 0 (1480, 83, 1478, 1479) = true := by decide +kernel
theorem mX11_read : ab_mcok ab_P 217 0 (1484, 83, 1482, 1483) = true := by decide +kernel
theorem mX11_torn : ab_mcok ab_P 218 0 (1488, 83, 1486, 1487) = true := by decide +kernel
theorem mX11_count : ab_mcok ab_P 219 0 (1492, 83, 1490, 1491) = true := by decide +kernel
theorem mJ6_bitCount_0f7a4 : ab_mcok ab_P 220 1 (987, 89, 986, 0) = true := by decide +kernel
theorem ab_mc_ok : ∀ k how, ab_hw[k]? = some how → how ≠ 9 → ∃ q, ab_mcok ab_P k how q = true := by
  intro k how hk h9
  have hl : k < 222 := (List.getElem?_eq_some_iff.mp hk).1
  revert hk h9
  revert how
  revert k
  have key : ∀ (n : Nat) (l : List Nat) (P : Nat → Nat → Prop), True := fun _ _ _ => trivial
  intro k hl how hk h9
  by_cases c0_222 : k < 111
  · by_cases c0_111 : k < 55
    · by_cases c0_55 : k < 27
      · by_cases c0_27 : k < 13
        · by_cases c0_13 : k < 6
          · by_cases c0_6 : k < 3
            · by_cases c0_3 : k < 1
              · have e : k = 0 := by omega
                subst e
                obtain rfl : 2 = how := Option.some.inj hk
                exact ⟨_, mX0_init⟩
              · by_cases c1_3 : k < 2
                · have e : k = 1 := by omega
                  subst e
                  obtain rfl : 0 = how := Option.some.inj hk
                  exact ⟨_, mX0_take⟩
                · have e : k = 2 := by omega
                  subst e
                  obtain rfl : 0 = how := Option.some.inj hk
                  exact ⟨_, mX0_addChild⟩
            · by_cases c3_6 : k < 4
              · have e : k = 3 := by omega
                subst e
                obtain rfl : 0 = how := Option.some.inj hk
                exact ⟨_, mX0_append⟩
              · by_cases c4_6 : k < 5
                · have e : k = 4 := by omega
                  subst e
                  obtain rfl : 0 = how := Option.some.inj hk
                  exact ⟨_, mX0_alike⟩
                · have e : k = 5 := by omega
                  subst e
                  obtain rfl : 0 = how := Option.some.inj hk
                  exact ⟨_, mX0_onesOf⟩
          · by_cases c6_13 : k < 9
            · by_cases c6_9 : k < 7
              · have e : k = 6 := by omega
                subst e
                obtain rfl : 0 = how := Option.some.inj hk
                exact ⟨_, mX0_leads⟩
              · by_cases c7_9 : k < 8
                · have e : k = 7 := by omega
                  subst e
                  obtain rfl : 0 = how := Option.some.inj hk
                  exact ⟨_, mX0_howMany⟩
                · have e : k = 8 := by omega
                  subst e
                  obtain rfl : 0 = how := Option.some.inj hk
                  exact ⟨_, mX0_loneOnes⟩
            · by_cases c9_13 : k < 11
              · by_cases c9_11 : k < 10
                · have e : k = 9 := by omega
                  subst e
                  obtain rfl : 0 = how := Option.some.inj hk
                  exact ⟨_, mX0_debtOf⟩
                · have e : k = 10 := by omega
                  subst e
                  obtain rfl : 0 = how := Option.some.inj hk
                  exact ⟨_, mX0_wealthOf⟩
              · by_cases c11_13 : k < 12
                · have e : k = 11 := by omega
                  subst e
                  obtain rfl : 0 = how := Option.some.inj hk
                  exact ⟨_, mX0_totalOf⟩
                · have e : k = 12 := by omega
                  subst e
                  obtain rfl : 0 = how := Option.some.inj hk
                  exact ⟨_, mX0_worthHaving⟩
        · by_cases c13_27 : k < 20
          · by_cases c13_20 : k < 16
            · by_cases c13_16 : k < 14
              · have e : k = 13 := by omega
                subst e
                obtain rfl : 0 = how := Option.some.inj hk
                exact ⟨_, mX0_worthHavingOfChild⟩
              · by_cases c14_16 : k < 15
                · have e : k = 14 := by omega
                  subst e
                  obtain rfl : 0 = how := Option.some.inj hk
                  exact ⟨_, mX0_livingOnes⟩
                · have e : k = 15 := by omega
                  subst e
                  obtain rfl : 0 = how := Option.some.inj hk
                  exact ⟨_, mX0_voters⟩
            · by_cases c16_20 : k < 18
              · by_cases c16_18 : k < 17
                · have e : k = 16 := by omega
                  subst e
                  obtain rfl : 0 = how := Option.some.inj hk
                  exact ⟨_, mX0_livingOnesOf⟩
                · have e : k = 17 := by omega
                  subst e
                  obtain rfl : 0 = how := Option.some.inj hk
                  exact ⟨_, mX0_holds⟩
              · by_cases c18_20 : k < 19
                · have e : k = 18 := by omega
                  subst e
                  obtain rfl : 0 = how := Option.some.inj hk
                  exact ⟨_, mX0_weigh⟩
                · have e : k = 19 := by omega
                  subst e
                  obtain rfl : 0 = how := Option.some.inj hk
                  exact ⟨_, mX0_shift⟩
          · by_cases c20_27 : k < 23
            · by_cases c20_23 : k < 21
              · have e : k = 20 := by omega
                subst e
                obtain rfl : 2 = how := Option.some.inj hk
                exact ⟨_, mX1_init⟩
              · by_cases c21_23 : k < 22
                · have e : k = 21 := by omega
                  subst e
                  obtain rfl : 0 = how := Option.some.inj hk
                  exact ⟨_, mX1_clear⟩
                · have e : k = 22 := by omega
                  subst e
                  obtain rfl : 0 = how := Option.some.inj hk
                  exact ⟨_, mX1_copy⟩
            · by_cases c23_27 : k < 25
              · by_cases c23_25 : k < 24
                · have e : k = 23 := by omega
                  subst e
                  obtain rfl : 0 = how := Option.some.inj hk
                  exact ⟨_, mX1_weight⟩
                · have e : k = 24 := by omega
                  subst e
                  obtain rfl : 0 = how := Option.some.inj hk
                  exact ⟨_, mX1_shareOf⟩
              · by_cases c25_27 : k < 26
                · have e : k = 25 := by omega
                  subst e
                  obtain rfl : 0 = how := Option.some.inj hk
                  exact ⟨_, mX1_sumOf⟩
                · have e : k = 26 := by omega
                  subst e
                  obtain rfl : 0 = how := Option.some.inj hk
                  exact ⟨_, mX1_sumOfOne⟩
      · by_cases c27_55 : k < 41
        · by_cases c27_41 : k < 34
          · by_cases c27_34 : k < 30
            · by_cases c27_30 : k < 28
              · have e : k = 27 := by omega
                subst e
                obtain rfl : 0 = how := Option.some.inj hk
                exact ⟨_, mX1_weightIn⟩
              · by_cases c28_30 : k < 29
                · have e : k = 28 := by omega
                  subst e
                  obtain rfl : 0 = how := Option.some.inj hk
                  exact ⟨_, mX1_lettersOfAll⟩
                · have e : k = 29 := by omega
                  subst e
                  obtain rfl : 0 = how := Option.some.inj hk
                  exact ⟨_, mX1_worthsOfAll⟩
            · by_cases c30_34 : k < 32
              · by_cases c30_32 : k < 31
                · have e : k = 30 := by omega
                  subst e
                  obtain rfl : 2 = how := Option.some.inj hk
                  exact ⟨_, mX2_init⟩
                · have e : k = 31 := by omega
                  subst e
                  obtain rfl : 0 = how := Option.some.inj hk
                  exact ⟨_, mX2_hasPlace⟩
              · by_cases c32_34 : k < 33
                · have e : k = 32 := by omega
                  subst e
                  obtain rfl : 0 = how := Option.some.inj hk
                  exact ⟨_, mX2_letterAt⟩
                · have e : k = 33 := by omega
                  subst e
                  obtain rfl : 0 = how := Option.some.inj hk
                  exact ⟨_, mX2_clear⟩
          · by_cases c34_41 : k < 37
            · by_cases c34_37 : k < 35
              · have e : k = 34 := by omega
                subst e
                obtain rfl : 0 = how := Option.some.inj hk
                exact ⟨_, mX2_add⟩
              · by_cases c35_37 : k < 36
                · have e : k = 35 := by omega
                  subst e
                  obtain rfl : 0 = how := Option.some.inj hk
                  exact ⟨_, mX2_addAll⟩
                · have e : k = 36 := by omega
                  subst e
                  obtain rfl : 0 = how := Option.some.inj hk
                  exact ⟨_, mX2_copy⟩
            · by_cases c37_41 : k < 39
              · by_cases c37_39 : k < 38
                · have e : k = 37 := by omega
                  subst e
                  obtain rfl : 0 = how := Option.some.inj hk
                  exact ⟨_, mX2_join⟩
                · have e : k = 38 := by omega
                  subst e
                  obtain rfl : 2 = how := Option.some.inj hk
                  exact ⟨_, mX3_init⟩
              · by_cases c39_41 : k < 40
                · have e : k = 39 := by omega
                  subst e
                  obtain rfl : 0 = how := Option.some.inj hk
                  exact ⟨_, mX3_copy⟩
                · have e : k = 40 := by omega
                  subst e
                  obtain rfl : 2 = how := Option.some.inj hk
                  exact ⟨_, mX4_init⟩
        · by_cases c41_55 : k < 48
          · by_cases c41_48 : k < 44
            · by_cases c41_44 : k < 42
              · have e : k = 41 := by omega
                subst e
                obtain rfl : 0 = how := Option.some.inj hk
                exact ⟨_, mX4_find⟩
              · by_cases c42_44 : k < 43
                · have e : k = 42 := by omega
                  subst e
                  obtain rfl : 0 = how := Option.some.inj hk
                  exact ⟨_, mX4_weigh⟩
                · have e : k = 43 := by omega
                  subst e
                  obtain rfl : 0 = how := Option.some.inj hk
                  exact ⟨_, mX4_fits⟩
            · by_cases c44_48 : k < 46
              · by_cases c44_46 : k < 45
                · have e : k = 44 := by omega
                  subst e
                  obtain rfl : 0 = how := Option.some.inj hk
                  exact ⟨_, mX4_take⟩
                · have e : k = 45 := by omega
                  subst e
                  obtain rfl : 2 = how := Option.some.inj hk
                  exact ⟨_, mX5_init⟩
              · by_cases c46_48 : k < 47
                · have e : k = 46 := by omega
                  subst e
                  obtain rfl : 0 = how := Option.some.inj hk
                  exact ⟨_, mX5_find⟩
                · have e : k = 47 := by omega
                  subst e
                  obtain rfl : 0 = how := Option.some.inj hk
                  exact ⟨_, mX5_takeShares⟩
          · by_cases c48_55 : k < 51
            · by_cases c48_51 : k < 49
              · have e : k = 48 := by omega
                subst e
                obtain rfl : 0 = how := Option.some.inj hk
                exact ⟨_, mX5_addPlace⟩
              · by_cases c49_51 : k < 50
                · have e : k = 49 := by omega
                  subst e
                  obtain rfl : 0 = how := Option.some.inj hk
                  exact ⟨_, mX5_leastEntry⟩
                · have e : k = 50 := by omega
                  subst e
                  obtain rfl : 1 = how := Option.some.inj hk
                  exact ⟨_, mX5_unit⟩
            · by_cases c51_55 : k < 53
              · by_cases c51_53 : k < 52
                · have e : k = 51 := by omega
                  subst e
                  obtain rfl : 1 = how := Option.some.inj hk
                  exact ⟨_, mX5_shiftOf⟩
                · have e : k = 52 := by omega
                  subst e
                  obtain rfl : 0 = how := Option.some.inj hk
                  exact ⟨_, mX5_reach⟩
              · by_cases c53_55 : k < 54
                · have e : k = 53 := by omega
                  subst e
                  obtain rfl : 0 = how := Option.some.inj hk
                  exact ⟨_, mX5_leastFor⟩
                · have e : k = 54 := by omega
                  subst e
                  obtain rfl : 0 = how := Option.some.inj hk
                  exact ⟨_, mX5_atPlace⟩
    · by_cases c55_111 : k < 83
      · by_cases c55_83 : k < 69
        · by_cases c55_69 : k < 62
          · by_cases c55_62 : k < 58
            · by_cases c55_58 : k < 56
              · have e : k = 55 := by omega
                subst e
                obtain rfl : 2 = how := Option.some.inj hk
                exact ⟨_, mX6_init⟩
              · by_cases c56_58 : k < 57
                · have e : k = 56 := by omega
                  subst e
                  obtain rfl : 0 = how := Option.some.inj hk
                  exact ⟨_, mX6_exchange⟩
                · have e : k = 57 := by omega
                  subst e
                  obtain rfl : 0 = how := Option.some.inj hk
                  exact ⟨_, mX6_tell⟩
            · by_cases c58_62 : k < 60
              · by_cases c58_60 : k < 59
                · have e : k = 58 := by omega
                  subst e
                  obtain rfl : 0 = how := Option.some.inj hk
                  exact ⟨_, mX6_begin⟩
                · have e : k = 59 := by omega
                  subst e
                  obtain rfl : 0 = how := Option.some.inj hk
                  exact ⟨_, mX6_refuse⟩
              · by_cases c60_62 : k < 61
                · have e : k = 60 := by omega
                  subst e
                  obtain rfl : 0 = how := Option.some.inj hk
                  exact ⟨_, mX6_tellLine⟩
                · have e : k = 61 := by omega
                  subst e
                  obtain rfl : 0 = how := Option.some.inj hk
                  exact ⟨_, mX6_tellLaw⟩
          · by_cases c62_69 : k < 65
            · by_cases c62_65 : k < 63
              · have e : k = 62 := by omega
                subst e
                obtain rfl : 0 = how := Option.some.inj hk
                exact ⟨_, mX6_tellFee⟩
              · by_cases c63_65 : k < 64
                · have e : k = 63 := by omega
                  subst e
                  obtain rfl : 0 = how := Option.some.inj hk
                  exact ⟨_, mX6_tellLetter⟩
                · have e : k = 64 := by omega
                  subst e
                  obtain rfl : 0 = how := Option.some.inj hk
                  exact ⟨_, mX6_tellOne⟩
            · by_cases c65_69 : k < 67
              · by_cases c65_67 : k < 66
                · have e : k = 65 := by omega
                  subst e
                  obtain rfl : 0 = how := Option.some.inj hk
                  exact ⟨_, mX6_takeKind⟩
                · have e : k = 66 := by omega
                  subst e
                  obtain rfl : 0 = how := Option.some.inj hk
                  exact ⟨_, mX6_tellList⟩
              · by_cases c67_69 : k < 68
                · have e : k = 67 := by omega
                  subst e
                  obtain rfl : 0 = how := Option.some.inj hk
                  exact ⟨_, mX6_addListed⟩
                · have e : k = 68 := by omega
                  subst e
                  obtain rfl : 0 = how := Option.some.inj hk
                  exact ⟨_, mX6_tellKnown⟩
        · by_cases c69_83 : k < 76
          · by_cases c69_76 : k < 72
            · by_cases c69_72 : k < 70
              · have e : k = 69 := by omega
                subst e
                obtain rfl : 0 = how := Option.some.inj hk
                exact ⟨_, mX6_allKnownAreListed⟩
              · by_cases c70_72 : k < 71
                · have e : k = 70 := by omega
                  subst e
                  obtain rfl : 0 = how := Option.some.inj hk
                  exact ⟨_, mX6_takeNumber⟩
                · have e : k = 71 := by omega
                  subst e
                  obtain rfl : 0 = how := Option.some.inj hk
                  exact ⟨_, mX6_takeWord⟩
            · by_cases c72_76 : k < 74
              · by_cases c72_74 : k < 73
                · have e : k = 72 := by omega
                  subst e
                  obtain rfl : 0 = how := Option.some.inj hk
                  exact ⟨_, mX6_takeSemicolon⟩
                · have e : k = 73 := by omega
                  subst e
                  obtain rfl : 0 = how := Option.some.inj hk
                  exact ⟨_, mX6_advance⟩
              · by_cases c74_76 : k < 75
                · have e : k = 74 := by omega
                  subst e
                  obtain rfl : 0 = how := Option.some.inj hk
                  exact ⟨_, mX6_takeFigures⟩
                · have e : k = 75 := by omega
                  subst e
                  obtain rfl : 0 = how := Option.some.inj hk
                  exact ⟨_, mX6_endOfRun⟩
          · by_cases c76_83 : k < 79
            · by_cases c76_79 : k < 77
              · have e : k = 76 := by omega
                subst e
                obtain rfl : 0 = how := Option.some.inj hk
                exact ⟨_, mX6_byteAt⟩
              · by_cases c77_79 : k < 78
                · have e : k = 77 := by omega
                  subst e
                  obtain rfl : 0 = how := Option.some.inj hk
                  exact ⟨_, mX6_says⟩
                · have e : k = 78 := by omega
                  subst e
                  obtain rfl : 0 = how := Option.some.inj hk
                  exact ⟨_, mX6_copyWord⟩
            · by_cases c79_83 : k < 81
              · by_cases c79_81 : k < 80
                · have e : k = 79 := by omega
                  subst e
                  obtain rfl : 2 = how := Option.some.inj hk
                  exact ⟨_, mX7_init⟩
                · have e : k = 80 := by omega
                  subst e
                  obtain rfl : 0 = how := Option.some.inj hk
                  exact ⟨_, mX7_begin⟩
              · by_cases c81_83 : k < 82
                · have e : k = 81 := by omega
                  subst e
                  obtain rfl : 0 = how := Option.some.inj hk
                  exact ⟨_, mX7_faultAt⟩
                · have e : k = 82 := by omega
                  subst e
                  obtain rfl : 0 = how := Option.some.inj hk
                  exact ⟨_, mX7_faultOfPair⟩
      · by_cases c83_111 : k < 97
        · by_cases c83_97 : k < 90
          · by_cases c83_90 : k < 86
            · by_cases c83_86 : k < 84
              · have e : k = 83 := by omega
                subst e
                obtain rfl : 0 = how := Option.some.inj hk
                exact ⟨_, mX7_firstOfPair⟩
              · by_cases c84_86 : k < 85
                · have e : k = 84 := by omega
                  subst e
                  obtain rfl : 0 = how := Option.some.inj hk
                  exact ⟨_, mX7_secondOfPair⟩
                · have e : k = 85 := by omega
                  subst e
                  obtain rfl : 0 = how := Option.some.inj hk
                  exact ⟨_, mX7_cellAt⟩
            · by_cases c86_90 : k < 88
              · by_cases c86_88 : k < 87
                · have e : k = 86 := by omega
                  subst e
                  obtain rfl : 0 = how := Option.some.inj hk
                  exact ⟨_, mX7_put⟩
                · have e : k = 87 := by omega
                  subst e
                  obtain rfl : 2 = how := Option.some.inj hk
                  exact ⟨_, mX8_init⟩
              · by_cases c88_90 : k < 89
                · have e : k = 88 := by omega
                  subst e
                  obtain rfl : 0 = how := Option.some.inj hk
                  exact ⟨_, mX8_append⟩
                · have e : k = 89 := by omega
                  subst e
                  obtain rfl : 2 = how := Option.some.inj hk
                  exact ⟨_, mX9_init⟩
          · by_cases c90_97 : k < 93
            · by_cases c90_93 : k < 91
              · have e : k = 90 := by omega
                subst e
                obtain rfl : 0 = how := Option.some.inj hk
                exact ⟨_, mX9_clear⟩
              · by_cases c91_93 : k < 92
                · have e : k = 91 := by omega
                  subst e
                  obtain rfl : 0 = how := Option.some.inj hk
                  exact ⟨_, mX9_lists⟩
                · have e : k = 92 := by omega
                  subst e
                  obtain rfl : 0 = how := Option.some.inj hk
                  exact ⟨_, mX9_listedSum⟩
            · by_cases c93_97 : k < 95
              · by_cases c93_95 : k < 94
                · have e : k = 93 := by omega
                  subst e
                  obtain rfl : 0 = how := Option.some.inj hk
                  exact ⟨_, mX9_addKnown⟩
                · have e : k = 94 := by omega
                  subst e
                  obtain rfl : 2 = how := Option.some.inj hk
                  exact ⟨_, mX10_init⟩
              · by_cases c95_97 : k < 96
                · have e : k = 95 := by omega
                  subst e
                  obtain rfl : 0 = how := Option.some.inj hk
                  exact ⟨_, mX10_feed⟩
                · have e : k = 96 := by omega
                  subst e
                  obtain rfl : 0 = how := Option.some.inj hk
                  exact ⟨_, mX10_end⟩
        · by_cases c97_111 : k < 104
          · by_cases c97_104 : k < 100
            · by_cases c97_100 : k < 98
              · have e : k = 97 := by omega
                subst e
                obtain rfl : 0 = how := Option.some.inj hk
                exact ⟨_, mX10_text⟩
              · by_cases c98_100 : k < 99
                · have e : k = 98 := by omega
                  subst e
                  obtain rfl : 0 = how := Option.some.inj hk
                  exact ⟨_, mX10_fault⟩
                · have e : k = 99 := by omega
                  subst e
                  obtain rfl : 0 = how := Option.some.inj hk
                  exact ⟨_, mX10_rule⟩
            · by_cases c100_104 : k < 102
              · by_cases c100_102 : k < 101
                · have e : k = 100 := by omega
                  subst e
                  obtain rfl : 0 = how := Option.some.inj hk
                  exact ⟨_, mX10_worth⟩
                · have e : k = 101 := by omega
                  subst e
                  obtain rfl : 0 = how := Option.some.inj hk
                  exact ⟨_, mX10_one⟩
              · by_cases c102_104 : k < 103
                · have e : k = 102 := by omega
                  subst e
                  obtain rfl : 0 = how := Option.some.inj hk
                  exact ⟨_, mX10_listed⟩
                · have e : k = 103 := by omega
                  subst e
                  obtain rfl : 0 = how := Option.some.inj hk
                  exact ⟨_, mX10_letter⟩
          · by_cases c104_111 : k < 107
            · by_cases c104_107 : k < 105
              · have e : k = 104 := by omega
                subst e
                obtain rfl : 0 = how := Option.some.inj hk
                exact ⟨_, mX10_law⟩
              · by_cases c105_107 : k < 106
                · have e : k = 105 := by omega
                  subst e
                  obtain rfl : 0 = how := Option.some.inj hk
                  exact ⟨_, mX10_fee⟩
                · have e : k = 106 := by omega
                  subst e
                  obtain rfl : 0 = how := Option.some.inj hk
                  exact ⟨_, mX10_debt⟩
            · by_cases c107_111 : k < 109
              · by_cases c107_109 : k < 108
                · have e : k = 107 := by omega
                  subst e
                  obtain rfl : 0 = how := Option.some.inj hk
                  exact ⟨_, mX10_wealth⟩
                · have e : k = 108 := by omega
                  subst e
                  obtain rfl : 0 = how := Option.some.inj hk
                  exact ⟨_, mX10_become⟩
              · by_cases c109_111 : k < 110
                · have e : k = 109 := by omega
                  subst e
                  obtain rfl : 0 = how := Option.some.inj hk
                  exact ⟨_, mX10_bear⟩
                · have e : k = 110 := by omega
                  subst e
                  obtain rfl : 0 = how := Option.some.inj hk
                  exact ⟨_, mX10_wed⟩
  · by_cases c111_222 : k < 166
    · by_cases c111_166 : k < 138
      · by_cases c111_138 : k < 124
        · by_cases c111_124 : k < 117
          · by_cases c111_117 : k < 114
            · by_cases c111_114 : k < 112
              · have e : k = 111 := by omega
                subst e
                obtain rfl : 0 = how := Option.some.inj hk
                exact ⟨_, mX10_sum⟩
              · by_cases c112_114 : k < 113
                · have e : k = 112 := by omega
                  subst e
                  obtain rfl : 0 = how := Option.some.inj hk
                  exact ⟨_, mX10_person⟩
                · have e : k = 113 := by omega
                  subst e
                  obtain rfl : 0 = how := Option.some.inj hk
                  exact ⟨_, mX10_persons⟩
            · by_cases c114_117 : k < 115
              · have e : k = 114 := by omega
                subst e
                obtain rfl : 0 = how := Option.some.inj hk
                exact ⟨_, mX10_lone⟩
              · by_cases c115_117 : k < 116
                · have e : k = 115 := by omega
                  subst e
                  obtain rfl : 0 = how := Option.some.inj hk
                  exact ⟨_, mX10_owes⟩
                · have e : k = 116 := by omega
                  subst e
                  obtain rfl : 0 = how := Option.some.inj hk
                  exact ⟨_, mX10_has⟩
          · by_cases c117_124 : k < 120
            · by_cases c117_120 : k < 118
              · have e : k = 117 := by omega
                subst e
                obtain rfl : 0 = how := Option.some.inj hk
                exact ⟨_, mX10_votes⟩
              · by_cases c118_120 : k < 119
                · have e : k = 118 := by omega
                  subst e
                  obtain rfl : 0 = how := Option.some.inj hk
                  exact ⟨_, mX10_heirs⟩
                · have e : k = 119 := by omega
                  subst e
                  obtain rfl : 0 = how := Option.some.inj hk
                  exact ⟨_, mX10_change⟩
            · by_cases c120_124 : k < 122
              · by_cases c120_122 : k < 121
                · have e : k = 120 := by omega
                  subst e
                  obtain rfl : 0 = how := Option.some.inj hk
                  exact ⟨_, mX10_rid⟩
                · have e : k = 121 := by omega
                  subst e
                  obtain rfl : 0 = how := Option.some.inj hk
                  exact ⟨_, mX10_call⟩
              · by_cases c122_124 : k < 123
                · have e : k = 122 := by omega
                  subst e
                  obtain rfl : 0 = how := Option.some.inj hk
                  exact ⟨_, mX10_match⟩
                · have e : k = 123 := by omega
                  subst e
                  obtain rfl : 0 = how := Option.some.inj hk
                  exact ⟨_, mX10_crowd⟩
        · by_cases c124_138 : k < 131
          · by_cases c124_131 : k < 127
            · by_cases c124_127 : k < 125
              · have e : k = 124 := by omega
                subst e
                obtain rfl : 0 = how := Option.some.inj hk
                exact ⟨_, mX10_part⟩
              · by_cases c125_127 : k < 126
                · have e : k = 125 := by omega
                  subst e
                  obtain rfl : 0 = how := Option.some.inj hk
                  exact ⟨_, mX10_know⟩
                · have e : k = 126 := by omega
                  subst e
                  obtain rfl : 0 = how := Option.some.inj hk
                  exact ⟨_, mX10_forget⟩
            · by_cases c127_131 : k < 129
              · by_cases c127_129 : k < 128
                · have e : k = 127 := by omega
                  subst e
                  obtain rfl : 0 = how := Option.some.inj hk
                  exact ⟨_, mX10_solve⟩
                · have e : k = 128 := by omega
                  subst e
                  obtain rfl : 0 = how := Option.some.inj hk
                  exact ⟨_, mX10_year⟩
              · by_cases c129_131 : k < 130
                · have e : k = 129 := by omega
                  subst e
                  obtain rfl : 0 = how := Option.some.inj hk
                  exact ⟨_, mX10_keep⟩
                · have e : k = 130 := by omega
                  subst e
                  obtain rfl : 0 = how := Option.some.inj hk
                  exact ⟨_, mX10_back⟩
          · by_cases c131_138 : k < 134
            · by_cases c131_134 : k < 132
              · have e : k = 131 := by omega
                subst e
                obtain rfl : 0 = how := Option.some.inj hk
                exact ⟨_, mX10_sheet⟩
              · by_cases c132_134 : k < 133
                · have e : k = 132 := by omega
                  subst e
                  obtain rfl : 0 = how := Option.some.inj hk
                  exact ⟨_, mX10_lay⟩
                · have e : k = 133 := by omega
                  subst e
                  obtain rfl : 0 = how := Option.some.inj hk
                  exact ⟨_, mX10_read⟩
            · by_cases c134_138 : k < 136
              · by_cases c134_136 : k < 135
                · have e : k = 134 := by omega
                  subst e
                  obtain rfl : 0 = how := Option.some.inj hk
                  exact ⟨_, mX10_torn⟩
                · have e : k = 135 := by omega
                  subst e
                  obtain rfl : 0 = how := Option.some.inj hk
                  exact ⟨_, mX10_count⟩
              · by_cases c136_138 : k < 137
                · have e : k = 136 := by omega
                  subst e
                  obtain rfl : 1 = how := Option.some.inj hk
                  exact ⟨_, mX10_within⟩
                · have e : k = 137 := by omega
                  subst e
                  obtain rfl : 1 = how := Option.some.inj hk
                  exact ⟨_, mX10_isLetter⟩
      · by_cases c138_166 : k < 152
        · by_cases c138_152 : k < 145
          · by_cases c138_145 : k < 141
            · by_cases c138_141 : k < 139
              · have e : k = 138 := by omega
                subst e
                obtain rfl : 1 = how := Option.some.inj hk
                exact ⟨_, mX10_isLetterAndWorth⟩
              · by_cases c139_141 : k < 140
                · have e : k = 139 := by omega
                  subst e
                  obtain rfl : 0 = how := Option.some.inj hk
                  exact ⟨_, mX10_isOne⟩
                · have e : k = 140 := by omega
                  subst e
                  obtain rfl : 0 = how := Option.some.inj hk
                  exact ⟨_, mX10_imagesKept⟩
            · by_cases c141_145 : k < 143
              · by_cases c141_143 : k < 142
                · have e : k = 141 := by omega
                  subst e
                  obtain rfl : 0 = how := Option.some.inj hk
                  exact ⟨_, mX10_forgetImages⟩
                · have e : k = 142 := by omega
                  subst e
                  obtain rfl : 0 = how := Option.some.inj hk
                  exact ⟨_, mX10_worthOfWedding⟩
              · by_cases c143_145 : k < 144
                · have e : k = 143 := by omega
                  subst e
                  obtain rfl : 2 = how := Option.some.inj hk
                  exact ⟨_, mX11_init⟩
                · have e : k = 144 := by omega
                  subst e
                  obtain rfl : 1 = how := Option.some.inj hk
                  exact ⟨_, mX11_in⟩
          · by_cases c145_152 : k < 148
            · by_cases c145_148 : k < 146
              · have e : k = 145 := by omega
                subst e
                obtain rfl : 0 = how := Option.some.inj hk
                exact ⟨_, mX11_feed⟩
              · by_cases c146_148 : k < 147
                · have e : k = 146 := by omega
                  subst e
                  obtain rfl : 0 = how := Option.some.inj hk
                  exact ⟨_, mX11_end⟩
                · have e : k = 147 := by omega
                  subst e
                  obtain rfl : 0 = how := Option.some.inj hk
                  exact ⟨_, mX11_byteAt⟩
            · by_cases c148_152 : k < 150
              · by_cases c148_150 : k < 149
                · have e : k = 148 := by omega
                  subst e
                  obtain rfl : 0 = how := Option.some.inj hk
                  exact ⟨_, mX11_fails⟩
                · have e : k = 149 := by omega
                  subst e
                  obtain rfl : 0 = how := Option.some.inj hk
                  exact ⟨_, mX11_wordHere⟩
              · by_cases c150_152 : k < 151
                · have e : k = 150 := by omega
                  subst e
                  obtain rfl : 0 = how := Option.some.inj hk
                  exact ⟨_, mX11_step⟩
                · have e : k = 151 := by omega
                  subst e
                  obtain rfl : 0 = how := Option.some.inj hk
                  exact ⟨_, mX11_number⟩
        · by_cases c152_166 : k < 159
          · by_cases c152_159 : k < 155
            · by_cases c152_155 : k < 153
              · have e : k = 152 := by omega
                subst e
                obtain rfl : 0 = how := Option.some.inj hk
                exact ⟨_, mX11_longHere⟩
              · by_cases c153_155 : k < 154
                · have e : k = 153 := by omega
                  subst e
                  obtain rfl : 0 = how := Option.some.inj hk
                  exact ⟨_, mX11_readLetter⟩
                · have e : k = 154 := by omega
                  subst e
                  obtain rfl : 0 = how := Option.some.inj hk
                  exact ⟨_, mX11_readOne⟩
            · by_cases c155_159 : k < 157
              · by_cases c155_157 : k < 156
                · have e : k = 155 := by omega
                  subst e
                  obtain rfl : 0 = how := Option.some.inj hk
                  exact ⟨_, mX11_readNamesMore⟩
                · have e : k = 156 := by omega
                  subst e
                  obtain rfl : 0 = how := Option.some.inj hk
                  exact ⟨_, mX11_hasRoom⟩
              · by_cases c157_159 : k < 158
                · have e : k = 157 := by omega
                  subst e
                  obtain rfl : 0 = how := Option.some.inj hk
                  exact ⟨_, mX11_readMore⟩
                · have e : k = 158 := by omega
                  subst e
                  obtain rfl : 0 = how := Option.some.inj hk
                  exact ⟨_, mX11_readLine⟩
          · by_cases c159_166 : k < 162
            · by_cases c159_162 : k < 160
              · have e : k = 159 := by omega
                subst e
                obtain rfl : 0 = how := Option.some.inj hk
                exact ⟨_, mX11_text⟩
              · by_cases c160_162 : k < 161
                · have e : k = 160 := by omega
                  subst e
                  obtain rfl : 0 = how := Option.some.inj hk
                  exact ⟨_, mX11_fault⟩
                · have e : k = 161 := by omega
                  subst e
                  obtain rfl : 0 = how := Option.some.inj hk
                  exact ⟨_, mX11_people⟩
            · by_cases c162_166 : k < 164
              · by_cases c162_164 : k < 163
                · have e : k = 162 := by omega
                  subst e
                  obtain rfl : 0 = how := Option.some.inj hk
                  exact ⟨_, mX11_isOne⟩
                · have e : k = 163 := by omega
                  subst e
                  obtain rfl : 0 = how := Option.some.inj hk
                  exact ⟨_, mX11_isListed⟩
              · by_cases c164_166 : k < 165
                · have e : k = 164 := by omega
                  subst e
                  obtain rfl : 1 = how := Option.some.inj hk
                  exact ⟨_, mX11_isLetter⟩
                · have e : k = 165 := by omega
                  subst e
                  obtain rfl : 0 = how := Option.some.inj hk
                  exact ⟨_, mX11_feeNow⟩
    · by_cases c166_222 : k < 194
      · by_cases c166_194 : k < 180
        · by_cases c166_180 : k < 173
          · by_cases c166_173 : k < 169
            · by_cases c166_169 : k < 167
              · have e : k = 166 := by omega
                subst e
                obtain rfl : 0 = how := Option.some.inj hk
                exact ⟨_, mX11_worthOf⟩
              · by_cases c167_169 : k < 168
                · have e : k = 167 := by omega
                  subst e
                  obtain rfl : 0 = how := Option.some.inj hk
                  exact ⟨_, mX11_rule⟩
                · have e : k = 168 := by omega
                  subst e
                  obtain rfl : 0 = how := Option.some.inj hk
                  exact ⟨_, mX11_worth⟩
            · by_cases c169_173 : k < 171
              · by_cases c169_171 : k < 170
                · have e : k = 169 := by omega
                  subst e
                  obtain rfl : 0 = how := Option.some.inj hk
                  exact ⟨_, mX11_longOf⟩
                · have e : k = 170 := by omega
                  subst e
                  obtain rfl : 0 = how := Option.some.inj hk
                  exact ⟨_, mX11_kindOf⟩
              · by_cases c171_173 : k < 172
                · have e : k = 171 := by omega
                  subst e
                  obtain rfl : 0 = how := Option.some.inj hk
                  exact ⟨_, mX11_one⟩
                · have e : k = 172 := by omega
                  subst e
                  obtain rfl : 0 = how := Option.some.inj hk
                  exact ⟨_, mX11_counts⟩
          · by_cases c173_180 : k < 176
            · by_cases c173_176 : k < 174
              · have e : k = 173 := by omega
                subst e
                obtain rfl : 0 = how := Option.some.inj hk
                exact ⟨_, mX11_listSum⟩
              · by_cases c174_176 : k < 175
                · have e : k = 174 := by omega
                  subst e
                  obtain rfl : 0 = how := Option.some.inj hk
                  exact ⟨_, mX11_listed⟩
                · have e : k = 175 := by omega
                  subst e
                  obtain rfl : 0 = how := Option.some.inj hk
                  exact ⟨_, mX11_sets⟩
            · by_cases c176_180 : k < 178
              · by_cases c176_178 : k < 177
                · have e : k = 176 := by omega
                  subst e
                  obtain rfl : 0 = how := Option.some.inj hk
                  exact ⟨_, mX11_letterIs⟩
                · have e : k = 177 := by omega
                  subst e
                  obtain rfl : 0 = how := Option.some.inj hk
                  exact ⟨_, mX11_letter⟩
              · by_cases c178_180 : k < 179
                · have e : k = 178 := by omega
                  subst e
                  obtain rfl : 0 = how := Option.some.inj hk
                  exact ⟨_, mX11_law⟩
                · have e : k = 179 := by omega
                  subst e
                  obtain rfl : 0 = how := Option.some.inj hk
                  exact ⟨_, mX11_fee⟩
        · by_cases c180_194 : k < 187
          · by_cases c180_187 : k < 183
            · by_cases c180_183 : k < 181
              · have e : k = 180 := by omega
                subst e
                obtain rfl : 0 = how := Option.some.inj hk
                exact ⟨_, mX11_debt⟩
              · by_cases c181_183 : k < 182
                · have e : k = 181 := by omega
                  subst e
                  obtain rfl : 0 = how := Option.some.inj hk
                  exact ⟨_, mX11_wealth⟩
                · have e : k = 182 := by omega
                  subst e
                  obtain rfl : 0 = how := Option.some.inj hk
                  exact ⟨_, mX11_become⟩
            · by_cases c183_187 : k < 185
              · by_cases c183_185 : k < 184
                · have e : k = 183 := by omega
                  subst e
                  obtain rfl : 0 = how := Option.some.inj hk
                  exact ⟨_, mX11_bear⟩
                · have e : k = 184 := by omega
                  subst e
                  obtain rfl : 0 = how := Option.some.inj hk
                  exact ⟨_, mX11_sumOf⟩
              · by_cases c185_187 : k < 186
                · have e : k = 185 := by omega
                  subst e
                  obtain rfl : 0 = how := Option.some.inj hk
                  exact ⟨_, mX11_weds⟩
                · have e : k = 186 := by omega
                  subst e
                  obtain rfl : 0 = how := Option.some.inj hk
                  exact ⟨_, mX11_wed⟩
          · by_cases c187_194 : k < 190
            · by_cases c187_190 : k < 188
              · have e : k = 187 := by omega
                subst e
                obtain rfl : 0 = how := Option.some.inj hk
                exact ⟨_, mX11_sum⟩
              · by_cases c188_190 : k < 189
                · have e : k = 188 := by omega
                  subst e
                  obtain rfl : 0 = how := Option.some.inj hk
                  exact ⟨_, mX11_personOf⟩
                · have e : k = 189 := by omega
                  subst e
                  obtain rfl : 0 = how := Option.some.inj hk
                  exact ⟨_, mX11_person⟩
            · by_cases c190_194 : k < 192
              · by_cases c190_192 : k < 191
                · have e : k = 190 := by omega
                  subst e
                  obtain rfl : 0 = how := Option.some.inj hk
                  exact ⟨_, mX11_persons⟩
                · have e : k = 191 := by omega
                  subst e
                  obtain rfl : 0 = how := Option.some.inj hk
                  exact ⟨_, mX11_lone⟩
              · by_cases c192_194 : k < 193
                · have e : k = 192 := by omega
                  subst e
                  obtain rfl : 0 = how := Option.some.inj hk
                  exact ⟨_, mX11_summed⟩
                · have e : k = 193 := by omega
                  subst e
                  obtain rfl : 0 = how := Option.some.inj hk
                  exact ⟨_, mX11_owes⟩
      · by_cases c194_222 : k < 208
        · by_cases c194_208 : k < 201
          · by_cases c194_201 : k < 197
            · by_cases c194_197 : k < 195
              · have e : k = 194 := by omega
                subst e
                obtain rfl : 0 = how := Option.some.inj hk
                exact ⟨_, mX11_has⟩
              · by_cases c195_197 : k < 196
                · have e : k = 195 := by omega
                  subst e
                  obtain rfl : 0 = how := Option.some.inj hk
                  exact ⟨_, mX11_worthHaving⟩
                · have e : k = 196 := by omega
                  subst e
                  obtain rfl : 0 = how := Option.some.inj hk
                  exact ⟨_, mX11_votes⟩
            · by_cases c197_201 : k < 199
              · by_cases c197_199 : k < 198
                · have e : k = 197 := by omega
                  subst e
                  obtain rfl : 0 = how := Option.some.inj hk
                  exact ⟨_, mX11_heirs⟩
                · have e : k = 198 := by omega
                  subst e
                  obtain rfl : 0 = how := Option.some.inj hk
                  exact ⟨_, mX11_leastBy⟩
              · by_cases c199_201 : k < 200
                · have e : k = 199 := by omega
                  subst e
                  obtain rfl : 0 = how := Option.some.inj hk
                  exact ⟨_, mX11_layChanges⟩
                · have e : k = 200 := by omega
                  subst e
                  obtain rfl : 0 = how := Option.some.inj hk
                  exact ⟨_, mX11_change⟩
          · by_cases c201_208 : k < 204
            · by_cases c201_204 : k < 202
              · have e : k = 201 := by omega
                subst e
                obtain rfl : 0 = how := Option.some.inj hk
                exact ⟨_, mX11_worthAt⟩
              · by_cases c202_204 : k < 203
                · have e : k = 202 := by omega
                  subst e
                  obtain rfl : 0 = how := Option.some.inj hk
                  exact ⟨_, mX11_rid⟩
                · have e : k = 203 := by omega
                  subst e
                  obtain rfl : 0 = how := Option.some.inj hk
                  exact ⟨_, mX11_atSum⟩
            · by_cases c204_208 : k < 206
              · by_cases c204_206 : k < 205
                · have e : k = 204 := by omega
                  subst e
                  obtain rfl : 0 = how := Option.some.inj hk
                  exact ⟨_, mX11_call⟩
                · have e : k = 205 := by omega
                  subst e
                  obtain rfl : 0 = how := Option.some.inj hk
                  exact ⟨_, mX11_copies⟩
              · by_cases c206_208 : k < 207
                · have e : k = 206 := by omega
                  subst e
                  obtain rfl : 0 = how := Option.some.inj hk
                  exact ⟨_, mX11_match⟩
                · have e : k = 207 := by omega
                  subst e
                  obtain rfl : 0 = how := Option.some.inj hk
                  exact ⟨_, mX11_crowd⟩
        · by_cases c208_222 : k < 215
          · by_cases c208_215 : k < 211
            · by_cases c208_211 : k < 209
              · have e : k = 208 := by omega
                subst e
                obtain rfl : 0 = how := Option.some.inj hk
                exact ⟨_, mX11_part⟩
              · by_cases c209_211 : k < 210
                · have e : k = 209 := by omega
                  subst e
                  obtain rfl : 0 = how := Option.some.inj hk
                  exact ⟨_, mX11_know⟩
                · have e : k = 210 := by omega
                  subst e
                  obtain rfl : 0 = how := Option.some.inj hk
                  exact ⟨_, mX11_forget⟩
            · by_cases c211_215 : k < 213
              · by_cases c211_213 : k < 212
                · have e : k = 211 := by omega
                  subst e
                  obtain rfl : 0 = how := Option.some.inj hk
                  exact ⟨_, mX11_solve⟩
                · have e : k = 212 := by omega
                  subst e
                  obtain rfl : 0 = how := Option.some.inj hk
                  exact ⟨_, mX11_year⟩
              · by_cases c213_215 : k < 214
                · have e : k = 213 := by omega
                  subst e
                  obtain rfl : 0 = how := Option.some.inj hk
                  exact ⟨_, mX11_keep⟩
                · have e : k = 214 := by omega
                  subst e
                  obtain rfl : 0 = how := Option.some.inj hk
                  exact ⟨_, mX11_back⟩
          · by_cases c215_222 : k < 218
            · by_cases c215_218 : k < 216
              · have e : k = 215 := by omega
                subst e
                obtain rfl : 0 = how := Option.some.inj hk
                exact ⟨_, mX11_sheet⟩
              · by_cases c216_218 : k < 217
                · have e : k = 216 := by omega
                  subst e
                  obtain rfl : 0 = how := Option.some.inj hk
                  exact ⟨_, mX11_lay⟩
                · have e : k = 217 := by omega
                  subst e
                  obtain rfl : 0 = how := Option.some.inj hk
                  exact ⟨_, mX11_read⟩
            · by_cases c218_222 : k < 220
              · by_cases c218_220 : k < 219
                · have e : k = 218 := by omega
                  subst e
                  obtain rfl : 0 = how := Option.some.inj hk
                  exact ⟨_, mX11_torn⟩
                · have e : k = 219 := by omega
                  subst e
                  obtain rfl : 0 = how := Option.some.inj hk
                  exact ⟨_, mX11_count⟩
              · by_cases c220_222 : k < 221
                · have e : k = 220 := by omega
                  subst e
                  obtain rfl : 1 = how := Option.some.inj hk
                  exact ⟨_, mJ6_bitCount_0f7a4⟩
                · have e : k = 221 := by omega
                  subst e
                  exact absurd (Option.some.inj hk).symm h9
theorem kX0_init : ab_chkI ab_P ab_fl ab_ml pX0_init = true := by decide +kernel
theorem kX0_take : ab_chkI ab_P ab_fl ab_ml pX0_take = true := by decide +kernel
theorem kX0_addChild : ab_chkI ab_P ab_fl ab_ml pX0_addChild = true := by decide +kernel
theorem kX0_append : ab_chkI ab_P ab_fl ab_ml pX0_append = true := by decide +kernel
theorem kX0_alike : ab_chkI ab_P ab_fl ab_ml pX0_alike = true := by decide +kernel
theorem kX0_onesOf : ab_chkI ab_P ab_fl ab_ml pX0_onesOf = true := by decide +kernel
theorem kX0_leads : ab_chkI ab_P ab_fl ab_ml pX0_leads = true := by decide +kernel
theorem kX0_howMany : ab_chkI ab_P ab_fl ab_ml pX0_howMany = true := by decide +kernel
theorem kX0_loneOnes : ab_chkI ab_P ab_fl ab_ml pX0_loneOnes = true := by decide +kernel
theorem kX0_debtOf : ab_chkI ab_P ab_fl ab_ml pX0_debtOf = true := by decide +kernel
theorem kX0_wealthOf : ab_chkI ab_P ab_fl ab_ml pX0_wealthOf = true := by decide +kernel
theorem kX0_totalOf : ab_chkI ab_P ab_fl ab_ml pX0_totalOf = true := by decide +kernel
theorem kX0_worthHaving : ab_chkI ab_P ab_fl ab_ml pX0_worthHaving = true := by decide +kernel
theorem kX0_worthHavingOfChild : ab_chkI ab_P ab_fl ab_ml pX0_worthHavingOfChild = true := by decide +kernel
theorem kX0_livingOnes : ab_chkI ab_P ab_fl ab_ml pX0_livingOnes = true := by decide +kernel
theorem kX0_voters : ab_chkI ab_P ab_fl ab_ml pX0_voters = true := by decide +kernel
theorem kX0_livingOnesOf : ab_chkI ab_P ab_fl ab_ml pX0_livingOnesOf = true := by decide +kernel
theorem kX0_holds : ab_chkI ab_P ab_fl ab_ml pX0_holds = true := by decide +kernel
theorem kX0_weigh : ab_chkI ab_P ab_fl ab_ml pX0_weigh = true := by decide +kernel
theorem kX0_shift : ab_chkI ab_P ab_fl ab_ml pX0_shift = true := by decide +kernel
theorem kX1_init : ab_chkI ab_P ab_fl ab_ml pX1_init = true := by decide +kernel
theorem kX1_clear : ab_chkI ab_P ab_fl ab_ml pX1_clear = true := by decide +kernel
theorem kX1_copy : ab_chkI ab_P ab_fl ab_ml pX1_copy = true := by decide +kernel
theorem kX1_weight : ab_chkI ab_P ab_fl ab_ml pX1_weight = true := by decide +kernel
theorem kX1_shareOf : ab_chkI ab_P ab_fl ab_ml pX1_shareOf = true := by decide +kernel
theorem kX1_sumOf : ab_chkI ab_P ab_fl ab_ml pX1_sumOf = true := by decide +kernel
theorem kX1_sumOfOne : ab_chkI ab_P ab_fl ab_ml pX1_sumOfOne = true := by decide +kernel
theorem kX1_weightIn : ab_chkI ab_P ab_fl ab_ml pX1_weightIn = true := by decide +kernel
theorem kX1_lettersOfAll : ab_chkI ab_P ab_fl ab_ml pX1_lettersOfAll = true := by decide +kernel
theorem kX1_worthsOfAll : ab_chkI ab_P ab_fl ab_ml pX1_worthsOfAll = true := by decide +kernel
theorem kX2_init : ab_chkI ab_P ab_fl ab_ml pX2_init = true := by decide +kernel
theorem kX2_hasPlace : ab_chkI ab_P ab_fl ab_ml pX2_hasPlace = true := by decide +kernel
theorem kX2_letterAt : ab_chkI ab_P ab_fl ab_ml pX2_letterAt = true := by decide +kernel
theorem kX2_clear : ab_chkI ab_P ab_fl ab_ml pX2_clear = true := by decide +kernel
theorem kX2_add : ab_chkI ab_P ab_fl ab_ml pX2_add = true := by decide +kernel
theorem kX2_addAll : ab_chkI ab_P ab_fl ab_ml pX2_addAll = true := by decide +kernel
theorem kX2_copy : ab_chkI ab_P ab_fl ab_ml pX2_copy = true := by decide +kernel
theorem kX2_join : ab_chkI ab_P ab_fl ab_ml pX2_join = true := by decide +kernel
theorem kX3_init : ab_chkI ab_P ab_fl ab_ml pX3_init = true := by decide +kernel
theorem kX3_copy : ab_chkI ab_P ab_fl ab_ml pX3_copy = true := by decide +kernel
theorem kX4_init : ab_chkI ab_P ab_fl ab_ml pX4_init = true := by decide +kernel
theorem kX4_find : ab_chkI ab_P ab_fl ab_ml pX4_find = true := by decide +kernel
theorem kX4_weigh : ab_chkI ab_P ab_fl ab_ml pX4_weigh = true := by decide +kernel
theorem kX4_fits : ab_chkI ab_P ab_fl ab_ml pX4_fits = true := by decide +kernel
theorem kX4_take : ab_chkI ab_P ab_fl ab_ml pX4_take = true := by decide +kernel
theorem kX5_init : ab_chkI ab_P ab_fl ab_ml pX5_init = true := by decide +kernel
theorem kX5_find : ab_chkI ab_P ab_fl ab_ml pX5_find = true := by decide +kernel
theorem kX5_takeShares : ab_chkI ab_P ab_fl ab_ml pX5_takeShares = true := by decide +kernel
theorem kX5_addPlace : ab_chkI ab_P ab_fl ab_ml pX5_addPlace = true := by decide +kernel
theorem kX5_leastEntry : ab_chkI ab_P ab_fl ab_ml pX5_leastEntry = true := by decide +kernel
theorem kX5_unit : ab_chkI ab_P ab_fl ab_ml pX5_unit = true := by decide +kernel
theorem kX5_shiftOf : ab_chkI ab_P ab_fl ab_ml pX5_shiftOf = true := by decide +kernel
theorem kX5_reach : ab_chkI ab_P ab_fl ab_ml pX5_reach = true := by decide +kernel
theorem kX5_leastFor : ab_chkI ab_P ab_fl ab_ml pX5_leastFor = true := by decide +kernel
theorem kX5_atPlace : ab_chkI ab_P ab_fl ab_ml pX5_atPlace = true := by decide +kernel
theorem kX6_init : ab_chkI ab_P ab_fl ab_ml pX6_init = true := by decide +kernel
theorem kX6_exchange : ab_chkI ab_P ab_fl ab_ml pX6_exchange = true := by decide +kernel
theorem kX6_tell : ab_chkI ab_P ab_fl ab_ml pX6_tell = true := by decide +kernel
theorem kX6_begin : ab_chkI ab_P ab_fl ab_ml pX6_begin = true := by decide +kernel
theorem kX6_refuse : ab_chkI ab_P ab_fl ab_ml pX6_refuse = true := by decide +kernel
theorem kX6_tellLine : ab_chkI ab_P ab_fl ab_ml pX6_tellLine = true := by decide +kernel
theorem kX6_tellLaw : ab_chkI ab_P ab_fl ab_ml pX6_tellLaw = true := by decide +kernel
theorem kX6_tellFee : ab_chkI ab_P ab_fl ab_ml pX6_tellFee = true := by decide +kernel
theorem kX6_tellLetter : ab_chkI ab_P ab_fl ab_ml pX6_tellLetter = true := by decide +kernel
theorem kX6_tellOne : ab_chkI ab_P ab_fl ab_ml pX6_tellOne = true := by decide +kernel
theorem kX6_takeKind : ab_chkI ab_P ab_fl ab_ml pX6_takeKind = true := by decide +kernel
theorem kX6_tellList : ab_chkI ab_P ab_fl ab_ml pX6_tellList = true := by decide +kernel
theorem kX6_addListed : ab_chkI ab_P ab_fl ab_ml pX6_addListed = true := by decide +kernel
theorem kX6_tellKnown : ab_chkI ab_P ab_fl ab_ml pX6_tellKnown = true := by decide +kernel
theorem kX6_allKnownAreListed : ab_chkI ab_P ab_fl ab_ml pX6_allKnownAreListed = true := by decide +kernel
theorem kX6_takeNumber : ab_chkI ab_P ab_fl ab_ml pX6_takeNumber = true := by decide +kernel
theorem kX6_takeWord : ab_chkI ab_P ab_fl ab_ml pX6_takeWord = true := by decide +kernel
theorem kX6_takeSemicolon : ab_chkI ab_P ab_fl ab_ml pX6_takeSemicolon = true := by decide +kernel
theorem kX6_advance : ab_chkI ab_P ab_fl ab_ml pX6_advance = true := by decide +kernel
theorem kX6_takeFigures : ab_chkI ab_P ab_fl ab_ml pX6_takeFigures = true := by decide +kernel
theorem kX6_endOfRun : ab_chkI ab_P ab_fl ab_ml pX6_endOfRun = true := by decide +kernel
theorem kX6_byteAt : ab_chkI ab_P ab_fl ab_ml pX6_byteAt = true := by decide +kernel
theorem kX6_says : ab_chkI ab_P ab_fl ab_ml pX6_says = true := by decide +kernel
theorem kX6_copyWord : ab_chkI ab_P ab_fl ab_ml pX6_copyWord = true := by decide +kernel
theorem kX7_init : ab_chkI ab_P ab_fl ab_ml pX7_init = true := by decide +kernel
theorem kX7_begin : ab_chkI ab_P ab_fl ab_ml pX7_begin = true := by decide +kernel
theorem kX7_faultAt : ab_chkI ab_P ab_fl ab_ml pX7_faultAt = true := by decide +kernel
theorem kX7_faultOfPair : ab_chkI ab_P ab_fl ab_ml pX7_faultOfPair = true := by decide +kernel
theorem kX7_firstOfPair : ab_chkI ab_P ab_fl ab_ml pX7_firstOfPair = true := by decide +kernel
theorem kX7_secondOfPair : ab_chkI ab_P ab_fl ab_ml pX7_secondOfPair = true := by decide +kernel
theorem kX7_cellAt : ab_chkI ab_P ab_fl ab_ml pX7_cellAt = true := by decide +kernel
theorem kX7_put : ab_chkI ab_P ab_fl ab_ml pX7_put = true := by decide +kernel
theorem kX8_init : ab_chkI ab_P ab_fl ab_ml pX8_init = true := by decide +kernel
theorem kX8_append : ab_chkI ab_P ab_fl ab_ml pX8_append = true := by decide +kernel
theorem kX9_init : ab_chkI ab_P ab_fl ab_ml pX9_init = true := by decide +kernel
theorem kX9_clear : ab_chkI ab_P ab_fl ab_ml pX9_clear = true := by decide +kernel
theorem kX9_lists : ab_chkI ab_P ab_fl ab_ml pX9_lists = true := by decide +kernel
theorem kX9_listedSum : ab_chkI ab_P ab_fl ab_ml pX9_listedSum = true := by decide +kernel
theorem kX9_addKnown : ab_chkI ab_P ab_fl ab_ml pX9_addKnown = true := by decide +kernel
theorem kX10_init : ab_chkI ab_P ab_fl ab_ml pX10_init = true := by decide +kernel
theorem kX10_feed : ab_chkI ab_P ab_fl ab_ml pX10_feed = true := by decide +kernel
theorem kX10_end : ab_chkI ab_P ab_fl ab_ml pX10_end = true := by decide +kernel
theorem kX10_text : ab_chkI ab_P ab_fl ab_ml pX10_text = true := by decide +kernel
theorem kX10_fault : ab_chkI ab_P ab_fl ab_ml pX10_fault = true := by decide +kernel
theorem kX10_rule : ab_chkI ab_P ab_fl ab_ml pX10_rule = true := by decide +kernel
theorem kX10_worth : ab_chkI ab_P ab_fl ab_ml pX10_worth = true := by decide +kernel
theorem kX10_one : ab_chkI ab_P ab_fl ab_ml pX10_one = true := by decide +kernel
theorem kX10_listed : ab_chkI ab_P ab_fl ab_ml pX10_listed = true := by decide +kernel
theorem kX10_letter : ab_chkI ab_P ab_fl ab_ml pX10_letter = true := by decide +kernel
theorem kX10_law : ab_chkI ab_P ab_fl ab_ml pX10_law = true := by decide +kernel
theorem kX10_fee : ab_chkI ab_P ab_fl ab_ml pX10_fee = true := by decide +kernel
theorem kX10_debt : ab_chkI ab_P ab_fl ab_ml pX10_debt = true := by decide +kernel
theorem kX10_wealth : ab_chkI ab_P ab_fl ab_ml pX10_wealth = true := by decide +kernel
theorem kX10_become : ab_chkI ab_P ab_fl ab_ml pX10_become = true := by decide +kernel
theorem kX10_bear : ab_chkI ab_P ab_fl ab_ml pX10_bear = true := by decide +kernel
theorem kX10_wed : ab_chkI ab_P ab_fl ab_ml pX10_wed = true := by decide +kernel
theorem kX10_sum : ab_chkI ab_P ab_fl ab_ml pX10_sum = true := by decide +kernel
theorem kX10_person : ab_chkI ab_P ab_fl ab_ml pX10_person = true := by decide +kernel
theorem kX10_persons : ab_chkI ab_P ab_fl ab_ml pX10_persons = true := by decide +kernel
theorem kX10_lone : ab_chkI ab_P ab_fl ab_ml pX10_lone = true := by decide +kernel
theorem kX10_owes : ab_chkI ab_P ab_fl ab_ml pX10_owes = true := by decide +kernel
theorem kX10_has : ab_chkI ab_P ab_fl ab_ml pX10_has = true := by decide +kernel
theorem kX10_votes : ab_chkI ab_P ab_fl ab_ml pX10_votes = true := by decide +kernel
theorem kX10_heirs : ab_chkI ab_P ab_fl ab_ml pX10_heirs = true := by decide +kernel
theorem kX10_change : ab_chkI ab_P ab_fl ab_ml pX10_change = true := by decide +kernel
theorem kX10_rid : ab_chkI ab_P ab_fl ab_ml pX10_rid = true := by decide +kernel
theorem kX10_call : ab_chkI ab_P ab_fl ab_ml pX10_call = true := by decide +kernel
theorem kX10_match : ab_chkI ab_P ab_fl ab_ml pX10_match = true := by decide +kernel
theorem kX10_crowd : ab_chkI ab_P ab_fl ab_ml pX10_crowd = true := by decide +kernel
theorem kX10_part : ab_chkI ab_P ab_fl ab_ml pX10_part = true := by decide +kernel
theorem kX10_know : ab_chkI ab_P ab_fl ab_ml pX10_know = true := by decide +kernel
theorem kX10_forget : ab_chkI ab_P ab_fl ab_ml pX10_forget = true := by decide +kernel
theorem kX10_solve : ab_chkI ab_P ab_fl ab_ml pX10_solve = true := by decide +kernel
theorem kX10_year : ab_chkI ab_P ab_fl ab_ml pX10_year = true := by decide +kernel
theorem kX10_keep : ab_chkI ab_P ab_fl ab_ml pX10_keep = true := by decide +kernel
theorem kX10_back : ab_chkI ab_P ab_fl ab_ml pX10_back = true := by decide +kernel
theorem kX10_sheet : ab_chkI ab_P ab_fl ab_ml pX10_sheet = true := by decide +kernel
theorem kX10_lay : ab_chkI ab_P ab_fl ab_ml pX10_lay = true := by decide +kernel
theorem kX10_read : ab_chkI ab_P ab_fl ab_ml pX10_read = true := by decide +kernel
theorem kX10_torn : ab_chkI ab_P ab_fl ab_ml pX10_torn = true := by decide +kernel
theorem kX10_count : ab_chkI ab_P ab_fl ab_ml pX10_count = true := by decide +kernel
theorem kX10_within : ab_chkI ab_P ab_fl ab_ml pX10_within = true := by decide +kernel
theorem kX10_isLetter : ab_chkI ab_P ab_fl ab_ml pX10_isLetter = true := by decide +kernel
theorem kX10_isLetterAndWorth : ab_chkI ab_P ab_fl ab_ml pX10_isLetterAndWorth = true := by decide +kernel
theorem kX10_isOne : ab_chkI ab_P ab_fl ab_ml pX10_isOne = true := by decide +kernel
theorem kX10_imagesKept : ab_chkI ab_P ab_fl ab_ml pX10_imagesKept = true := by decide +kernel
theorem kX10_forgetImages : ab_chkI ab_P ab_fl ab_ml pX10_forgetImages = true := by decide +kernel
theorem kX10_worthOfWedding : ab_chkI ab_P ab_fl ab_ml pX10_worthOfWedding = true := by decide +kernel
theorem kX11_init : ab_chkI ab_P ab_fl ab_ml pX11_init = true := by decide +kernel
theorem kX11_in : ab_chkI ab_P ab_fl ab_ml pX11_in = true := by decide +kernel
theorem kX11_feed : ab_chkI ab_P ab_fl ab_ml pX11_feed = true := by decide +kernel
theorem kX11_end : ab_chkI ab_P ab_fl ab_ml pX11_end = true := by decide +kernel
theorem kX11_byteAt : ab_chkI ab_P ab_fl ab_ml pX11_byteAt = true := by decide +kernel
theorem kX11_fails : ab_chkI ab_P ab_fl ab_ml pX11_fails = true := by decide +kernel
theorem kX11_wordHere : ab_chkI ab_P ab_fl ab_ml pX11_wordHere = true := by decide +kernel
theorem kX11_step : ab_chkI ab_P ab_fl ab_ml pX11_step = true := by decide +kernel
theorem kX11_number : ab_chkI ab_P ab_fl ab_ml pX11_number = true := by decide +kernel
theorem kX11_longHere : ab_chkI ab_P ab_fl ab_ml pX11_longHere = true := by decide +kernel
theorem kX11_readLetter : ab_chkI ab_P ab_fl ab_ml pX11_readLetter = true := by decide +kernel
theorem kX11_readOne : ab_chkI ab_P ab_fl ab_ml pX11_readOne = true := by decide +kernel
theorem kX11_readNamesMore : ab_chkI ab_P ab_fl ab_ml pX11_readNamesMore = true := by decide +kernel
theorem kX11_hasRoom : ab_chkI ab_P ab_fl ab_ml pX11_hasRoom = true := by decide +kernel
theorem kX11_readMore : ab_chkI ab_P ab_fl ab_ml pX11_readMore = true := by decide +kernel
theorem kX11_readLine : ab_chkI ab_P ab_fl ab_ml pX11_readLine = true := by decide +kernel
theorem kX11_text : ab_chkI ab_P ab_fl ab_ml pX11_text = true := by decide +kernel
theorem kX11_fault : ab_chkI ab_P ab_fl ab_ml pX11_fault = true := by decide +kernel
theorem kX11_people : ab_chkI ab_P ab_fl ab_ml pX11_people = true := by decide +kernel
theorem kX11_isOne : ab_chkI ab_P ab_fl ab_ml pX11_isOne = true := by decide +kernel
theorem kX11_isListed : ab_chkI ab_P ab_fl ab_ml pX11_isListed = true := by decide +kernel
theorem kX11_isLetter : ab_chkI ab_P ab_fl ab_ml pX11_isLetter = true := by decide +kernel
theorem kX11_feeNow : ab_chkI ab_P ab_fl ab_ml pX11_feeNow = true := by decide +kernel
theorem kX11_worthOf : ab_chkI ab_P ab_fl ab_ml pX11_worthOf = true := by decide +kernel
theorem kX11_rule : ab_chkI ab_P ab_fl ab_ml pX11_rule = true := by decide +kernel
theorem kX11_worth : ab_chkI ab_P ab_fl ab_ml pX11_worth = true := by decide +kernel
theorem kX11_longOf : ab_chkI ab_P ab_fl ab_ml pX11_longOf = true := by decide +kernel
theorem kX11_kindOf : ab_chkI ab_P ab_fl ab_ml pX11_kindOf = true := by decide +kernel
theorem kX11_one : ab_chkI ab_P ab_fl ab_ml pX11_one = true := by decide +kernel
theorem kX11_counts : ab_chkI ab_P ab_fl ab_ml pX11_counts = true := by decide +kernel
theorem kX11_listSum : ab_chkI ab_P ab_fl ab_ml pX11_listSum = true := by decide +kernel
theorem kX11_listed : ab_chkI ab_P ab_fl ab_ml pX11_listed = true := by decide +kernel
theorem kX11_sets : ab_chkI ab_P ab_fl ab_ml pX11_sets = true := by decide +kernel
theorem kX11_letterIs : ab_chkI ab_P ab_fl ab_ml pX11_letterIs = true := by decide +kernel
theorem kX11_letter : ab_chkI ab_P ab_fl ab_ml pX11_letter = true := by decide +kernel
theorem kX11_law : ab_chkI ab_P ab_fl ab_ml pX11_law = true := by decide +kernel
theorem kX11_fee : ab_chkI ab_P ab_fl ab_ml pX11_fee = true := by decide +kernel
theorem kX11_debt : ab_chkI ab_P ab_fl ab_ml pX11_debt = true := by decide +kernel
theorem kX11_wealth : ab_chkI ab_P ab_fl ab_ml pX11_wealth = true := by decide +kernel
theorem kX11_become : ab_chkI ab_P ab_fl ab_ml pX11_become = true := by decide +kernel
theorem kX11_bear : ab_chkI ab_P ab_fl ab_ml pX11_bear = true := by decide +kernel
theorem kX11_sumOf : ab_chkI ab_P ab_fl ab_ml pX11_sumOf = true := by decide +kernel
theorem kX11_weds : ab_chkI ab_P ab_fl ab_ml pX11_weds = true := by decide +kernel
theorem kX11_wed : ab_chkI ab_P ab_fl ab_ml pX11_wed = true := by decide +kernel
theorem kX11_sum : ab_chkI ab_P ab_fl ab_ml pX11_sum = true := by decide +kernel
theorem kX11_personOf : ab_chkI ab_P ab_fl ab_ml pX11_personOf = true := by decide +kernel
theorem kX11_person : ab_chkI ab_P ab_fl ab_ml pX11_person = true := by decide +kernel
theorem kX11_persons : ab_chkI ab_P ab_fl ab_ml pX11_persons = true := by decide +kernel
theorem kX11_lone : ab_chkI ab_P ab_fl ab_ml pX11_lone = true := by decide +kernel
theorem kX11_summed : ab_chkI ab_P ab_fl ab_ml pX11_summed = true := by decide +kernel
theorem kX11_owes : ab_chkI ab_P ab_fl ab_ml pX11_owes = true := by decide +kernel
theorem kX11_has : ab_chkI ab_P ab_fl ab_ml pX11_has = true := by decide +kernel
theorem kX11_worthHaving : ab_chkI ab_P ab_fl ab_ml pX11_worthHaving = true := by decide +kernel
theorem kX11_votes : ab_chkI ab_P ab_fl ab_ml pX11_votes = true := by decide +kernel
theorem kX11_heirs : ab_chkI ab_P ab_fl ab_ml pX11_heirs = true := by decide +kernel
theorem kX11_leastBy : ab_chkI ab_P ab_fl ab_ml pX11_leastBy = true := by decide +kernel
theorem kX11_layChanges : ab_chkI ab_P ab_fl ab_ml pX11_layChanges = true := by decide +kernel
theorem kX11_change : ab_chkI ab_P ab_fl ab_ml pX11_change = true := by decide +kernel
theorem kX11_worthAt : ab_chkI ab_P ab_fl ab_ml pX11_worthAt = true := by decide +kernel
theorem kX11_rid : ab_chkI ab_P ab_fl ab_ml pX11_rid = true := by decide +kernel
theorem kX11_atSum : ab_chkI ab_P ab_fl ab_ml pX11_atSum = true := by decide +kernel
theorem kX11_call : ab_chkI ab_P ab_fl ab_ml pX11_call = true := by decide +kernel
theorem kX11_copies : ab_chkI ab_P ab_fl ab_ml pX11_copies = true := by decide +kernel
theorem kX11_match : ab_chkI ab_P ab_fl ab_ml pX11_match = true := by decide +kernel
theorem kX11_crowd : ab_chkI ab_P ab_fl ab_ml pX11_crowd = true := by decide +kernel
theorem kX11_part : ab_chkI ab_P ab_fl ab_ml pX11_part = true := by decide +kernel
theorem kX11_know : ab_chkI ab_P ab_fl ab_ml pX11_know = true := by decide +kernel
theorem kX11_forget : ab_chkI ab_P ab_fl ab_ml pX11_forget = true := by decide +kernel
theorem kX11_solve : ab_chkI ab_P ab_fl ab_ml pX11_solve = true := by decide +kernel
theorem kX11_year : ab_chkI ab_P ab_fl ab_ml pX11_year = true := by decide +kernel
theorem kX11_keep : ab_chkI ab_P ab_fl ab_ml pX11_keep = true := by decide +kernel
theorem kX11_back : ab_chkI ab_P ab_fl ab_ml pX11_back = true := by decide +kernel
theorem kX11_sheet : ab_chkI ab_P ab_fl ab_ml pX11_sheet = true := by decide +kernel
theorem kX11_lay : ab_chkI ab_P ab_fl ab_ml pX11_lay = true := by decide +kernel
theorem kX11_read : ab_chkI ab_P ab_fl ab_ml pX11_read = true := by decide +kernel
theorem kX11_torn : ab_chkI ab_P ab_fl ab_ml pX11_torn = true := by decide +kernel
theorem kX11_count : ab_chkI ab_P ab_fl ab_ml pX11_count = true := by decide +kernel
theorem kJ6_bitCount_0f7a4 : ab_chkI ab_P ab_fl ab_ml pJ6_bitCount_0f7a4 = true := by decide +kernel
