/-! methods and calls against the words (written by wip/gen/gen4.py) -/
def xMP0 : List (Nat × Nat × Nat × Nat) := [(264, 61, 263, 0), (743, 61, 741, 742), (852, 61, 850, 851), (870, 61, 868, 869), (861, 61, 860, 0), (251, 60, 250, 0), (784, 60, 782, 783), (787, 60, 786, 0), (794, 60, 792, 793), (806, 60, 805, 13), (802, 60, 800, 801), (815, 60, 813, 814), (827, 60, 825, 826), (823, 60, 821, 822), (119, 56, 118, 0), (437, 56, 435, 436), (484, 56, 482, 483), (551, 56, 549, 550), (493, 56, 491, 492), (580, 56, 578, 579), (602, 56, 600, 601), (432, 56, 430, 431), (555, 56, 553, 554), (559, 56, 557, 558), (468, 56, 467, 5), (453, 56, 451, 452), (623, 56, 621, 622), (461, 56, 460, 4), (879, 56, 877, 878), (759, 56, 757, 758), (588, 56, 586, 587), (906, 56, 904, 905), (911, 56, 909, 910), (190, 58, 189, 0), (632, 58, 630, 631), (643, 58, 641, 642), (647, 58, 645, 646), (731, 58, 729, 730), (735, 58, 733, 734), (652, 58, 650, 651), (639, 58, 637, 638), (856, 58, 854, 855), (837, 58, 835, 836), (842, 58, 841, 14), (418, 64, 417, 0), (516, 64, 515, 0), (512, 64, 511, 0), (509, 64, 508, 0), (475, 64, 474, 0), (128, 57, 127, 0), (441, 57, 439, 440), (449, 57, 447, 448), (505, 57, 503, 504), (472, 57, 470, 471), (501, 57, 499, 500), (530, 57, 528, 529), (568, 57, 566, 567), (576, 57, 574, 575), (771, 57, 769, 770), (660, 57, 658, 659)]
def xMP1 : List (Nat × Nat × Nat × Nat) := [(497, 57, 495, 496), (525, 57, 523, 524), (535, 57, 534, 6), (107, 55, 106, 0), (404, 55, 402, 403), (411, 55, 410, 3), (415, 55, 413, 414), (445, 55, 443, 444), (206, 59, 205, 0), (739, 59, 737, 738), (747, 59, 745, 746), (763, 59, 761, 762), (755, 59, 753, 754), (712, 59, 710, 711), (679, 59, 677, 678), (720, 59, 718, 719), (725, 59, 724, 11), (684, 59, 682, 683), (691, 59, 690, 8), (700, 59, 699, 9), (705, 59, 704, 10), (78, 52, 77, 0), (323, 52, 321, 322), (916, 52, 914, 915), (479, 52, 477, 478), (936, 52, 934, 935), (88, 54, 87, 0), (344, 54, 342, 343), (388, 54, 386, 387), (348, 54, 346, 347), (352, 54, 350, 351), (356, 54, 354, 355), (166, 54, 164, 165), (424, 54, 422, 423), (457, 54, 455, 456), (368, 54, 366, 367), (376, 54, 374, 375), (611, 54, 609, 610), (70, 51, 69, 0), (319, 51, 317, 318), (336, 51, 334, 335), (360, 51, 358, 359), (364, 51, 362, 363), (372, 51, 370, 371), (384, 51, 382, 383), (392, 51, 390, 391), (396, 51, 394, 395), (400, 51, 398, 399), (428, 51, 426, 427), (488, 51, 486, 487), (520, 51, 518, 519), (539, 51, 537, 538), (547, 51, 545, 546), (564, 51, 562, 563), (572, 51, 570, 571), (584, 51, 582, 583), (598, 51, 596, 597), (607, 51, 605, 606), (619, 51, 617, 618), (628, 51, 626, 627)]
def xMP2 : List (Nat × Nat × Nat × Nat) := [(656, 51, 654, 655), (664, 51, 662, 663), (668, 51, 666, 667), (716, 51, 714, 715), (751, 51, 749, 750), (767, 51, 765, 766), (776, 51, 774, 775), (798, 51, 796, 797), (811, 51, 809, 810), (819, 51, 817, 818), (833, 51, 831, 832), (848, 51, 846, 847), (866, 51, 864, 865), (874, 51, 872, 873), (890, 51, 888, 889), (894, 51, 892, 893), (898, 51, 896, 897), (902, 51, 900, 901), (921, 51, 919, 920), (925, 51, 923, 924), (929, 51, 927, 928), (331, 51, 330, 1), (542, 51, 541, 0), (675, 51, 674, 0), (327, 51, 326, 0), (340, 51, 339, 2), (672, 51, 671, 7), (780, 51, 779, 12), (944, 62, 943, 0), (1057, 62, 1056, 0), (1159, 62, 1158, 0), (1228, 62, 1227, 0), (1061, 62, 1060, 15), (1069, 62, 1068, 16), (1257, 62, 1256, 36), (1053, 62, 1052, 0), (1092, 62, 1091, 0), (1050, 62, 1048, 1049), (1065, 62, 1063, 1064), (1073, 62, 1071, 1072), (1077, 62, 1075, 1076), (1081, 62, 1079, 1080), (1085, 62, 1083, 1084), (1089, 62, 1087, 1088), (1097, 62, 1095, 1096), (1113, 62, 1112, 19), (1109, 62, 1108, 18), (1120, 62, 1119, 0), (1117, 62, 1116, 20), (1105, 62, 1104, 17), (1101, 62, 1099, 1100), (1125, 62, 1123, 1124), (1133, 62, 1132, 21), (1178, 62, 1177, 0), (1153, 62, 1152, 0), (1156, 62, 1155, 0), (1150, 62, 1149, 25), (1146, 62, 1145, 24), (1142, 62, 1141, 23), (1170, 62, 1169, 0)]
def xMP3 : List (Nat × Nat × Nat × Nat) := [(1167, 62, 1166, 26), (1213, 62, 1212, 31), (1209, 62, 1208, 30), (1205, 62, 1204, 29), (1138, 62, 1137, 22), (1129, 62, 1127, 1128), (1163, 62, 1161, 1162), (1175, 62, 1173, 1174), (1189, 62, 1188, 0), (1186, 62, 1185, 27), (1182, 62, 1180, 1181), (1197, 62, 1196, 28), (1193, 62, 1191, 1192), (1217, 62, 1216, 32), (1201, 62, 1199, 1200), (1225, 62, 1224, 33), (1221, 62, 1219, 1220), (1232, 62, 1230, 1231), (1236, 62, 1234, 1235), (1241, 62, 1239, 1240), (1249, 62, 1248, 34), (1253, 62, 1252, 35), (1245, 62, 1243, 1244), (1265, 62, 1264, 37), (1261, 62, 1259, 1260), (1270, 62, 1268, 1269), (1279, 62, 1278, 38), (1283, 62, 1282, 39), (1287, 62, 1286, 40), (1275, 62, 1273, 1274), (1295, 62, 1294, 41), (1299, 62, 1298, 42), (1291, 62, 1289, 1290), (1303, 62, 1301, 1302), (1307, 62, 1305, 1306), (1315, 62, 1314, 43), (1319, 62, 1318, 44), (1311, 62, 1309, 1310), (1323, 62, 1321, 1322), (1331, 62, 1330, 45), (1327, 62, 1325, 1326), (1335, 62, 1333, 1334), (1343, 62, 1342, 46), (1339, 62, 1337, 1338), (1356, 62, 1355, 0), (1353, 62, 1352, 47), (1347, 62, 1345, 1346), (1360, 62, 1358, 1359), (1364, 62, 1362, 1363), (1372, 62, 1370, 1371), (1376, 62, 1374, 1375), (1380, 62, 1378, 1379), (1393, 62, 1392, 49), (1389, 62, 1388, 48), (1384, 62, 1382, 1383), (1397, 62, 1395, 1396), (1401, 62, 1399, 1400), (1405, 62, 1403, 1404), (591, 65, 590, 0)]
def xMP : List (Nat × Nat × Nat × Nat) := xMP0 ++ (xMP1 ++ (xMP2 ++ xMP3))
abbrev xyn (f : Nat) : MethodName := (xm f).2.1
abbrev xcr (r : xMr) : Cond := Cond.code r.2.1 r.2.2.1 r.2.2.2.1 r.2.2.2.2.1
abbrev xcw (f : Nat) : Cond := xcr (xm f)
def xmokr (r : xMr) (q : Nat × Nat × Nat × Nat) : Bool :=
  match r with
  | (c, y, b, ml, rt, na, st) =>
  goodWord (.code y b ml rt) && xgood (.initialized y.cls) q.2.1 && decide (plainName y.cls = true) && decide (y.cls ≠ "java/lang/invoke/MethodHandle") && decide (y.cls ≠ "java/lang/invoke/VarHandle") && decide ((parseMethodDescriptor y.desc).map (fun d => d.parameters.length) = some na) && decide (y.cls = xR c) && decide (c < 15) && decide (ml ≤ 40) &&
  (if st then xgood (.static y) q.2.2.1 else xgood (.instanceMethod y) q.2.2.1 && (decide (y.name = "<init>") || (xgood (.selects (xR c) y y) q.2.2.2 && decide (xci c < 11))))
theorem xmok_0 : ((xMT0.zip xMP0).all fun e => xmokr e.1 e.2) = true := by decide +kernel
theorem xmok_1 : ((xMT1.zip xMP1).all fun e => xmokr e.1 e.2) = true := by decide +kernel
theorem xmok_2 : ((xMT2.zip xMP2).all fun e => xmokr e.1 e.2) = true := by decide +kernel
theorem xmok_3 : ((xMT3.zip xMP3).all fun e => xmokr e.1 e.2) = true := by decide +kernel
theorem xmok_all : ((xMT.zip xMP).all fun e => xmokr e.1 e.2) = true := by
  have h0 : xMT.zip xMP = xMT0.zip xMP0 ++ (xMT1.zip xMP1 ++ (xMT2.zip xMP2 ++ xMT3.zip xMP3)) := by
    unfold xMT xMP
    rw [List.zip_append (show xMT0.length = xMP0.length from rfl), List.zip_append (show xMT1.length = xMP1.length from rfl), List.zip_append (show xMT2.length = xMP2.length from rfl)]
    rfl
  rw [h0, List.all_append, List.all_append, List.all_append, xmok_0, xmok_1, xmok_2, xmok_3]
  rfl
set_option maxRecDepth 100000 in
theorem xcd_0 : lw_tbl[264]? = some (xcw 0) := by with_unfolding_all rfl
set_option maxRecDepth 100000 in
theorem xcd_1 : lw_tbl[743]? = some (xcw 1) := by with_unfolding_all rfl
set_option maxRecDepth 100000 in
theorem xcd_2 : lw_tbl[852]? = some (xcw 2) := by with_unfolding_all rfl
set_option maxRecDepth 100000 in
theorem xcd_3 : lw_tbl[870]? = some (xcw 3) := by with_unfolding_all rfl
set_option maxRecDepth 100000 in
theorem xcd_4 : lw_tbl[861]? = some (xcw 4) := by with_unfolding_all rfl
set_option maxRecDepth 100000 in
theorem xcd_5 : lw_tbl[251]? = some (xcw 5) := by with_unfolding_all rfl
set_option maxRecDepth 100000 in
theorem xcd_6 : lw_tbl[784]? = some (xcw 6) := by with_unfolding_all rfl
set_option maxRecDepth 100000 in
theorem xcd_7 : lw_tbl[787]? = some (xcw 7) := by with_unfolding_all rfl
set_option maxRecDepth 100000 in
theorem xcd_8 : lw_tbl[794]? = some (xcw 8) := by with_unfolding_all rfl
set_option maxRecDepth 100000 in
theorem xcd_9 : lw_tbl[806]? = some (xcw 9) := by with_unfolding_all rfl
set_option maxRecDepth 100000 in
theorem xcd_10 : lw_tbl[802]? = some (xcw 10) := by with_unfolding_all rfl
set_option maxRecDepth 100000 in
theorem xcd_11 : lw_tbl[815]? = some (xcw 11) := by with_unfolding_all rfl
set_option maxRecDepth 100000 in
theorem xcd_12 : lw_tbl[827]? = some (xcw 12) := by with_unfolding_all rfl
set_option maxRecDepth 100000 in
theorem xcd_13 : lw_tbl[823]? = some (xcw 13) := by with_unfolding_all rfl
set_option maxRecDepth 100000 in
theorem xcd_14 : lw_tbl[119]? = some (xcw 14) := by with_unfolding_all rfl
set_option maxRecDepth 100000 in
theorem xcd_15 : lw_tbl[437]? = some (xcw 15) := by with_unfolding_all rfl
set_option maxRecDepth 100000 in
theorem xcd_16 : lw_tbl[484]? = some (xcw 16) := by with_unfolding_all rfl
set_option maxRecDepth 100000 in
theorem xcd_17 : lw_tbl[551]? = some (xcw 17) := by with_unfolding_all rfl
set_option maxRecDepth 100000 in
theorem xcd_18 : lw_tbl[493]? = some (xcw 18) := by with_unfolding_all rfl
set_option maxRecDepth 100000 in
theorem xcd_19 : lw_tbl[580]? = some (xcw 19) := by with_unfolding_all rfl
set_option maxRecDepth 100000 in
theorem xcd_20 : lw_tbl[602]? = some (xcw 20) := by with_unfolding_all rfl
set_option maxRecDepth 100000 in
theorem xcd_21 : lw_tbl[432]? = some (xcw 21) := by with_unfolding_all rfl
set_option maxRecDepth 100000 in
theorem xcd_22 : lw_tbl[555]? = some (xcw 22) := by with_unfolding_all rfl
set_option maxRecDepth 100000 in
theorem xcd_23 : lw_tbl[559]? = some (xcw 23) := by with_unfolding_all rfl
set_option maxRecDepth 100000 in
theorem xcd_24 : lw_tbl[468]? = some (xcw 24) := by with_unfolding_all rfl
set_option maxRecDepth 100000 in
theorem xcd_25 : lw_tbl[453]? = some (xcw 25) := by with_unfolding_all rfl
set_option maxRecDepth 100000 in
theorem xcd_26 : lw_tbl[623]? = some (xcw 26) := by with_unfolding_all rfl
set_option maxRecDepth 100000 in
theorem xcd_27 : lw_tbl[461]? = some (xcw 27) := by with_unfolding_all rfl
set_option maxRecDepth 100000 in
theorem xcd_28 : lw_tbl[879]? = some (xcw 28) := by with_unfolding_all rfl
set_option maxRecDepth 100000 in
theorem xcd_29 : lw_tbl[759]? = some (xcw 29) := by with_unfolding_all rfl
set_option maxRecDepth 100000 in
theorem xcd_30 : lw_tbl[588]? = some (xcw 30) := by with_unfolding_all rfl
set_option maxRecDepth 100000 in
theorem xcd_31 : lw_tbl[906]? = some (xcw 31) := by with_unfolding_all rfl
set_option maxRecDepth 100000 in
theorem xcd_32 : lw_tbl[911]? = some (xcw 32) := by with_unfolding_all rfl
set_option maxRecDepth 100000 in
theorem xcd_33 : lw_tbl[190]? = some (xcw 33) := by with_unfolding_all rfl
set_option maxRecDepth 100000 in
theorem xcd_34 : lw_tbl[632]? = some (xcw 34) := by with_unfolding_all rfl
set_option maxRecDepth 100000 in
theorem xcd_35 : lw_tbl[643]? = some (xcw 35) := by with_unfolding_all rfl
set_option maxRecDepth 100000 in
theorem xcd_36 : lw_tbl[647]? = some (xcw 36) := by with_unfolding_all rfl
set_option maxRecDepth 100000 in
theorem xcd_37 : lw_tbl[731]? = some (xcw 37) := by with_unfolding_all rfl
set_option maxRecDepth 100000 in
theorem xcd_38 : lw_tbl[735]? = some (xcw 38) := by with_unfolding_all rfl
set_option maxRecDepth 100000 in
theorem xcd_39 : lw_tbl[652]? = some (xcw 39) := by with_unfolding_all rfl
set_option maxRecDepth 100000 in
theorem xcd_40 : lw_tbl[639]? = some (xcw 40) := by with_unfolding_all rfl
set_option maxRecDepth 100000 in
theorem xcd_41 : lw_tbl[856]? = some (xcw 41) := by with_unfolding_all rfl
set_option maxRecDepth 100000 in
theorem xcd_42 : lw_tbl[837]? = some (xcw 42) := by with_unfolding_all rfl
set_option maxRecDepth 100000 in
theorem xcd_43 : lw_tbl[842]? = some (xcw 43) := by with_unfolding_all rfl
set_option maxRecDepth 100000 in
theorem xcd_44 : lw_tbl[418]? = some (xcw 44) := by with_unfolding_all rfl
set_option maxRecDepth 100000 in
theorem xcd_45 : lw_tbl[516]? = some (xcw 45) := by with_unfolding_all rfl
set_option maxRecDepth 100000 in
theorem xcd_46 : lw_tbl[512]? = some (xcw 46) := by with_unfolding_all rfl
set_option maxRecDepth 100000 in
theorem xcd_47 : lw_tbl[509]? = some (xcw 47) := by with_unfolding_all rfl
set_option maxRecDepth 100000 in
theorem xcd_48 : lw_tbl[475]? = some (xcw 48) := by with_unfolding_all rfl
set_option maxRecDepth 100000 in
theorem xcd_49 : lw_tbl[128]? = some (xcw 49) := by with_unfolding_all rfl
set_option maxRecDepth 100000 in
theorem xcd_50 : lw_tbl[441]? = some (xcw 50) := by with_unfolding_all rfl
set_option maxRecDepth 100000 in
theorem xcd_51 : lw_tbl[449]? = some (xcw 51) := by with_unfolding_all rfl
set_option maxRecDepth 100000 in
theorem xcd_52 : lw_tbl[505]? = some (xcw 52) := by with_unfolding_all rfl
set_option maxRecDepth 100000 in
theorem xcd_53 : lw_tbl[472]? = some (xcw 53) := by with_unfolding_all rfl
set_option maxRecDepth 100000 in
theorem xcd_54 : lw_tbl[501]? = some (xcw 54) := by with_unfolding_all rfl
set_option maxRecDepth 100000 in
theorem xcd_55 : lw_tbl[530]? = some (xcw 55) := by with_unfolding_all rfl
set_option maxRecDepth 100000 in
theorem xcd_56 : lw_tbl[568]? = some (xcw 56) := by with_unfolding_all rfl
set_option maxRecDepth 100000 in
theorem xcd_57 : lw_tbl[576]? = some (xcw 57) := by with_unfolding_all rfl
set_option maxRecDepth 100000 in
theorem xcd_58 : lw_tbl[771]? = some (xcw 58) := by with_unfolding_all rfl
set_option maxRecDepth 100000 in
theorem xcd_59 : lw_tbl[660]? = some (xcw 59) := by with_unfolding_all rfl
set_option maxRecDepth 100000 in
theorem xcd_60 : lw_tbl[497]? = some (xcw 60) := by with_unfolding_all rfl
set_option maxRecDepth 100000 in
theorem xcd_61 : lw_tbl[525]? = some (xcw 61) := by with_unfolding_all rfl
set_option maxRecDepth 100000 in
theorem xcd_62 : lw_tbl[535]? = some (xcw 62) := by with_unfolding_all rfl
set_option maxRecDepth 100000 in
theorem xcd_63 : lw_tbl[107]? = some (xcw 63) := by with_unfolding_all rfl
set_option maxRecDepth 100000 in
theorem xcd_64 : lw_tbl[404]? = some (xcw 64) := by with_unfolding_all rfl
set_option maxRecDepth 100000 in
theorem xcd_65 : lw_tbl[411]? = some (xcw 65) := by with_unfolding_all rfl
set_option maxRecDepth 100000 in
theorem xcd_66 : lw_tbl[415]? = some (xcw 66) := by with_unfolding_all rfl
set_option maxRecDepth 100000 in
theorem xcd_67 : lw_tbl[445]? = some (xcw 67) := by with_unfolding_all rfl
set_option maxRecDepth 100000 in
theorem xcd_68 : lw_tbl[206]? = some (xcw 68) := by with_unfolding_all rfl
set_option maxRecDepth 100000 in
theorem xcd_69 : lw_tbl[739]? = some (xcw 69) := by with_unfolding_all rfl
set_option maxRecDepth 100000 in
theorem xcd_70 : lw_tbl[747]? = some (xcw 70) := by with_unfolding_all rfl
set_option maxRecDepth 100000 in
theorem xcd_71 : lw_tbl[763]? = some (xcw 71) := by with_unfolding_all rfl
set_option maxRecDepth 100000 in
theorem xcd_72 : lw_tbl[755]? = some (xcw 72) := by with_unfolding_all rfl
set_option maxRecDepth 100000 in
theorem xcd_73 : lw_tbl[712]? = some (xcw 73) := by with_unfolding_all rfl
set_option maxRecDepth 100000 in
theorem xcd_74 : lw_tbl[679]? = some (xcw 74) := by with_unfolding_all rfl
set_option maxRecDepth 100000 in
theorem xcd_75 : lw_tbl[720]? = some (xcw 75) := by with_unfolding_all rfl
set_option maxRecDepth 100000 in
theorem xcd_76 : lw_tbl[725]? = some (xcw 76) := by with_unfolding_all rfl
set_option maxRecDepth 100000 in
theorem xcd_77 : lw_tbl[684]? = some (xcw 77) := by with_unfolding_all rfl
set_option maxRecDepth 100000 in
theorem xcd_78 : lw_tbl[691]? = some (xcw 78) := by with_unfolding_all rfl
set_option maxRecDepth 100000 in
theorem xcd_79 : lw_tbl[700]? = some (xcw 79) := by with_unfolding_all rfl
set_option maxRecDepth 100000 in
theorem xcd_80 : lw_tbl[705]? = some (xcw 80) := by with_unfolding_all rfl
set_option maxRecDepth 100000 in
theorem xcd_81 : lw_tbl[78]? = some (xcw 81) := by with_unfolding_all rfl
set_option maxRecDepth 100000 in
theorem xcd_82 : lw_tbl[323]? = some (xcw 82) := by with_unfolding_all rfl
set_option maxRecDepth 100000 in
theorem xcd_83 : lw_tbl[916]? = some (xcw 83) := by with_unfolding_all rfl
set_option maxRecDepth 100000 in
theorem xcd_84 : lw_tbl[479]? = some (xcw 84) := by with_unfolding_all rfl
set_option maxRecDepth 100000 in
theorem xcd_85 : lw_tbl[936]? = some (xcw 85) := by with_unfolding_all rfl
set_option maxRecDepth 100000 in
theorem xcd_86 : lw_tbl[88]? = some (xcw 86) := by with_unfolding_all rfl
set_option maxRecDepth 100000 in
theorem xcd_87 : lw_tbl[344]? = some (xcw 87) := by with_unfolding_all rfl
set_option maxRecDepth 100000 in
theorem xcd_88 : lw_tbl[388]? = some (xcw 88) := by with_unfolding_all rfl
set_option maxRecDepth 100000 in
theorem xcd_89 : lw_tbl[348]? = some (xcw 89) := by with_unfolding_all rfl
set_option maxRecDepth 100000 in
theorem xcd_90 : lw_tbl[352]? = some (xcw 90) := by with_unfolding_all rfl
set_option maxRecDepth 100000 in
theorem xcd_91 : lw_tbl[356]? = some (xcw 91) := by with_unfolding_all rfl
set_option maxRecDepth 100000 in
theorem xcd_92 : lw_tbl[166]? = some (xcw 92) := by with_unfolding_all rfl
set_option maxRecDepth 100000 in
theorem xcd_93 : lw_tbl[424]? = some (xcw 93) := by with_unfolding_all rfl
set_option maxRecDepth 100000 in
theorem xcd_94 : lw_tbl[457]? = some (xcw 94) := by with_unfolding_all rfl
set_option maxRecDepth 100000 in
theorem xcd_95 : lw_tbl[368]? = some (xcw 95) := by with_unfolding_all rfl
set_option maxRecDepth 100000 in
theorem xcd_96 : lw_tbl[376]? = some (xcw 96) := by with_unfolding_all rfl
set_option maxRecDepth 100000 in
theorem xcd_97 : lw_tbl[611]? = some (xcw 97) := by with_unfolding_all rfl
set_option maxRecDepth 100000 in
theorem xcd_98 : lw_tbl[70]? = some (xcw 98) := by with_unfolding_all rfl
set_option maxRecDepth 100000 in
theorem xcd_99 : lw_tbl[319]? = some (xcw 99) := by with_unfolding_all rfl
set_option maxRecDepth 100000 in
theorem xcd_100 : lw_tbl[336]? = some (xcw 100) := by with_unfolding_all rfl
set_option maxRecDepth 100000 in
theorem xcd_101 : lw_tbl[360]? = some (xcw 101) := by with_unfolding_all rfl
set_option maxRecDepth 100000 in
theorem xcd_102 : lw_tbl[364]? = some (xcw 102) := by with_unfolding_all rfl
set_option maxRecDepth 100000 in
theorem xcd_103 : lw_tbl[372]? = some (xcw 103) := by with_unfolding_all rfl
set_option maxRecDepth 100000 in
theorem xcd_104 : lw_tbl[384]? = some (xcw 104) := by with_unfolding_all rfl
set_option maxRecDepth 100000 in
theorem xcd_105 : lw_tbl[392]? = some (xcw 105) := by with_unfolding_all rfl
set_option maxRecDepth 100000 in
theorem xcd_106 : lw_tbl[396]? = some (xcw 106) := by with_unfolding_all rfl
set_option maxRecDepth 100000 in
theorem xcd_107 : lw_tbl[400]? = some (xcw 107) := by with_unfolding_all rfl
set_option maxRecDepth 100000 in
theorem xcd_108 : lw_tbl[428]? = some (xcw 108) := by with_unfolding_all rfl
set_option maxRecDepth 100000 in
theorem xcd_109 : lw_tbl[488]? = some (xcw 109) := by with_unfolding_all rfl
set_option maxRecDepth 100000 in
theorem xcd_110 : lw_tbl[520]? = some (xcw 110) := by with_unfolding_all rfl
set_option maxRecDepth 100000 in
theorem xcd_111 : lw_tbl[539]? = some (xcw 111) := by with_unfolding_all rfl
set_option maxRecDepth 100000 in
theorem xcd_112 : lw_tbl[547]? = some (xcw 112) := by with_unfolding_all rfl
set_option maxRecDepth 100000 in
theorem xcd_113 : lw_tbl[564]? = some (xcw 113) := by with_unfolding_all rfl
set_option maxRecDepth 100000 in
theorem xcd_114 : lw_tbl[572]? = some (xcw 114) := by with_unfolding_all rfl
set_option maxRecDepth 100000 in
theorem xcd_115 : lw_tbl[584]? = some (xcw 115) := by with_unfolding_all rfl
set_option maxRecDepth 100000 in
theorem xcd_116 : lw_tbl[598]? = some (xcw 116) := by with_unfolding_all rfl
set_option maxRecDepth 100000 in
theorem xcd_117 : lw_tbl[607]? = some (xcw 117) := by with_unfolding_all rfl
set_option maxRecDepth 100000 in
theorem xcd_118 : lw_tbl[619]? = some (xcw 118) := by with_unfolding_all rfl
set_option maxRecDepth 100000 in
theorem xcd_119 : lw_tbl[628]? = some (xcw 119) := by with_unfolding_all rfl
set_option maxRecDepth 100000 in
theorem xcd_120 : lw_tbl[656]? = some (xcw 120) := by with_unfolding_all rfl
set_option maxRecDepth 100000 in
theorem xcd_121 : lw_tbl[664]? = some (xcw 121) := by with_unfolding_all rfl
set_option maxRecDepth 100000 in
theorem xcd_122 : lw_tbl[668]? = some (xcw 122) := by with_unfolding_all rfl
set_option maxRecDepth 100000 in
theorem xcd_123 : lw_tbl[716]? = some (xcw 123) := by with_unfolding_all rfl
set_option maxRecDepth 100000 in
theorem xcd_124 : lw_tbl[751]? = some (xcw 124) := by with_unfolding_all rfl
set_option maxRecDepth 100000 in
theorem xcd_125 : lw_tbl[767]? = some (xcw 125) := by with_unfolding_all rfl
set_option maxRecDepth 100000 in
theorem xcd_126 : lw_tbl[776]? = some (xcw 126) := by with_unfolding_all rfl
set_option maxRecDepth 100000 in
theorem xcd_127 : lw_tbl[798]? = some (xcw 127) := by with_unfolding_all rfl
set_option maxRecDepth 100000 in
theorem xcd_128 : lw_tbl[811]? = some (xcw 128) := by with_unfolding_all rfl
set_option maxRecDepth 100000 in
theorem xcd_129 : lw_tbl[819]? = some (xcw 129) := by with_unfolding_all rfl
set_option maxRecDepth 100000 in
theorem xcd_130 : lw_tbl[833]? = some (xcw 130) := by with_unfolding_all rfl
set_option maxRecDepth 100000 in
theorem xcd_131 : lw_tbl[848]? = some (xcw 131) := by with_unfolding_all rfl
set_option maxRecDepth 100000 in
theorem xcd_132 : lw_tbl[866]? = some (xcw 132) := by with_unfolding_all rfl
set_option maxRecDepth 100000 in
theorem xcd_133 : lw_tbl[874]? = some (xcw 133) := by with_unfolding_all rfl
set_option maxRecDepth 100000 in
theorem xcd_134 : lw_tbl[890]? = some (xcw 134) := by with_unfolding_all rfl
set_option maxRecDepth 100000 in
theorem xcd_135 : lw_tbl[894]? = some (xcw 135) := by with_unfolding_all rfl
set_option maxRecDepth 100000 in
theorem xcd_136 : lw_tbl[898]? = some (xcw 136) := by with_unfolding_all rfl
set_option maxRecDepth 100000 in
theorem xcd_137 : lw_tbl[902]? = some (xcw 137) := by with_unfolding_all rfl
set_option maxRecDepth 100000 in
theorem xcd_138 : lw_tbl[921]? = some (xcw 138) := by with_unfolding_all rfl
set_option maxRecDepth 100000 in
theorem xcd_139 : lw_tbl[925]? = some (xcw 139) := by with_unfolding_all rfl
set_option maxRecDepth 100000 in
theorem xcd_140 : lw_tbl[929]? = some (xcw 140) := by with_unfolding_all rfl
set_option maxRecDepth 100000 in
theorem xcd_141 : lw_tbl[331]? = some (xcw 141) := by with_unfolding_all rfl
set_option maxRecDepth 100000 in
theorem xcd_142 : lw_tbl[542]? = some (xcw 142) := by with_unfolding_all rfl
set_option maxRecDepth 100000 in
theorem xcd_143 : lw_tbl[675]? = some (xcw 143) := by with_unfolding_all rfl
set_option maxRecDepth 100000 in
theorem xcd_144 : lw_tbl[327]? = some (xcw 144) := by with_unfolding_all rfl
set_option maxRecDepth 100000 in
theorem xcd_145 : lw_tbl[340]? = some (xcw 145) := by with_unfolding_all rfl
set_option maxRecDepth 100000 in
theorem xcd_146 : lw_tbl[672]? = some (xcw 146) := by with_unfolding_all rfl
set_option maxRecDepth 100000 in
theorem xcd_147 : lw_tbl[780]? = some (xcw 147) := by with_unfolding_all rfl
set_option maxRecDepth 100000 in
theorem xcd_148 : lw_tbl[944]? = some (xcw 148) := by with_unfolding_all rfl
set_option maxRecDepth 100000 in
theorem xcd_149 : lw_tbl[1057]? = some (xcw 149) := by with_unfolding_all rfl
set_option maxRecDepth 100000 in
theorem xcd_150 : lw_tbl[1159]? = some (xcw 150) := by with_unfolding_all rfl
set_option maxRecDepth 100000 in
theorem xcd_151 : lw_tbl[1228]? = some (xcw 151) := by with_unfolding_all rfl
set_option maxRecDepth 100000 in
theorem xcd_152 : lw_tbl[1061]? = some (xcw 152) := by with_unfolding_all rfl
set_option maxRecDepth 100000 in
theorem xcd_153 : lw_tbl[1069]? = some (xcw 153) := by with_unfolding_all rfl
set_option maxRecDepth 100000 in
theorem xcd_154 : lw_tbl[1257]? = some (xcw 154) := by with_unfolding_all rfl
set_option maxRecDepth 100000 in
theorem xcd_155 : lw_tbl[1053]? = some (xcw 155) := by with_unfolding_all rfl
set_option maxRecDepth 100000 in
theorem xcd_156 : lw_tbl[1092]? = some (xcw 156) := by with_unfolding_all rfl
set_option maxRecDepth 100000 in
theorem xcd_157 : lw_tbl[1050]? = some (xcw 157) := by with_unfolding_all rfl
set_option maxRecDepth 100000 in
theorem xcd_158 : lw_tbl[1065]? = some (xcw 158) := by with_unfolding_all rfl
set_option maxRecDepth 100000 in
theorem xcd_159 : lw_tbl[1073]? = some (xcw 159) := by with_unfolding_all rfl
set_option maxRecDepth 100000 in
theorem xcd_160 : lw_tbl[1077]? = some (xcw 160) := by with_unfolding_all rfl
set_option maxRecDepth 100000 in
theorem xcd_161 : lw_tbl[1081]? = some (xcw 161) := by with_unfolding_all rfl
set_option maxRecDepth 100000 in
theorem xcd_162 : lw_tbl[1085]? = some (xcw 162) := by with_unfolding_all rfl
set_option maxRecDepth 100000 in
theorem xcd_163 : lw_tbl[1089]? = some (xcw 163) := by with_unfolding_all rfl
set_option maxRecDepth 100000 in
theorem xcd_164 : lw_tbl[1097]? = some (xcw 164) := by with_unfolding_all rfl
set_option maxRecDepth 100000 in
theorem xcd_165 : lw_tbl[1113]? = some (xcw 165) := by with_unfolding_all rfl
set_option maxRecDepth 100000 in
theorem xcd_166 : lw_tbl[1109]? = some (xcw 166) := by with_unfolding_all rfl
set_option maxRecDepth 100000 in
theorem xcd_167 : lw_tbl[1120]? = some (xcw 167) := by with_unfolding_all rfl
set_option maxRecDepth 100000 in
theorem xcd_168 : lw_tbl[1117]? = some (xcw 168) := by with_unfolding_all rfl
set_option maxRecDepth 100000 in
theorem xcd_169 : lw_tbl[1105]? = some (xcw 169) := by with_unfolding_all rfl
set_option maxRecDepth 100000 in
theorem xcd_170 : lw_tbl[1101]? = some (xcw 170) := by with_unfolding_all rfl
set_option maxRecDepth 100000 in
theorem xcd_171 : lw_tbl[1125]? = some (xcw 171) := by with_unfolding_all rfl
set_option maxRecDepth 100000 in
theorem xcd_172 : lw_tbl[1133]? = some (xcw 172) := by with_unfolding_all rfl
set_option maxRecDepth 100000 in
theorem xcd_173 : lw_tbl[1178]? = some (xcw 173) := by with_unfolding_all rfl
set_option maxRecDepth 100000 in
theorem xcd_174 : lw_tbl[1153]? = some (xcw 174) := by with_unfolding_all rfl
set_option maxRecDepth 100000 in
theorem xcd_175 : lw_tbl[1156]? = some (xcw 175) := by with_unfolding_all rfl
set_option maxRecDepth 100000 in
theorem xcd_176 : lw_tbl[1150]? = some (xcw 176) := by with_unfolding_all rfl
set_option maxRecDepth 100000 in
theorem xcd_177 : lw_tbl[1146]? = some (xcw 177) := by with_unfolding_all rfl
set_option maxRecDepth 100000 in
theorem xcd_178 : lw_tbl[1142]? = some (xcw 178) := by with_unfolding_all rfl
set_option maxRecDepth 100000 in
theorem xcd_179 : lw_tbl[1170]? = some (xcw 179) := by with_unfolding_all rfl
set_option maxRecDepth 100000 in
theorem xcd_180 : lw_tbl[1167]? = some (xcw 180) := by with_unfolding_all rfl
set_option maxRecDepth 100000 in
theorem xcd_181 : lw_tbl[1213]? = some (xcw 181) := by with_unfolding_all rfl
set_option maxRecDepth 100000 in
theorem xcd_182 : lw_tbl[1209]? = some (xcw 182) := by with_unfolding_all rfl
set_option maxRecDepth 100000 in
theorem xcd_183 : lw_tbl[1205]? = some (xcw 183) := by with_unfolding_all rfl
set_option maxRecDepth 100000 in
theorem xcd_184 : lw_tbl[1138]? = some (xcw 184) := by with_unfolding_all rfl
set_option maxRecDepth 100000 in
theorem xcd_185 : lw_tbl[1129]? = some (xcw 185) := by with_unfolding_all rfl
set_option maxRecDepth 100000 in
theorem xcd_186 : lw_tbl[1163]? = some (xcw 186) := by with_unfolding_all rfl
set_option maxRecDepth 100000 in
theorem xcd_187 : lw_tbl[1175]? = some (xcw 187) := by with_unfolding_all rfl
set_option maxRecDepth 100000 in
theorem xcd_188 : lw_tbl[1189]? = some (xcw 188) := by with_unfolding_all rfl
set_option maxRecDepth 100000 in
theorem xcd_189 : lw_tbl[1186]? = some (xcw 189) := by with_unfolding_all rfl
set_option maxRecDepth 100000 in
theorem xcd_190 : lw_tbl[1182]? = some (xcw 190) := by with_unfolding_all rfl
set_option maxRecDepth 100000 in
theorem xcd_191 : lw_tbl[1197]? = some (xcw 191) := by with_unfolding_all rfl
set_option maxRecDepth 100000 in
theorem xcd_192 : lw_tbl[1193]? = some (xcw 192) := by with_unfolding_all rfl
set_option maxRecDepth 100000 in
theorem xcd_193 : lw_tbl[1217]? = some (xcw 193) := by with_unfolding_all rfl
set_option maxRecDepth 100000 in
theorem xcd_194 : lw_tbl[1201]? = some (xcw 194) := by with_unfolding_all rfl
set_option maxRecDepth 100000 in
theorem xcd_195 : lw_tbl[1225]? = some (xcw 195) := by with_unfolding_all rfl
set_option maxRecDepth 100000 in
theorem xcd_196 : lw_tbl[1221]? = some (xcw 196) := by with_unfolding_all rfl
set_option maxRecDepth 100000 in
theorem xcd_197 : lw_tbl[1232]? = some (xcw 197) := by with_unfolding_all rfl
set_option maxRecDepth 100000 in
theorem xcd_198 : lw_tbl[1236]? = some (xcw 198) := by with_unfolding_all rfl
set_option maxRecDepth 100000 in
theorem xcd_199 : lw_tbl[1241]? = some (xcw 199) := by with_unfolding_all rfl
set_option maxRecDepth 100000 in
theorem xcd_200 : lw_tbl[1249]? = some (xcw 200) := by with_unfolding_all rfl
set_option maxRecDepth 100000 in
theorem xcd_201 : lw_tbl[1253]? = some (xcw 201) := by with_unfolding_all rfl
set_option maxRecDepth 100000 in
theorem xcd_202 : lw_tbl[1245]? = some (xcw 202) := by with_unfolding_all rfl
set_option maxRecDepth 100000 in
theorem xcd_203 : lw_tbl[1265]? = some (xcw 203) := by with_unfolding_all rfl
set_option maxRecDepth 100000 in
theorem xcd_204 : lw_tbl[1261]? = some (xcw 204) := by with_unfolding_all rfl
set_option maxRecDepth 100000 in
theorem xcd_205 : lw_tbl[1270]? = some (xcw 205) := by with_unfolding_all rfl
set_option maxRecDepth 100000 in
theorem xcd_206 : lw_tbl[1279]? = some (xcw 206) := by with_unfolding_all rfl
set_option maxRecDepth 100000 in
theorem xcd_207 : lw_tbl[1283]? = some (xcw 207) := by with_unfolding_all rfl
set_option maxRecDepth 100000 in
theorem xcd_208 : lw_tbl[1287]? = some (xcw 208) := by with_unfolding_all rfl
set_option maxRecDepth 100000 in
theorem xcd_209 : lw_tbl[1275]? = some (xcw 209) := by with_unfolding_all rfl
set_option maxRecDepth 100000 in
theorem xcd_210 : lw_tbl[1295]? = some (xcw 210) := by with_unfolding_all rfl
set_option maxRecDepth 100000 in
theorem xcd_211 : lw_tbl[1299]? = some (xcw 211) := by with_unfolding_all rfl
set_option maxRecDepth 100000 in
theorem xcd_212 : lw_tbl[1291]? = some (xcw 212) := by with_unfolding_all rfl
set_option maxRecDepth 100000 in
theorem xcd_213 : lw_tbl[1303]? = some (xcw 213) := by with_unfolding_all rfl
set_option maxRecDepth 100000 in
theorem xcd_214 : lw_tbl[1307]? = some (xcw 214) := by with_unfolding_all rfl
set_option maxRecDepth 100000 in
theorem xcd_215 : lw_tbl[1315]? = some (xcw 215) := by with_unfolding_all rfl
set_option maxRecDepth 100000 in
theorem xcd_216 : lw_tbl[1319]? = some (xcw 216) := by with_unfolding_all rfl
set_option maxRecDepth 100000 in
theorem xcd_217 : lw_tbl[1311]? = some (xcw 217) := by with_unfolding_all rfl
set_option maxRecDepth 100000 in
theorem xcd_218 : lw_tbl[1323]? = some (xcw 218) := by with_unfolding_all rfl
set_option maxRecDepth 100000 in
theorem xcd_219 : lw_tbl[1331]? = some (xcw 219) := by with_unfolding_all rfl
set_option maxRecDepth 100000 in
theorem xcd_220 : lw_tbl[1327]? = some (xcw 220) := by with_unfolding_all rfl
set_option maxRecDepth 100000 in
theorem xcd_221 : lw_tbl[1335]? = some (xcw 221) := by with_unfolding_all rfl
set_option maxRecDepth 100000 in
theorem xcd_222 : lw_tbl[1343]? = some (xcw 222) := by with_unfolding_all rfl
set_option maxRecDepth 100000 in
theorem xcd_223 : lw_tbl[1339]? = some (xcw 223) := by with_unfolding_all rfl
set_option maxRecDepth 100000 in
theorem xcd_224 : lw_tbl[1356]? = some (xcw 224) := by with_unfolding_all rfl
set_option maxRecDepth 100000 in
theorem xcd_225 : lw_tbl[1353]? = some (xcw 225) := by with_unfolding_all rfl
set_option maxRecDepth 100000 in
theorem xcd_226 : lw_tbl[1347]? = some (xcw 226) := by with_unfolding_all rfl
set_option maxRecDepth 100000 in
theorem xcd_227 : lw_tbl[1360]? = some (xcw 227) := by with_unfolding_all rfl
set_option maxRecDepth 100000 in
theorem xcd_228 : lw_tbl[1364]? = some (xcw 228) := by with_unfolding_all rfl
set_option maxRecDepth 100000 in
theorem xcd_229 : lw_tbl[1372]? = some (xcw 229) := by with_unfolding_all rfl
set_option maxRecDepth 100000 in
theorem xcd_230 : lw_tbl[1376]? = some (xcw 230) := by with_unfolding_all rfl
set_option maxRecDepth 100000 in
theorem xcd_231 : lw_tbl[1380]? = some (xcw 231) := by with_unfolding_all rfl
set_option maxRecDepth 100000 in
theorem xcd_232 : lw_tbl[1393]? = some (xcw 232) := by with_unfolding_all rfl
set_option maxRecDepth 100000 in
theorem xcd_233 : lw_tbl[1389]? = some (xcw 233) := by with_unfolding_all rfl
set_option maxRecDepth 100000 in
theorem xcd_234 : lw_tbl[1384]? = some (xcw 234) := by with_unfolding_all rfl
set_option maxRecDepth 100000 in
theorem xcd_235 : lw_tbl[1397]? = some (xcw 235) := by with_unfolding_all rfl
set_option maxRecDepth 100000 in
theorem xcd_236 : lw_tbl[1401]? = some (xcw 236) := by with_unfolding_all rfl
set_option maxRecDepth 100000 in
theorem xcd_237 : lw_tbl[1405]? = some (xcw 237) := by with_unfolding_all rfl
set_option maxRecDepth 100000 in
theorem xcd_238 : lw_tbl[591]? = some (xcw 238) := by with_unfolding_all rfl
theorem xcd_all : ∀ f, f < 239 → xcw f ∈ lw_tbl := by
  intro f hf
  match f, hf with
  | 0, _ => exact List.mem_of_getElem? xcd_0
  | 1, _ => exact List.mem_of_getElem? xcd_1
  | 2, _ => exact List.mem_of_getElem? xcd_2
  | 3, _ => exact List.mem_of_getElem? xcd_3
  | 4, _ => exact List.mem_of_getElem? xcd_4
  | 5, _ => exact List.mem_of_getElem? xcd_5
  | 6, _ => exact List.mem_of_getElem? xcd_6
  | 7, _ => exact List.mem_of_getElem? xcd_7
  | 8, _ => exact List.mem_of_getElem? xcd_8
  | 9, _ => exact List.mem_of_getElem? xcd_9
  | 10, _ => exact List.mem_of_getElem? xcd_10
  | 11, _ => exact List.mem_of_getElem? xcd_11
  | 12, _ => exact List.mem_of_getElem? xcd_12
  | 13, _ => exact List.mem_of_getElem? xcd_13
  | 14, _ => exact List.mem_of_getElem? xcd_14
  | 15, _ => exact List.mem_of_getElem? xcd_15
  | 16, _ => exact List.mem_of_getElem? xcd_16
  | 17, _ => exact List.mem_of_getElem? xcd_17
  | 18, _ => exact List.mem_of_getElem? xcd_18
  | 19, _ => exact List.mem_of_getElem? xcd_19
  | 20, _ => exact List.mem_of_getElem? xcd_20
  | 21, _ => exact List.mem_of_getElem? xcd_21
  | 22, _ => exact List.mem_of_getElem? xcd_22
  | 23, _ => exact List.mem_of_getElem? xcd_23
  | 24, _ => exact List.mem_of_getElem? xcd_24
  | 25, _ => exact List.mem_of_getElem? xcd_25
  | 26, _ => exact List.mem_of_getElem? xcd_26
  | 27, _ => exact List.mem_of_getElem? xcd_27
  | 28, _ => exact List.mem_of_getElem? xcd_28
  | 29, _ => exact List.mem_of_getElem? xcd_29
  | 30, _ => exact List.mem_of_getElem? xcd_30
  | 31, _ => exact List.mem_of_getElem? xcd_31
  | 32, _ => exact List.mem_of_getElem? xcd_32
  | 33, _ => exact List.mem_of_getElem? xcd_33
  | 34, _ => exact List.mem_of_getElem? xcd_34
  | 35, _ => exact List.mem_of_getElem? xcd_35
  | 36, _ => exact List.mem_of_getElem? xcd_36
  | 37, _ => exact List.mem_of_getElem? xcd_37
  | 38, _ => exact List.mem_of_getElem? xcd_38
  | 39, _ => exact List.mem_of_getElem? xcd_39
  | 40, _ => exact List.mem_of_getElem? xcd_40
  | 41, _ => exact List.mem_of_getElem? xcd_41
  | 42, _ => exact List.mem_of_getElem? xcd_42
  | 43, _ => exact List.mem_of_getElem? xcd_43
  | 44, _ => exact List.mem_of_getElem? xcd_44
  | 45, _ => exact List.mem_of_getElem? xcd_45
  | 46, _ => exact List.mem_of_getElem? xcd_46
  | 47, _ => exact List.mem_of_getElem? xcd_47
  | 48, _ => exact List.mem_of_getElem? xcd_48
  | 49, _ => exact List.mem_of_getElem? xcd_49
  | 50, _ => exact List.mem_of_getElem? xcd_50
  | 51, _ => exact List.mem_of_getElem? xcd_51
  | 52, _ => exact List.mem_of_getElem? xcd_52
  | 53, _ => exact List.mem_of_getElem? xcd_53
  | 54, _ => exact List.mem_of_getElem? xcd_54
  | 55, _ => exact List.mem_of_getElem? xcd_55
  | 56, _ => exact List.mem_of_getElem? xcd_56
  | 57, _ => exact List.mem_of_getElem? xcd_57
  | 58, _ => exact List.mem_of_getElem? xcd_58
  | 59, _ => exact List.mem_of_getElem? xcd_59
  | 60, _ => exact List.mem_of_getElem? xcd_60
  | 61, _ => exact List.mem_of_getElem? xcd_61
  | 62, _ => exact List.mem_of_getElem? xcd_62
  | 63, _ => exact List.mem_of_getElem? xcd_63
  | 64, _ => exact List.mem_of_getElem? xcd_64
  | 65, _ => exact List.mem_of_getElem? xcd_65
  | 66, _ => exact List.mem_of_getElem? xcd_66
  | 67, _ => exact List.mem_of_getElem? xcd_67
  | 68, _ => exact List.mem_of_getElem? xcd_68
  | 69, _ => exact List.mem_of_getElem? xcd_69
  | 70, _ => exact List.mem_of_getElem? xcd_70
  | 71, _ => exact List.mem_of_getElem? xcd_71
  | 72, _ => exact List.mem_of_getElem? xcd_72
  | 73, _ => exact List.mem_of_getElem? xcd_73
  | 74, _ => exact List.mem_of_getElem? xcd_74
  | 75, _ => exact List.mem_of_getElem? xcd_75
  | 76, _ => exact List.mem_of_getElem? xcd_76
  | 77, _ => exact List.mem_of_getElem? xcd_77
  | 78, _ => exact List.mem_of_getElem? xcd_78
  | 79, _ => exact List.mem_of_getElem? xcd_79
  | 80, _ => exact List.mem_of_getElem? xcd_80
  | 81, _ => exact List.mem_of_getElem? xcd_81
  | 82, _ => exact List.mem_of_getElem? xcd_82
  | 83, _ => exact List.mem_of_getElem? xcd_83
  | 84, _ => exact List.mem_of_getElem? xcd_84
  | 85, _ => exact List.mem_of_getElem? xcd_85
  | 86, _ => exact List.mem_of_getElem? xcd_86
  | 87, _ => exact List.mem_of_getElem? xcd_87
  | 88, _ => exact List.mem_of_getElem? xcd_88
  | 89, _ => exact List.mem_of_getElem? xcd_89
  | 90, _ => exact List.mem_of_getElem? xcd_90
  | 91, _ => exact List.mem_of_getElem? xcd_91
  | 92, _ => exact List.mem_of_getElem? xcd_92
  | 93, _ => exact List.mem_of_getElem? xcd_93
  | 94, _ => exact List.mem_of_getElem? xcd_94
  | 95, _ => exact List.mem_of_getElem? xcd_95
  | 96, _ => exact List.mem_of_getElem? xcd_96
  | 97, _ => exact List.mem_of_getElem? xcd_97
  | 98, _ => exact List.mem_of_getElem? xcd_98
  | 99, _ => exact List.mem_of_getElem? xcd_99
  | 100, _ => exact List.mem_of_getElem? xcd_100
  | 101, _ => exact List.mem_of_getElem? xcd_101
  | 102, _ => exact List.mem_of_getElem? xcd_102
  | 103, _ => exact List.mem_of_getElem? xcd_103
  | 104, _ => exact List.mem_of_getElem? xcd_104
  | 105, _ => exact List.mem_of_getElem? xcd_105
  | 106, _ => exact List.mem_of_getElem? xcd_106
  | 107, _ => exact List.mem_of_getElem? xcd_107
  | 108, _ => exact List.mem_of_getElem? xcd_108
  | 109, _ => exact List.mem_of_getElem? xcd_109
  | 110, _ => exact List.mem_of_getElem? xcd_110
  | 111, _ => exact List.mem_of_getElem? xcd_111
  | 112, _ => exact List.mem_of_getElem? xcd_112
  | 113, _ => exact List.mem_of_getElem? xcd_113
  | 114, _ => exact List.mem_of_getElem? xcd_114
  | 115, _ => exact List.mem_of_getElem? xcd_115
  | 116, _ => exact List.mem_of_getElem? xcd_116
  | 117, _ => exact List.mem_of_getElem? xcd_117
  | 118, _ => exact List.mem_of_getElem? xcd_118
  | 119, _ => exact List.mem_of_getElem? xcd_119
  | 120, _ => exact List.mem_of_getElem? xcd_120
  | 121, _ => exact List.mem_of_getElem? xcd_121
  | 122, _ => exact List.mem_of_getElem? xcd_122
  | 123, _ => exact List.mem_of_getElem? xcd_123
  | 124, _ => exact List.mem_of_getElem? xcd_124
  | 125, _ => exact List.mem_of_getElem? xcd_125
  | 126, _ => exact List.mem_of_getElem? xcd_126
  | 127, _ => exact List.mem_of_getElem? xcd_127
  | 128, _ => exact List.mem_of_getElem? xcd_128
  | 129, _ => exact List.mem_of_getElem? xcd_129
  | 130, _ => exact List.mem_of_getElem? xcd_130
  | 131, _ => exact List.mem_of_getElem? xcd_131
  | 132, _ => exact List.mem_of_getElem? xcd_132
  | 133, _ => exact List.mem_of_getElem? xcd_133
  | 134, _ => exact List.mem_of_getElem? xcd_134
  | 135, _ => exact List.mem_of_getElem? xcd_135
  | 136, _ => exact List.mem_of_getElem? xcd_136
  | 137, _ => exact List.mem_of_getElem? xcd_137
  | 138, _ => exact List.mem_of_getElem? xcd_138
  | 139, _ => exact List.mem_of_getElem? xcd_139
  | 140, _ => exact List.mem_of_getElem? xcd_140
  | 141, _ => exact List.mem_of_getElem? xcd_141
  | 142, _ => exact List.mem_of_getElem? xcd_142
  | 143, _ => exact List.mem_of_getElem? xcd_143
  | 144, _ => exact List.mem_of_getElem? xcd_144
  | 145, _ => exact List.mem_of_getElem? xcd_145
  | 146, _ => exact List.mem_of_getElem? xcd_146
  | 147, _ => exact List.mem_of_getElem? xcd_147
  | 148, _ => exact List.mem_of_getElem? xcd_148
  | 149, _ => exact List.mem_of_getElem? xcd_149
  | 150, _ => exact List.mem_of_getElem? xcd_150
  | 151, _ => exact List.mem_of_getElem? xcd_151
  | 152, _ => exact List.mem_of_getElem? xcd_152
  | 153, _ => exact List.mem_of_getElem? xcd_153
  | 154, _ => exact List.mem_of_getElem? xcd_154
  | 155, _ => exact List.mem_of_getElem? xcd_155
  | 156, _ => exact List.mem_of_getElem? xcd_156
  | 157, _ => exact List.mem_of_getElem? xcd_157
  | 158, _ => exact List.mem_of_getElem? xcd_158
  | 159, _ => exact List.mem_of_getElem? xcd_159
  | 160, _ => exact List.mem_of_getElem? xcd_160
  | 161, _ => exact List.mem_of_getElem? xcd_161
  | 162, _ => exact List.mem_of_getElem? xcd_162
  | 163, _ => exact List.mem_of_getElem? xcd_163
  | 164, _ => exact List.mem_of_getElem? xcd_164
  | 165, _ => exact List.mem_of_getElem? xcd_165
  | 166, _ => exact List.mem_of_getElem? xcd_166
  | 167, _ => exact List.mem_of_getElem? xcd_167
  | 168, _ => exact List.mem_of_getElem? xcd_168
  | 169, _ => exact List.mem_of_getElem? xcd_169
  | 170, _ => exact List.mem_of_getElem? xcd_170
  | 171, _ => exact List.mem_of_getElem? xcd_171
  | 172, _ => exact List.mem_of_getElem? xcd_172
  | 173, _ => exact List.mem_of_getElem? xcd_173
  | 174, _ => exact List.mem_of_getElem? xcd_174
  | 175, _ => exact List.mem_of_getElem? xcd_175
  | 176, _ => exact List.mem_of_getElem? xcd_176
  | 177, _ => exact List.mem_of_getElem? xcd_177
  | 178, _ => exact List.mem_of_getElem? xcd_178
  | 179, _ => exact List.mem_of_getElem? xcd_179
  | 180, _ => exact List.mem_of_getElem? xcd_180
  | 181, _ => exact List.mem_of_getElem? xcd_181
  | 182, _ => exact List.mem_of_getElem? xcd_182
  | 183, _ => exact List.mem_of_getElem? xcd_183
  | 184, _ => exact List.mem_of_getElem? xcd_184
  | 185, _ => exact List.mem_of_getElem? xcd_185
  | 186, _ => exact List.mem_of_getElem? xcd_186
  | 187, _ => exact List.mem_of_getElem? xcd_187
  | 188, _ => exact List.mem_of_getElem? xcd_188
  | 189, _ => exact List.mem_of_getElem? xcd_189
  | 190, _ => exact List.mem_of_getElem? xcd_190
  | 191, _ => exact List.mem_of_getElem? xcd_191
  | 192, _ => exact List.mem_of_getElem? xcd_192
  | 193, _ => exact List.mem_of_getElem? xcd_193
  | 194, _ => exact List.mem_of_getElem? xcd_194
  | 195, _ => exact List.mem_of_getElem? xcd_195
  | 196, _ => exact List.mem_of_getElem? xcd_196
  | 197, _ => exact List.mem_of_getElem? xcd_197
  | 198, _ => exact List.mem_of_getElem? xcd_198
  | 199, _ => exact List.mem_of_getElem? xcd_199
  | 200, _ => exact List.mem_of_getElem? xcd_200
  | 201, _ => exact List.mem_of_getElem? xcd_201
  | 202, _ => exact List.mem_of_getElem? xcd_202
  | 203, _ => exact List.mem_of_getElem? xcd_203
  | 204, _ => exact List.mem_of_getElem? xcd_204
  | 205, _ => exact List.mem_of_getElem? xcd_205
  | 206, _ => exact List.mem_of_getElem? xcd_206
  | 207, _ => exact List.mem_of_getElem? xcd_207
  | 208, _ => exact List.mem_of_getElem? xcd_208
  | 209, _ => exact List.mem_of_getElem? xcd_209
  | 210, _ => exact List.mem_of_getElem? xcd_210
  | 211, _ => exact List.mem_of_getElem? xcd_211
  | 212, _ => exact List.mem_of_getElem? xcd_212
  | 213, _ => exact List.mem_of_getElem? xcd_213
  | 214, _ => exact List.mem_of_getElem? xcd_214
  | 215, _ => exact List.mem_of_getElem? xcd_215
  | 216, _ => exact List.mem_of_getElem? xcd_216
  | 217, _ => exact List.mem_of_getElem? xcd_217
  | 218, _ => exact List.mem_of_getElem? xcd_218
  | 219, _ => exact List.mem_of_getElem? xcd_219
  | 220, _ => exact List.mem_of_getElem? xcd_220
  | 221, _ => exact List.mem_of_getElem? xcd_221
  | 222, _ => exact List.mem_of_getElem? xcd_222
  | 223, _ => exact List.mem_of_getElem? xcd_223
  | 224, _ => exact List.mem_of_getElem? xcd_224
  | 225, _ => exact List.mem_of_getElem? xcd_225
  | 226, _ => exact List.mem_of_getElem? xcd_226
  | 227, _ => exact List.mem_of_getElem? xcd_227
  | 228, _ => exact List.mem_of_getElem? xcd_228
  | 229, _ => exact List.mem_of_getElem? xcd_229
  | 230, _ => exact List.mem_of_getElem? xcd_230
  | 231, _ => exact List.mem_of_getElem? xcd_231
  | 232, _ => exact List.mem_of_getElem? xcd_232
  | 233, _ => exact List.mem_of_getElem? xcd_233
  | 234, _ => exact List.mem_of_getElem? xcd_234
  | 235, _ => exact List.mem_of_getElem? xcd_235
  | 236, _ => exact List.mem_of_getElem? xcd_236
  | 237, _ => exact List.mem_of_getElem? xcd_237
  | 238, _ => exact List.mem_of_getElem? xcd_238
  | n + 239, h => exact absurd h (by omega)
def xitok (e : Nat × Nat × Nat × Nat) : Bool :=
  decide (e.2.2.1 < 239) && (match e.2.1 with
  | 0 => xgood (.methodLink (xR (e.1 / 1000)) (e.1 % 1000) (xyn e.2.2.1)) e.2.2.2 && !(xm e.2.2.1).2.2.2.2.2.2 && decide ((xyn e.2.2.1).name ≠ "<init>")
  | 1 => xthere (.methodLinkNest (xR (e.1 / 1000)) (e.1 % 1000) (xyn e.2.2.1) "BeanVoices") e.2.2.2 && !(xm e.2.2.1).2.2.2.2.2.2 && decide ((xyn e.2.2.1).name ≠ "<init>")
  | 2 => xgood (.methodLink (xR (e.1 / 1000)) (e.1 % 1000) (xyn e.2.2.1)) e.2.2.2 && (xm e.2.2.1).2.2.2.2.2.2
  | 3 => xthere (.methodLinkNest (xR (e.1 / 1000)) (e.1 % 1000) (xyn e.2.2.1) "BeanVoices") e.2.2.2 && (xm e.2.2.1).2.2.2.2.2.2
  | 4 => xgood (.methodLink (xR (e.1 / 1000)) (e.1 % 1000) (xyn e.2.2.1)) e.2.2.2 && !(xm e.2.2.1).2.2.2.2.2.2 && decide ((xyn e.2.2.1).name = "<init>") && decide ((xm e.2.2.1).2.2.2.2.1 = none)
  | 5 => xthere (.methodLinkNest (xR (e.1 / 1000)) (e.1 % 1000) (xyn e.2.2.1) "BeanVoices") e.2.2.2 && !(xm e.2.2.1).2.2.2.2.2.2 && decide ((xyn e.2.2.1).name = "<init>") && decide ((xm e.2.2.1).2.2.2.2.1 = none)
  | 6 => xgood (.methodLink (xR (e.1 / 1000)) (e.1 % 1000) Lib.objectInit) e.2.2.2
  | 7 => xgood (.methodLink (xR (e.1 / 1000)) (e.1 % 1000) arraycopyName) e.2.2.2
  | 8 => xgood (.methodLink (xR (e.1 / 1000)) (e.1 % 1000) Lib.Math.max.name) e.2.2.2
  | 9 => xgood (.methodLink (xR (e.1 / 1000)) (e.1 % 1000) Lib.Math.min.name) e.2.2.2
  | _ => false)
theorem xit_0 : xIT0.all xitok = true := by decide +kernel
theorem xit_1 : xIT1.all xitok = true := by decide +kernel
theorem xit_2 : xIT2.all xitok = true := by decide +kernel
theorem xit_3 : xIT3.all xitok = true := by decide +kernel
theorem xit_4 : xIT4.all xitok = true := by decide +kernel
theorem xit_all : xIT.all xitok = true := by
  simp only [xIT, List.all_append, xit_0, xit_1, xit_2, xit_3, xit_4, Bool.and_self]
theorem xobj_ok : (lw_tbl.contains (.instanceMethod Lib.objectInit) && goodWord (.instanceMethod Lib.objectInit) && lw_tbl.contains (.code Lib.objectInit ⟨#[0xb1]⟩ 1 none) && goodWord (.code Lib.objectInit ⟨#[0xb1]⟩ 1 none)) = true := by decide +kernel
theorem xmath_ok : (lw_tbl.contains (.static Lib.Math.max.name) && goodWord (.static Lib.Math.max.name) && lw_tbl.contains (.static Lib.Math.min.name) && goodWord (.static Lib.Math.min.name) && lw_tbl.contains (.initialized "java/lang/Math") && goodWord (.initialized "java/lang/Math") && lw_tbl.contains (.code Lib.Math.max.name Lib.Math.max.code 2 (some .int)) && goodWord (.code Lib.Math.max.name Lib.Math.max.code 2 (some .int)) && lw_tbl.contains (.code Lib.Math.min.name Lib.Math.min.code 2 (some .int)) && goodWord (.code Lib.Math.min.name Lib.Math.min.code 2 (some .int))) = true := by decide +kernel
