set_option maxRecDepth 20000 in
theorem ggL_cell_X7_cell : GoodIn wsL_cell wsX7_cell := goodIn_ca (goodIn_r _ [6, 7, 8, 9, 10, 11, 12, 13, 14, 15, 16, 17, 18, 19, 20, 21, 22, 23, 24, 25, 26, 27, 28, 29, 30, 31, 32, 33, 34, 35, 36, 37, 38, 39, 40, 41, 42, 43, 44, 45, 46, 47, 48, 49, 50, 51, 52, 53, 54, 55, 56, 57, 58, 59] rfl (by decide +kernel)) (goodIn_sub (fun _ h => List.mem_cons_of_mem _ (List.mem_append_right _ h)) (by decide +kernel))
set_option maxRecDepth 20000 in
theorem gL_cell_X7_cell : GoodIn wsL_cell (wsV RL 7 RX7 yX7_cell wsX7_cell) := goodIn_app (goodIn_r _ [2, 3, 4, 5] rfl (by decide +kernel)) ggL_cell_X7_cell
set_option maxRecDepth 20000 in
theorem ggL_stand_X7_stand : GoodIn wsL_stand wsX7_stand := goodIn_ca (goodIn_r _ [6, 7, 8, 9, 10, 11, 12, 13, 14, 15, 16, 17, 18, 19, 20, 21, 22, 23, 24, 25, 26, 27, 28, 29, 30, 31, 32, 33, 34, 35, 36, 37, 38, 39, 40, 41, 42] rfl (by decide +kernel)) (goodIn_sub (fun _ h => List.mem_cons_of_mem _ (List.mem_append_right _ h)) (by decide +kernel))
set_option maxRecDepth 20000 in
theorem gL_stand_X7_stand : GoodIn wsL_stand (wsV RL 15 RX7 yX7_stand wsX7_stand) := goodIn_app (goodIn_r _ [2, 3, 4, 5] rfl (by decide +kernel)) ggL_stand_X7_stand
set_option maxRecDepth 20000 in
theorem ggL_law_X7_init : GoodIn wsL_law wsX7_init := goodIn_r _ [9, 10, 11, 12, 13, 14, 15, 16, 17, 18, 19, 20, 21, 22, 23, 24, 25, 26, 27, 28, 29, 30, 31, 32, 33, 34, 35, 36, 37, 38, 39, 40, 41, 42, 43, 44, 45, 46, 47, 48, 49, 50, 51, 52, 53, 54, 55, 56, 57, 58, 59, 60, 61, 62, 63, 64, 65, 66, 67, 68, 69, 70, 71, 72, 73, 74, 75, 76, 77, 78, 79, 80, 81, 82, 83, 84, 85, 86, 87, 88, 89, 90, 91, 92, 93, 94, 95, 96, 97, 98, 99, 100, 101, 102, 103, 104, 105, 106, 107, 108, 109, 110, 111, 112, 113, 114, 115, 116, 117, 118, 119, 120, 121, 122, 123, 124, 125, 126, 127, 128, 129, 130, 131, 132, 133, 134, 135, 136, 137, 1084, 1085, 1086, 1087, 1088, 1089, 1090, 1091, 1092, 1093, 1094, 1095, 1096, 1097, 1098, 1099, 1100, 1101, 1102, 1018, 1019, 1020, 1021, 1022, 1023, 1024, 1025, 1026, 1027, 1103, 1104, 1105, 1106, 1107, 1108, 1109, 1110, 1111, 1112, 1113, 1114, 1115, 1116, 1117, 1118, 1119, 1120, 1121, 1122, 1123, 1124, 1125, 1126, 1127, 1128, 1129, 1130, 1131, 1132, 1133, 1134, 1135, 1136, 1137] rfl (by decide +kernel)
set_option maxRecDepth 20000 in
theorem gL_law_X7_init : GoodIn wsL_law (wsX7_init) := ggL_law_X7_init
set_option maxRecDepth 20000 in
theorem ggL_law_X8_init : GoodIn wsL_law wsX8_init := goodIn_r _ [140, 141, 11, 12, 142, 143, 49, 144, 145, 146, 147, 51, 148, 149, 150, 151, 152, 153, 154, 155, 156, 157, 158, 159, 160, 161, 162, 163, 164, 165, 166, 167, 168, 169, 170, 171, 172, 173, 174, 175, 176, 177, 178, 179, 180, 181, 182, 183, 184, 185, 186, 187, 188, 5, 189, 190, 191, 192, 193, 194, 1028, 1029, 1030, 1031, 1032, 1033, 1034, 1035, 1036, 1037, 1038, 1039, 1040, 1041, 1042, 1043, 1044, 1045, 1046, 1047, 1048, 1049, 1050, 1051, 1052, 1053, 1054, 1055, 1056, 1057, 1058, 1059, 1060, 1061, 1062, 1063, 1064, 1065, 1066, 1067, 1068, 1069, 1070, 1071, 1072, 1073, 1074, 1075, 1076, 1077, 1078, 1079, 1080, 1081, 1082, 1083] rfl (by decide +kernel)
set_option maxRecDepth 20000 in
theorem gL_law_X8_init : GoodIn wsL_law (wsX8_init) := ggL_law_X8_init
set_option maxRecDepth 20000 in
theorem ggL_law_X7_clamp : GoodIn wsL_law wsX7_clamp := goodIn_r _ [198, 16, 20, 24, 41, 199, 66, 67, 15, 68, 69, 70, 71, 60, 61, 63, 50, 52, 72, 73, 74, 75, 76, 77, 78, 79, 80, 81, 82, 83, 84, 85, 53, 54, 55, 56, 57, 58, 59, 62, 86, 87, 88, 89, 90, 200, 201, 202, 19, 203, 204, 205, 206, 207, 23, 208, 209, 210, 1018, 1019, 1020, 1021, 1022, 1023, 1024, 1025, 1026, 1027, 1084, 1085, 1086, 1087, 1088, 1089, 1090, 1091, 1092, 1093, 1094, 1095, 1096, 1097, 1098, 1099, 1100, 1101, 1102, 1103, 1104, 1105, 1106, 1107, 1108, 1109, 1110, 1111, 1112, 1113, 1114, 1115, 1116, 1117, 1118] rfl (by decide +kernel)
set_option maxRecDepth 20000 in
theorem gL_law_X7_clamp : GoodIn wsL_law (wsV RL 23 RX7 yX7_clamp wsX7_clamp) := goodIn_app (goodIn_r _ [195, 196, 197, 2] rfl (by decide +kernel)) ggL_law_X7_clamp
set_option maxRecDepth 20000 in
theorem ggL_law_X8_clamp : GoodIn wsL_law wsX8_clamp := goodIn_r _ [214, 215, 216, 142, 143, 217, 218, 219, 5, 220, 186, 187, 188, 189, 144, 145, 146, 147, 148, 149, 150, 151, 152, 153, 190, 191, 192, 193, 194, 1028, 1029, 1030, 1031, 1032, 1033, 1034, 1035, 1036, 1037, 1038, 1039, 1040, 1041, 1042, 1043, 1044, 1045, 1046, 1047, 1048, 1049, 1050, 1051, 1052, 1053, 1054, 1055, 1056, 1057, 1058, 1059, 1060, 1061, 1062, 1063, 1064, 1065, 1066, 1067, 1068, 1069, 1070, 1071, 1072, 1073, 1074, 1075, 1076, 1077, 1078, 1079, 1080, 1081, 1082, 1083] rfl (by decide +kernel)
set_option maxRecDepth 20000 in
theorem gL_law_X8_clamp : GoodIn wsL_law (wsV RL 27 RX8 yX8_clamp wsX8_clamp) := goodIn_app (goodIn_r _ [211, 212, 213, 5] rfl (by decide +kernel)) ggL_law_X8_clamp
set_option maxRecDepth 20000 in
theorem ggL_law_X7_lay : GoodIn wsL_law wsX7_lay := goodIn_r _ [224, 41, 16, 225, 226, 227, 15, 228, 69, 70, 229, 230, 231, 90, 232, 77, 78, 79, 233, 234, 235, 236, 61, 60, 50, 53, 55, 54, 56, 86, 87, 88, 89, 1018, 1019, 1020, 1021, 1022, 1023, 1024, 1025, 1026, 1027, 1084, 1085, 1086, 1087, 1088, 1089, 1090, 1091, 1092, 1093, 1094, 1095, 1096, 1097, 1098, 1099, 1100, 1101, 1102] rfl (by decide +kernel)
set_option maxRecDepth 20000 in
theorem gL_law_X7_lay : GoodIn wsL_law (wsV RL 28 RX7 yX7_lay wsX7_lay) := goodIn_app (goodIn_r _ [221, 222, 223, 2] rfl (by decide +kernel)) ggL_law_X7_lay
set_option maxRecDepth 20000 in
theorem ggL_law_X8_lay : GoodIn wsL_law wsX8_lay := goodIn_r _ [240, 215, 241, 190, 242, 243, 244, 5, 245, 142, 143, 218, 219, 220, 246, 247, 248, 249, 149, 150, 144, 146, 145, 147, 250, 251, 252, 253, 254, 255, 1028, 1029, 1030, 1031, 1032, 1033, 1034, 1035, 1036, 1037, 1038, 1039, 1040, 1041, 1042, 1043, 1044, 1045, 1046, 1047, 1048, 1049, 1050, 1051, 1052, 1053, 1054, 1055, 1056, 1057, 1058, 1059, 1060, 1061, 1062, 1063, 1064, 1065, 1066, 1067, 1068, 1069, 1070, 1071, 1072, 1073, 1074, 1075, 1076, 1077, 1078, 1079, 1080, 1081, 1082, 1083] rfl (by decide +kernel)
set_option maxRecDepth 20000 in
theorem gL_law_X8_lay : GoodIn wsL_law (wsV RL 31 RX8 yX8_lay wsX8_lay) := goodIn_app (goodIn_r _ [237, 238, 239, 5] rfl (by decide +kernel)) ggL_law_X8_lay
set_option maxRecDepth 20000 in
theorem ggL_law_X7_layRow : GoodIn wsL_law wsX7_layRow := goodIn_r _ [259, 41, 16, 260, 225, 226, 227, 15, 228, 69, 70, 261, 262, 2, 263, 229, 230, 231, 90, 232, 77, 78, 79, 233, 234, 235, 236, 61, 60, 50, 53, 55, 54, 56, 86, 87, 88, 89, 1018, 1019, 1020, 1021, 1022, 1023, 1024, 1025, 1026, 1027, 1084, 1085, 1086, 1087, 1088, 1089, 1090, 1091, 1092, 1093, 1094, 1095, 1096, 1097, 1098, 1099, 1100, 1101, 1102] rfl (by decide +kernel)
set_option maxRecDepth 20000 in
theorem gL_law_X7_layRow : GoodIn wsL_law (wsV RL 32 RX7 yX7_layRow wsX7_layRow) := goodIn_app (goodIn_r _ [256, 257, 258, 2] rfl (by decide +kernel)) ggL_law_X7_layRow
set_option maxRecDepth 20000 in
theorem ggL_law_X8_layRow : GoodIn wsL_law wsX8_layRow := goodIn_r _ [267, 215, 143, 241, 190, 142, 218, 219, 5, 220, 246, 247, 248, 249, 149, 150, 144, 146, 145, 147, 250, 251, 252, 253, 254, 255, 1028, 1029, 1030, 1031, 1032, 1033, 1034, 1035, 1036, 1037, 1038, 1039, 1040, 1041, 1042, 1043, 1044, 1045, 1046, 1047, 1048, 1049, 1050, 1051, 1052, 1053, 1054, 1055, 1056, 1057, 1058, 1059, 1060, 1061, 1062, 1063, 1064, 1065, 1066, 1067, 1068, 1069, 1070, 1071, 1072, 1073, 1074, 1075, 1076, 1077, 1078, 1079, 1080, 1081, 1082, 1083] rfl (by decide +kernel)
set_option maxRecDepth 20000 in
theorem gL_law_X8_layRow : GoodIn wsL_law (wsV RL 36 RX8 yX8_layRow wsX8_layRow) := goodIn_app (goodIn_r _ [264, 265, 266, 5] rfl (by decide +kernel)) ggL_law_X8_layRow
set_option maxRecDepth 20000 in
theorem ggL_law_X7_hole : GoodIn wsL_law wsX7_hole := goodIn_r _ [271, 41, 16, 20, 272, 273, 274, 15, 275, 52, 276, 226, 227, 228, 69, 70, 76, 77, 78, 79, 232, 277, 278, 279, 19, 280, 204, 94, 95, 1018, 1019, 1020, 1021, 1022, 1023, 1024, 1025, 1026, 1027, 1084, 1085, 1086, 1087, 1088, 1089, 1090, 1091, 1092, 1093, 1094, 1095, 1096, 1097, 1098, 1099, 1100, 1101, 1102, 1103, 1104, 1105, 1106] rfl (by decide +kernel)
set_option maxRecDepth 20000 in
theorem gL_law_X7_hole : GoodIn wsL_law (wsV RL 37 RX7 yX7_hole wsX7_hole) := goodIn_app (goodIn_r _ [268, 269, 270, 2] rfl (by decide +kernel)) ggL_law_X7_hole
set_option maxRecDepth 20000 in
theorem ggL_law_X8_hole : GoodIn wsL_law wsX8_hole := goodIn_r _ [284, 215, 217, 190, 154, 155, 242, 243, 244, 5, 245, 142, 143, 218, 219, 220, 285, 286, 287, 288, 289, 290, 291, 292, 293, 294, 295, 296, 1028, 1029, 1030, 1031, 1032, 1033, 1034, 1035, 1036, 1037, 1038, 1039, 1040, 1041, 1042, 1043, 1044, 1045, 1046, 1047, 1048, 1049, 1050, 1051, 1052, 1053, 1054, 1055, 1056, 1057, 1058, 1059, 1060, 1061, 1062, 1063, 1064, 1065, 1066, 1067, 1068, 1069, 1070, 1071, 1072, 1073, 1074, 1075, 1076, 1077, 1078, 1079, 1080, 1081, 1082, 1083] rfl (by decide +kernel)
set_option maxRecDepth 20000 in
theorem gL_law_X8_hole : GoodIn wsL_law (wsV RL 40 RX8 yX8_hole wsX8_hole) := goodIn_app (goodIn_r _ [281, 282, 283, 5] rfl (by decide +kernel)) ggL_law_X8_hole
set_option maxRecDepth 20000 in
theorem ggL_law_X7_light : GoodIn wsL_law wsX7_light := goodIn_r _ [300, 41, 16, 301, 20, 32, 302, 303, 304, 15, 305, 58, 63, 306, 307, 308, 309, 310, 311, 312, 19, 313, 204, 96, 95, 314, 315, 316, 31, 317, 120, 318, 73, 74, 75, 319, 320, 321, 322, 57, 56, 1018, 1019, 1020, 1021, 1022, 1023, 1024, 1025, 1026, 1027, 1084, 1085, 1086, 1087, 1088, 1089, 1090, 1091, 1092, 1093, 1094, 1095, 1096, 1097, 1098, 1099, 1100, 1101, 1102, 1103, 1104, 1105, 1106, 1121, 1122, 1123, 1124, 1125, 1126, 1127, 1128, 1129] rfl (by decide +kernel)
set_option maxRecDepth 20000 in
theorem gL_law_X7_light : GoodIn wsL_law (wsV RL 41 RX7 yX7_light wsX7_light) := goodIn_app (goodIn_r _ [297, 298, 299, 2] rfl (by decide +kernel)) ggL_law_X7_light
set_option maxRecDepth 20000 in
theorem ggL_law_X8_light : GoodIn wsL_law wsX8_light := goodIn_r _ [326, 215, 190, 144, 156, 157, 146, 158, 151, 217, 159, 155, 194, 327, 176, 328, 329, 330, 5, 331, 191, 192, 193, 148, 147, 1028, 1029, 1030, 1031, 1032, 1033, 1034, 1035, 1036, 1037, 1038, 1039, 1040, 1041, 1042, 1043, 1044, 1045, 1046, 1047, 1048, 1049, 1050, 1051, 1052, 1053, 1054, 1055, 1056, 1057, 1058, 1059, 1060, 1061, 1062, 1063, 1064, 1065, 1066, 1067, 1068, 1069, 1070, 1071, 1072, 1073, 1074, 1075, 1076, 1077, 1078, 1079, 1080, 1081, 1082, 1083] rfl (by decide +kernel)
set_option maxRecDepth 20000 in
theorem gL_law_X8_light : GoodIn wsL_law (wsV RL 45 RX8 yX8_light wsX8_light) := goodIn_app (goodIn_r _ [323, 324, 325, 5] rfl (by decide +kernel)) ggL_law_X8_light
