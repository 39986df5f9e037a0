set_option maxRecDepth 20000 in
theorem ggL_law_L_cell : GoodIn wsL_law wsL_cell := goodIn_ca (goodIn_r _ [656, 657, 658, 659, 660, 2, 661, 662, 663, 16, 301, 596, 664, 665, 403, 666, 352, 667, 668, 669, 225, 226, 227, 15, 228, 69, 70, 232, 77, 78, 79, 1018, 1019, 1020, 1021, 1022, 1023, 1024, 1025, 1026, 1027, 1084, 1085, 1086, 1087, 1088, 1089, 1090, 1091, 1092, 1093, 1094, 1095, 1096, 1097, 1098, 1099, 1100, 1101, 1102] rfl (by decide +kernel)) (goodIn_sub (fun _ h => List.mem_append_right _ h) (by decide +kernel))
set_option maxRecDepth 20000 in
theorem gL_law_L_cell : GoodIn wsL_law (va_wsS RL 79 yL_cell wsL_cell) := goodIn_app (goodIn_r _ [653, 654, 655] rfl (by decide +kernel)) ggL_law_L_cell
set_option maxRecDepth 20000 in
theorem ggL_law_X8_cell : GoodIn wsL_law wsX8_cell := goodIn_r _ [673, 215, 216, 144, 145, 146, 147, 148, 151, 152, 150, 149, 242, 243, 244, 5, 245, 142, 143, 218, 219, 220, 674, 675, 676, 677, 285, 286, 287, 288, 289, 290, 291, 292, 293, 294, 295, 296, 1028, 1029, 1030, 1031, 1032, 1033, 1034, 1035, 1036, 1037, 1038, 1039, 1040, 1041, 1042, 1043, 1044, 1045, 1046, 1047, 1048, 1049, 1050, 1051, 1052, 1053, 1054, 1055, 1056, 1057, 1058, 1059, 1060, 1061, 1062, 1063, 1064, 1065, 1066, 1067, 1068, 1069, 1070, 1071, 1072, 1073, 1074, 1075, 1076, 1077, 1078, 1079, 1080, 1081, 1082, 1083] rfl (by decide +kernel)
set_option maxRecDepth 20000 in
theorem gL_law_X8_cell : GoodIn wsL_law (wsV RL 84 RX8 yX8_cell wsX8_cell) := goodIn_app (goodIn_r _ [670, 671, 672, 5] rfl (by decide +kernel)) ggL_law_X8_cell
set_option maxRecDepth 20000 in
theorem ggL_law_X8_thrown : GoodIn wsL_law wsX8_thrown := goodIn_r _ [681, 215, 1028, 1029, 1030, 1031, 1032, 1033, 1034, 1035, 1036, 1037, 1038, 1039, 1040, 1041, 1042, 1043, 1044, 1045, 1046, 1047, 1048, 1049, 1050, 1051, 1052, 1053, 1054, 1055, 1056, 1057, 1058, 1059, 1060, 1061, 1062, 1063, 1064, 1065, 1066, 1067, 1068, 1069, 1070, 1071, 1072, 1073, 1074, 1075, 1076, 1077, 1078, 1079, 1080, 1081, 1082, 1083] rfl (by decide +kernel)
set_option maxRecDepth 20000 in
theorem gL_law_X8_thrown : GoodIn wsL_law (wsV RL 85 RX8 yX8_thrown wsX8_thrown) := goodIn_app (goodIn_r _ [678, 679, 680, 5] rfl (by decide +kernel)) ggL_law_X8_thrown
set_option maxRecDepth 20000 in
theorem ggL_law_X7_all : GoodIn wsL_law wsX7_all := goodIn_r _ [685, 16, 668, 301, 596, 686, 687, 511, 512, 513, 15, 514, 71, 1018, 1019, 1020, 1021, 1022, 1023, 1024, 1025, 1026, 1027, 1084, 1085, 1086, 1087, 1088, 1089, 1090, 1091, 1092, 1093, 1094, 1095, 1096, 1097, 1098, 1099, 1100, 1101, 1102] rfl (by decide +kernel)
set_option maxRecDepth 20000 in
theorem gL_law_X7_all : GoodIn wsL_law (wsV RL 88 RX7 yX7_all wsX7_all) := goodIn_app (goodIn_r _ [682, 683, 684, 2] rfl (by decide +kernel)) ggL_law_X7_all
set_option maxRecDepth 20000 in
theorem ggL_law_X8_all : GoodIn wsL_law wsX8_all := goodIn_r _ [691, 215, 150, 144, 145, 192, 193, 627, 628, 5, 629, 1028, 1029, 1030, 1031, 1032, 1033, 1034, 1035, 1036, 1037, 1038, 1039, 1040, 1041, 1042, 1043, 1044, 1045, 1046, 1047, 1048, 1049, 1050, 1051, 1052, 1053, 1054, 1055, 1056, 1057, 1058, 1059, 1060, 1061, 1062, 1063, 1064, 1065, 1066, 1067, 1068, 1069, 1070, 1071, 1072, 1073, 1074, 1075, 1076, 1077, 1078, 1079, 1080, 1081, 1082, 1083] rfl (by decide +kernel)
set_option maxRecDepth 20000 in
theorem gL_law_X8_all : GoodIn wsL_law (wsV RL 91 RX8 yX8_all wsX8_all) := goodIn_app (goodIn_r _ [688, 689, 690, 5] rfl (by decide +kernel)) ggL_law_X8_all
set_option maxRecDepth 20000 in
theorem ggL_law_X7_told : GoodIn wsL_law wsX7_told := goodIn_r _ [695, 24, 594, 595, 696, 697, 698, 699, 597, 598, 599, 23, 600, 209, 1018, 1019, 1020, 1021, 1022, 1023, 1024, 1025, 1026, 1027, 1107, 1108, 1109, 1110, 1111, 1112, 1113, 1114, 1115, 1116, 1117, 1118] rfl (by decide +kernel)
set_option maxRecDepth 20000 in
theorem gL_law_X7_told : GoodIn wsL_law (wsV RL 92 RX7 yX7_told wsX7_told) := goodIn_app (goodIn_r _ [692, 693, 694, 2] rfl (by decide +kernel)) ggL_law_X7_told
set_option maxRecDepth 20000 in
theorem ggL_law_X8_told : GoodIn wsL_law wsX8_told := goodIn_r _ [703, 215, 191, 165, 166, 167, 168, 169, 170, 218, 219, 5, 220, 1028, 1029, 1030, 1031, 1032, 1033, 1034, 1035, 1036, 1037, 1038, 1039, 1040, 1041, 1042, 1043, 1044, 1045, 1046, 1047, 1048, 1049, 1050, 1051, 1052, 1053, 1054, 1055, 1056, 1057, 1058, 1059, 1060, 1061, 1062, 1063, 1064, 1065, 1066, 1067, 1068, 1069, 1070, 1071, 1072, 1073, 1074, 1075, 1076, 1077, 1078, 1079, 1080, 1081, 1082, 1083] rfl (by decide +kernel)
set_option maxRecDepth 20000 in
theorem gL_law_X8_told : GoodIn wsL_law (wsV RL 95 RX8 yX8_told wsX8_told) := goodIn_app (goodIn_r _ [700, 701, 702, 5] rfl (by decide +kernel)) ggL_law_X8_told
set_option maxRecDepth 20000 in
theorem ggL_law_X7_breach : GoodIn wsL_law wsX7_breach := goodIn_r _ [707, 16, 708, 225, 226, 227, 15, 228, 69, 70, 232, 77, 78, 79, 1018, 1019, 1020, 1021, 1022, 1023, 1024, 1025, 1026, 1027, 1084, 1085, 1086, 1087, 1088, 1089, 1090, 1091, 1092, 1093, 1094, 1095, 1096, 1097, 1098, 1099, 1100, 1101, 1102] rfl (by decide +kernel)
set_option maxRecDepth 20000 in
theorem gL_law_X7_breach : GoodIn wsL_law (wsV RL 96 RX7 yX7_breach wsX7_breach) := goodIn_app (goodIn_r _ [704, 705, 706, 2] rfl (by decide +kernel)) ggL_law_X7_breach
set_option maxRecDepth 20000 in
theorem ggL_law_X8_breach : GoodIn wsL_law wsX8_breach := goodIn_r _ [712, 215, 153, 242, 243, 244, 5, 245, 142, 143, 218, 219, 220, 1028, 1029, 1030, 1031, 1032, 1033, 1034, 1035, 1036, 1037, 1038, 1039, 1040, 1041, 1042, 1043, 1044, 1045, 1046, 1047, 1048, 1049, 1050, 1051, 1052, 1053, 1054, 1055, 1056, 1057, 1058, 1059, 1060, 1061, 1062, 1063, 1064, 1065, 1066, 1067, 1068, 1069, 1070, 1071, 1072, 1073, 1074, 1075, 1076, 1077, 1078, 1079, 1080, 1081, 1082, 1083] rfl (by decide +kernel)
set_option maxRecDepth 20000 in
theorem gL_law_X8_breach : GoodIn wsL_law (wsV RL 99 RX8 yX8_breach wsX8_breach) := goodIn_app (goodIn_r _ [709, 710, 711, 5] rfl (by decide +kernel)) ggL_law_X8_breach
set_option maxRecDepth 20000 in
theorem ggL_law_X7_sign : GoodIn wsL_law wsX7_sign := goodIn_r _ [716, 28, 717, 718, 719, 27, 720, 721, 113, 1018, 1019, 1020, 1021, 1022, 1023, 1024, 1025, 1026, 1027, 1119, 1120] rfl (by decide +kernel)
set_option maxRecDepth 20000 in
theorem gL_law_X7_sign : GoodIn wsL_law (wsV RL 100 RX7 yX7_sign wsX7_sign) := goodIn_app (goodIn_r _ [713, 714, 715, 2] rfl (by decide +kernel)) ggL_law_X7_sign
set_option maxRecDepth 20000 in
theorem ggL_law_X8_sign : GoodIn wsL_law wsX8_sign := goodIn_r _ [725, 215, 652, 175, 1028, 1029, 1030, 1031, 1032, 1033, 1034, 1035, 1036, 1037, 1038, 1039, 1040, 1041, 1042, 1043, 1044, 1045, 1046, 1047, 1048, 1049, 1050, 1051, 1052, 1053, 1054, 1055, 1056, 1057, 1058, 1059, 1060, 1061, 1062, 1063, 1064, 1065, 1066, 1067, 1068, 1069, 1070, 1071, 1072, 1073, 1074, 1075, 1076, 1077, 1078, 1079, 1080, 1081, 1082, 1083] rfl (by decide +kernel)
set_option maxRecDepth 20000 in
theorem gL_law_X8_sign : GoodIn wsL_law (wsV RL 103 RX8 yX8_sign wsX8_sign) := goodIn_app (goodIn_r _ [722, 723, 724, 5] rfl (by decide +kernel)) ggL_law_X8_sign
set_option maxRecDepth 20000 in
theorem ggL_law_X7_end : GoodIn wsL_law wsX7_end := goodIn_r _ [729, 28, 646, 1018, 1019, 1020, 1021, 1022, 1023, 1024, 1025, 1026, 1027, 1119, 1120] rfl (by decide +kernel)
set_option maxRecDepth 20000 in
theorem gL_law_X7_end : GoodIn wsL_law (wsV RL 104 RX7 yX7_end wsX7_end) := goodIn_app (goodIn_r _ [726, 727, 728, 2] rfl (by decide +kernel)) ggL_law_X7_end
set_option maxRecDepth 20000 in
theorem ggL_law_X8_end : GoodIn wsL_law wsX8_end := goodIn_r _ [733, 215, 652, 218, 219, 5, 220, 1028, 1029, 1030, 1031, 1032, 1033, 1034, 1035, 1036, 1037, 1038, 1039, 1040, 1041, 1042, 1043, 1044, 1045, 1046, 1047, 1048, 1049, 1050, 1051, 1052, 1053, 1054, 1055, 1056, 1057, 1058, 1059, 1060, 1061, 1062, 1063, 1064, 1065, 1066, 1067, 1068, 1069, 1070, 1071, 1072, 1073, 1074, 1075, 1076, 1077, 1078, 1079, 1080, 1081, 1082, 1083] rfl (by decide +kernel)
set_option maxRecDepth 20000 in
theorem gL_law_X8_end : GoodIn wsL_law (wsV RL 107 RX8 yX8_end wsX8_end) := goodIn_app (goodIn_r _ [730, 731, 732, 5] rfl (by decide +kernel)) ggL_law_X8_end
set_option maxRecDepth 20000 in
theorem ggL_law_X7_rule : GoodIn wsL_law wsX7_rule := goodIn_r _ [737, 32, 28, 646, 738, 739, 740, 31, 741, 742, 743, 744, 745, 2, 746, 36, 41, 24, 402, 747, 748, 749, 35, 750, 751, 131, 130, 752, 753, 754, 755, 756, 757, 758, 759, 760, 761, 762, 763, 764, 765, 766, 767, 768, 769, 27, 770, 721, 113, 771, 772, 773, 124, 774, 775, 776, 777, 778, 779, 780, 781, 782, 783, 784, 785, 121, 122, 123, 119, 786, 787, 788, 789, 790, 791, 792, 793, 117, 118, 794, 795, 796, 797, 120, 1018, 1019, 1020, 1021, 1022, 1023, 1024, 1025, 1026, 1027, 1119, 1120, 1121, 1122, 1123, 1124, 1125, 1126, 1127, 1128, 1129, 1107, 1108, 1109, 1110, 1111, 1112, 1113, 1114, 1115, 1116, 1117, 1118, 1130, 1131, 1132, 1133] rfl (by decide +kernel)
set_option maxRecDepth 20000 in
theorem gL_law_X7_rule : GoodIn wsL_law (wsV RL 108 RX7 yX7_rule wsX7_rule) := goodIn_app (goodIn_r _ [734, 735, 736, 2] rfl (by decide +kernel)) ggL_law_X7_rule
