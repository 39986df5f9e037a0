set_option maxRecDepth 20000 in
theorem ggL_law_X8_rule : GoodIn wsL_law wsX8_rule := goodIn_r _ [801, 215, 652, 327, 528, 441, 421, 442, 802, 176, 190, 191, 803, 804, 805, 5, 806, 179, 177, 175, 178, 807, 808, 809, 810, 811, 180, 181, 182, 812, 813, 814, 815, 816, 817, 818, 819, 820, 821, 822, 823, 824, 825, 826, 827, 828, 829, 830, 831, 832, 833, 834, 835, 836, 837, 838, 839, 840, 841, 842, 843, 844, 420, 422, 845, 846, 847, 848, 849, 850, 851, 852, 853, 854, 855, 856, 857, 858, 859, 860, 861, 862, 863, 864, 865, 866, 867, 868, 869, 870, 871, 872, 873, 874, 875, 876, 877, 878, 879, 880, 881, 882, 883, 884, 885, 886, 887, 888, 889, 890, 891, 892, 893, 894, 895, 896, 897, 898, 899, 900, 901, 902, 903, 1028, 1029, 1030, 1031, 1032, 1033, 1034, 1035, 1036, 1037, 1038, 1039, 1040, 1041, 1042, 1043, 1044, 1045, 1046, 1047, 1048, 1049, 1050, 1051, 1052, 1053, 1054, 1055, 1056, 1057, 1058, 1059, 1060, 1061, 1062, 1063, 1064, 1065, 1066, 1067, 1068, 1069, 1070, 1071, 1072, 1073, 1074, 1075, 1076, 1077, 1078, 1079, 1080, 1081, 1082, 1083] rfl (by decide +kernel)
set_option maxRecDepth 20000 in
theorem gL_law_X8_rule : GoodIn wsL_law (wsV RL 111 RX8 yX8_rule wsX8_rule) := goodIn_app (goodIn_r _ [798, 799, 800, 5] rfl (by decide +kernel)) ggL_law_X8_rule
set_option maxRecDepth 20000 in
theorem ggL_law_X7_repeal : GoodIn wsL_law wsX7_repeal := goodIn_r _ [907, 41, 32, 484, 1018, 1019, 1020, 1021, 1022, 1023, 1024, 1025, 1026, 1027, 1121, 1122, 1123, 1124, 1125, 1126, 1127, 1128, 1129] rfl (by decide +kernel)
set_option maxRecDepth 20000 in
theorem gL_law_X7_repeal : GoodIn wsL_law (wsV RL 112 RX7 yX7_repeal wsX7_repeal) := goodIn_app (goodIn_r _ [904, 905, 906, 2] rfl (by decide +kernel)) ggL_law_X7_repeal
set_option maxRecDepth 20000 in
theorem ggL_law_X8_repeal : GoodIn wsL_law wsX8_repeal := goodIn_r _ [911, 215, 190, 327, 1028, 1029, 1030, 1031, 1032, 1033, 1034, 1035, 1036, 1037, 1038, 1039, 1040, 1041, 1042, 1043, 1044, 1045, 1046, 1047, 1048, 1049, 1050, 1051, 1052, 1053, 1054, 1055, 1056, 1057, 1058, 1059, 1060, 1061, 1062, 1063, 1064, 1065, 1066, 1067, 1068, 1069, 1070, 1071, 1072, 1073, 1074, 1075, 1076, 1077, 1078, 1079, 1080, 1081, 1082, 1083] rfl (by decide +kernel)
set_option maxRecDepth 20000 in
theorem gL_law_X8_repeal : GoodIn wsL_law (wsV RL 115 RX8 yX8_repeal wsX8_repeal) := goodIn_app (goodIn_r _ [908, 909, 910, 5] rfl (by decide +kernel)) ggL_law_X8_repeal
set_option maxRecDepth 20000 in
theorem ggL_law_X7_wood : GoodIn wsL_law wsX7_wood := goodIn_r _ [915, 40, 916, 917, 918, 39, 919, 920, 135, 136, 137, 1018, 1019, 1020, 1021, 1022, 1023, 1024, 1025, 1026, 1027, 1134, 1135, 1136, 1137] rfl (by decide +kernel)
set_option maxRecDepth 20000 in
theorem gL_law_X7_wood : GoodIn wsL_law (wsV RL 116 RX7 yX7_wood wsX7_wood) := goodIn_app (goodIn_r _ [912, 913, 914, 2] rfl (by decide +kernel)) ggL_law_X7_wood
set_option maxRecDepth 20000 in
theorem ggL_law_X8_wood : GoodIn wsL_law wsX8_wood := goodIn_r _ [924, 215, 925, 926, 927, 651, 183, 184, 185, 218, 219, 5, 220, 1028, 1029, 1030, 1031, 1032, 1033, 1034, 1035, 1036, 1037, 1038, 1039, 1040, 1041, 1042, 1043, 1044, 1045, 1046, 1047, 1048, 1049, 1050, 1051, 1052, 1053, 1054, 1055, 1056, 1057, 1058, 1059, 1060, 1061, 1062, 1063, 1064, 1065, 1066, 1067, 1068, 1069, 1070, 1071, 1072, 1073, 1074, 1075, 1076, 1077, 1078, 1079, 1080, 1081, 1082, 1083] rfl (by decide +kernel)
set_option maxRecDepth 20000 in
theorem gL_law_X8_wood : GoodIn wsL_law (wsV RL 119 RX8 yX8_wood wsX8_wood) := goodIn_app (goodIn_r _ [921, 922, 923, 5] rfl (by decide +kernel)) ggL_law_X8_wood
set_option maxRecDepth 20000 in
theorem ggL_law_X7_years : GoodIn wsL_law wsX7_years := goodIn_r _ [931, 40, 932, 933, 934, 39, 935, 920, 135, 936, 441, 421, 442, 1018, 1019, 1020, 1021, 1022, 1023, 1024, 1025, 1026, 1027, 1134, 1135, 1136, 1137] rfl (by decide +kernel)
set_option maxRecDepth 20000 in
theorem gL_law_X7_years : GoodIn wsL_law (wsV RL 120 RX7 yX7_years wsX7_years) := goodIn_app (goodIn_r _ [928, 929, 930, 2] rfl (by decide +kernel)) ggL_law_X7_years
set_option maxRecDepth 20000 in
theorem ggL_law_X8_years : GoodIn wsL_law wsX8_years := goodIn_r _ [940, 215, 925, 651, 183, 528, 441, 421, 442, 218, 219, 5, 220, 1028, 1029, 1030, 1031, 1032, 1033, 1034, 1035, 1036, 1037, 1038, 1039, 1040, 1041, 1042, 1043, 1044, 1045, 1046, 1047, 1048, 1049, 1050, 1051, 1052, 1053, 1054, 1055, 1056, 1057, 1058, 1059, 1060, 1061, 1062, 1063, 1064, 1065, 1066, 1067, 1068, 1069, 1070, 1071, 1072, 1073, 1074, 1075, 1076, 1077, 1078, 1079, 1080, 1081, 1082, 1083] rfl (by decide +kernel)
set_option maxRecDepth 20000 in
theorem gL_law_X8_years : GoodIn wsL_law (wsV RL 123 RX8 yX8_years wsX8_years) := goodIn_app (goodIn_r _ [937, 938, 939, 5] rfl (by decide +kernel)) ggL_law_X8_years
set_option maxRecDepth 20000 in
theorem ggL_law_X7_cut : GoodIn wsL_law wsX7_cut := goodIn_r _ [944, 40, 945, 946, 947, 948, 949, 39, 950, 920, 951, 952, 953, 954, 136, 135, 955, 420, 421, 422, 1018, 1019, 1020, 1021, 1022, 1023, 1024, 1025, 1026, 1027, 1134, 1135, 1136, 1137] rfl (by decide +kernel)
set_option maxRecDepth 20000 in
theorem gL_law_X7_cut : GoodIn wsL_law (wsV RL 124 RX7 yX7_cut wsX7_cut) := goodIn_app (goodIn_r _ [941, 942, 943, 2] rfl (by decide +kernel)) ggL_law_X7_cut
set_option maxRecDepth 20000 in
theorem ggL_law_X8_cut : GoodIn wsL_law wsX8_cut := goodIn_r _ [959, 215, 651, 183, 184, 185, 218, 219, 5, 220, 1028, 1029, 1030, 1031, 1032, 1033, 1034, 1035, 1036, 1037, 1038, 1039, 1040, 1041, 1042, 1043, 1044, 1045, 1046, 1047, 1048, 1049, 1050, 1051, 1052, 1053, 1054, 1055, 1056, 1057, 1058, 1059, 1060, 1061, 1062, 1063, 1064, 1065, 1066, 1067, 1068, 1069, 1070, 1071, 1072, 1073, 1074, 1075, 1076, 1077, 1078, 1079, 1080, 1081, 1082, 1083] rfl (by decide +kernel)
set_option maxRecDepth 20000 in
theorem gL_law_X8_cut : GoodIn wsL_law (wsV RL 127 RX8 yX8_cut wsX8_cut) := goodIn_app (goodIn_r _ [956, 957, 958, 5] rfl (by decide +kernel)) ggL_law_X8_cut
set_option maxRecDepth 20000 in
theorem ggL_law_X7_plan : GoodIn wsL_law wsX7_plan := goodIn_r _ [963, 40, 964, 965, 966, 39, 967, 968, 969, 970, 971, 920, 972, 952, 953, 954, 136, 135, 955, 420, 421, 422, 973, 974, 975, 976, 137, 977, 978, 979, 980, 981, 982, 983, 984, 985, 986, 987, 988, 989, 990, 991, 992, 993, 994, 995, 1018, 1019, 1020, 1021, 1022, 1023, 1024, 1025, 1026, 1027, 1134, 1135, 1136, 1137] rfl (by decide +kernel)
set_option maxRecDepth 20000 in
theorem gL_law_X7_plan : GoodIn wsL_law (wsV RL 128 RX7 yX7_plan wsX7_plan) := goodIn_app (goodIn_r _ [960, 961, 962, 2] rfl (by decide +kernel)) ggL_law_X7_plan
set_option maxRecDepth 20000 in
theorem ggL_law_X8_plan : GoodIn wsL_law wsX8_plan := goodIn_r _ [999, 215, 1000, 651, 218, 219, 5, 220, 1001, 1002, 1003, 1004, 183, 184, 185, 1005, 986, 987, 988, 989, 990, 991, 1028, 1029, 1030, 1031, 1032, 1033, 1034, 1035, 1036, 1037, 1038, 1039, 1040, 1041, 1042, 1043, 1044, 1045, 1046, 1047, 1048, 1049, 1050, 1051, 1052, 1053, 1054, 1055, 1056, 1057, 1058, 1059, 1060, 1061, 1062, 1063, 1064, 1065, 1066, 1067, 1068, 1069, 1070, 1071, 1072, 1073, 1074, 1075, 1076, 1077, 1078, 1079, 1080, 1081, 1082, 1083] rfl (by decide +kernel)
set_option maxRecDepth 20000 in
theorem gL_law_X8_plan : GoodIn wsL_law (wsV RL 131 RX8 yX8_plan wsX8_plan) := goodIn_app (goodIn_r _ [996, 997, 998, 5] rfl (by decide +kernel)) ggL_law_X8_plan
set_option maxRecDepth 20000 in
theorem ggL_law_L_stand : GoodIn wsL_law wsL_stand := goodIn_ca (goodIn_r _ [1008, 657, 1009, 1010, 1011, 2, 1012, 662, 663, 40, 945, 1013, 946, 947, 948, 949, 39, 950, 920, 951, 952, 953, 954, 136, 135, 955, 420, 421, 422, 1018, 1019, 1020, 1021, 1022, 1023, 1024, 1025, 1026, 1027, 1134, 1135, 1136, 1137] rfl (by decide +kernel)) (goodIn_sub (fun _ h => List.mem_append_right _ h) (by decide +kernel))
set_option maxRecDepth 20000 in
theorem gL_law_L_stand : GoodIn wsL_law (va_wsS RL 132 yL_stand wsL_stand) := goodIn_app (goodIn_r _ [1006, 1007, 655] rfl (by decide +kernel)) ggL_law_L_stand
set_option maxRecDepth 20000 in
theorem ggL_law_X8_stand : GoodIn wsL_law wsX8_stand := goodIn_r _ [1017, 215, 651, 241, 183, 184, 185, 537, 420, 421, 422, 218, 219, 5, 220, 674, 675, 676, 677, 1028, 1029, 1030, 1031, 1032, 1033, 1034, 1035, 1036, 1037, 1038, 1039, 1040, 1041, 1042, 1043, 1044, 1045, 1046, 1047, 1048, 1049, 1050, 1051, 1052, 1053, 1054, 1055, 1056, 1057, 1058, 1059, 1060, 1061, 1062, 1063, 1064, 1065, 1066, 1067, 1068, 1069, 1070, 1071, 1072, 1073, 1074, 1075, 1076, 1077, 1078, 1079, 1080, 1081, 1082, 1083] rfl (by decide +kernel)
set_option maxRecDepth 20000 in
theorem gL_law_X8_stand : GoodIn wsL_law (wsV RL 135 RX8 yX8_stand wsX8_stand) := goodIn_app (goodIn_r _ [1014, 1015, 1016, 5] rfl (by decide +kernel)) ggL_law_X8_stand
