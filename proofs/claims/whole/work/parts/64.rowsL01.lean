set_option maxRecDepth 20000 in
theorem ggL_law_X6_init : GoodIn wsL_law wsX6_init := goodIn_r _ [9, 10, 11, 12, 13, 14, 15, 16, 17, 18, 19, 20, 21, 22, 23, 24, 25, 26, 27, 28, 29, 30, 31, 32, 33, 34, 35, 36, 37, 38, 39, 40, 41, 42, 43, 44, 45, 46, 47, 48, 49, 50, 51, 52, 53, 54, 55, 56, 57, 58, 59, 60, 61, 62, 63, 64, 65, 66, 67, 68, 69, 70, 71, 72, 73, 74, 75, 76, 77, 78, 79, 80, 81, 82, 83, 84, 85, 86, 87, 88, 89, 90, 91, 92, 93, 1038, 1039, 1040, 1041, 1042, 1043, 1044, 1045, 1046, 1047, 1048, 992, 993, 994, 995, 996, 997, 998, 999, 1000, 1049, 1050, 1051, 1052, 1053, 1054, 1055, 1056, 1057, 1058, 1059, 1060, 1061, 1062, 1063, 1064, 1065, 1066, 1067, 1068, 1069, 1070, 1071, 1072, 1073, 1074] (by decide +kernel) (by decide +kernel)
set_option maxRecDepth 20000 in
theorem gL_law_X6_init : GoodIn wsL_law (wsX6_init) := ggL_law_X6_init
set_option maxRecDepth 20000 in
theorem ggL_law_X7_init : GoodIn wsL_law wsX7_init := goodIn_r _ [96, 97, 11, 12, 98, 43, 99, 100, 101, 102, 103, 104, 105, 106, 107, 66, 108, 109, 110, 111, 112, 113, 114, 115, 116, 117, 118, 119, 120, 121, 122, 123, 124, 1001, 1002, 1003, 1004, 1005, 1006, 1007, 1008, 1009, 1010, 1011, 1012, 1013, 1014, 1015, 1016, 1017, 1018, 1019, 1020, 1021, 1022, 1023, 1024, 1025, 1026, 1027, 1028, 1029, 1030, 1031, 1032, 1033, 1034, 1035, 1036, 1037] (by decide +kernel) (by decide +kernel)
set_option maxRecDepth 20000 in
theorem gL_law_X7_init : GoodIn wsL_law (wsX7_init) := ggL_law_X7_init
set_option maxRecDepth 20000 in
theorem ggL_law_X6_reset : GoodIn wsL_law wsX6_reset := goodIn_r _ [128, 16, 39, 129, 130, 131, 2, 132, 133, 134, 135, 82, 83, 84, 15, 85, 44, 86, 87, 45, 88, 89, 46, 47, 50, 90, 91, 92, 93, 992, 993, 994, 995, 996, 997, 998, 999, 1000, 1038, 1039, 1040, 1041, 1042, 1043, 1044, 1045, 1046, 1047, 1048] (by decide +kernel) (by decide +kernel)
set_option maxRecDepth 20000 in
theorem gL_law_X6_reset : GoodIn wsL_law (wsV RL 13 RX6 yX6_reset wsX6_reset) := goodIn_app (goodIn_of _ (by decide +kernel)) ggL_law_X6_reset
set_option maxRecDepth 20000 in
theorem ggL_law_X7_reset : GoodIn wsL_law wsX7_reset := goodIn_r _ [139, 99, 98, 100, 101, 140, 104, 141, 142, 143, 5, 144, 145, 146, 147, 148, 149, 150, 151, 1001, 1002, 1003, 1004, 1005, 1006, 1007, 1008, 1009, 1010, 1011, 1012, 1013, 1014, 1015, 1016, 1017, 1018, 1019, 1020, 1021, 1022, 1023, 1024, 1025, 1026, 1027, 1028, 1029, 1030, 1031, 1032, 1033, 1034, 1035, 1036, 1037] (by decide +kernel) (by decide +kernel)
set_option maxRecDepth 20000 in
theorem gL_law_X7_reset : GoodIn wsL_law (wsV RL 17 RX7 yX7_reset wsX7_reset) := goodIn_app (goodIn_of _ (by decide +kernel)) ggL_law_X7_reset
set_option maxRecDepth 20000 in
theorem ggL_law_X6_conditionCount : GoodIn wsL_law wsX6_conditionCount := goodIn_r _ [155, 16, 156, 992, 993, 994, 995, 996, 997, 998, 999, 1000, 1038, 1039, 1040, 1041, 1042, 1043, 1044, 1045, 1046, 1047, 1048] (by decide +kernel) (by decide +kernel)
set_option maxRecDepth 20000 in
theorem gL_law_X6_conditionCount : GoodIn wsL_law (wsV RL 18 RX6 yX6_conditionCount wsX6_conditionCount) := goodIn_app (goodIn_of _ (by decide +kernel)) ggL_law_X6_conditionCount
set_option maxRecDepth 20000 in
theorem ggL_law_X7_conditionCount : GoodIn wsL_law wsX7_conditionCount := goodIn_r _ [160, 98, 1001, 1002, 1003, 1004, 1005, 1006, 1007, 1008, 1009, 1010, 1011, 1012, 1013, 1014, 1015, 1016, 1017, 1018, 1019, 1020, 1021, 1022, 1023, 1024, 1025, 1026, 1027, 1028, 1029, 1030, 1031, 1032, 1033, 1034, 1035, 1036, 1037] (by decide +kernel) (by decide +kernel)
set_option maxRecDepth 20000 in
theorem gL_law_X7_conditionCount : GoodIn wsL_law (wsV RL 22 RX7 yX7_conditionCount wsX7_conditionCount) := goodIn_app (goodIn_of _ (by decide +kernel)) ggL_law_X7_conditionCount
set_option maxRecDepth 20000 in
theorem ggL_law_X6_caseCount : GoodIn wsL_law wsX6_caseCount := goodIn_r _ [164, 16, 129, 992, 993, 994, 995, 996, 997, 998, 999, 1000, 1038, 1039, 1040, 1041, 1042, 1043, 1044, 1045, 1046, 1047, 1048] (by decide +kernel) (by decide +kernel)
set_option maxRecDepth 20000 in
theorem gL_law_X6_caseCount : GoodIn wsL_law (wsV RL 23 RX6 yX6_caseCount wsX6_caseCount) := goodIn_app (goodIn_of _ (by decide +kernel)) ggL_law_X6_caseCount
set_option maxRecDepth 20000 in
theorem ggL_law_X7_caseCount : GoodIn wsL_law wsX7_caseCount := goodIn_r _ [168, 148, 149, 150, 5, 151, 98, 99, 1001, 1002, 1003, 1004, 1005, 1006, 1007, 1008, 1009, 1010, 1011, 1012, 1013, 1014, 1015, 1016, 1017, 1018, 1019, 1020, 1021, 1022, 1023, 1024, 1025, 1026, 1027, 1028, 1029, 1030, 1031, 1032, 1033, 1034, 1035, 1036, 1037] (by decide +kernel) (by decide +kernel)
set_option maxRecDepth 20000 in
theorem gL_law_X7_caseCount : GoodIn wsL_law (wsV RL 26 RX7 yX7_caseCount wsX7_caseCount) := goodIn_app (goodIn_of _ (by decide +kernel)) ggL_law_X7_caseCount
set_option maxRecDepth 20000 in
theorem ggL_law_X6_valueIn : GoodIn wsL_law wsX6_valueIn := goodIn_r _ [172, 16, 173, 174, 175, 15, 176, 87, 177, 178, 179, 180, 86, 181, 182, 183, 184, 45, 44, 185, 2, 186, 187, 188, 992, 993, 994, 995, 996, 997, 998, 999, 1000, 1038, 1039, 1040, 1041, 1042, 1043, 1044, 1045, 1046, 1047, 1048] (by decide +kernel) (by decide +kernel)
set_option maxRecDepth 20000 in
theorem gL_law_X6_valueIn : GoodIn wsL_law (wsV RL 27 RX6 yX6_valueIn wsX6_valueIn) := goodIn_app (goodIn_of _ (by decide +kernel)) ggL_law_X6_valueIn
set_option maxRecDepth 20000 in
theorem ggL_law_X7_valueIn : GoodIn wsL_law wsX7_valueIn := goodIn_r _ [192, 193, 194, 195, 5, 196, 148, 149, 150, 151, 98, 99, 145, 146, 147, 197, 198, 199, 200, 201, 202, 203, 204, 1001, 1002, 1003, 1004, 1005, 1006, 1007, 1008, 1009, 1010, 1011, 1012, 1013, 1014, 1015, 1016, 1017, 1018, 1019, 1020, 1021, 1022, 1023, 1024, 1025, 1026, 1027, 1028, 1029, 1030, 1031, 1032, 1033, 1034, 1035, 1036, 1037] (by decide +kernel) (by decide +kernel)
set_option maxRecDepth 20000 in
theorem gL_law_X7_valueIn : GoodIn wsL_law (wsV RL 31 RX7 yX7_valueIn wsX7_valueIn) := goodIn_app (goodIn_of _ (by decide +kernel)) ggL_law_X7_valueIn
set_option maxRecDepth 20000 in
theorem ggL_law_X6_setWeight : GoodIn wsL_law wsX6_setWeight := goodIn_r _ [208, 16, 209, 39, 210, 211, 212, 15, 213, 44, 214, 178, 179, 180, 86, 215, 216, 217, 218, 47, 992, 993, 994, 995, 996, 997, 998, 999, 1000, 1038, 1039, 1040, 1041, 1042, 1043, 1044, 1045, 1046, 1047, 1048] (by decide +kernel) (by decide +kernel)
set_option maxRecDepth 20000 in
theorem gL_law_X6_setWeight : GoodIn wsL_law (wsV RL 32 RX6 yX6_setWeight wsX6_setWeight) := goodIn_app (goodIn_of _ (by decide +kernel)) ggL_law_X6_setWeight
set_option maxRecDepth 20000 in
theorem ggL_law_X7_setWeight : GoodIn wsL_law wsX7_setWeight := goodIn_r _ [222, 99, 100, 141, 197, 198, 199, 5, 200, 98, 145, 146, 147, 223, 224, 225, 226, 1001, 1002, 1003, 1004, 1005, 1006, 1007, 1008, 1009, 1010, 1011, 1012, 1013, 1014, 1015, 1016, 1017, 1018, 1019, 1020, 1021, 1022, 1023, 1024, 1025, 1026, 1027, 1028, 1029, 1030, 1031, 1032, 1033, 1034, 1035, 1036, 1037] (by decide +kernel) (by decide +kernel)
set_option maxRecDepth 20000 in
theorem gL_law_X7_setWeight : GoodIn wsL_law (wsV RL 36 RX7 yX7_setWeight wsX7_setWeight) := goodIn_app (goodIn_of _ (by decide +kernel)) ggL_law_X7_setWeight
set_option maxRecDepth 20000 in
theorem ggL_law_X6_setCost : GoodIn wsL_law wsX6_setCost := goodIn_r _ [230, 16, 231, 39, 177, 178, 179, 15, 180, 86, 992, 993, 994, 995, 996, 997, 998, 999, 1000, 1038, 1039, 1040, 1041, 1042, 1043, 1044, 1045, 1046, 1047, 1048] (by decide +kernel) (by decide +kernel)
set_option maxRecDepth 20000 in
theorem gL_law_X6_setCost : GoodIn wsL_law (wsV RL 37 RX6 yX6_setCost wsX6_setCost) := goodIn_app (goodIn_of _ (by decide +kernel)) ggL_law_X6_setCost
set_option maxRecDepth 20000 in
theorem ggL_law_X7_setCost : GoodIn wsL_law wsX7_setCost := goodIn_r _ [235, 101, 141, 197, 198, 199, 5, 200, 98, 145, 146, 147, 1001, 1002, 1003, 1004, 1005, 1006, 1007, 1008, 1009, 1010, 1011, 1012, 1013, 1014, 1015, 1016, 1017, 1018, 1019, 1020, 1021, 1022, 1023, 1024, 1025, 1026, 1027, 1028, 1029, 1030, 1031, 1032, 1033, 1034, 1035, 1036, 1037] (by decide +kernel) (by decide +kernel)
set_option maxRecDepth 20000 in
theorem gL_law_X7_setCost : GoodIn wsL_law (wsV RL 40 RX7 yX7_setCost wsX7_setCost) := goodIn_app (goodIn_of _ (by decide +kernel)) ggL_law_X7_setCost
set_option maxRecDepth 20000 in
theorem ggL_law_X6_setDefault : GoodIn wsL_law wsX6_setDefault := goodIn_r _ [239, 16, 240, 39, 241, 242, 2, 243, 244, 245, 246, 992, 993, 994, 995, 996, 997, 998, 999, 1000, 1038, 1039, 1040, 1041, 1042, 1043, 1044, 1045, 1046, 1047, 1048] (by decide +kernel) (by decide +kernel)
set_option maxRecDepth 20000 in
theorem gL_law_X6_setDefault : GoodIn wsL_law (wsV RL 41 RX6 yX6_setDefault wsX6_setDefault) := goodIn_app (goodIn_of _ (by decide +kernel)) ggL_law_X6_setDefault
set_option maxRecDepth 20000 in
theorem ggL_law_X7_setDefault : GoodIn wsL_law wsX7_setDefault := goodIn_r _ [250, 104, 141, 145, 146, 5, 147, 251, 252, 253, 1001, 1002, 1003, 1004, 1005, 1006, 1007, 1008, 1009, 1010, 1011, 1012, 1013, 1014, 1015, 1016, 1017, 1018, 1019, 1020, 1021, 1022, 1023, 1024, 1025, 1026, 1027, 1028, 1029, 1030, 1031, 1032, 1033, 1034, 1035, 1036, 1037] (by decide +kernel) (by decide +kernel)
set_option maxRecDepth 20000 in
theorem gL_law_X7_setDefault : GoodIn wsL_law (wsV RL 45 RX7 yX7_setDefault wsX7_setDefault) := goodIn_app (goodIn_of _ (by decide +kernel)) ggL_law_X7_setDefault
set_option maxRecDepth 20000 in
theorem ggL_law_X6_append : GoodIn wsL_law wsX6_append := goodIn_r _ [257, 21, 258, 259, 260, 261, 20, 262, 263, 55, 992, 993, 994, 995, 996, 997, 998, 999, 1000, 1049, 1050] (by decide +kernel) (by decide +kernel)
set_option maxRecDepth 20000 in
theorem gL_law_X6_append : GoodIn wsL_law (wsV RL 46 RX6 yX6_append wsX6_append) := goodIn_app (goodIn_of _ (by decide +kernel)) ggL_law_X6_append
set_option maxRecDepth 20000 in
theorem ggL_law_X7_append : GoodIn wsL_law wsX7_append := goodIn_r _ [267, 268, 105, 145, 146, 5, 147, 1001, 1002, 1003, 1004, 1005, 1006, 1007, 1008, 1009, 1010, 1011, 1012, 1013, 1014, 1015, 1016, 1017, 1018, 1019, 1020, 1021, 1022, 1023, 1024, 1025, 1026, 1027, 1028, 1029, 1030, 1031, 1032, 1033, 1034, 1035, 1036, 1037] (by decide +kernel) (by decide +kernel)
set_option maxRecDepth 20000 in
theorem gL_law_X7_append : GoodIn wsL_law (wsV RL 49 RX7 yX7_append wsX7_append) := goodIn_app (goodIn_of _ (by decide +kernel)) ggL_law_X7_append
set_option maxRecDepth 20000 in
theorem ggL_law_X6_clearInput : GoodIn wsL_law wsX6_clearInput := goodIn_r _ [272, 21, 258, 992, 993, 994, 995, 996, 997, 998, 999, 1000, 1049, 1050] (by decide +kernel) (by decide +kernel)
set_option maxRecDepth 20000 in
theorem gL_law_X6_clearInput : GoodIn wsL_law (wsV RL 50 RX6 yX6_clearInput wsX6_clearInput) := goodIn_app (goodIn_of _ (by decide +kernel)) ggL_law_X6_clearInput
set_option maxRecDepth 20000 in
theorem ggL_law_X7_clearInput : GoodIn wsL_law wsX7_clearInput := goodIn_r _ [276, 268, 1001, 1002, 1003, 1004, 1005, 1006, 1007, 1008, 1009, 1010, 1011, 1012, 1013, 1014, 1015, 1016, 1017, 1018, 1019, 1020, 1021, 1022, 1023, 1024, 1025, 1026, 1027, 1028, 1029, 1030, 1031, 1032, 1033, 1034, 1035, 1036, 1037] (by decide +kernel) (by decide +kernel)
set_option maxRecDepth 20000 in
theorem gL_law_X7_clearInput : GoodIn wsL_law (wsV RL 53 RX7 yX7_clearInput wsX7_clearInput) := goodIn_app (goodIn_of _ (by decide +kernel)) ggL_law_X7_clearInput
set_option maxRecDepth 20000 in
theorem ggL_law_X6_addRule : GoodIn wsL_law wsX6_addRule := goodIn_r _ [280, 16, 281, 282, 283, 284, 2, 285, 25, 21, 258, 39, 286, 287, 288, 24, 289, 59, 290, 291, 292, 293, 294, 295, 91, 92, 93, 296, 297, 298, 299, 300, 301, 302, 303, 304, 305, 306, 307, 308, 309, 211, 212, 15, 213, 44, 214, 178, 179, 180, 86, 310, 311, 312, 313, 314, 315, 316, 317, 318, 319, 320, 321, 322, 88, 323, 48, 324, 325, 326, 327, 49, 328, 329, 330, 331, 332, 333, 334, 335, 336, 50, 337, 338, 339, 340, 992, 993, 994, 995, 996, 997, 998, 999, 1000, 1038, 1039, 1040, 1041, 1042, 1043, 1044, 1045, 1046, 1047, 1048, 1049, 1050, 1051, 1052, 1053, 1054] (by decide +kernel) (by decide +kernel)
set_option maxRecDepth 20000 in
theorem gL_law_X6_addRule : GoodIn wsL_law (wsV RL 54 RX6 yX6_addRule wsX6_addRule) := goodIn_app (goodIn_of _ (by decide +kernel)) ggL_law_X6_addRule
set_option maxRecDepth 20000 in
theorem ggL_law_X7_addRule : GoodIn wsL_law wsX7_addRule := goodIn_r _ [344, 140, 345, 274, 275, 5, 276, 268, 346, 347, 348, 349, 106, 105, 98, 350, 99, 145, 146, 147, 351, 352, 353, 354, 103, 102, 141, 1001, 1002, 1003, 1004, 1005, 1006, 1007, 1008, 1009, 1010, 1011, 1012, 1013, 1014, 1015, 1016, 1017, 1018, 1019, 1020, 1021, 1022, 1023, 1024, 1025, 1026, 1027, 1028, 1029, 1030, 1031, 1032, 1033, 1034, 1035, 1036, 1037] (by decide +kernel) (by decide +kernel)
set_option maxRecDepth 20000 in
theorem gL_law_X7_addRule : GoodIn wsL_law (wsV RL 57 RX7 yX7_addRule wsX7_addRule) := goodIn_app (goodIn_of _ (by decide +kernel)) ggL_law_X7_addRule
set_option maxRecDepth 20000 in
theorem ggL_law_X6_insertRule : GoodIn wsL_law wsX6_insertRule := goodIn_r _ [358, 16, 281, 282, 283, 284, 2, 285, 25, 21, 258, 39, 286, 287, 288, 24, 289, 59, 290, 291, 292, 293, 294, 295, 91, 92, 93, 296, 297, 298, 299, 300, 301, 302, 303, 304, 305, 306, 307, 308, 309, 211, 212, 15, 213, 44, 214, 178, 179, 180, 86, 310, 311, 312, 313, 314, 315, 316, 317, 318, 319, 320, 321, 322, 88, 323, 48, 324, 325, 326, 327, 49, 328, 329, 330, 331, 332, 333, 334, 335, 336, 50, 337, 338, 339, 340, 992, 993, 994, 995, 996, 997, 998, 999, 1000, 1038, 1039, 1040, 1041, 1042, 1043, 1044, 1045, 1046, 1047, 1048, 1049, 1050, 1051, 1052, 1053, 1054] (by decide +kernel) (by decide +kernel)
set_option maxRecDepth 20000 in
theorem gL_law_X6_insertRule : GoodIn wsL_law (wsV RL 58 RX6 yX6_insertRule wsX6_insertRule) := goodIn_app (goodIn_of _ (by decide +kernel)) ggL_law_X6_insertRule
set_option maxRecDepth 20000 in
theorem ggL_law_X7_insertRule : GoodIn wsL_law wsX7_insertRule := goodIn_r _ [362, 140, 345, 274, 275, 5, 276, 268, 145, 146, 147, 346, 347, 348, 349, 106, 105, 98, 350, 99, 351, 352, 353, 354, 103, 102, 141, 1001, 1002, 1003, 1004, 1005, 1006, 1007, 1008, 1009, 1010, 1011, 1012, 1013, 1014, 1015, 1016, 1017, 1018, 1019, 1020, 1021, 1022, 1023, 1024, 1025, 1026, 1027, 1028, 1029, 1030, 1031, 1032, 1033, 1034, 1035, 1036, 1037] (by decide +kernel) (by decide +kernel)
set_option maxRecDepth 20000 in
theorem gL_law_X7_insertRule : GoodIn wsL_law (wsV RL 61 RX7 yX7_insertRule wsX7_insertRule) := goodIn_app (goodIn_of _ (by decide +kernel)) ggL_law_X7_insertRule
