set_option maxRecDepth 20000 in
theorem ggL_law_X6_removeRule : GoodIn wsL_law wsX6_removeRule := goodIn_r _ [366, 16, 39, 281, 367, 368, 369, 15, 370, 88, 371, 372, 373, 374, 329, 330, 331, 332, 48, 324, 325, 326, 327, 49, 333, 334, 335, 336, 86, 44, 50, 337, 338, 339, 340, 992, 993, 994, 995, 996, 997, 998, 999, 1000, 1038, 1039, 1040, 1041, 1042, 1043, 1044, 1045, 1046, 1047, 1048] (by decide +kernel) (by decide +kernel)
set_option maxRecDepth 20000 in
theorem gL_law_X6_removeRule : GoodIn wsL_law (wsV RL 62 RX6 yX6_removeRule wsX6_removeRule) := goodIn_app (goodIn_of _ (by decide +kernel)) ggL_law_X6_removeRule
set_option maxRecDepth 20000 in
theorem ggL_law_X7_removeRule : GoodIn wsL_law wsX7_removeRule := goodIn_r _ [378, 140, 379, 380, 381, 5, 382, 145, 146, 147, 383, 384, 385, 386, 103, 102, 141, 1001, 1002, 1003, 1004, 1005, 1006, 1007, 1008, 1009, 1010, 1011, 1012, 1013, 1014, 1015, 1016, 1017, 1018, 1019, 1020, 1021, 1022, 1023, 1024, 1025, 1026, 1027, 1028, 1029, 1030, 1031, 1032, 1033, 1034, 1035, 1036, 1037] (by decide +kernel) (by decide +kernel)
set_option maxRecDepth 20000 in
theorem gL_law_X7_removeRule : GoodIn wsL_law (wsV RL 65 RX7 yX7_removeRule wsX7_removeRule) := goodIn_app (goodIn_of _ (by decide +kernel)) ggL_law_X7_removeRule
set_option maxRecDepth 20000 in
theorem ggL_law_X6_ruleCount : GoodIn wsL_law wsX6_ruleCount := goodIn_r _ [390, 16, 281, 992, 993, 994, 995, 996, 997, 998, 999, 1000, 1038, 1039, 1040, 1041, 1042, 1043, 1044, 1045, 1046, 1047, 1048] (by decide +kernel) (by decide +kernel)
set_option maxRecDepth 20000 in
theorem gL_law_X6_ruleCount : GoodIn wsL_law (wsV RL 66 RX6 yX6_ruleCount wsX6_ruleCount) := goodIn_app (goodIn_of _ (by decide +kernel)) ggL_law_X6_ruleCount
set_option maxRecDepth 20000 in
theorem ggL_law_X7_ruleCount : GoodIn wsL_law wsX7_ruleCount := goodIn_r _ [394, 140, 1001, 1002, 1003, 1004, 1005, 1006, 1007, 1008, 1009, 1010, 1011, 1012, 1013, 1014, 1015, 1016, 1017, 1018, 1019, 1020, 1021, 1022, 1023, 1024, 1025, 1026, 1027, 1028, 1029, 1030, 1031, 1032, 1033, 1034, 1035, 1036, 1037] (by decide +kernel) (by decide +kernel)
set_option maxRecDepth 20000 in
theorem gL_law_X7_ruleCount : GoodIn wsL_law (wsV RL 69 RX7 yX7_ruleCount wsX7_ruleCount) := goodIn_app (goodIn_of _ (by decide +kernel)) ggL_law_X7_ruleCount
set_option maxRecDepth 20000 in
theorem ggL_law_X6_ruleSet : GoodIn wsL_law wsX6_ruleSet := goodIn_r _ [398, 16, 367, 368, 369, 15, 370, 88, 177, 178, 179, 180, 86, 399, 338, 339, 340, 48, 992, 993, 994, 995, 996, 997, 998, 999, 1000, 1038, 1039, 1040, 1041, 1042, 1043, 1044, 1045, 1046, 1047, 1048] (by decide +kernel) (by decide +kernel)
set_option maxRecDepth 20000 in
theorem gL_law_X6_ruleSet : GoodIn wsL_law (wsV RL 70 RX6 yX6_ruleSet wsX6_ruleSet) := goodIn_app (goodIn_of _ (by decide +kernel)) ggL_law_X6_ruleSet
set_option maxRecDepth 20000 in
theorem ggL_law_X7_ruleSet : GoodIn wsL_law wsX7_ruleSet := goodIn_r _ [403, 102, 379, 380, 381, 5, 382, 140, 145, 146, 147, 197, 198, 199, 200, 98, 1001, 1002, 1003, 1004, 1005, 1006, 1007, 1008, 1009, 1010, 1011, 1012, 1013, 1014, 1015, 1016, 1017, 1018, 1019, 1020, 1021, 1022, 1023, 1024, 1025, 1026, 1027, 1028, 1029, 1030, 1031, 1032, 1033, 1034, 1035, 1036, 1037] (by decide +kernel) (by decide +kernel)
set_option maxRecDepth 20000 in
theorem gL_law_X7_ruleSet : GoodIn wsL_law (wsV RL 73 RX7 yX7_ruleSet wsX7_ruleSet) := goodIn_app (goodIn_of _ (by decide +kernel)) ggL_law_X7_ruleSet
set_option maxRecDepth 20000 in
theorem ggL_law_X6_ruleAction : GoodIn wsL_law wsX6_ruleAction := goodIn_r _ [407, 16, 408, 367, 368, 369, 15, 370, 88, 992, 993, 994, 995, 996, 997, 998, 999, 1000, 1038, 1039, 1040, 1041, 1042, 1043, 1044, 1045, 1046, 1047, 1048] (by decide +kernel) (by decide +kernel)
set_option maxRecDepth 20000 in
theorem gL_law_X6_ruleAction : GoodIn wsL_law (wsV RL 74 RX6 yX6_ruleAction wsX6_ruleAction) := goodIn_app (goodIn_of _ (by decide +kernel)) ggL_law_X6_ruleAction
set_option maxRecDepth 20000 in
theorem ggL_law_X7_ruleAction : GoodIn wsL_law wsX7_ruleAction := goodIn_r _ [412, 103, 379, 380, 381, 5, 382, 140, 145, 146, 147, 1001, 1002, 1003, 1004, 1005, 1006, 1007, 1008, 1009, 1010, 1011, 1012, 1013, 1014, 1015, 1016, 1017, 1018, 1019, 1020, 1021, 1022, 1023, 1024, 1025, 1026, 1027, 1028, 1029, 1030, 1031, 1032, 1033, 1034, 1035, 1036, 1037] (by decide +kernel) (by decide +kernel)
set_option maxRecDepth 20000 in
theorem gL_law_X7_ruleAction : GoodIn wsL_law (wsV RL 77 RX7 yX7_ruleAction wsX7_ruleAction) := goodIn_app (goodIn_of _ (by decide +kernel)) ggL_law_X7_ruleAction
set_option maxRecDepth 20000 in
theorem ggL_law_X6_ruleCases : GoodIn wsL_law wsX6_ruleCases := goodIn_r _ [416, 16, 156, 367, 368, 369, 15, 370, 88, 399, 338, 339, 340, 48, 417, 418, 419, 420, 421, 422, 423, 992, 993, 994, 995, 996, 997, 998, 999, 1000, 1038, 1039, 1040, 1041, 1042, 1043, 1044, 1045, 1046, 1047, 1048] (by decide +kernel) (by decide +kernel)
set_option maxRecDepth 20000 in
theorem gL_law_X6_ruleCases : GoodIn wsL_law (wsV RL 78 RX6 yX6_ruleCases wsX6_ruleCases) := goodIn_app (goodIn_of _ (by decide +kernel)) ggL_law_X6_ruleCases
set_option maxRecDepth 20000 in
theorem ggL_law_X7_ruleCases : GoodIn wsL_law wsX7_ruleCases := goodIn_r _ [427, 98, 102, 379, 380, 381, 5, 382, 140, 145, 146, 147, 428, 418, 419, 420, 421, 422, 423, 1001, 1002, 1003, 1004, 1005, 1006, 1007, 1008, 1009, 1010, 1011, 1012, 1013, 1014, 1015, 1016, 1017, 1018, 1019, 1020, 1021, 1022, 1023, 1024, 1025, 1026, 1027, 1028, 1029, 1030, 1031, 1032, 1033, 1034, 1035, 1036, 1037] (by decide +kernel) (by decide +kernel)
set_option maxRecDepth 20000 in
theorem gL_law_X7_ruleCases : GoodIn wsL_law (wsV RL 81 RX7 yX7_ruleCases wsX7_ruleCases) := goodIn_app (goodIn_of _ (by decide +kernel)) ggL_law_X7_ruleCases
set_option maxRecDepth 20000 in
theorem ggL_law_X6_firstMatch : GoodIn wsL_law wsX6_firstMatch := goodIn_r _ [432, 16, 173, 174, 175, 15, 176, 87, 433, 434, 435, 436, 88, 437, 438, 439, 440, 86, 50, 441, 182, 183, 184, 45, 44, 185, 2, 186, 187, 188, 992, 993, 994, 995, 996, 997, 998, 999, 1000, 1038, 1039, 1040, 1041, 1042, 1043, 1044, 1045, 1046, 1047, 1048] (by decide +kernel) (by decide +kernel)
set_option maxRecDepth 20000 in
theorem gL_law_X6_firstMatch : GoodIn wsL_law (wsV RL 82 RX6 yX6_firstMatch wsX6_firstMatch) := goodIn_app (goodIn_of _ (by decide +kernel)) ggL_law_X6_firstMatch
set_option maxRecDepth 20000 in
theorem ggL_law_X7_firstMatch : GoodIn wsL_law wsX7_firstMatch := goodIn_r _ [445, 193, 194, 195, 5, 196, 148, 149, 150, 151, 98, 99, 145, 146, 147, 446, 447, 448, 449, 140, 450, 451, 452, 453, 102, 201, 202, 203, 204, 1001, 1002, 1003, 1004, 1005, 1006, 1007, 1008, 1009, 1010, 1011, 1012, 1013, 1014, 1015, 1016, 1017, 1018, 1019, 1020, 1021, 1022, 1023, 1024, 1025, 1026, 1027, 1028, 1029, 1030, 1031, 1032, 1033, 1034, 1035, 1036, 1037] (by decide +kernel) (by decide +kernel)
set_option maxRecDepth 20000 in
theorem gL_law_X7_firstMatch : GoodIn wsL_law (wsV RL 85 RX7 yX7_firstMatch wsX7_firstMatch) := goodIn_app (goodIn_of _ (by decide +kernel)) ggL_law_X7_firstMatch
set_option maxRecDepth 20000 in
theorem ggL_law_X6_matches : GoodIn wsL_law wsX6_matches := goodIn_r _ [457, 16, 173, 174, 175, 15, 176, 87, 458, 438, 439, 440, 88, 86, 50, 441, 182, 183, 184, 45, 44, 185, 2, 186, 187, 188, 992, 993, 994, 995, 996, 997, 998, 999, 1000, 1038, 1039, 1040, 1041, 1042, 1043, 1044, 1045, 1046, 1047, 1048] (by decide +kernel) (by decide +kernel)
set_option maxRecDepth 20000 in
theorem gL_law_X6_matches : GoodIn wsL_law (wsV RL 86 RX6 yX6_matches wsX6_matches) := goodIn_app (goodIn_of _ (by decide +kernel)) ggL_law_X6_matches
set_option maxRecDepth 20000 in
theorem ggL_law_X7_matches : GoodIn wsL_law wsX7_matches := goodIn_r _ [462, 140, 193, 194, 195, 5, 196, 148, 149, 150, 151, 98, 99, 145, 146, 147, 450, 451, 452, 453, 102, 201, 202, 203, 204, 1001, 1002, 1003, 1004, 1005, 1006, 1007, 1008, 1009, 1010, 1011, 1012, 1013, 1014, 1015, 1016, 1017, 1018, 1019, 1020, 1021, 1022, 1023, 1024, 1025, 1026, 1027, 1028, 1029, 1030, 1031, 1032, 1033, 1034, 1035, 1036, 1037] (by decide +kernel) (by decide +kernel)
set_option maxRecDepth 20000 in
theorem gL_law_X7_matches : GoodIn wsL_law (wsV RL 89 RX7 yX7_matches wsX7_matches) := goodIn_app (goodIn_of _ (by decide +kernel)) ggL_law_X7_matches
set_option maxRecDepth 20000 in
theorem ggL_law_X6_action : GoodIn wsL_law wsX6_action := goodIn_r _ [466, 16, 173, 174, 175, 15, 176, 87, 467, 468, 469, 470, 89, 49, 471, 434, 435, 436, 88, 437, 438, 439, 440, 86, 50, 441, 182, 183, 184, 45, 44, 185, 2, 186, 187, 188, 244, 245, 246, 992, 993, 994, 995, 996, 997, 998, 999, 1000, 1038, 1039, 1040, 1041, 1042, 1043, 1044, 1045, 1046, 1047, 1048] (by decide +kernel) (by decide +kernel)
set_option maxRecDepth 20000 in
theorem gL_law_X6_action : GoodIn wsL_law (wsV RL 90 RX6 yX6_action wsX6_action) := goodIn_app (goodIn_of _ (by decide +kernel)) ggL_law_X6_action
set_option maxRecDepth 20000 in
theorem ggL_law_X7_action : GoodIn wsL_law wsX7_action := goodIn_r _ [475, 193, 194, 195, 5, 196, 148, 149, 150, 151, 98, 99, 145, 146, 147, 476, 477, 478, 479, 104, 103, 446, 447, 448, 449, 140, 450, 451, 452, 453, 102, 201, 202, 203, 204, 251, 252, 253, 1001, 1002, 1003, 1004, 1005, 1006, 1007, 1008, 1009, 1010, 1011, 1012, 1013, 1014, 1015, 1016, 1017, 1018, 1019, 1020, 1021, 1022, 1023, 1024, 1025, 1026, 1027, 1028, 1029, 1030, 1031, 1032, 1033, 1034, 1035, 1036, 1037] (by decide +kernel) (by decide +kernel)
set_option maxRecDepth 20000 in
theorem gL_law_X7_action : GoodIn wsL_law (wsV RL 93 RX7 yX7_action wsX7_action) := goodIn_app (goodIn_of _ (by decide +kernel)) ggL_law_X7_action
set_option maxRecDepth 20000 in
theorem ggL_law_X6_gapCount : GoodIn wsL_law wsX6_gapCount := goodIn_r _ [483, 16, 129, 458, 438, 439, 15, 440, 88, 86, 50, 441, 182, 183, 184, 45, 44, 185, 2, 186, 187, 188, 992, 993, 994, 995, 996, 997, 998, 999, 1000, 1038, 1039, 1040, 1041, 1042, 1043, 1044, 1045, 1046, 1047, 1048] (by decide +kernel) (by decide +kernel)
set_option maxRecDepth 20000 in
theorem gL_law_X6_gapCount : GoodIn wsL_law (wsV RL 94 RX6 yX6_gapCount wsX6_gapCount) := goodIn_app (goodIn_of _ (by decide +kernel)) ggL_law_X6_gapCount
set_option maxRecDepth 20000 in
theorem ggL_law_X7_gapCount : GoodIn wsL_law wsX7_gapCount := goodIn_r _ [487, 148, 149, 150, 5, 151, 98, 99, 446, 447, 448, 449, 140, 450, 451, 452, 453, 102, 201, 202, 203, 204, 1001, 1002, 1003, 1004, 1005, 1006, 1007, 1008, 1009, 1010, 1011, 1012, 1013, 1014, 1015, 1016, 1017, 1018, 1019, 1020, 1021, 1022, 1023, 1024, 1025, 1026, 1027, 1028, 1029, 1030, 1031, 1032, 1033, 1034, 1035, 1036, 1037] (by decide +kernel) (by decide +kernel)
set_option maxRecDepth 20000 in
theorem gL_law_X7_gapCount : GoodIn wsL_law (wsV RL 97 RX7 yX7_gapCount wsX7_gapCount) := goodIn_app (goodIn_of _ (by decide +kernel)) ggL_law_X7_gapCount
set_option maxRecDepth 20000 in
theorem ggL_law_X6_gap : GoodIn wsL_law wsX6_gap := goodIn_r _ [491, 16, 129, 458, 438, 439, 15, 440, 88, 86, 50, 441, 182, 183, 184, 45, 44, 185, 2, 186, 187, 188, 992, 993, 994, 995, 996, 997, 998, 999, 1000, 1038, 1039, 1040, 1041, 1042, 1043, 1044, 1045, 1046, 1047, 1048] (by decide +kernel) (by decide +kernel)
set_option maxRecDepth 20000 in
theorem gL_law_X6_gap : GoodIn wsL_law (wsV RL 98 RX6 yX6_gap wsX6_gap) := goodIn_app (goodIn_of _ (by decide +kernel)) ggL_law_X6_gap
set_option maxRecDepth 20000 in
theorem ggL_law_X7_gap : GoodIn wsL_law wsX7_gap := goodIn_r _ [495, 148, 149, 150, 5, 151, 98, 99, 446, 447, 448, 449, 140, 450, 451, 452, 453, 102, 201, 202, 203, 204, 1001, 1002, 1003, 1004, 1005, 1006, 1007, 1008, 1009, 1010, 1011, 1012, 1013, 1014, 1015, 1016, 1017, 1018, 1019, 1020, 1021, 1022, 1023, 1024, 1025, 1026, 1027, 1028, 1029, 1030, 1031, 1032, 1033, 1034, 1035, 1036, 1037] (by decide +kernel) (by decide +kernel)
set_option maxRecDepth 20000 in
theorem gL_law_X7_gap : GoodIn wsL_law (wsV RL 101 RX7 yX7_gap wsX7_gap) := goodIn_app (goodIn_of _ (by decide +kernel)) ggL_law_X7_gap
set_option maxRecDepth 20000 in
theorem ggL_law_X6_gapWeight : GoodIn wsL_law wsX6_gapWeight := goodIn_r _ [499, 16, 129, 458, 438, 439, 15, 440, 88, 86, 50, 441, 182, 183, 184, 45, 44, 185, 2, 186, 187, 188, 500, 501, 502, 503, 47, 992, 993, 994, 995, 996, 997, 998, 999, 1000, 1038, 1039, 1040, 1041, 1042, 1043, 1044, 1045, 1046, 1047, 1048] (by decide +kernel) (by decide +kernel)
set_option maxRecDepth 20000 in
theorem gL_law_X6_gapWeight : GoodIn wsL_law (wsV RL 102 RX6 yX6_gapWeight wsX6_gapWeight) := goodIn_app (goodIn_of _ (by decide +kernel)) ggL_law_X6_gapWeight
set_option maxRecDepth 20000 in
theorem ggL_law_X7_gapWeight : GoodIn wsL_law wsX7_gapWeight := goodIn_r _ [507, 98, 100, 148, 149, 150, 5, 151, 99, 201, 202, 203, 204, 446, 447, 448, 449, 140, 450, 451, 452, 453, 102, 1001, 1002, 1003, 1004, 1005, 1006, 1007, 1008, 1009, 1010, 1011, 1012, 1013, 1014, 1015, 1016, 1017, 1018, 1019, 1020, 1021, 1022, 1023, 1024, 1025, 1026, 1027, 1028, 1029, 1030, 1031, 1032, 1033, 1034, 1035, 1036, 1037] (by decide +kernel) (by decide +kernel)
set_option maxRecDepth 20000 in
theorem gL_law_X7_gapWeight : GoodIn wsL_law (wsV RL 106 RX7 yX7_gapWeight wsX7_gapWeight) := goodIn_app (goodIn_of _ (by decide +kernel)) ggL_law_X7_gapWeight
set_option maxRecDepth 20000 in
theorem ggL_law_X6_conflictCount : GoodIn wsL_law wsX6_conflictCount := goodIn_r _ [511, 16, 281, 512, 513, 514, 15, 515, 49, 86, 337, 338, 339, 340, 48, 992, 993, 994, 995, 996, 997, 998, 999, 1000, 1038, 1039, 1040, 1041, 1042, 1043, 1044, 1045, 1046, 1047, 1048] (by decide +kernel) (by decide +kernel)
set_option maxRecDepth 20000 in
theorem gL_law_X6_conflictCount : GoodIn wsL_law (wsV RL 107 RX6 yX6_conflictCount wsX6_conflictCount) := goodIn_app (goodIn_of _ (by decide +kernel)) ggL_law_X6_conflictCount
set_option maxRecDepth 20000 in
theorem ggL_law_X7_conflictCount : GoodIn wsL_law wsX7_conflictCount := goodIn_r _ [519, 140, 520, 521, 522, 5, 523, 103, 524, 525, 526, 527, 98, 102, 99, 528, 529, 419, 530, 531, 1001, 1002, 1003, 1004, 1005, 1006, 1007, 1008, 1009, 1010, 1011, 1012, 1013, 1014, 1015, 1016, 1017, 1018, 1019, 1020, 1021, 1022, 1023, 1024, 1025, 1026, 1027, 1028, 1029, 1030, 1031, 1032, 1033, 1034, 1035, 1036, 1037] (by decide +kernel) (by decide +kernel)
set_option maxRecDepth 20000 in
theorem gL_law_X7_conflictCount : GoodIn wsL_law (wsV RL 110 RX7 yX7_conflictCount wsX7_conflictCount) := goodIn_app (goodIn_of _ (by decide +kernel)) ggL_law_X7_conflictCount
