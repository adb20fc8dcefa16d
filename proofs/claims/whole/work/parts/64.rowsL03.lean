set_option maxRecDepth 20000 in
theorem ggL_law_X6_conflict : GoodIn wsL_law wsX6_conflict := goodIn_r _ [535, 16, 281, 512, 513, 514, 15, 515, 49, 86, 337, 338, 339, 340, 48, 536, 537, 538, 2, 539, 540, 541, 542, 543, 45, 544, 545, 546, 992, 993, 994, 995, 996, 997, 998, 999, 1000, 1038, 1039, 1040, 1041, 1042, 1043, 1044, 1045, 1046, 1047, 1048] (by decide +kernel) (by decide +kernel)
set_option maxRecDepth 20000 in
theorem gL_law_X6_conflict : GoodIn wsL_law (wsV RL 111 RX6 yX6_conflict wsX6_conflict) := goodIn_app (goodIn_of _ (by decide +kernel)) ggL_law_X6_conflict
set_option maxRecDepth 20000 in
theorem ggL_law_X7_conflict : GoodIn wsL_law wsX7_conflict := goodIn_r _ [550, 140, 145, 146, 5, 147, 520, 521, 522, 523, 103, 524, 525, 526, 527, 98, 102, 99, 528, 529, 419, 530, 531, 1001, 1002, 1003, 1004, 1005, 1006, 1007, 1008, 1009, 1010, 1011, 1012, 1013, 1014, 1015, 1016, 1017, 1018, 1019, 1020, 1021, 1022, 1023, 1024, 1025, 1026, 1027, 1028, 1029, 1030, 1031, 1032, 1033, 1034, 1035, 1036, 1037] (by decide +kernel) (by decide +kernel)
set_option maxRecDepth 20000 in
theorem gL_law_X7_conflict : GoodIn wsL_law (wsV RL 114 RX7 yX7_conflict wsX7_conflict) := goodIn_app (goodIn_of _ (by decide +kernel)) ggL_law_X7_conflict
set_option maxRecDepth 20000 in
theorem ggL_law_X6_isShadowed : GoodIn wsL_law wsX6_isShadowed := goodIn_r _ [554, 16, 367, 368, 369, 15, 370, 88, 555, 556, 557, 558, 87, 437, 438, 439, 440, 86, 50, 441, 182, 183, 184, 45, 44, 185, 2, 186, 187, 188, 992, 993, 994, 995, 996, 997, 998, 999, 1000, 1038, 1039, 1040, 1041, 1042, 1043, 1044, 1045, 1046, 1047, 1048] (by decide +kernel) (by decide +kernel)
set_option maxRecDepth 20000 in
theorem gL_law_X6_isShadowed : GoodIn wsL_law (wsV RL 115 RX6 yX6_isShadowed wsX6_isShadowed) := goodIn_app (goodIn_of _ (by decide +kernel)) ggL_law_X6_isShadowed
set_option maxRecDepth 20000 in
theorem ggL_law_X7_isShadowed : GoodIn wsL_law wsX7_isShadowed := goodIn_r _ [562, 379, 380, 381, 5, 382, 140, 145, 146, 147, 563, 564, 565, 566, 148, 149, 150, 151, 98, 99, 446, 447, 448, 449, 450, 451, 452, 453, 102, 201, 202, 203, 204, 1001, 1002, 1003, 1004, 1005, 1006, 1007, 1008, 1009, 1010, 1011, 1012, 1013, 1014, 1015, 1016, 1017, 1018, 1019, 1020, 1021, 1022, 1023, 1024, 1025, 1026, 1027, 1028, 1029, 1030, 1031, 1032, 1033, 1034, 1035, 1036, 1037] (by decide +kernel) (by decide +kernel)
set_option maxRecDepth 20000 in
theorem gL_law_X7_isShadowed : GoodIn wsL_law (wsV RL 118 RX7 yX7_isShadowed wsX7_isShadowed) := goodIn_app (goodIn_of _ (by decide +kernel)) ggL_law_X7_isShadowed
set_option maxRecDepth 20000 in
theorem ggL_law_X6_removeShadowed : GoodIn wsL_law wsX6_removeShadowed := goodIn_r _ [570, 16, 281, 39, 555, 556, 557, 15, 558, 87, 437, 438, 439, 440, 88, 86, 50, 441, 182, 183, 184, 45, 44, 185, 2, 186, 187, 188, 371, 372, 373, 374, 329, 330, 331, 332, 48, 324, 325, 326, 327, 49, 333, 334, 335, 336, 337, 338, 339, 340, 992, 993, 994, 995, 996, 997, 998, 999, 1000, 1038, 1039, 1040, 1041, 1042, 1043, 1044, 1045, 1046, 1047, 1048] (by decide +kernel) (by decide +kernel)
set_option maxRecDepth 20000 in
theorem gL_law_X6_removeShadowed : GoodIn wsL_law (wsV RL 119 RX6 yX6_removeShadowed wsX6_removeShadowed) := goodIn_app (goodIn_of _ (by decide +kernel)) ggL_law_X6_removeShadowed
set_option maxRecDepth 20000 in
theorem ggL_law_X7_removeShadowed : GoodIn wsL_law wsX7_removeShadowed := goodIn_r _ [574, 140, 563, 564, 565, 5, 566, 148, 149, 150, 151, 98, 99, 446, 447, 448, 449, 450, 451, 452, 453, 102, 201, 202, 203, 204, 383, 384, 385, 386, 103, 141, 1001, 1002, 1003, 1004, 1005, 1006, 1007, 1008, 1009, 1010, 1011, 1012, 1013, 1014, 1015, 1016, 1017, 1018, 1019, 1020, 1021, 1022, 1023, 1024, 1025, 1026, 1027, 1028, 1029, 1030, 1031, 1032, 1033, 1034, 1035, 1036, 1037] (by decide +kernel) (by decide +kernel)
set_option maxRecDepth 20000 in
theorem gL_law_X7_removeShadowed : GoodIn wsL_law (wsV RL 122 RX7 yX7_removeShadowed wsX7_removeShadowed) := goodIn_app (goodIn_of _ (by decide +kernel)) ggL_law_X7_removeShadowed
set_option maxRecDepth 20000 in
theorem ggL_law_X6_mergeRules : GoodIn wsL_law wsX6_mergeRules := goodIn_r _ [578, 16, 39, 281, 579, 580, 581, 15, 582, 88, 49, 583, 584, 585, 586, 86, 337, 338, 339, 340, 48, 587, 588, 589, 590, 591, 372, 373, 374, 329, 330, 331, 332, 324, 325, 326, 327, 333, 334, 335, 336, 44, 50, 992, 993, 994, 995, 996, 997, 998, 999, 1000, 1038, 1039, 1040, 1041, 1042, 1043, 1044, 1045, 1046, 1047, 1048] (by decide +kernel) (by decide +kernel)
set_option maxRecDepth 20000 in
theorem gL_law_X6_mergeRules : GoodIn wsL_law (wsV RL 123 RX6 yX6_mergeRules wsX6_mergeRules) := goodIn_app (goodIn_of _ (by decide +kernel)) ggL_law_X6_mergeRules
set_option maxRecDepth 20000 in
theorem ggL_law_X7_mergeRules : GoodIn wsL_law wsX7_mergeRules := goodIn_r _ [595, 140, 98, 102, 596, 597, 598, 5, 599, 103, 383, 384, 385, 386, 141, 1001, 1002, 1003, 1004, 1005, 1006, 1007, 1008, 1009, 1010, 1011, 1012, 1013, 1014, 1015, 1016, 1017, 1018, 1019, 1020, 1021, 1022, 1023, 1024, 1025, 1026, 1027, 1028, 1029, 1030, 1031, 1032, 1033, 1034, 1035, 1036, 1037] (by decide +kernel) (by decide +kernel)
set_option maxRecDepth 20000 in
theorem gL_law_X7_mergeRules : GoodIn wsL_law (wsV RL 126 RX7 yX7_mergeRules wsX7_mergeRules) := goodIn_app (goodIn_of _ (by decide +kernel)) ggL_law_X7_mergeRules
set_option maxRecDepth 20000 in
theorem ggL_law_X6_compile : GoodIn wsL_law wsX6_compile := goodIn_r _ [603, 29, 16, 33, 39, 604, 605, 606, 607, 28, 608, 609, 610, 63, 611, 67, 65, 612, 613, 614, 615, 616, 64, 617, 618, 619, 620, 621, 622, 623, 624, 185, 2, 186, 187, 188, 625, 626, 627, 628, 629, 630, 631, 632, 633, 501, 502, 15, 503, 86, 47, 441, 182, 183, 184, 45, 44, 634, 468, 469, 470, 89, 49, 471, 434, 435, 436, 88, 437, 438, 439, 440, 50, 635, 636, 637, 638, 639, 640, 641, 642, 643, 644, 645, 646, 647, 648, 649, 650, 651, 32, 652, 653, 654, 655, 656, 657, 658, 659, 660, 661, 662, 663, 664, 665, 666, 667, 668, 71, 72, 669, 74, 670, 671, 672, 673, 674, 73, 675, 676, 677, 678, 679, 680, 681, 682, 683, 684, 77, 75, 76, 685, 91, 92, 93, 686, 687, 688, 689, 690, 691, 692, 693, 694, 695, 696, 697, 992, 993, 994, 995, 996, 997, 998, 999, 1000, 1060, 1061, 1062, 1063, 1064, 1065, 1066, 1067, 1068, 1069, 1070, 1055, 1056, 1057, 1058, 1059, 1038, 1039, 1040, 1041, 1042, 1043, 1044, 1045, 1046, 1047, 1048] (by decide +kernel) (by decide +kernel)
set_option maxRecDepth 20000 in
theorem gL_law_X6_compile : GoodIn wsL_law (wsV RL 127 RX6 yX6_compile wsX6_compile) := goodIn_app (goodIn_of _ (by decide +kernel)) ggL_law_X6_compile
set_option maxRecDepth 20000 in
theorem ggL_law_X7_compile : GoodIn wsL_law wsX7_compile := goodIn_r _ [701, 702, 108, 703, 141, 704, 705, 706, 5, 707, 708, 709, 710, 711, 98, 99, 712, 713, 714, 715, 716, 717, 718, 719, 720, 721, 107, 109, 110, 722, 723, 724, 725, 726, 727, 728, 729, 476, 477, 478, 479, 104, 103, 446, 447, 448, 449, 140, 450, 451, 452, 453, 102, 201, 202, 203, 204, 730, 731, 732, 733, 101, 734, 735, 736, 737, 100, 223, 224, 225, 226, 738, 739, 740, 741, 742, 743, 744, 745, 111, 112, 114, 115, 113, 251, 252, 253, 1001, 1002, 1003, 1004, 1005, 1006, 1007, 1008, 1009, 1010, 1011, 1012, 1013, 1014, 1015, 1016, 1017, 1018, 1019, 1020, 1021, 1022, 1023, 1024, 1025, 1026, 1027, 1028, 1029, 1030, 1031, 1032, 1033, 1034, 1035, 1036, 1037] (by decide +kernel) (by decide +kernel)
set_option maxRecDepth 20000 in
theorem gL_law_X7_compile : GoodIn wsL_law (wsV RL 130 RX7 yX7_compile wsX7_compile) := goodIn_app (goodIn_of _ (by decide +kernel)) ggL_law_X7_compile
set_option maxRecDepth 20000 in
theorem ggL_law_X6_expectedCost : GoodIn wsL_law wsX6_expectedCost := goodIn_r _ [749, 39, 33, 750, 751, 992, 993, 994, 995, 996, 997, 998, 999, 1000, 1060, 1061, 1062, 1063, 1064, 1065, 1066, 1067, 1068, 1069, 1070] (by decide +kernel) (by decide +kernel)
set_option maxRecDepth 20000 in
theorem gL_law_X6_expectedCost : GoodIn wsL_law (wsV RL 131 RX6 yX6_expectedCost wsX6_expectedCost) := goodIn_app (goodIn_of _ (by decide +kernel)) ggL_law_X6_expectedCost
set_option maxRecDepth 20000 in
theorem ggL_law_X7_expectedCost : GoodIn wsL_law wsX7_expectedCost := goodIn_r _ [755, 141, 703, 756, 1001, 1002, 1003, 1004, 1005, 1006, 1007, 1008, 1009, 1010, 1011, 1012, 1013, 1014, 1015, 1016, 1017, 1018, 1019, 1020, 1021, 1022, 1023, 1024, 1025, 1026, 1027, 1028, 1029, 1030, 1031, 1032, 1033, 1034, 1035, 1036, 1037] (by decide +kernel) (by decide +kernel)
set_option maxRecDepth 20000 in
theorem gL_law_X7_expectedCost : GoodIn wsL_law (wsV RL 134 RX7 yX7_expectedCost wsX7_expectedCost) := goodIn_app (goodIn_of _ (by decide +kernel)) ggL_law_X7_expectedCost
set_option maxRecDepth 20000 in
theorem ggL_law_X6_worstCost : GoodIn wsL_law wsX6_worstCost := goodIn_r _ [760, 39, 33, 761, 992, 993, 994, 995, 996, 997, 998, 999, 1000, 1060, 1061, 1062, 1063, 1064, 1065, 1066, 1067, 1068, 1069, 1070] (by decide +kernel) (by decide +kernel)
set_option maxRecDepth 20000 in
theorem gL_law_X6_worstCost : GoodIn wsL_law (wsV RL 135 RX6 yX6_worstCost wsX6_worstCost) := goodIn_app (goodIn_of _ (by decide +kernel)) ggL_law_X6_worstCost
set_option maxRecDepth 20000 in
theorem ggL_law_X7_worstCost : GoodIn wsL_law wsX7_worstCost := goodIn_r _ [765, 702, 115, 766, 671, 642, 672, 141, 1001, 1002, 1003, 1004, 1005, 1006, 1007, 1008, 1009, 1010, 1011, 1012, 1013, 1014, 1015, 1016, 1017, 1018, 1019, 1020, 1021, 1022, 1023, 1024, 1025, 1026, 1027, 1028, 1029, 1030, 1031, 1032, 1033, 1034, 1035, 1036, 1037] (by decide +kernel) (by decide +kernel)
set_option maxRecDepth 20000 in
theorem gL_law_X7_worstCost : GoodIn wsL_law (wsV RL 138 RX7 yX7_worstCost wsX7_worstCost) := goodIn_app (goodIn_of _ (by decide +kernel)) ggL_law_X7_worstCost
set_option maxRecDepth 20000 in
theorem ggL_law_X6_node : GoodIn wsL_law wsX6_node := goodIn_r _ [770, 39, 33, 771, 772, 773, 774, 775, 695, 696, 32, 697, 653, 244, 245, 2, 246, 992, 993, 994, 995, 996, 997, 998, 999, 1000, 1060, 1061, 1062, 1063, 1064, 1065, 1066, 1067, 1068, 1069, 1070] (by decide +kernel) (by decide +kernel)
set_option maxRecDepth 20000 in
theorem gL_law_X6_node : GoodIn wsL_law (wsV RL 139 RX6 yX6_node wsX6_node) := goodIn_app (goodIn_of _ (by decide +kernel)) ggL_law_X6_node
set_option maxRecDepth 20000 in
theorem ggL_law_X7_node : GoodIn wsL_law wsX7_node := goodIn_r _ [779, 141, 111, 112, 113, 114, 780, 781, 782, 5, 783, 702, 145, 146, 147, 1001, 1002, 1003, 1004, 1005, 1006, 1007, 1008, 1009, 1010, 1011, 1012, 1013, 1014, 1015, 1016, 1017, 1018, 1019, 1020, 1021, 1022, 1023, 1024, 1025, 1026, 1027, 1028, 1029, 1030, 1031, 1032, 1033, 1034, 1035, 1036, 1037] (by decide +kernel) (by decide +kernel)
set_option maxRecDepth 20000 in
theorem gL_law_X7_node : GoodIn wsL_law (wsV RL 142 RX7 yX7_node wsX7_node) := goodIn_app (goodIn_of _ (by decide +kernel)) ggL_law_X7_node
set_option maxRecDepth 20000 in
theorem ggL_law_X6_child : GoodIn wsL_law wsX6_child := goodIn_r _ [787, 39, 33, 16, 771, 775, 695, 696, 32, 697, 653, 210, 211, 212, 15, 213, 44, 214, 178, 179, 180, 86, 788, 789, 790, 791, 73, 992, 993, 994, 995, 996, 997, 998, 999, 1000, 1060, 1061, 1062, 1063, 1064, 1065, 1066, 1067, 1068, 1069, 1070, 1038, 1039, 1040, 1041, 1042, 1043, 1044, 1045, 1046, 1047, 1048] (by decide +kernel) (by decide +kernel)
set_option maxRecDepth 20000 in
theorem gL_law_X6_child : GoodIn wsL_law (wsV RL 143 RX6 yX6_child wsX6_child) := goodIn_app (goodIn_of _ (by decide +kernel)) ggL_law_X6_child
set_option maxRecDepth 20000 in
theorem ggL_law_X7_child : GoodIn wsL_law wsX7_child := goodIn_r _ [795, 141, 111, 99, 780, 781, 782, 5, 783, 702, 145, 146, 147, 796, 797, 798, 799, 113, 1001, 1002, 1003, 1004, 1005, 1006, 1007, 1008, 1009, 1010, 1011, 1012, 1013, 1014, 1015, 1016, 1017, 1018, 1019, 1020, 1021, 1022, 1023, 1024, 1025, 1026, 1027, 1028, 1029, 1030, 1031, 1032, 1033, 1034, 1035, 1036, 1037] (by decide +kernel) (by decide +kernel)
set_option maxRecDepth 20000 in
theorem gL_law_X7_child : GoodIn wsL_law (wsV RL 146 RX7 yX7_child wsX7_child) := goodIn_app (goodIn_of _ (by decide +kernel)) ggL_law_X7_child
set_option maxRecDepth 20000 in
theorem ggL_law_X6_leafOf : GoodIn wsL_law wsX6_leafOf := goodIn_r _ [803, 39, 16, 33, 173, 174, 175, 15, 176, 87, 804, 805, 806, 32, 807, 71, 694, 695, 696, 697, 653, 808, 182, 183, 184, 45, 44, 185, 2, 186, 187, 188, 809, 789, 790, 791, 73, 992, 993, 994, 995, 996, 997, 998, 999, 1000, 1038, 1039, 1040, 1041, 1042, 1043, 1044, 1045, 1046, 1047, 1048, 1060, 1061, 1062, 1063, 1064, 1065, 1066, 1067, 1068, 1069, 1070] (by decide +kernel) (by decide +kernel)
set_option maxRecDepth 20000 in
theorem gL_law_X6_leafOf : GoodIn wsL_law (wsV RL 147 RX6 yX6_leafOf wsX6_leafOf) := goodIn_app (goodIn_of _ (by decide +kernel)) ggL_law_X6_leafOf
set_option maxRecDepth 20000 in
theorem ggL_law_X7_leafOf : GoodIn wsL_law wsX7_leafOf := goodIn_r _ [813, 141, 111, 193, 194, 195, 5, 196, 148, 149, 150, 151, 98, 99, 145, 146, 147, 201, 202, 203, 204, 796, 797, 798, 799, 113, 1001, 1002, 1003, 1004, 1005, 1006, 1007, 1008, 1009, 1010, 1011, 1012, 1013, 1014, 1015, 1016, 1017, 1018, 1019, 1020, 1021, 1022, 1023, 1024, 1025, 1026, 1027, 1028, 1029, 1030, 1031, 1032, 1033, 1034, 1035, 1036, 1037] (by decide +kernel) (by decide +kernel)
set_option maxRecDepth 20000 in
theorem gL_law_X7_leafOf : GoodIn wsL_law (wsV RL 150 RX7 yX7_leafOf wsX7_leafOf) := goodIn_app (goodIn_of _ (by decide +kernel)) ggL_law_X7_leafOf
set_option maxRecDepth 20000 in
theorem ggL_law_X6_sharedNodeCount : GoodIn wsL_law wsX6_sharedNodeCount := goodIn_r _ [817, 39, 33, 818, 992, 993, 994, 995, 996, 997, 998, 999, 1000, 1060, 1061, 1062, 1063, 1064, 1065, 1066, 1067, 1068, 1069, 1070] (by decide +kernel) (by decide +kernel)
set_option maxRecDepth 20000 in
theorem gL_law_X6_sharedNodeCount : GoodIn wsL_law (wsV RL 151 RX6 yX6_sharedNodeCount wsX6_sharedNodeCount) := goodIn_app (goodIn_of _ (by decide +kernel)) ggL_law_X6_sharedNodeCount
set_option maxRecDepth 20000 in
theorem ggL_law_X7_sharedNodeCount : GoodIn wsL_law wsX7_sharedNodeCount := goodIn_r _ [822, 141, 702, 823, 824, 825, 5, 826, 827, 828, 829, 830, 113, 111, 112, 1001, 1002, 1003, 1004, 1005, 1006, 1007, 1008, 1009, 1010, 1011, 1012, 1013, 1014, 1015, 1016, 1017, 1018, 1019, 1020, 1021, 1022, 1023, 1024, 1025, 1026, 1027, 1028, 1029, 1030, 1031, 1032, 1033, 1034, 1035, 1036, 1037] (by decide +kernel) (by decide +kernel)
set_option maxRecDepth 20000 in
theorem gL_law_X7_sharedNodeCount : GoodIn wsL_law (wsV RL 154 RX7 yX7_sharedNodeCount wsX7_sharedNodeCount) := goodIn_app (goodIn_of _ (by decide +kernel)) ggL_law_X7_sharedNodeCount
set_option maxRecDepth 20000 in
theorem ggL_law_X6_sharedNode : GoodIn wsL_law wsX6_sharedNode := goodIn_r _ [834, 39, 33, 835, 836, 775, 695, 696, 32, 697, 653, 992, 993, 994, 995, 996, 997, 998, 999, 1000, 1060, 1061, 1062, 1063, 1064, 1065, 1066, 1067, 1068, 1069, 1070] (by decide +kernel) (by decide +kernel)
set_option maxRecDepth 20000 in
theorem gL_law_X6_sharedNode : GoodIn wsL_law (wsV RL 155 RX6 yX6_sharedNode wsX6_sharedNode) := goodIn_app (goodIn_of _ (by decide +kernel)) ggL_law_X6_sharedNode
set_option maxRecDepth 20000 in
theorem ggL_law_X7_sharedNode : GoodIn wsL_law wsX7_sharedNode := goodIn_r _ [840, 141, 780, 781, 782, 5, 783, 702, 145, 146, 147, 823, 824, 825, 826, 827, 828, 829, 830, 113, 111, 112, 1001, 1002, 1003, 1004, 1005, 1006, 1007, 1008, 1009, 1010, 1011, 1012, 1013, 1014, 1015, 1016, 1017, 1018, 1019, 1020, 1021, 1022, 1023, 1024, 1025, 1026, 1027, 1028, 1029, 1030, 1031, 1032, 1033, 1034, 1035, 1036, 1037] (by decide +kernel) (by decide +kernel)
set_option maxRecDepth 20000 in
theorem gL_law_X7_sharedNode : GoodIn wsL_law (wsV RL 158 RX7 yX7_sharedNode wsX7_sharedNode) := goodIn_app (goodIn_of _ (by decide +kernel)) ggL_law_X7_sharedNode
