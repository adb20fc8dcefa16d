set_option maxRecDepth 20000 in
theorem i_wsL_law_r29 : ∀ w ∈ wsL_law_r29, w ∈ lw_tbl := mem_r _ [632, 96, 91, 626, 627, 628, 629, 633, 634, 636, 17, 637, 203, 638, 639, 641, 18, 642, 643, 645, 19, 646, 647, 648] (by decide +kernel)
set_option maxRecDepth 20000 in
theorem i_wsL_law_r30 : ∀ w ∈ wsL_law_r30, w ∈ lw_tbl := mem_r _ [649, 650, 1081, 1082, 1083, 1084, 799, 805, 1085, 1087, 37, 1088, 1089, 1091, 38, 1092, 1093, 1094, 1095, 1096, 1097, 1098, 1099, 1101] (by decide +kernel)
set_option maxRecDepth 20000 in
theorem i_wsL_law_r31 : ∀ w ∈ wsL_law_r31, w ∈ lw_tbl := mem_r _ [39, 1102, 1103, 1105, 40, 1106, 1107, 1109, 41, 1110, 1111, 1113, 42, 1114, 1115, 1117, 43, 1118, 1119, 1121, 44, 1122, 1123, 1125] (by decide +kernel)
set_option maxRecDepth 20000 in
theorem i_wsL_law_r32 : ∀ w ∈ wsL_law_r32, w ∈ lw_tbl := mem_r _ [45, 1126, 651, 652, 653, 654, 202, 655, 1127, 1128, 1129, 1130, 1131, 656, 657, 658, 659, 200, 1132, 1133, 1134, 1135, 1136, 660] (by decide +kernel)
set_option maxRecDepth 20000 in
theorem i_wsL_law_r33 : ∀ w ∈ wsL_law_r33, w ∈ lw_tbl := mem_r _ [661, 662, 663, 206, 208, 210, 212, 664, 1137, 1138, 1139, 1140, 1141, 1143, 46, 1144, 665, 666, 667, 668, 669, 670, 671, 672] (by decide +kernel)
set_option maxRecDepth 20000 in
theorem i_wsL_law_r34 : ∀ w ∈ wsL_law_r34, w ∈ lw_tbl := mem_r _ [1145, 1146, 1147, 1148, 1149, 1151, 47, 1152, 673, 674, 675, 676, 677, 678, 679, 680, 681, 682, 1153, 1154, 1155, 1156, 683, 684] (by decide +kernel)
set_option maxRecDepth 20000 in
theorem i_wsL_law_r35 : ∀ w ∈ wsL_law_r35, w ∈ lw_tbl := mem_r _ [685, 686, 204, 1157, 1158, 1159, 1160, 1161, 1163, 48, 1164, 1165, 1167, 49, 1168, 687, 688, 689, 690, 216, 214, 1169, 1170, 1171] (by decide +kernel)
set_option maxRecDepth 20000 in
theorem i_wsL_law_r36 : ∀ w ∈ wsL_law_r36, w ∈ lw_tbl := mem_r _ [1172, 691, 692, 693, 694, 695, 696, 697, 698, 1173, 1174, 1175, 1176, 699, 700, 701, 702, 703, 94, 704, 705, 706, 707, 708] (by decide +kernel)
set_option maxRecDepth 20000 in
theorem i_wsL_law_r37 : ∀ w ∈ wsL_law_r37, w ∈ lw_tbl := mem_r _ [1177, 1178, 1179, 1180, 1181, 709, 710, 711, 712, 713, 714, 715, 716, 717, 718, 719, 248, 250, 252, 720, 721, 722, 1182, 1183] (by decide +kernel)
set_option maxRecDepth 20000 in
theorem i_wsL_law_r38 : ∀ w ∈ wsL_law_r38, w ∈ lw_tbl := mem_r _ [1184, 1185, 1186, 1187, 1188, 1189, 1191, 50, 1192, 723, 724, 725, 726, 249, 1193, 1194, 1195, 1196, 727, 728, 729, 730, 731, 732] (by decide +kernel)
set_option maxRecDepth 20000 in
theorem i_wsL_law_r39 : ∀ w ∈ wsL_law_r39, w ∈ lw_tbl := mem_r _ [733, 734, 735, 736, 737, 738, 739, 741, 20, 742, 1197, 1198, 1199, 1200, 1201, 1202, 1203, 743, 744, 745, 746, 254, 1204, 1205] (by decide +kernel)
set_option maxRecDepth 20000 in
theorem i_wsL_law_r40 : ∀ w ∈ wsL_law_r40, w ∈ lw_tbl := mem_r _ [1206, 1207, 747, 748, 749, 750, 251, 755, 751, 752, 753, 754, 1208, 1209, 1210, 1211, 756, 757, 758, 759, 1212, 1213, 1214, 1215] (by decide +kernel)
set_option maxRecDepth 20000 in
theorem i_wsL_law_r41 : ∀ w ∈ wsL_law_r41, w ∈ lw_tbl := mem_r _ [760, 761, 762, 763, 1216, 1217, 1218, 1219, 764, 765, 766, 767, 768, 769, 770, 771, 1220, 1221, 1222, 1223, 810, 811, 815, 818] (by decide +kernel)
set_option maxRecDepth 20000 in
theorem i_wsL_law_r42 : ∀ w ∈ wsL_law_r42, w ∈ lw_tbl := mem_r _ [772, 773, 774, 775, 1224, 1225, 1226, 1227] (by decide +kernel)
set_option maxRecDepth 20000 in
theorem i_wsX60 : ∀ w ∈ wsX60, w ∈ lw_tbl := mem_r _ [280, 282, 284, 286, 288, 290, 292, 294, 296] (by decide +kernel)
set_option maxRecDepth 20000 in
theorem i_wsX70 : ∀ w ∈ wsX70, w ∈ lw_tbl := mem_r _ [819, 821, 823, 825, 827, 829, 831, 833, 835, 837, 839, 841, 843, 845, 847, 849, 851, 853, 855, 857, 859, 861, 863, 865, 867, 869, 871, 873, 875, 877, 879, 881, 883, 885, 887, 889, 891] (by decide +kernel)
set_option maxRecDepth 20000 in
theorem i_wsX40 : ∀ w ∈ wsX40, w ∈ lw_tbl := mem_r _ [105, 107, 109, 111, 113, 115, 117, 119, 121, 123, 125] (by decide +kernel)
set_option maxRecDepth 20000 in
theorem i_wsX00 : ∀ w ∈ wsX00, w ∈ lw_tbl := mem_r _ [140, 142] (by decide +kernel)
set_option maxRecDepth 20000 in
theorem i_wsX20 : ∀ w ∈ wsX20, w ∈ lw_tbl := mem_r _ [158, 160, 162, 164] (by decide +kernel)
set_option maxRecDepth 20000 in
theorem i_wsX10 : ∀ w ∈ wsX10, w ∈ lw_tbl := mem_r _ [179, 181, 183, 185, 187] (by decide +kernel)
set_option maxRecDepth 20000 in
theorem i_wsX50 : ∀ w ∈ wsX50, w ∈ lw_tbl := mem_r _ [218, 220, 222, 224, 226, 228, 230, 232, 234, 236, 238] (by decide +kernel)
set_option maxRecDepth 20000 in
theorem i_wsX30 : ∀ w ∈ wsX30, w ∈ lw_tbl := mem_r _ [255, 257, 259, 261] (by decide +kernel)
