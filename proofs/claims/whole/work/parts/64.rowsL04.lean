set_option maxRecDepth 20000 in
theorem ggL_law_X6_costWithRoot : GoodIn wsL_law wsX6_costWithRoot := goodIn_r _ [844, 16, 751, 29, 177, 178, 179, 15, 180, 86, 605, 606, 607, 28, 608, 609, 610, 63, 611, 67, 65, 612, 613, 614, 615, 616, 64, 617, 618, 619, 620, 621, 622, 623, 624, 185, 2, 186, 187, 188, 625, 626, 627, 628, 629, 630, 631, 632, 633, 501, 502, 503, 47, 441, 182, 183, 184, 45, 44, 634, 468, 469, 470, 89, 49, 471, 434, 435, 436, 88, 437, 438, 439, 440, 50, 635, 636, 637, 638, 639, 640, 641, 642, 643, 644, 645, 646, 647, 648, 845, 846, 847, 848, 660, 661, 662, 663, 992, 993, 994, 995, 996, 997, 998, 999, 1000, 1038, 1039, 1040, 1041, 1042, 1043, 1044, 1045, 1046, 1047, 1048, 1055, 1056, 1057, 1058, 1059] (by decide +kernel) (by decide +kernel)
set_option maxRecDepth 20000 in
theorem gL_law_X6_costWithRoot : GoodIn wsL_law (wsV RL 159 RX6 yX6_costWithRoot wsX6_costWithRoot) := goodIn_app (goodIn_of _ (by decide +kernel)) ggL_law_X6_costWithRoot
set_option maxRecDepth 20000 in
theorem ggL_law_X7_costWithRoot : GoodIn wsL_law wsX7_costWithRoot := goodIn_r _ [852, 756, 197, 198, 199, 5, 200, 98, 145, 146, 147, 704, 705, 706, 707, 708, 709, 710, 711, 99, 712, 713, 714, 715, 716, 717, 718, 719, 720, 721, 107, 108, 109, 110, 722, 723, 724, 725, 726, 727, 728, 729, 476, 477, 478, 479, 104, 103, 446, 447, 448, 449, 140, 450, 451, 452, 453, 102, 201, 202, 203, 204, 730, 731, 732, 733, 101, 734, 735, 736, 737, 100, 223, 224, 225, 226, 738, 739, 740, 741, 1001, 1002, 1003, 1004, 1005, 1006, 1007, 1008, 1009, 1010, 1011, 1012, 1013, 1014, 1015, 1016, 1017, 1018, 1019, 1020, 1021, 1022, 1023, 1024, 1025, 1026, 1027, 1028, 1029, 1030, 1031, 1032, 1033, 1034, 1035, 1036, 1037] (by decide +kernel) (by decide +kernel)
set_option maxRecDepth 20000 in
theorem gL_law_X7_costWithRoot : GoodIn wsL_law (wsV RL 163 RX7 yX7_costWithRoot wsX7_costWithRoot) := goodIn_app (goodIn_of _ (by decide +kernel)) ggL_law_X7_costWithRoot
set_option maxRecDepth 20000 in
theorem ggL_law_X6_sample : GoodIn wsL_law wsX6_sample := goodIn_r _ [856, 16, 156, 857, 858, 241, 242, 2, 243, 215, 216, 217, 15, 218, 44, 47, 859, 187, 188, 860, 861, 862, 863, 467, 468, 469, 470, 89, 49, 471, 434, 435, 436, 88, 437, 438, 439, 440, 86, 50, 441, 182, 183, 184, 45, 185, 186, 992, 993, 994, 995, 996, 997, 998, 999, 1000, 1038, 1039, 1040, 1041, 1042, 1043, 1044, 1045, 1046, 1047, 1048] (by decide +kernel) (by decide +kernel)
set_option maxRecDepth 20000 in
theorem gL_law_X6_sample : GoodIn wsL_law (wsV RL 164 RX6 yX6_sample wsX6_sample) := goodIn_app (goodIn_of _ (by decide +kernel)) ggL_law_X6_sample
set_option maxRecDepth 20000 in
theorem ggL_law_X7_sample : GoodIn wsL_law wsX7_sample := goodIn_r _ [867, 98, 868, 100, 99, 145, 146, 5, 147, 223, 224, 225, 226, 476, 477, 478, 479, 104, 103, 446, 447, 448, 449, 140, 450, 451, 452, 453, 102, 201, 202, 203, 204, 1001, 1002, 1003, 1004, 1005, 1006, 1007, 1008, 1009, 1010, 1011, 1012, 1013, 1014, 1015, 1016, 1017, 1018, 1019, 1020, 1021, 1022, 1023, 1024, 1025, 1026, 1027, 1028, 1029, 1030, 1031, 1032, 1033, 1034, 1035, 1036, 1037] (by decide +kernel) (by decide +kernel)
set_option maxRecDepth 20000 in
theorem gL_law_X7_sample : GoodIn wsL_law (wsV RL 167 RX7 yX7_sample wsX7_sample) := goodIn_app (goodIn_of _ (by decide +kernel)) ggL_law_X7_sample
set_option maxRecDepth 20000 in
theorem ggL_law_X6_allocate : GoodIn wsL_law wsX6_allocate := goodIn_r _ [872, 35, 873, 874, 2, 875, 876, 877, 878, 37, 879, 880, 881, 882, 81, 883, 884, 92, 885, 992, 993, 994, 995, 996, 997, 998, 999, 1000, 1071, 1072, 1073, 1074] (by decide +kernel) (by decide +kernel)
set_option maxRecDepth 20000 in
theorem gL_law_X6_allocate : GoodIn wsL_law (wsV RL 168 RX6 yX6_allocate wsX6_allocate) := goodIn_app (goodIn_of _ (by decide +kernel)) ggL_law_X6_allocate
set_option maxRecDepth 20000 in
theorem ggL_law_X7_allocate : GoodIn wsL_law wsX7_allocate := goodIn_r _ [889, 890, 891, 5, 892, 145, 146, 147, 893, 894, 895, 896, 116, 117, 118, 1001, 1002, 1003, 1004, 1005, 1006, 1007, 1008, 1009, 1010, 1011, 1012, 1013, 1014, 1015, 1016, 1017, 1018, 1019, 1020, 1021, 1022, 1023, 1024, 1025, 1026, 1027, 1028, 1029, 1030, 1031, 1032, 1033, 1034, 1035, 1036, 1037] (by decide +kernel) (by decide +kernel)
set_option maxRecDepth 20000 in
theorem gL_law_X7_allocate : GoodIn wsL_law (wsV RL 171 RX7 yX7_allocate wsX7_allocate) := goodIn_app (goodIn_of _ (by decide +kernel)) ggL_law_X7_allocate
set_option maxRecDepth 20000 in
theorem ggL_law_X6_release : GoodIn wsL_law wsX6_release := goodIn_r _ [900, 35, 901, 873, 874, 2, 875, 992, 993, 994, 995, 996, 997, 998, 999, 1000, 1071, 1072, 1073, 1074] (by decide +kernel) (by decide +kernel)
set_option maxRecDepth 20000 in
theorem gL_law_X6_release : GoodIn wsL_law (wsV RL 172 RX6 yX6_release wsX6_release) := goodIn_app (goodIn_of _ (by decide +kernel)) ggL_law_X6_release
set_option maxRecDepth 20000 in
theorem ggL_law_X7_release : GoodIn wsL_law wsX7_release := goodIn_r _ [905, 116, 890, 891, 5, 892, 145, 146, 147, 1001, 1002, 1003, 1004, 1005, 1006, 1007, 1008, 1009, 1010, 1011, 1012, 1013, 1014, 1015, 1016, 1017, 1018, 1019, 1020, 1021, 1022, 1023, 1024, 1025, 1026, 1027, 1028, 1029, 1030, 1031, 1032, 1033, 1034, 1035, 1036, 1037] (by decide +kernel) (by decide +kernel)
set_option maxRecDepth 20000 in
theorem gL_law_X7_release : GoodIn wsL_law (wsV RL 175 RX7 yX7_release wsX7_release) := goodIn_app (goodIn_of _ (by decide +kernel)) ggL_law_X7_release
set_option maxRecDepth 20000 in
theorem ggL_law_X6_putElement : GoodIn wsL_law wsX6_putElement := goodIn_r _ [909, 35, 901, 873, 874, 2, 875, 910, 911, 912, 37, 913, 882, 914, 915, 916, 917, 81, 918, 919, 920, 921, 881, 992, 993, 994, 995, 996, 997, 998, 999, 1000, 1071, 1072, 1073, 1074] (by decide +kernel) (by decide +kernel)
set_option maxRecDepth 20000 in
theorem gL_law_X6_putElement : GoodIn wsL_law (wsV RL 178 RX6 yX6_putElement wsX6_putElement) := goodIn_app (goodIn_of _ (by decide +kernel)) ggL_law_X6_putElement
set_option maxRecDepth 20000 in
theorem ggL_law_X7_putElement : GoodIn wsL_law wsX7_putElement := goodIn_r _ [925, 116, 117, 118, 890, 891, 5, 892, 145, 146, 147, 926, 927, 928, 1001, 1002, 1003, 1004, 1005, 1006, 1007, 1008, 1009, 1010, 1011, 1012, 1013, 1014, 1015, 1016, 1017, 1018, 1019, 1020, 1021, 1022, 1023, 1024, 1025, 1026, 1027, 1028, 1029, 1030, 1031, 1032, 1033, 1034, 1035, 1036, 1037] (by decide +kernel) (by decide +kernel)
set_option maxRecDepth 20000 in
theorem gL_law_X7_putElement : GoodIn wsL_law (wsV RL 182 RX7 yX7_putElement wsX7_putElement) := goodIn_app (goodIn_of _ (by decide +kernel)) ggL_law_X7_putElement
set_option maxRecDepth 20000 in
theorem ggL_law_X6_element : GoodIn wsL_law wsX6_element := goodIn_r _ [932, 35, 901, 751, 933, 873, 874, 2, 875, 910, 911, 912, 37, 913, 882, 992, 993, 994, 995, 996, 997, 998, 999, 1000, 1071, 1072, 1073, 1074] (by decide +kernel) (by decide +kernel)
set_option maxRecDepth 20000 in
theorem gL_law_X6_element : GoodIn wsL_law (wsV RL 183 RX6 yX6_element wsX6_element) := goodIn_app (goodIn_of _ (by decide +kernel)) ggL_law_X6_element
set_option maxRecDepth 20000 in
theorem ggL_law_X7_element : GoodIn wsL_law wsX7_element := goodIn_r _ [937, 116, 117, 118, 756, 890, 891, 5, 892, 145, 146, 147, 1001, 1002, 1003, 1004, 1005, 1006, 1007, 1008, 1009, 1010, 1011, 1012, 1013, 1014, 1015, 1016, 1017, 1018, 1019, 1020, 1021, 1022, 1023, 1024, 1025, 1026, 1027, 1028, 1029, 1030, 1031, 1032, 1033, 1034, 1035, 1036, 1037] (by decide +kernel) (by decide +kernel)
set_option maxRecDepth 20000 in
theorem gL_law_X7_element : GoodIn wsL_law (wsV RL 187 RX7 yX7_element wsX7_element) := goodIn_app (goodIn_of _ (by decide +kernel)) ggL_law_X7_element
set_option maxRecDepth 20000 in
theorem ggL_law_X6_copyElements : GoodIn wsL_law wsX6_copyElements := goodIn_r _ [941, 35, 901, 942, 933, 943, 325, 326, 327, 873, 874, 2, 875, 944, 945, 946, 37, 947, 882, 992, 993, 994, 995, 996, 997, 998, 999, 1000, 1071, 1072, 1073, 1074] (by decide +kernel) (by decide +kernel)
set_option maxRecDepth 20000 in
theorem gL_law_X6_copyElements : GoodIn wsL_law (wsV RL 188 RX6 yX6_copyElements wsX6_copyElements) := goodIn_app (goodIn_of _ (by decide +kernel)) ggL_law_X6_copyElements
set_option maxRecDepth 20000 in
theorem ggL_law_X7_copyElements : GoodIn wsL_law wsX7_copyElements := goodIn_r _ [951, 116, 117, 119, 118, 890, 891, 5, 892, 145, 146, 147, 1001, 1002, 1003, 1004, 1005, 1006, 1007, 1008, 1009, 1010, 1011, 1012, 1013, 1014, 1015, 1016, 1017, 1018, 1019, 1020, 1021, 1022, 1023, 1024, 1025, 1026, 1027, 1028, 1029, 1030, 1031, 1032, 1033, 1034, 1035, 1036, 1037] (by decide +kernel) (by decide +kernel)
set_option maxRecDepth 20000 in
theorem gL_law_X7_copyElements : GoodIn wsL_law (wsV RL 192 RX7 yX7_copyElements wsX7_copyElements) := goodIn_app (goodIn_of _ (by decide +kernel)) ggL_law_X7_copyElements
set_option maxRecDepth 20000 in
theorem ggL_law_X6_storeActions : GoodIn wsL_law wsX6_storeActions := goodIn_r _ [955, 35, 16, 129, 873, 874, 2, 875, 876, 877, 878, 37, 879, 880, 881, 882, 81, 883, 884, 92, 885, 467, 468, 469, 15, 470, 89, 49, 471, 434, 435, 436, 88, 437, 438, 439, 440, 86, 50, 441, 182, 183, 184, 45, 44, 185, 186, 187, 188, 914, 915, 916, 917, 918, 919, 920, 921, 992, 993, 994, 995, 996, 997, 998, 999, 1000, 1038, 1039, 1040, 1041, 1042, 1043, 1044, 1045, 1046, 1047, 1048, 1071, 1072, 1073, 1074] (by decide +kernel) (by decide +kernel)
set_option maxRecDepth 20000 in
theorem gL_law_X6_storeActions : GoodIn wsL_law (wsV RL 193 RX6 yX6_storeActions wsX6_storeActions) := goodIn_app (goodIn_of _ (by decide +kernel)) ggL_law_X6_storeActions
set_option maxRecDepth 20000 in
theorem ggL_law_X7_storeActions : GoodIn wsL_law wsX7_storeActions := goodIn_r _ [959, 118, 890, 891, 5, 892, 145, 146, 147, 148, 149, 150, 151, 98, 99, 893, 894, 895, 896, 116, 117, 476, 477, 478, 479, 104, 103, 446, 447, 448, 449, 140, 450, 451, 452, 453, 102, 201, 202, 203, 204, 1001, 1002, 1003, 1004, 1005, 1006, 1007, 1008, 1009, 1010, 1011, 1012, 1013, 1014, 1015, 1016, 1017, 1018, 1019, 1020, 1021, 1022, 1023, 1024, 1025, 1026, 1027, 1028, 1029, 1030, 1031, 1032, 1033, 1034, 1035, 1036, 1037] (by decide +kernel) (by decide +kernel)
set_option maxRecDepth 20000 in
theorem gL_law_X7_storeActions : GoodIn wsL_law (wsV RL 196 RX7 yX7_storeActions wsX7_storeActions) := goodIn_app (goodIn_of _ (by decide +kernel)) ggL_law_X7_storeActions
set_option maxRecDepth 20000 in
theorem ggL_law_X6_compareActions : GoodIn wsL_law wsX6_compareActions := goodIn_r _ [963, 35, 901, 942, 16, 129, 933, 873, 874, 2, 875, 910, 911, 912, 37, 913, 882, 467, 468, 469, 15, 470, 89, 49, 471, 434, 435, 436, 88, 437, 438, 439, 440, 86, 50, 441, 182, 183, 184, 45, 44, 185, 186, 187, 188, 992, 993, 994, 995, 996, 997, 998, 999, 1000, 1071, 1072, 1073, 1074, 1038, 1039, 1040, 1041, 1042, 1043, 1044, 1045, 1046, 1047, 1048] (by decide +kernel) (by decide +kernel)
set_option maxRecDepth 20000 in
theorem gL_law_X6_compareActions : GoodIn wsL_law (wsV RL 197 RX6 yX6_compareActions wsX6_compareActions) := goodIn_app (goodIn_of _ (by decide +kernel)) ggL_law_X6_compareActions
set_option maxRecDepth 20000 in
theorem ggL_law_X7_compareActions : GoodIn wsL_law wsX7_compareActions := goodIn_r _ [967, 116, 117, 118, 890, 891, 5, 892, 145, 146, 147, 148, 149, 150, 151, 98, 99, 476, 477, 478, 479, 104, 103, 446, 447, 448, 449, 140, 450, 451, 452, 453, 102, 201, 202, 203, 204, 1001, 1002, 1003, 1004, 1005, 1006, 1007, 1008, 1009, 1010, 1011, 1012, 1013, 1014, 1015, 1016, 1017, 1018, 1019, 1020, 1021, 1022, 1023, 1024, 1025, 1026, 1027, 1028, 1029, 1030, 1031, 1032, 1033, 1034, 1035, 1036, 1037] (by decide +kernel) (by decide +kernel)
set_option maxRecDepth 20000 in
theorem gL_law_X7_compareActions : GoodIn wsL_law (wsV RL 200 RX7 yX7_compareActions wsX7_compareActions) := goodIn_app (goodIn_of _ (by decide +kernel)) ggL_law_X7_compareActions
set_option maxRecDepth 20000 in
theorem ggL_law_X6_snapshot : GoodIn wsL_law wsX6_snapshot := goodIn_r _ [971, 17, 16, 38, 281, 972, 973, 974, 15, 975, 86, 87, 88, 89, 44, 324, 325, 326, 327, 45, 46, 47, 48, 49, 50, 992, 993, 994, 995, 996, 997, 998, 999, 1000, 1038, 1039, 1040, 1041, 1042, 1043, 1044, 1045, 1046, 1047, 1048] (by decide +kernel) (by decide +kernel)
set_option maxRecDepth 20000 in
theorem gL_law_X6_snapshot : GoodIn wsL_law (wsV RL 201 RX6 yX6_snapshot wsX6_snapshot) := goodIn_app (goodIn_of _ (by decide +kernel)) ggL_law_X6_snapshot
set_option maxRecDepth 20000 in
theorem ggL_law_X7_snapshot : GoodIn wsL_law wsX7_snapshot := goodIn_r _ [979, 980, 98, 981, 140, 982, 104, 983, 123, 102, 120, 99, 122, 101, 121, 100, 124, 103, 1001, 1002, 1003, 1004, 1005, 1006, 1007, 1008, 1009, 1010, 1011, 1012, 1013, 1014, 1015, 1016, 1017, 1018, 1019, 1020, 1021, 1022, 1023, 1024, 1025, 1026, 1027, 1028, 1029, 1030, 1031, 1032, 1033, 1034, 1035, 1036, 1037] (by decide +kernel) (by decide +kernel)
set_option maxRecDepth 20000 in
theorem gL_law_X7_snapshot : GoodIn wsL_law (wsV RL 204 RX7 yX7_snapshot wsX7_snapshot) := goodIn_app (goodIn_of _ (by decide +kernel)) ggL_law_X7_snapshot
set_option maxRecDepth 20000 in
theorem ggL_law_X6_restore : GoodIn wsL_law wsX6_restore := goodIn_r _ [987, 38, 16, 17, 39, 281, 972, 973, 974, 15, 975, 86, 87, 88, 89, 44, 324, 325, 326, 327, 45, 46, 47, 48, 49, 50, 992, 993, 994, 995, 996, 997, 998, 999, 1000, 1038, 1039, 1040, 1041, 1042, 1043, 1044, 1045, 1046, 1047, 1048] (by decide +kernel) (by decide +kernel)
set_option maxRecDepth 20000 in
theorem gL_law_X6_restore : GoodIn wsL_law (wsV RL 205 RX6 yX6_restore wsX6_restore) := goodIn_app (goodIn_of _ (by decide +kernel)) ggL_law_X6_restore
set_option maxRecDepth 20000 in
theorem ggL_law_X7_restore : GoodIn wsL_law wsX7_restore := goodIn_r _ [991, 980, 981, 98, 982, 140, 983, 104, 102, 123, 99, 120, 101, 122, 100, 121, 103, 124, 141, 1001, 1002, 1003, 1004, 1005, 1006, 1007, 1008, 1009, 1010, 1011, 1012, 1013, 1014, 1015, 1016, 1017, 1018, 1019, 1020, 1021, 1022, 1023, 1024, 1025, 1026, 1027, 1028, 1029, 1030, 1031, 1032, 1033, 1034, 1035, 1036, 1037] (by decide +kernel) (by decide +kernel)
set_option maxRecDepth 20000 in
theorem gL_law_X7_restore : GoodIn wsL_law (wsV RL 208 RX7 yX7_restore wsX7_restore) := goodIn_app (goodIn_of _ (by decide +kernel)) ggL_law_X7_restore
