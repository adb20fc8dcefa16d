set_option maxRecDepth 20000 in
theorem i_wsL_law_r15 : ∀ w ∈ wsL_law_r15, w ∈ lw_tbl := mem_r _ [426, 427, 428, 429, 430, 959, 960, 961, 962, 963, 964, 966, 26, 967, 794, 968, 970, 27, 971, 431, 432, 433, 434, 972] (by decide +kernel)
set_option maxRecDepth 20000 in
theorem i_wsL_law_r16 : ∀ w ∈ wsL_law_r16, w ∈ lw_tbl := mem_r _ [973, 974, 975, 435, 436, 437, 438, 439, 440, 441, 442, 443, 444, 445, 446, 976, 977, 978, 979, 980, 982, 28, 983, 984] (by decide +kernel)
set_option maxRecDepth 20000 in
theorem i_wsL_law_r17 : ∀ w ∈ wsL_law_r17, w ∈ lw_tbl := mem_r _ [986, 29, 987, 447, 448, 449, 450, 988, 989, 990, 991, 451, 452, 453, 454, 455, 992, 993, 994, 995, 456, 457, 458, 459] (by decide +kernel)
set_option maxRecDepth 20000 in
theorem i_wsL_law_r18 : ∀ w ∈ wsL_law_r18, w ∈ lw_tbl := mem_r _ [103, 996, 997, 998, 999, 460, 461, 462, 463, 464, 465, 62, 466, 467, 468, 469, 1000, 1001, 1002, 1003, 1004, 470, 471, 472] (by decide +kernel)
set_option maxRecDepth 20000 in
theorem i_wsL_law_r19 : ∀ w ∈ wsL_law_r19, w ∈ lw_tbl := mem_r _ [473, 474, 475, 476, 477, 478, 479, 480, 481, 482, 1005, 1006, 1007, 1008, 1009, 1011, 30, 1012, 1013, 1015, 31, 1016, 483, 484] (by decide +kernel)
set_option maxRecDepth 20000 in
theorem i_wsL_law_r20 : ∀ w ∈ wsL_law_r20, w ∈ lw_tbl := mem_r _ [485, 486, 487, 1017, 1018, 1019, 1020, 488, 489, 490, 491, 492, 493, 494, 495, 496, 1021, 1022, 1023, 1024, 1025, 1027, 32, 1028] (by decide +kernel)
set_option maxRecDepth 20000 in
theorem i_wsL_law_r21 : ∀ w ∈ wsL_law_r21, w ∈ lw_tbl := mem_r _ [497, 498, 499, 500, 1029, 1030, 1031, 1032, 501, 502, 503, 504, 1033, 1034, 1035, 1036, 505, 506, 507, 508, 509, 510, 511, 512] (by decide +kernel)
set_option maxRecDepth 20000 in
theorem i_wsL_law_r22 : ∀ w ∈ wsL_law_r22, w ∈ lw_tbl := mem_r _ [1037, 1038, 1039, 1040, 513, 514, 515, 516, 517, 518, 519, 520, 1041, 1042, 1043, 1044, 1045, 1047, 33, 1048, 1049, 1051, 34, 1052] (by decide +kernel)
set_option maxRecDepth 20000 in
theorem i_wsL_law_r23 : ∀ w ∈ wsL_law_r23, w ∈ lw_tbl := mem_r _ [1053, 1054, 1055, 1056, 521, 522, 523, 524, 525, 527, 8, 528, 529, 530, 531, 532, 533, 534, 535, 1057, 1058, 1059, 1060, 536] (by decide +kernel)
set_option maxRecDepth 20000 in
theorem i_wsL_law_r24 : ∀ w ∈ wsL_law_r24, w ∈ lw_tbl := mem_r _ [537, 538, 539, 540, 541, 542, 543, 1061, 1062, 1063, 1064, 1065, 1067, 35, 1068, 544, 545, 546, 547, 1069, 1070, 1071, 1072, 548] (by decide +kernel)
set_option maxRecDepth 20000 in
theorem i_wsL_law_r25 : ∀ w ∈ wsL_law_r25, w ∈ lw_tbl := mem_r _ [549, 550, 551, 552, 553, 554, 555, 556, 558, 9, 559, 560, 561, 562, 563, 564, 1073, 1074, 1075, 1076, 1077, 1079, 36, 1080] (by decide +kernel)
set_option maxRecDepth 20000 in
theorem i_wsL_law_r26 : ∀ w ∈ wsL_law_r26, w ∈ lw_tbl := mem_r _ [565, 566, 567, 568, 198, 569, 570, 571, 572, 173, 78, 89, 573, 575, 10, 576, 93, 577, 579, 11, 580, 581, 583, 12] (by decide +kernel)
set_option maxRecDepth 20000 in
theorem i_wsL_law_r27 : ∀ w ∈ wsL_law_r27, w ∈ lw_tbl := mem_r _ [584, 587, 589, 13, 590, 591, 592, 593, 594, 595, 596, 597, 599, 14, 600, 601, 606, 607, 63, 608, 602, 604, 15, 605] (by decide +kernel)
set_option maxRecDepth 20000 in
theorem i_wsL_law_r28 : ∀ w ∈ wsL_law_r28, w ∈ lw_tbl := mem_r _ [98, 609, 610, 611, 612, 197, 199, 201, 613, 614, 615, 616, 617, 618, 619, 620, 621, 622, 624, 16, 625, 177, 630, 631] (by decide +kernel)
