theorem mem_r {big : List Cond} (ws : List Cond) (ps : List Nat) (hp : ws = ps.filterMap (fun i => big[i]?)) : ∀ w ∈ ws, w ∈ big := fun w hw => by
  rw [hp] at hw
  obtain ⟨i, -, hi⟩ := List.mem_filterMap.mp hw
  exact List.mem_of_getElem? hi
set_option maxRecDepth 20000 in
theorem i_wsL_law_r1 : ∀ w ∈ wsL_law_r1, w ∈ lw_tbl := mem_r _ [64, 65, 52, 776, 777, 60, 1228, 66, 67, 68, 69, 70, 71, 72, 73, 53, 271, 272, 129, 130, 54, 273, 146, 147] (by decide +kernel)
set_option maxRecDepth 20000 in
theorem i_wsL_law_r2 : ∀ w ∈ wsL_law_r2, w ∈ lw_tbl := mem_r _ [55, 274, 167, 168, 56, 275, 191, 192, 57, 276, 241, 277, 243, 58, 278, 279, 75, 76, 77, 128, 88, 92, 95, 99] (by decide +kernel)
set_option maxRecDepth 20000 in
theorem i_wsL_law_r3 : ∀ w ∈ wsL_law_r3, w ∈ lw_tbl := mem_r _ [101, 102, 104, 132, 133, 134, 145, 138, 149, 150, 151, 154, 170, 171, 172, 174, 175, 176, 190, 178, 194, 195, 196, 205] (by decide +kernel)
set_option maxRecDepth 20000 in
theorem i_wsL_law_r4 : ∀ w ∈ wsL_law_r4, w ∈ lw_tbl := mem_r _ [207, 209, 211, 213, 215, 217, 245, 246, 247, 253, 264, 265, 266, 267, 79, 82, 84, 86, 268, 269, 59, 270, 778, 779] (by decide +kernel)
set_option maxRecDepth 20000 in
theorem i_wsL_law_r5 : ∀ w ∈ wsL_law_r5, w ∈ lw_tbl := mem_r _ [780, 781, 782, 783, 784, 785, 787, 788, 789, 791, 793, 795, 796, 797, 798, 800, 801, 802, 803, 804, 806, 807, 808, 809] (by decide +kernel)
set_option maxRecDepth 20000 in
theorem i_wsL_law_r6 : ∀ w ∈ wsL_law_r6, w ∈ lw_tbl := mem_r _ [812, 813, 814, 816, 817, 299, 300, 301, 302, 83, 303, 304, 305, 306, 307, 308, 894, 895, 896, 897, 786, 790, 898, 899] (by decide +kernel)
set_option maxRecDepth 20000 in
theorem i_wsL_law_r7 : ∀ w ∈ wsL_law_r7, w ∈ lw_tbl := mem_r _ [900, 901, 902, 903, 904, 906, 21, 907, 309, 310, 311, 312, 80, 908, 909, 910, 911, 313, 314, 315, 316, 912, 913, 914] (by decide +kernel)
set_option maxRecDepth 20000 in
theorem i_wsL_law_r8 : ∀ w ∈ wsL_law_r8, w ∈ lw_tbl := mem_r _ [915, 317, 318, 319, 320, 321, 322, 323, 324, 325, 326, 327, 328, 329, 330, 331, 332, 334, 335, 337, 338, 916, 917, 918] (by decide +kernel)
set_option maxRecDepth 20000 in
theorem i_wsL_law_r9 : ∀ w ∈ wsL_law_r9, w ∈ lw_tbl := mem_r _ [919, 920, 922, 22, 923, 924, 926, 23, 927, 928, 930, 24, 931, 339, 340, 341, 342, 100, 343, 344, 345, 346, 347, 348] (by decide +kernel)
set_option maxRecDepth 20000 in
theorem i_wsL_law_r10 : ∀ w ∈ wsL_law_r10, w ∈ lw_tbl := mem_r _ [349, 350, 351, 932, 933, 934, 935, 936, 938, 25, 939, 352, 353, 354, 355, 97, 940, 941, 942, 943, 356, 357, 358, 359] (by decide +kernel)
set_option maxRecDepth 20000 in
theorem i_wsL_law_r11 : ∀ w ∈ wsL_law_r11, w ∈ lw_tbl := mem_r _ [87, 360, 361, 362, 363, 364, 365, 944, 945, 946, 947, 948, 949, 950, 366, 367, 368, 369, 137, 370, 371, 372, 373, 135] (by decide +kernel)
set_option maxRecDepth 20000 in
theorem i_wsL_law_r12 : ∀ w ∈ wsL_law_r12, w ∈ lw_tbl := mem_r _ [951, 952, 953, 954, 792, 374, 375, 376, 377, 955, 956, 957, 958, 378, 379, 380, 381, 85, 382, 384, 0, 385, 386, 387] (by decide +kernel)
set_option maxRecDepth 20000 in
theorem i_wsL_law_r13 : ∀ w ∈ wsL_law_r13, w ∈ lw_tbl := mem_r _ [388, 389, 152, 157, 156, 136, 139, 390, 391, 393, 1, 394, 395, 397, 2, 398, 90, 399, 401, 3, 402, 403, 404, 406] (by decide +kernel)
set_option maxRecDepth 20000 in
theorem i_wsL_law_r14 : ∀ w ∈ wsL_law_r14, w ∈ lw_tbl := mem_r _ [4, 407, 81, 408, 410, 5, 411, 412, 413, 414, 415, 155, 420, 422, 421, 61, 153, 416, 418, 6, 419, 423, 425, 7] (by decide +kernel)
