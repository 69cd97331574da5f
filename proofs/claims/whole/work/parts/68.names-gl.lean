set_option maxRecDepth 20000 in
theorem ggL_law_X5_init : GoodIn wsL_law wsX5_init := goodIn_r _ [8, 9, 10, 11, 12, 13, 14, 15, 16, 17, 18, 19, 20, 21, 22, 23, 24, 25, 26, 27, 28, 29, 30, 31, 32, 33, 34, 35, 36, 37, 38, 39, 40, 41, 42, 43, 44, 45, 46, 47, 48, 49, 50, 51, 52, 53, 54, 55, 56, 57, 58, 59, 60, 61, 62, 63, 64, 65, 66, 67, 68, 69, 70, 71, 72, 73, 74, 75, 76, 77, 78, 79, 80, 81, 82, 83, 84, 1008, 1009, 1010, 1011, 1012, 1013, 1014, 1015, 1016, 1017, 971, 972, 973, 974, 975, 976, 977, 978, 979, 980, 981, 1018, 1019, 1020, 1021, 1022, 1023, 1024, 1025, 1026, 1027, 1028, 1029, 1030, 1031, 1032, 1033, 1034, 1035] (by decide +kernel) (by decide +kernel)
set_option maxRecDepth 20000 in
theorem gL_law_X5_init : GoodIn wsL_law (wsX5_init) := ggL_law_X5_init
set_option maxRecDepth 20000 in
theorem ggL_law_X6_init : GoodIn wsL_law wsX6_init := goodIn_r _ [87, 88, 10, 11, 30, 89, 90, 91, 92, 93, 94, 95, 96, 18, 97, 98, 99, 100, 982, 983, 984, 985, 986, 987, 988, 989, 990, 991, 992, 993, 994, 995, 996, 997, 998, 999, 1000, 1001, 1002, 1003, 1004, 1005, 1006, 1007] (by decide +kernel) (by decide +kernel)
set_option maxRecDepth 20000 in
theorem gL_law_X6_init : GoodIn wsL_law (wsX6_init) := ggL_law_X6_init
set_option maxRecDepth 20000 in
theorem ggL_law_X5_feed : GoodIn wsL_law wsX5_feed := goodIn_r _ [104, 23, 105, 106, 107, 108, 2, 109, 110, 111, 112, 55, 113, 68, 67, 971, 972, 973, 974, 975, 976, 977, 978, 979, 980, 981, 1018, 1019, 1020, 1021, 1022, 1023, 1031, 1032, 1033, 1034, 1035] (by decide +kernel) (by decide +kernel)
set_option maxRecDepth 20000 in
theorem gL_law_X5_feed : GoodIn wsL_law (wsV RL 13 RX5 yX5_feed wsX5_feed) := goodIn_app (goodIn_of _ (by decide +kernel)) ggL_law_X5_feed
set_option maxRecDepth 20000 in
theorem ggL_law_X6_feed : GoodIn wsL_law wsX6_feed := goodIn_r _ [117, 118, 119, 91, 120, 121, 5, 122, 982, 983, 984, 985, 986, 987, 988, 989, 990, 991, 992, 993, 994, 995, 996, 997, 998, 999, 1000, 1001, 1002, 1003, 1004, 1005, 1006, 1007] (by decide +kernel) (by decide +kernel)
set_option maxRecDepth 20000 in
theorem gL_law_X6_feed : GoodIn wsL_law (wsV RL 17 RX6 yX6_feed wsX6_feed) := goodIn_app (goodIn_of _ (by decide +kernel)) ggL_law_X6_feed
set_option maxRecDepth 20000 in
theorem ggL_law_X5_end : GoodIn wsL_law wsX5_end := goodIn_r _ [126, 23, 105, 106, 107, 108, 2, 109, 971, 972, 973, 974, 975, 976, 977, 978, 979, 980, 981, 1018, 1019, 1020, 1021, 1022, 1023, 1031, 1032, 1033, 1034, 1035] (by decide +kernel) (by decide +kernel)
set_option maxRecDepth 20000 in
theorem gL_law_X5_end : GoodIn wsL_law (wsV RL 18 RX5 yX5_end wsX5_end) := goodIn_app (goodIn_of _ (by decide +kernel)) ggL_law_X5_end
set_option maxRecDepth 20000 in
theorem ggL_law_X6_end : GoodIn wsL_law wsX6_end := goodIn_r _ [130, 119, 120, 121, 5, 122, 982, 983, 984, 985, 986, 987, 988, 989, 990, 991, 992, 993, 994, 995, 996, 997, 998, 999, 1000, 1001, 1002, 1003, 1004, 1005, 1006, 1007] (by decide +kernel) (by decide +kernel)
set_option maxRecDepth 20000 in
theorem gL_law_X6_end : GoodIn wsL_law (wsV RL 21 RX6 yX6_end wsX6_end) := goodIn_app (goodIn_of _ (by decide +kernel)) ggL_law_X6_end
set_option maxRecDepth 20000 in
theorem ggL_law_X5_text : GoodIn wsL_law wsX5_text := goodIn_r _ [134, 23, 105, 106, 135, 33, 136, 15, 137, 27, 138, 19, 139, 140, 141, 142, 22, 143, 56, 58, 59, 60, 61, 62, 144, 145, 146, 147, 55, 148, 71, 149, 150, 151, 14, 152, 42, 46, 47, 48, 49, 153, 154, 155, 156, 157, 158, 159, 160, 70, 68, 69, 67, 161, 162, 163, 164, 165, 166, 167, 168, 169, 170, 171, 172, 173, 174, 175, 176, 177, 178, 179, 180, 181, 182, 183, 184, 185, 186, 187, 188, 189, 190, 191, 192, 193, 194, 195, 196, 197, 198, 199, 200, 201, 202, 203, 204, 205, 206, 207, 208, 209, 210, 211, 212, 213, 214, 215, 216, 217, 218, 219, 220, 221, 222, 223, 224, 225, 226, 227, 228, 229, 230, 231, 232, 233, 234, 235, 236, 237, 238, 239, 240, 241, 242, 243, 244, 245, 246, 247, 248, 249, 250, 251, 252, 253, 254, 255, 256, 257, 258, 259, 260, 261, 262, 263, 40, 41, 264, 265, 266, 267, 43, 44, 45, 268, 269, 270, 271, 272, 273, 274, 275, 971, 972, 973, 974, 975, 976, 977, 978, 979, 980, 981, 1018, 1019, 1020, 1021, 1022, 1023, 1031, 1032, 1033, 1034, 1035, 1024, 1025, 1026, 1027, 1008, 1009, 1010, 1011, 1012, 1013, 1014, 1015, 1016, 1017] (by decide +kernel) (by decide +kernel)
set_option maxRecDepth 20000 in
theorem gL_law_X5_text : GoodIn wsL_law (wsV RL 22 RX5 yX5_text wsX5_text) := goodIn_app (goodIn_of _ (by decide +kernel)) ggL_law_X5_text
set_option maxRecDepth 20000 in
theorem ggL_law_X6_text : GoodIn wsL_law wsX6_text := goodIn_r _ [279, 280, 281, 282, 90, 283, 119, 284, 285, 89, 286, 97, 287, 288, 289, 5, 290, 291, 292, 293, 294, 295, 296, 297, 298, 299, 300, 91, 120, 121, 122, 301, 302, 303, 304, 305, 306, 307, 308, 309, 310, 311, 312, 313, 92, 93, 314, 315, 316, 317, 318, 319, 320, 321, 982, 983, 984, 985, 986, 987, 988, 989, 990, 991, 992, 993, 994, 995, 996, 997, 998, 999, 1000, 1001, 1002, 1003, 1004, 1005, 1006, 1007] (by decide +kernel) (by decide +kernel)
set_option maxRecDepth 20000 in
theorem gL_law_X6_text : GoodIn wsL_law (wsV RL 26 RX6 yX6_text wsX6_text) := goodIn_app (goodIn_of _ (by decide +kernel)) ggL_law_X6_text
set_option maxRecDepth 20000 in
theorem ggL_law_X5_fault : GoodIn wsL_law wsX5_fault := goodIn_r _ [325, 33, 971, 972, 973, 974, 975, 976, 977, 978, 979, 980, 981] (by decide +kernel) (by decide +kernel)
set_option maxRecDepth 20000 in
theorem gL_law_X5_fault : GoodIn wsL_law (wsV RL 27 RX5 yX5_fault wsX5_fault) := goodIn_app (goodIn_of _ (by decide +kernel)) ggL_law_X5_fault
set_option maxRecDepth 20000 in
theorem ggL_law_X6_fault : GoodIn wsL_law wsX6_fault := goodIn_r _ [329, 284, 982, 983, 984, 985, 986, 987, 988, 989, 990, 991, 992, 993, 994, 995, 996, 997, 998, 999, 1000, 1001, 1002, 1003, 1004, 1005, 1006, 1007] (by decide +kernel) (by decide +kernel)
set_option maxRecDepth 20000 in
theorem gL_law_X6_fault : GoodIn wsL_law (wsV RL 30 RX6 yX6_fault wsX6_fault) := goodIn_app (goodIn_of _ (by decide +kernel)) ggL_law_X6_fault
set_option maxRecDepth 20000 in
theorem ggL_law_X5_rule : GoodIn wsL_law wsX5_rule := goodIn_r _ [333, 15, 334, 335, 336, 337, 338, 339, 340, 341, 342, 14, 343, 42, 344, 345, 346, 347, 40, 47, 41, 48, 348, 349, 350, 351, 49, 971, 972, 973, 974, 975, 976, 977, 978, 979, 980, 981, 1008, 1009, 1010, 1011, 1012, 1013, 1014, 1015, 1016, 1017] (by decide +kernel) (by decide +kernel)
set_option maxRecDepth 20000 in
theorem gL_law_X5_rule : GoodIn wsL_law (wsV RL 31 RX5 yX5_rule wsX5_rule) := goodIn_app (goodIn_of _ (by decide +kernel)) ggL_law_X5_rule
set_option maxRecDepth 20000 in
theorem ggL_law_X6_rule : GoodIn wsL_law wsX6_rule := goodIn_r _ [355, 89, 356, 357, 358, 359, 5, 360, 94, 361, 362, 363, 364, 365, 366, 367, 368, 982, 983, 984, 985, 986, 987, 988, 989, 990, 991, 992, 993, 994, 995, 996, 997, 998, 999, 1000, 1001, 1002, 1003, 1004, 1005, 1006, 1007] (by decide +kernel) (by decide +kernel)
set_option maxRecDepth 20000 in
theorem gL_law_X6_rule : GoodIn wsL_law (wsV RL 34 RX6 yX6_rule wsX6_rule) := goodIn_app (goodIn_of _ (by decide +kernel)) ggL_law_X6_rule
set_option maxRecDepth 20000 in
theorem ggL_law_X5_corner : GoodIn wsL_law wsX5_corner := goodIn_r _ [372, 15, 373, 374, 375, 376, 377, 2, 378, 334, 107, 108, 109, 379, 345, 346, 14, 347, 42, 40, 47, 41, 48, 971, 972, 973, 974, 975, 976, 977, 978, 979, 980, 981, 1008, 1009, 1010, 1011, 1012, 1013, 1014, 1015, 1016, 1017] (by decide +kernel) (by decide +kernel)
set_option maxRecDepth 20000 in
theorem gL_law_X5_corner : GoodIn wsL_law (wsV RL 35 RX5 yX5_corner wsX5_corner) := goodIn_app (goodIn_of _ (by decide +kernel)) ggL_law_X5_corner
set_option maxRecDepth 20000 in
theorem ggL_law_X6_corner : GoodIn wsL_law wsX6_corner := goodIn_r _ [383, 384, 89, 385, 386, 387, 5, 388, 120, 121, 122, 361, 362, 363, 364, 365, 366, 367, 368, 982, 983, 984, 985, 986, 987, 988, 989, 990, 991, 992, 993, 994, 995, 996, 997, 998, 999, 1000, 1001, 1002, 1003, 1004, 1005, 1006, 1007] (by decide +kernel) (by decide +kernel)
set_option maxRecDepth 20000 in
theorem gL_law_X6_corner : GoodIn wsL_law (wsV RL 39 RX6 yX6_corner wsX6_corner) := goodIn_app (goodIn_of _ (by decide +kernel)) ggL_law_X6_corner
set_option maxRecDepth 20000 in
theorem ggL_law_X5_wheel : GoodIn wsL_law wsX5_wheel := goodIn_r _ [392, 15, 393, 394, 395, 396, 397, 398, 399, 2, 400, 335, 107, 108, 109, 401, 402, 403, 14, 404, 45, 44, 43, 405, 406, 407, 408, 42, 409, 410, 411, 412, 344, 345, 346, 347, 40, 47, 41, 48, 413, 414, 415, 416, 417, 418, 419, 971, 972, 973, 974, 975, 976, 977, 978, 979, 980, 981, 1008, 1009, 1010, 1011, 1012, 1013, 1014, 1015, 1016, 1017] (by decide +kernel) (by decide +kernel)
set_option maxRecDepth 20000 in
theorem gL_law_X5_wheel : GoodIn wsL_law (wsV RL 40 RX5 yX5_wheel wsX5_wheel) := goodIn_app (goodIn_of _ (by decide +kernel)) ggL_law_X5_wheel
set_option maxRecDepth 20000 in
theorem ggL_law_X6_wheel : GoodIn wsL_law wsX6_wheel := goodIn_r _ [423, 89, 424, 425, 426, 427, 5, 428, 120, 121, 122, 429, 430, 431, 432, 433, 434, 435, 436, 361, 362, 363, 364, 365, 366, 367, 368, 437, 438, 439, 440, 441, 442, 443, 357, 358, 359, 360, 94, 982, 983, 984, 985, 986, 987, 988, 989, 990, 991, 992, 993, 994, 995, 996, 997, 998, 999, 1000, 1001, 1002, 1003, 1004, 1005, 1006, 1007] (by decide +kernel) (by decide +kernel)
set_option maxRecDepth 20000 in
theorem gL_law_X6_wheel : GoodIn wsL_law (wsV RL 43 RX6 yX6_wheel wsX6_wheel) := goodIn_app (goodIn_of _ (by decide +kernel)) ggL_law_X6_wheel
set_option maxRecDepth 20000 in
theorem ggL_law_X5_alter : GoodIn wsL_law wsX5_alter := goodIn_r _ [447, 15, 393, 394, 397, 398, 399, 2, 400, 335, 107, 108, 109, 448, 449, 450, 451, 452, 453, 971, 972, 973, 974, 975, 976, 977, 978, 979, 980, 981, 1008, 1009, 1010, 1011, 1012, 1013, 1014, 1015, 1016, 1017] (by decide +kernel) (by decide +kernel)
set_option maxRecDepth 20000 in
theorem gL_law_X5_alter : GoodIn wsL_law (wsV RL 44 RX5 yX5_alter wsX5_alter) := goodIn_app (goodIn_of _ (by decide +kernel)) ggL_law_X5_alter
set_option maxRecDepth 20000 in
theorem ggL_law_X6_alter : GoodIn wsL_law wsX6_alter := goodIn_r _ [457, 458, 459, 120, 121, 5, 122, 425, 426, 427, 428, 89, 460, 461, 462, 463, 982, 983, 984, 985, 986, 987, 988, 989, 990, 991, 992, 993, 994, 995, 996, 997, 998, 999, 1000, 1001, 1002, 1003, 1004, 1005, 1006, 1007] (by decide +kernel) (by decide +kernel)
set_option maxRecDepth 20000 in
theorem gL_law_X6_alter : GoodIn wsL_law (wsV RL 48 RX6 yX6_alter wsX6_alter) := goodIn_app (goodIn_of _ (by decide +kernel)) ggL_law_X6_alter
set_option maxRecDepth 20000 in
theorem ggL_law_X5_put : GoodIn wsL_law wsX5_put := goodIn_r _ [467, 15, 335, 448, 449, 2, 450, 107, 108, 109, 451, 452, 453, 468, 265, 266, 14, 267, 46, 43, 44, 45, 971, 972, 973, 974, 975, 976, 977, 978, 979, 980, 981, 1008, 1009, 1010, 1011, 1012, 1013, 1014, 1015, 1016, 1017] (by decide +kernel) (by decide +kernel)
set_option maxRecDepth 20000 in
theorem gL_law_X5_put : GoodIn wsL_law (wsV RL 49 RX5 yX5_put wsX5_put) := goodIn_app (goodIn_of _ (by decide +kernel)) ggL_law_X5_put
set_option maxRecDepth 20000 in
theorem ggL_law_X6_put : GoodIn wsL_law wsX6_put := goodIn_r _ [472, 458, 459, 89, 120, 121, 5, 122, 982, 983, 984, 985, 986, 987, 988, 989, 990, 991, 992, 993, 994, 995, 996, 997, 998, 999, 1000, 1001, 1002, 1003, 1004, 1005, 1006, 1007] (by decide +kernel) (by decide +kernel)
set_option maxRecDepth 20000 in
theorem gL_law_X6_put : GoodIn wsL_law (wsV RL 52 RX6 yX6_put wsX6_put) := goodIn_app (goodIn_of _ (by decide +kernel)) ggL_law_X6_put
set_option maxRecDepth 20000 in
theorem ggL_law_X5_cut : GoodIn wsL_law wsX5_cut := goodIn_r _ [476, 15, 335, 107, 108, 2, 109, 971, 972, 973, 974, 975, 976, 977, 978, 979, 980, 981, 1008, 1009, 1010, 1011, 1012, 1013, 1014, 1015, 1016, 1017] (by decide +kernel) (by decide +kernel)
set_option maxRecDepth 20000 in
theorem gL_law_X5_cut : GoodIn wsL_law (wsV RL 53 RX5 yX5_cut wsX5_cut) := goodIn_app (goodIn_of _ (by decide +kernel)) ggL_law_X5_cut
set_option maxRecDepth 20000 in
theorem ggL_law_X6_cut : GoodIn wsL_law wsX6_cut := goodIn_r _ [480, 89, 120, 121, 5, 122, 460, 461, 462, 463, 982, 983, 984, 985, 986, 987, 988, 989, 990, 991, 992, 993, 994, 995, 996, 997, 998, 999, 1000, 1001, 1002, 1003, 1004, 1005, 1006, 1007] (by decide +kernel) (by decide +kernel)
set_option maxRecDepth 20000 in
theorem gL_law_X6_cut : GoodIn wsL_law (wsV RL 56 RX6 yX6_cut wsX6_cut) := goodIn_app (goodIn_of _ (by decide +kernel)) ggL_law_X6_cut
set_option maxRecDepth 20000 in
theorem ggL_law_X5_zero : GoodIn wsL_law wsX5_zero := goodIn_r _ [484, 15, 396, 395, 397, 398, 399, 2, 400, 335, 107, 108, 109, 971, 972, 973, 974, 975, 976, 977, 978, 979, 980, 981, 1008, 1009, 1010, 1011, 1012, 1013, 1014, 1015, 1016, 1017] (by decide +kernel) (by decide +kernel)
set_option maxRecDepth 20000 in
theorem gL_law_X5_zero : GoodIn wsL_law (wsV RL 57 RX5 yX5_zero wsX5_zero) := goodIn_app (goodIn_of _ (by decide +kernel)) ggL_law_X5_zero
set_option maxRecDepth 20000 in
theorem ggL_law_X6_zero : GoodIn wsL_law wsX6_zero := goodIn_r _ [488, 424, 425, 426, 427, 5, 428, 89, 120, 121, 122, 460, 461, 462, 463, 982, 983, 984, 985, 986, 987, 988, 989, 990, 991, 992, 993, 994, 995, 996, 997, 998, 999, 1000, 1001, 1002, 1003, 1004, 1005, 1006, 1007] (by decide +kernel) (by decide +kernel)
set_option maxRecDepth 20000 in
theorem gL_law_X6_zero : GoodIn wsL_law (wsV RL 60 RX6 yX6_zero wsX6_zero) := goodIn_app (goodIn_of _ (by decide +kernel)) ggL_law_X6_zero
set_option maxRecDepth 20000 in
theorem ggL_law_X5_shift : GoodIn wsL_law wsX5_shift := goodIn_r _ [492, 15, 373, 374, 375, 376, 377, 2, 378, 334, 107, 108, 109, 493, 494, 495, 496, 497, 498, 499, 500, 501, 14, 502, 40, 41, 971, 972, 973, 974, 975, 976, 977, 978, 979, 980, 981, 1008, 1009, 1010, 1011, 1012, 1013, 1014, 1015, 1016, 1017] (by decide +kernel) (by decide +kernel)
set_option maxRecDepth 20000 in
theorem gL_law_X5_shift : GoodIn wsL_law (wsV RL 61 RX5 yX5_shift wsX5_shift) := goodIn_app (goodIn_of _ (by decide +kernel)) ggL_law_X5_shift
set_option maxRecDepth 20000 in
theorem ggL_law_X6_shift : GoodIn wsL_law wsX6_shift := goodIn_r _ [506, 385, 386, 387, 5, 388, 89, 120, 121, 122, 507, 508, 509, 510, 511, 512, 513, 514, 982, 983, 984, 985, 986, 987, 988, 989, 990, 991, 992, 993, 994, 995, 996, 997, 998, 999, 1000, 1001, 1002, 1003, 1004, 1005, 1006, 1007] (by decide +kernel) (by decide +kernel)
set_option maxRecDepth 20000 in
theorem gL_law_X6_shift : GoodIn wsL_law (wsV RL 64 RX6 yX6_shift wsX6_shift) := goodIn_app (goodIn_of _ (by decide +kernel)) ggL_law_X6_shift
set_option maxRecDepth 20000 in
theorem ggL_law_X5_add : GoodIn wsL_law wsX5_add := goodIn_r _ [518, 15, 334, 519, 520, 2, 521, 493, 494, 495, 107, 108, 109, 522, 261, 262, 14, 263, 42, 40, 41, 971, 972, 973, 974, 975, 976, 977, 978, 979, 980, 981, 1008, 1009, 1010, 1011, 1012, 1013, 1014, 1015, 1016, 1017] (by decide +kernel) (by decide +kernel)
set_option maxRecDepth 20000 in
theorem gL_law_X5_add : GoodIn wsL_law (wsV RL 65 RX5 yX5_add wsX5_add) := goodIn_app (goodIn_of _ (by decide +kernel)) ggL_law_X5_add
set_option maxRecDepth 20000 in
theorem ggL_law_X6_add : GoodIn wsL_law wsX6_add := goodIn_r _ [526, 527, 528, 529, 5, 530, 89, 507, 508, 509, 510, 120, 121, 122, 982, 983, 984, 985, 986, 987, 988, 989, 990, 991, 992, 993, 994, 995, 996, 997, 998, 999, 1000, 1001, 1002, 1003, 1004, 1005, 1006, 1007] (by decide +kernel) (by decide +kernel)
set_option maxRecDepth 20000 in
theorem gL_law_X6_add : GoodIn wsL_law (wsV RL 68 RX6 yX6_add wsX6_add) := goodIn_app (goodIn_of _ (by decide +kernel)) ggL_law_X6_add
set_option maxRecDepth 20000 in
theorem ggL_law_X5_drop : GoodIn wsL_law wsX5_drop := goodIn_r _ [534, 15, 334, 107, 108, 2, 109, 971, 972, 973, 974, 975, 976, 977, 978, 979, 980, 981, 1008, 1009, 1010, 1011, 1012, 1013, 1014, 1015, 1016, 1017] (by decide +kernel) (by decide +kernel)
set_option maxRecDepth 20000 in
theorem gL_law_X5_drop : GoodIn wsL_law (wsV RL 69 RX5 yX5_drop wsX5_drop) := goodIn_app (goodIn_of _ (by decide +kernel)) ggL_law_X5_drop
set_option maxRecDepth 20000 in
theorem ggL_law_X6_drop : GoodIn wsL_law wsX6_drop := goodIn_r _ [538, 89, 120, 121, 5, 122, 460, 461, 462, 463, 982, 983, 984, 985, 986, 987, 988, 989, 990, 991, 992, 993, 994, 995, 996, 997, 998, 999, 1000, 1001, 1002, 1003, 1004, 1005, 1006, 1007] (by decide +kernel) (by decide +kernel)
set_option maxRecDepth 20000 in
theorem gL_law_X6_drop : GoodIn wsL_law (wsV RL 72 RX6 yX6_drop wsX6_drop) := goodIn_app (goodIn_of _ (by decide +kernel)) ggL_law_X6_drop
set_option maxRecDepth 20000 in
theorem ggL_law_X5_pole : GoodIn wsL_law wsX5_pole := goodIn_r _ [542, 15, 338, 339, 493, 494, 2, 495, 107, 108, 109, 496, 497, 498, 543, 257, 258, 14, 259, 47, 48, 971, 972, 973, 974, 975, 976, 977, 978, 979, 980, 981, 1008, 1009, 1010, 1011, 1012, 1013, 1014, 1015, 1016, 1017] (by decide +kernel) (by decide +kernel)
set_option maxRecDepth 20000 in
theorem gL_law_X5_pole : GoodIn wsL_law (wsV RL 73 RX5 yX5_pole wsX5_pole) := goodIn_app (goodIn_of _ (by decide +kernel)) ggL_law_X5_pole
set_option maxRecDepth 20000 in
theorem ggL_law_X6_pole : GoodIn wsL_law wsX6_pole := goodIn_r _ [547, 507, 508, 5, 509, 510, 120, 121, 122, 511, 512, 513, 514, 89, 982, 983, 984, 985, 986, 987, 988, 989, 990, 991, 992, 993, 994, 995, 996, 997, 998, 999, 1000, 1001, 1002, 1003, 1004, 1005, 1006, 1007] (by decide +kernel) (by decide +kernel)
set_option maxRecDepth 20000 in
theorem gL_law_X6_pole : GoodIn wsL_law (wsV RL 76 RX6 yX6_pole wsX6_pole) := goodIn_app (goodIn_of _ (by decide +kernel)) ggL_law_X6_pole
set_option maxRecDepth 20000 in
theorem ggL_law_X5_trace : GoodIn wsL_law wsX5_trace := goodIn_r _ [551, 15, 336, 107, 108, 2, 109, 552, 553, 554, 14, 555, 556, 349, 350, 351, 42, 49, 344, 345, 346, 347, 40, 47, 41, 48, 557, 558, 559, 560, 46, 45, 413, 414, 415, 416, 43, 44, 417, 418, 419, 409, 410, 411, 412, 561, 562, 563, 564, 971, 972, 973, 974, 975, 976, 977, 978, 979, 980, 981, 1008, 1009, 1010, 1011, 1012, 1013, 1014, 1015, 1016, 1017] (by decide +kernel) (by decide +kernel)
set_option maxRecDepth 20000 in
theorem gL_law_X5_trace : GoodIn wsL_law (wsV RL 77 RX5 yX5_trace wsX5_trace) := goodIn_app (goodIn_of _ (by decide +kernel)) ggL_law_X5_trace
set_option maxRecDepth 20000 in
theorem ggL_law_X6_trace : GoodIn wsL_law wsX6_trace := goodIn_r _ [568, 569, 89, 570, 120, 121, 5, 122, 571, 572, 573, 574, 575, 576, 577, 578, 579, 580, 581, 582, 583, 584, 585, 361, 362, 363, 364, 365, 366, 367, 368, 437, 438, 439, 440, 441, 442, 443, 982, 983, 984, 985, 986, 987, 988, 989, 990, 991, 992, 993, 994, 995, 996, 997, 998, 999, 1000, 1001, 1002, 1003, 1004, 1005, 1006, 1007] (by decide +kernel) (by decide +kernel)
set_option maxRecDepth 20000 in
theorem gL_law_X6_trace : GoodIn wsL_law (wsV RL 80 RX6 yX6_trace wsX6_trace) := goodIn_app (goodIn_of _ (by decide +kernel)) ggL_law_X6_trace
set_option maxRecDepth 20000 in
theorem ggL_law_X5_runs : GoodIn wsL_law wsX5_runs := goodIn_r _ [589, 107, 108, 2, 109, 590, 591, 592, 593, 15, 552, 553, 554, 14, 555, 556, 349, 350, 351, 42, 49, 344, 345, 346, 347, 40, 47, 41, 48, 594, 562, 563, 564, 46, 409, 410, 411, 412, 413, 414, 415, 416, 43, 44, 417, 418, 419, 595, 596, 597, 598, 334, 599, 600, 601, 602, 603, 604, 605, 606, 607, 608, 609, 971, 972, 973, 974, 975, 976, 977, 978, 979, 980, 981, 1008, 1009, 1010, 1011, 1012, 1013, 1014, 1015, 1016, 1017] (by decide +kernel) (by decide +kernel)
set_option maxRecDepth 20000 in
theorem gL_law_X5_runs : GoodIn wsL_law (wsV RL 81 RX5 yX5_runs wsX5_runs) := goodIn_app (goodIn_of _ (by decide +kernel)) ggL_law_X5_runs
set_option maxRecDepth 20000 in
theorem ggL_law_X6_runs : GoodIn wsL_law wsX6_runs := goodIn_r _ [613, 384, 89, 577, 570, 575, 614, 615, 5, 616, 617, 120, 121, 122, 618, 619, 620, 621, 622, 623, 624, 625, 571, 572, 573, 574, 576, 578, 579, 580, 581, 582, 583, 584, 585, 361, 362, 363, 364, 365, 366, 367, 368, 437, 438, 439, 440, 441, 442, 443, 982, 983, 984, 985, 986, 987, 988, 989, 990, 991, 992, 993, 994, 995, 996, 997, 998, 999, 1000, 1001, 1002, 1003, 1004, 1005, 1006, 1007] (by decide +kernel) (by decide +kernel)
set_option maxRecDepth 20000 in
theorem gL_law_X6_runs : GoodIn wsL_law (wsV RL 84 RX6 yX6_runs wsX6_runs) := goodIn_app (goodIn_of _ (by decide +kernel)) ggL_law_X6_runs
set_option maxRecDepth 20000 in
theorem ggL_law_X5_ahead : GoodIn wsL_law wsX5_ahead := goodIn_r _ [629, 395, 15, 397, 398, 399, 2, 400, 335, 107, 108, 109, 630, 631, 632, 14, 633, 45, 634, 553, 554, 555, 556, 349, 350, 351, 42, 49, 344, 345, 346, 347, 40, 47, 41, 48, 413, 414, 415, 416, 43, 44, 417, 418, 419, 409, 410, 411, 412, 971, 972, 973, 974, 975, 976, 977, 978, 979, 980, 981, 1008, 1009, 1010, 1011, 1012, 1013, 1014, 1015, 1016, 1017] (by decide +kernel) (by decide +kernel)
set_option maxRecDepth 20000 in
theorem gL_law_X5_ahead : GoodIn wsL_law (wsV RL 85 RX5 yX5_ahead wsX5_ahead) := goodIn_app (goodIn_of _ (by decide +kernel)) ggL_law_X5_ahead
set_option maxRecDepth 20000 in
theorem ggL_law_X6_ahead : GoodIn wsL_law wsX6_ahead := goodIn_r _ [638, 424, 89, 425, 426, 427, 5, 428, 120, 121, 122, 614, 615, 616, 617, 618, 619, 620, 621, 622, 623, 624, 625, 571, 572, 573, 574, 570, 575, 576, 577, 578, 579, 580, 581, 582, 583, 584, 585, 361, 362, 363, 364, 365, 366, 367, 368, 437, 438, 439, 440, 441, 442, 443, 982, 983, 984, 985, 986, 987, 988, 989, 990, 991, 992, 993, 994, 995, 996, 997, 998, 999, 1000, 1001, 1002, 1003, 1004, 1005, 1006, 1007] (by decide +kernel) (by decide +kernel)
set_option maxRecDepth 20000 in
theorem gL_law_X6_ahead : GoodIn wsL_law (wsV RL 88 RX6 yX6_ahead wsX6_ahead) := goodIn_app (goodIn_of _ (by decide +kernel)) ggL_law_X6_ahead
set_option maxRecDepth 20000 in
theorem ggL_law_X5_when : GoodIn wsL_law wsX5_when := goodIn_r _ [642, 395, 15, 396, 397, 398, 399, 2, 400, 335, 107, 108, 109, 643, 644, 645, 646, 647, 552, 553, 554, 14, 555, 556, 349, 350, 351, 42, 49, 344, 345, 346, 347, 40, 47, 41, 48, 648, 414, 415, 416, 43, 44, 417, 418, 419, 409, 410, 411, 412, 971, 972, 973, 974, 975, 976, 977, 978, 979, 980, 981, 1008, 1009, 1010, 1011, 1012, 1013, 1014, 1015, 1016, 1017] (by decide +kernel) (by decide +kernel)
set_option maxRecDepth 20000 in
theorem gL_law_X5_when : GoodIn wsL_law (wsV RL 89 RX5 yX5_when wsX5_when) := goodIn_app (goodIn_of _ (by decide +kernel)) ggL_law_X5_when
set_option maxRecDepth 20000 in
theorem ggL_law_X6_when : GoodIn wsL_law wsX6_when := goodIn_r _ [652, 89, 424, 425, 426, 427, 5, 428, 120, 121, 122, 653, 654, 655, 656, 657, 618, 619, 620, 621, 622, 623, 624, 625, 571, 572, 573, 574, 570, 575, 576, 577, 578, 579, 580, 581, 582, 583, 584, 585, 361, 362, 363, 364, 365, 366, 367, 368, 437, 438, 439, 440, 441, 442, 443, 982, 983, 984, 985, 986, 987, 988, 989, 990, 991, 992, 993, 994, 995, 996, 997, 998, 999, 1000, 1001, 1002, 1003, 1004, 1005, 1006, 1007] (by decide +kernel) (by decide +kernel)
set_option maxRecDepth 20000 in
theorem gL_law_X6_when : GoodIn wsL_law (wsV RL 92 RX6 yX6_when wsX6_when) := goodIn_app (goodIn_of _ (by decide +kernel)) ggL_law_X6_when
set_option maxRecDepth 20000 in
theorem ggL_law_X5_best : GoodIn wsL_law wsX5_best := goodIn_r _ [661, 16, 15, 662, 397, 398, 399, 2, 400, 335, 107, 108, 109, 663, 664, 665, 268, 269, 270, 14, 271, 40, 272, 273, 274, 275, 41, 42, 43, 44, 45, 46, 47, 48, 49, 543, 257, 258, 259, 405, 406, 407, 408, 409, 410, 411, 412, 344, 345, 346, 347, 413, 414, 415, 416, 417, 418, 419, 496, 497, 498, 971, 972, 973, 974, 975, 976, 977, 978, 979, 980, 981, 1008, 1009, 1010, 1011, 1012, 1013, 1014, 1015, 1016, 1017] (by decide +kernel) (by decide +kernel)
set_option maxRecDepth 20000 in
theorem gL_law_X5_best : GoodIn wsL_law (wsV RL 93 RX5 yX5_best wsX5_best) := goodIn_app (goodIn_of _ (by decide +kernel)) ggL_law_X5_best
set_option maxRecDepth 20000 in
theorem ggL_law_X6_best : GoodIn wsL_law wsX6_best := goodIn_r _ [669, 670, 89, 425, 426, 427, 5, 428, 120, 121, 122, 622, 623, 624, 625, 433, 434, 435, 436, 361, 362, 363, 364, 365, 366, 367, 368, 437, 438, 439, 440, 441, 442, 443, 357, 358, 359, 360, 94, 982, 983, 984, 985, 986, 987, 988, 989, 990, 991, 992, 993, 994, 995, 996, 997, 998, 999, 1000, 1001, 1002, 1003, 1004, 1005, 1006, 1007] (by decide +kernel) (by decide +kernel)
set_option maxRecDepth 20000 in
theorem gL_law_X6_best : GoodIn wsL_law (wsV RL 96 RX6 yX6_best wsX6_best) := goodIn_app (goodIn_of _ (by decide +kernel)) ggL_law_X6_best
set_option maxRecDepth 20000 in
theorem ggL_law_X5_step : GoodIn wsL_law wsX5_step := goodIn_r _ [674, 16, 15, 662, 394, 397, 398, 399, 2, 400, 335, 107, 108, 109, 663, 664, 665, 268, 269, 270, 14, 271, 40, 272, 273, 274, 275, 41, 42, 43, 44, 45, 46, 47, 48, 49, 405, 406, 407, 408, 409, 410, 411, 412, 344, 345, 346, 347, 413, 414, 415, 416, 417, 418, 419, 971, 972, 973, 974, 975, 976, 977, 978, 979, 980, 981, 1008, 1009, 1010, 1011, 1012, 1013, 1014, 1015, 1016, 1017] (by decide +kernel) (by decide +kernel)
set_option maxRecDepth 20000 in
theorem gL_law_X5_step : GoodIn wsL_law (wsV RL 97 RX5 yX5_step wsX5_step) := goodIn_app (goodIn_of _ (by decide +kernel)) ggL_law_X5_step
set_option maxRecDepth 20000 in
theorem ggL_law_X6_step : GoodIn wsL_law wsX6_step := goodIn_r _ [678, 670, 89, 425, 426, 427, 5, 428, 120, 121, 122, 622, 623, 624, 625, 433, 434, 435, 436, 361, 362, 363, 364, 365, 366, 367, 368, 437, 438, 439, 440, 441, 442, 443, 357, 358, 359, 360, 94, 982, 983, 984, 985, 986, 987, 988, 989, 990, 991, 992, 993, 994, 995, 996, 997, 998, 999, 1000, 1001, 1002, 1003, 1004, 1005, 1006, 1007] (by decide +kernel) (by decide +kernel)
set_option maxRecDepth 20000 in
theorem gL_law_X6_step : GoodIn wsL_law (wsV RL 100 RX6 yX6_step wsX6_step) := goodIn_app (goodIn_of _ (by decide +kernel)) ggL_law_X6_step
set_option maxRecDepth 20000 in
theorem ggL_law_X5_kind : GoodIn wsL_law wsX5_kind := goodIn_r _ [682, 16, 15, 662, 393, 397, 398, 399, 2, 400, 335, 107, 108, 109, 663, 664, 665, 268, 269, 270, 14, 271, 40, 272, 273, 274, 275, 41, 42, 43, 44, 45, 46, 47, 48, 49, 405, 406, 407, 408, 409, 410, 411, 412, 344, 345, 346, 347, 413, 414, 415, 416, 417, 418, 419, 971, 972, 973, 974, 975, 976, 977, 978, 979, 980, 981, 1008, 1009, 1010, 1011, 1012, 1013, 1014, 1015, 1016, 1017] (by decide +kernel) (by decide +kernel)
set_option maxRecDepth 20000 in
theorem gL_law_X5_kind : GoodIn wsL_law (wsV RL 101 RX5 yX5_kind wsX5_kind) := goodIn_app (goodIn_of _ (by decide +kernel)) ggL_law_X5_kind
set_option maxRecDepth 20000 in
theorem ggL_law_X6_kind : GoodIn wsL_law wsX6_kind := goodIn_r _ [686, 670, 89, 425, 426, 427, 5, 428, 120, 121, 122, 622, 623, 624, 625, 433, 434, 435, 436, 361, 362, 363, 364, 365, 366, 367, 368, 437, 438, 439, 440, 441, 442, 443, 357, 358, 359, 360, 94, 982, 983, 984, 985, 986, 987, 988, 989, 990, 991, 992, 993, 994, 995, 996, 997, 998, 999, 1000, 1001, 1002, 1003, 1004, 1005, 1006, 1007] (by decide +kernel) (by decide +kernel)
set_option maxRecDepth 20000 in
theorem gL_law_X6_kind : GoodIn wsL_law (wsV RL 104 RX6 yX6_kind wsX6_kind) := goodIn_app (goodIn_of _ (by decide +kernel)) ggL_law_X6_kind
set_option maxRecDepth 20000 in
theorem ggL_law_X5_place : GoodIn wsL_law wsX5_place := goodIn_r _ [690, 16, 15, 375, 376, 377, 2, 378, 334, 107, 108, 109, 663, 664, 665, 268, 269, 270, 14, 271, 40, 272, 273, 274, 275, 41, 42, 43, 44, 45, 46, 47, 48, 49, 499, 500, 501, 502, 691, 692, 693, 694, 409, 410, 411, 412, 695, 341, 342, 343, 344, 345, 346, 347, 496, 497, 498, 971, 972, 973, 974, 975, 976, 977, 978, 979, 980, 981, 1008, 1009, 1010, 1011, 1012, 1013, 1014, 1015, 1016, 1017] (by decide +kernel) (by decide +kernel)
set_option maxRecDepth 20000 in
theorem gL_law_X5_place : GoodIn wsL_law (wsV RL 105 RX5 yX5_place wsX5_place) := goodIn_app (goodIn_of _ (by decide +kernel)) ggL_law_X5_place
set_option maxRecDepth 20000 in
theorem ggL_law_X6_place : GoodIn wsL_law wsX6_place := goodIn_r _ [699, 89, 385, 386, 387, 5, 388, 120, 121, 122, 622, 623, 624, 625, 357, 358, 359, 360, 94, 361, 362, 363, 364, 365, 366, 367, 368, 441, 442, 443, 982, 983, 984, 985, 986, 987, 988, 989, 990, 991, 992, 993, 994, 995, 996, 997, 998, 999, 1000, 1001, 1002, 1003, 1004, 1005, 1006, 1007] (by decide +kernel) (by decide +kernel)
set_option maxRecDepth 20000 in
theorem gL_law_X6_place : GoodIn wsL_law (wsV RL 108 RX6 yX6_place wsX6_place) := goodIn_app (goodIn_of _ (by decide +kernel)) ggL_law_X6_place
set_option maxRecDepth 20000 in
theorem ggL_law_X5_swap : GoodIn wsL_law wsX5_swap := goodIn_r _ [703, 16, 15, 334, 663, 664, 2, 665, 107, 108, 109, 268, 269, 270, 14, 271, 40, 272, 273, 274, 275, 41, 42, 43, 44, 45, 46, 47, 48, 49, 691, 692, 693, 694, 409, 410, 411, 412, 695, 341, 342, 343, 344, 345, 346, 347, 704, 705, 706, 707, 708, 500, 501, 502, 971, 972, 973, 974, 975, 976, 977, 978, 979, 980, 981, 1008, 1009, 1010, 1011, 1012, 1013, 1014, 1015, 1016, 1017] (by decide +kernel) (by decide +kernel)
set_option maxRecDepth 20000 in
theorem gL_law_X5_swap : GoodIn wsL_law (wsV RL 109 RX5 yX5_swap wsX5_swap) := goodIn_app (goodIn_of _ (by decide +kernel)) ggL_law_X5_swap
set_option maxRecDepth 20000 in
theorem ggL_law_X6_swap : GoodIn wsL_law wsX6_swap := goodIn_r _ [712, 89, 120, 121, 5, 122, 357, 358, 359, 360, 94, 361, 362, 363, 364, 365, 366, 367, 368, 441, 442, 443, 622, 623, 624, 625, 982, 983, 984, 985, 986, 987, 988, 989, 990, 991, 992, 993, 994, 995, 996, 997, 998, 999, 1000, 1001, 1002, 1003, 1004, 1005, 1006, 1007] (by decide +kernel) (by decide +kernel)
set_option maxRecDepth 20000 in
theorem gL_law_X6_swap : GoodIn wsL_law (wsV RL 112 RX6 yX6_swap wsX6_swap) := goodIn_app (goodIn_of _ (by decide +kernel)) ggL_law_X6_swap
set_option maxRecDepth 20000 in
theorem ggL_law_X5_out : GoodIn wsL_law wsX5_out := goodIn_r _ [716, 15, 334, 16, 663, 664, 2, 665, 107, 108, 109, 691, 692, 693, 14, 694, 409, 410, 411, 412, 695, 341, 342, 343, 42, 344, 345, 346, 347, 40, 47, 41, 48, 268, 269, 270, 271, 272, 273, 274, 275, 43, 44, 45, 46, 49, 717, 718, 719, 720, 708, 500, 501, 502, 971, 972, 973, 974, 975, 976, 977, 978, 979, 980, 981, 1008, 1009, 1010, 1011, 1012, 1013, 1014, 1015, 1016, 1017] (by decide +kernel) (by decide +kernel)
set_option maxRecDepth 20000 in
theorem gL_law_X5_out : GoodIn wsL_law (wsV RL 113 RX5 yX5_out wsX5_out) := goodIn_app (goodIn_of _ (by decide +kernel)) ggL_law_X5_out
set_option maxRecDepth 20000 in
theorem ggL_law_X6_out : GoodIn wsL_law wsX6_out := goodIn_r _ [724, 89, 94, 120, 121, 5, 122, 357, 358, 359, 360, 361, 362, 363, 364, 365, 366, 367, 368, 441, 442, 443, 982, 983, 984, 985, 986, 987, 988, 989, 990, 991, 992, 993, 994, 995, 996, 997, 998, 999, 1000, 1001, 1002, 1003, 1004, 1005, 1006, 1007] (by decide +kernel) (by decide +kernel)
set_option maxRecDepth 20000 in
theorem gL_law_X6_out : GoodIn wsL_law (wsV RL 116 RX6 yX6_out wsX6_out) := goodIn_app (goodIn_of _ (by decide +kernel)) ggL_law_X6_out
set_option maxRecDepth 20000 in
theorem ggL_law_X5_luck : GoodIn wsL_law wsX5_luck := goodIn_r _ [728, 729, 395, 643, 644, 2, 645, 646, 647, 107, 108, 109, 730, 731, 732, 733, 397, 398, 399, 400, 15, 335, 663, 664, 665, 734, 735, 736, 737, 31, 552, 553, 554, 14, 555, 556, 349, 350, 351, 42, 49, 344, 345, 346, 347, 40, 47, 41, 48, 648, 414, 415, 416, 43, 44, 417, 418, 419, 409, 410, 411, 412, 738, 739, 740, 741, 396, 742, 743, 744, 745, 746, 747, 748, 749, 750, 751, 752, 753, 754, 971, 972, 973, 974, 975, 976, 977, 978, 979, 980, 981, 1008, 1009, 1010, 1011, 1012, 1013, 1014, 1015, 1016, 1017] (by decide +kernel) (by decide +kernel)
set_option maxRecDepth 20000 in
theorem gL_law_X5_luck : GoodIn wsL_law (wsV RL 117 RX5 yX5_luck wsX5_luck) := goodIn_app (goodIn_of _ (by decide +kernel)) ggL_law_X5_luck
set_option maxRecDepth 20000 in
theorem ggL_law_X6_luck : GoodIn wsL_law wsX6_luck := goodIn_r _ [758, 759, 760, 761, 120, 121, 5, 122, 425, 426, 427, 428, 89, 653, 654, 655, 656, 657, 762, 763, 764, 765, 424, 618, 619, 620, 621, 622, 623, 624, 625, 571, 572, 573, 574, 570, 575, 576, 577, 578, 579, 580, 581, 582, 583, 584, 585, 361, 362, 363, 364, 365, 366, 367, 368, 437, 438, 439, 440, 441, 442, 443, 766, 767, 768, 982, 983, 984, 985, 986, 987, 988, 989, 990, 991, 992, 993, 994, 995, 996, 997, 998, 999, 1000, 1001, 1002, 1003, 1004, 1005, 1006, 1007] (by decide +kernel) (by decide +kernel)
set_option maxRecDepth 20000 in
theorem gL_law_X6_luck : GoodIn wsL_law (wsV RL 121 RX6 yX6_luck wsX6_luck) := goodIn_app (goodIn_of _ (by decide +kernel)) ggL_law_X6_luck
set_option maxRecDepth 20000 in
theorem ggL_law_X5_mean : GoodIn wsL_law wsX5_mean := goodIn_r _ [772, 729, 773, 410, 411, 412, 730, 731, 732, 2, 733, 107, 108, 109, 397, 398, 399, 400, 15, 335, 663, 664, 665, 734, 735, 736, 737, 31, 552, 553, 554, 14, 555, 556, 349, 350, 351, 42, 49, 344, 345, 346, 347, 40, 47, 41, 48, 648, 414, 415, 416, 43, 44, 417, 418, 419, 409, 742, 743, 744, 738, 739, 740, 741, 396, 745, 746, 747, 748, 749, 750, 751, 752, 753, 754, 971, 972, 973, 974, 975, 976, 977, 978, 979, 980, 981, 1008, 1009, 1010, 1011, 1012, 1013, 1014, 1015, 1016, 1017] (by decide +kernel) (by decide +kernel)
set_option maxRecDepth 20000 in
theorem gL_law_X5_mean : GoodIn wsL_law (wsV RL 122 RX5 yX5_mean wsX5_mean) := goodIn_app (goodIn_of _ (by decide +kernel)) ggL_law_X5_mean
set_option maxRecDepth 20000 in
theorem ggL_law_X6_mean : GoodIn wsL_law wsX6_mean := goodIn_r _ [777, 759, 760, 761, 120, 121, 5, 122, 425, 426, 427, 428, 89, 762, 763, 764, 765, 424, 618, 619, 620, 621, 622, 623, 624, 625, 571, 572, 573, 574, 570, 575, 576, 577, 578, 579, 580, 581, 582, 583, 584, 585, 361, 362, 363, 364, 365, 366, 367, 368, 437, 438, 439, 440, 441, 442, 443, 766, 767, 768, 982, 983, 984, 985, 986, 987, 988, 989, 990, 991, 992, 993, 994, 995, 996, 997, 998, 999, 1000, 1001, 1002, 1003, 1004, 1005, 1006, 1007] (by decide +kernel) (by decide +kernel)
set_option maxRecDepth 20000 in
theorem gL_law_X6_mean : GoodIn wsL_law (wsV RL 126 RX6 yX6_mean wsX6_mean) := goodIn_app (goodIn_of _ (by decide +kernel)) ggL_law_X6_mean
set_option maxRecDepth 20000 in
theorem ggL_law_X5_see : GoodIn wsL_law wsX5_see := goodIn_r _ [781, 27, 138, 395, 107, 108, 2, 109, 397, 398, 399, 400, 15, 335, 643, 644, 645, 646, 647, 782, 783, 784, 26, 785, 78, 75, 76, 77, 971, 972, 973, 974, 975, 976, 977, 978, 979, 980, 981, 1024, 1025, 1026, 1027, 1008, 1009, 1010, 1011, 1012, 1013, 1014, 1015, 1016, 1017] (by decide +kernel) (by decide +kernel)
set_option maxRecDepth 20000 in
theorem gL_law_X5_see : GoodIn wsL_law (wsV RL 127 RX5 yX5_see wsX5_see) := goodIn_app (goodIn_of _ (by decide +kernel)) ggL_law_X5_see
set_option maxRecDepth 20000 in
theorem ggL_law_X6_see : GoodIn wsL_law wsX6_see := goodIn_r _ [789, 790, 286, 95, 424, 120, 121, 5, 122, 425, 426, 427, 428, 89, 653, 654, 655, 656, 657, 982, 983, 984, 985, 986, 987, 988, 989, 990, 991, 992, 993, 994, 995, 996, 997, 998, 999, 1000, 1001, 1002, 1003, 1004, 1005, 1006, 1007] (by decide +kernel) (by decide +kernel)
set_option maxRecDepth 20000 in
theorem gL_law_X6_see : GoodIn wsL_law (wsV RL 130 RX6 yX6_see wsX6_see) := goodIn_app (goodIn_of _ (by decide +kernel)) ggL_law_X6_see
set_option maxRecDepth 20000 in
theorem ggL_law_X5_forget : GoodIn wsL_law wsX5_forget := goodIn_r _ [794, 27, 138, 107, 108, 2, 109, 971, 972, 973, 974, 975, 976, 977, 978, 979, 980, 981, 1024, 1025, 1026, 1027] (by decide +kernel) (by decide +kernel)
set_option maxRecDepth 20000 in
theorem gL_law_X5_forget : GoodIn wsL_law (wsV RL 131 RX5 yX5_forget wsX5_forget) := goodIn_app (goodIn_of _ (by decide +kernel)) ggL_law_X5_forget
set_option maxRecDepth 20000 in
theorem ggL_law_X6_forget : GoodIn wsL_law wsX6_forget := goodIn_r _ [798, 286, 120, 121, 5, 122, 982, 983, 984, 985, 986, 987, 988, 989, 990, 991, 992, 993, 994, 995, 996, 997, 998, 999, 1000, 1001, 1002, 1003, 1004, 1005, 1006, 1007] (by decide +kernel) (by decide +kernel)
set_option maxRecDepth 20000 in
theorem gL_law_X6_forget : GoodIn wsL_law (wsV RL 134 RX6 yX6_forget wsX6_forget) := goodIn_app (goodIn_of _ (by decide +kernel)) ggL_law_X6_forget
set_option maxRecDepth 20000 in
theorem ggL_law_X5_kinds : GoodIn wsL_law wsX5_kinds := goodIn_r _ [802, 16, 15, 393, 27, 397, 398, 399, 2, 400, 335, 107, 108, 109, 268, 269, 270, 14, 271, 40, 272, 273, 274, 275, 41, 42, 43, 44, 45, 46, 47, 48, 49, 803, 804, 805, 26, 806, 78, 76, 807, 75, 77, 808, 631, 632, 633, 634, 553, 554, 555, 556, 349, 350, 351, 344, 345, 346, 347, 413, 414, 415, 416, 417, 418, 419, 409, 410, 411, 412, 971, 972, 973, 974, 975, 976, 977, 978, 979, 980, 981, 1008, 1009, 1010, 1011, 1012, 1013, 1014, 1015, 1016, 1017, 1024, 1025, 1026, 1027] (by decide +kernel) (by decide +kernel)
set_option maxRecDepth 20000 in
theorem gL_law_X5_kinds : GoodIn wsL_law (wsV RL 135 RX5 yX5_kinds wsX5_kinds) := goodIn_app (goodIn_of _ (by decide +kernel)) ggL_law_X5_kinds
set_option maxRecDepth 20000 in
theorem ggL_law_X6_kinds : GoodIn wsL_law wsX6_kinds := goodIn_r _ [812, 425, 426, 427, 5, 428, 89, 120, 121, 122, 813, 814, 815, 816, 817, 818, 819, 820, 96, 286, 95, 618, 619, 620, 621, 622, 623, 624, 625, 571, 572, 573, 574, 570, 575, 576, 577, 578, 579, 580, 581, 582, 583, 584, 585, 361, 362, 363, 364, 365, 366, 367, 368, 437, 438, 439, 440, 441, 442, 443, 982, 983, 984, 985, 986, 987, 988, 989, 990, 991, 992, 993, 994, 995, 996, 997, 998, 999, 1000, 1001, 1002, 1003, 1004, 1005, 1006, 1007] (by decide +kernel) (by decide +kernel)
set_option maxRecDepth 20000 in
theorem gL_law_X6_kinds : GoodIn wsL_law (wsV RL 138 RX6 yX6_kinds wsX6_kinds) := goodIn_app (goodIn_of _ (by decide +kernel)) ggL_law_X6_kinds
set_option maxRecDepth 20000 in
theorem ggL_law_X5_steps : GoodIn wsL_law wsX5_steps := goodIn_r _ [824, 397, 398, 399, 2, 400, 15, 335, 107, 108, 109, 825, 826, 827, 828, 16, 394, 27, 268, 269, 270, 14, 271, 40, 272, 273, 274, 275, 41, 42, 43, 44, 45, 46, 47, 48, 49, 803, 804, 805, 26, 806, 78, 76, 807, 75, 77, 808, 631, 632, 633, 634, 553, 554, 555, 556, 349, 350, 351, 344, 345, 346, 347, 413, 414, 415, 416, 417, 418, 419, 409, 410, 411, 412, 971, 972, 973, 974, 975, 976, 977, 978, 979, 980, 981, 1008, 1009, 1010, 1011, 1012, 1013, 1014, 1015, 1016, 1017, 1024, 1025, 1026, 1027] (by decide +kernel) (by decide +kernel)
set_option maxRecDepth 20000 in
theorem gL_law_X5_steps : GoodIn wsL_law (wsV RL 139 RX5 yX5_steps wsX5_steps) := goodIn_app (goodIn_of _ (by decide +kernel)) ggL_law_X5_steps
set_option maxRecDepth 20000 in
theorem ggL_law_X6_steps : GoodIn wsL_law wsX6_steps := goodIn_r _ [832, 425, 426, 427, 5, 428, 89, 120, 121, 122, 813, 814, 815, 816, 817, 818, 819, 820, 96, 286, 95, 618, 619, 620, 621, 622, 623, 624, 625, 571, 572, 573, 574, 570, 575, 576, 577, 578, 579, 580, 581, 582, 583, 584, 585, 361, 362, 363, 364, 365, 366, 367, 368, 437, 438, 439, 440, 441, 442, 443, 982, 983, 984, 985, 986, 987, 988, 989, 990, 991, 992, 993, 994, 995, 996, 997, 998, 999, 1000, 1001, 1002, 1003, 1004, 1005, 1006, 1007] (by decide +kernel) (by decide +kernel)
set_option maxRecDepth 20000 in
theorem gL_law_X6_steps : GoodIn wsL_law (wsV RL 142 RX6 yX6_steps wsX6_steps) := goodIn_app (goodIn_of _ (by decide +kernel)) ggL_law_X6_steps
set_option maxRecDepth 20000 in
theorem ggL_law_X5_ask : GoodIn wsL_law wsX5_ask := goodIn_r _ [836, 32, 15, 396, 393, 397, 398, 399, 2, 400, 335, 107, 108, 109, 663, 664, 665, 825, 826, 827, 828, 16, 394, 27, 268, 269, 270, 14, 271, 40, 272, 273, 274, 275, 41, 42, 43, 44, 45, 46, 47, 48, 49, 803, 804, 805, 26, 806, 78, 76, 807, 75, 77, 808, 631, 632, 633, 634, 553, 554, 555, 556, 349, 350, 351, 344, 345, 346, 347, 413, 414, 415, 416, 417, 418, 419, 409, 410, 411, 412, 837, 838, 839, 840, 841, 842, 843, 844, 845, 846, 847, 607, 608, 609, 848, 849, 850, 851, 552, 852, 853, 854, 855, 856, 971, 972, 973, 974, 975, 976, 977, 978, 979, 980, 981, 1008, 1009, 1010, 1011, 1012, 1013, 1014, 1015, 1016, 1017, 1024, 1025, 1026, 1027] (by decide +kernel) (by decide +kernel)
set_option maxRecDepth 20000 in
theorem gL_law_X5_ask : GoodIn wsL_law (wsV RL 143 RX5 yX5_ask wsX5_ask) := goodIn_app (goodIn_of _ (by decide +kernel)) ggL_law_X5_ask
set_option maxRecDepth 20000 in
theorem ggL_law_X6_ask : GoodIn wsL_law wsX6_ask := goodIn_r _ [860, 425, 426, 427, 5, 428, 89, 120, 121, 122, 813, 814, 815, 816, 817, 818, 819, 820, 96, 286, 95, 618, 619, 620, 621, 622, 623, 624, 625, 571, 572, 573, 574, 570, 575, 576, 577, 578, 579, 580, 581, 582, 583, 584, 585, 361, 362, 363, 364, 365, 366, 367, 368, 437, 438, 439, 440, 441, 442, 443, 861, 862, 863, 864, 982, 983, 984, 985, 986, 987, 988, 989, 990, 991, 992, 993, 994, 995, 996, 997, 998, 999, 1000, 1001, 1002, 1003, 1004, 1005, 1006, 1007] (by decide +kernel) (by decide +kernel)
set_option maxRecDepth 20000 in
theorem gL_law_X6_ask : GoodIn wsL_law (wsV RL 146 RX6 yX6_ask wsX6_ask) := goodIn_app (goodIn_of _ (by decide +kernel)) ggL_law_X6_ask
set_option maxRecDepth 20000 in
theorem ggL_law_X5_drift : GoodIn wsL_law wsX5_drift := goodIn_r _ [868, 15, 334, 335, 16, 869, 395, 396, 107, 108, 2, 109, 663, 664, 665, 268, 269, 270, 14, 271, 40, 272, 273, 274, 275, 41, 42, 43, 44, 45, 46, 47, 48, 49, 379, 345, 346, 347, 557, 558, 559, 560, 413, 414, 415, 416, 417, 418, 419, 409, 410, 411, 412, 561, 562, 563, 564, 971, 972, 973, 974, 975, 976, 977, 978, 979, 980, 981, 1008, 1009, 1010, 1011, 1012, 1013, 1014, 1015, 1016, 1017] (by decide +kernel) (by decide +kernel)
set_option maxRecDepth 20000 in
theorem gL_law_X5_drift : GoodIn wsL_law (wsV RL 147 RX5 yX5_drift wsX5_drift) := goodIn_app (goodIn_of _ (by decide +kernel)) ggL_law_X5_drift
set_option maxRecDepth 20000 in
theorem ggL_law_X6_drift : GoodIn wsL_law wsX6_drift := goodIn_r _ [873, 617, 89, 874, 424, 570, 120, 121, 5, 122, 618, 619, 620, 621, 622, 623, 624, 625, 571, 572, 573, 574, 575, 576, 577, 578, 579, 580, 581, 582, 583, 584, 585, 361, 362, 363, 364, 365, 366, 367, 368, 437, 438, 439, 440, 441, 442, 443, 982, 983, 984, 985, 986, 987, 988, 989, 990, 991, 992, 993, 994, 995, 996, 997, 998, 999, 1000, 1001, 1002, 1003, 1004, 1005, 1006, 1007] (by decide +kernel) (by decide +kernel)
set_option maxRecDepth 20000 in
theorem gL_law_X6_drift : GoodIn wsL_law (wsV RL 150 RX6 yX6_drift wsX6_drift) := goodIn_app (goodIn_of _ (by decide +kernel)) ggL_law_X6_drift
set_option maxRecDepth 20000 in
theorem ggL_law_X5_keep : GoodIn wsL_law wsX5_keep := goodIn_r _ [878, 19, 17, 15, 107, 108, 2, 109, 268, 269, 270, 14, 271, 40, 272, 273, 274, 275, 41, 42, 43, 44, 45, 46, 47, 48, 49, 971, 972, 973, 974, 975, 976, 977, 978, 979, 980, 981, 1008, 1009, 1010, 1011, 1012, 1013, 1014, 1015, 1016, 1017] (by decide +kernel) (by decide +kernel)
set_option maxRecDepth 20000 in
theorem gL_law_X5_keep : GoodIn wsL_law (wsV RL 151 RX5 yX5_keep wsX5_keep) := goodIn_app (goodIn_of _ (by decide +kernel)) ggL_law_X5_keep
set_option maxRecDepth 20000 in
theorem ggL_law_X6_keep : GoodIn wsL_law wsX6_keep := goodIn_r _ [882, 97, 120, 121, 5, 122, 622, 623, 624, 625, 89, 982, 983, 984, 985, 986, 987, 988, 989, 990, 991, 992, 993, 994, 995, 996, 997, 998, 999, 1000, 1001, 1002, 1003, 1004, 1005, 1006, 1007] (by decide +kernel) (by decide +kernel)
set_option maxRecDepth 20000 in
theorem gL_law_X6_keep : GoodIn wsL_law (wsV RL 154 RX6 yX6_keep wsX6_keep) := goodIn_app (goodIn_of _ (by decide +kernel)) ggL_law_X6_keep
set_option maxRecDepth 20000 in
theorem ggL_law_X5_back : GoodIn wsL_law wsX5_back := goodIn_r _ [886, 19, 15, 17, 336, 107, 108, 2, 109, 268, 269, 270, 14, 271, 40, 272, 273, 274, 275, 41, 42, 43, 44, 45, 46, 47, 48, 49, 971, 972, 973, 974, 975, 976, 977, 978, 979, 980, 981, 1008, 1009, 1010, 1011, 1012, 1013, 1014, 1015, 1016, 1017] (by decide +kernel) (by decide +kernel)
set_option maxRecDepth 20000 in
theorem gL_law_X5_back : GoodIn wsL_law (wsV RL 155 RX5 yX5_back wsX5_back) := goodIn_app (goodIn_of _ (by decide +kernel)) ggL_law_X5_back
set_option maxRecDepth 20000 in
theorem ggL_law_X6_back : GoodIn wsL_law wsX6_back := goodIn_r _ [890, 97, 89, 120, 121, 5, 122, 622, 623, 624, 625, 982, 983, 984, 985, 986, 987, 988, 989, 990, 991, 992, 993, 994, 995, 996, 997, 998, 999, 1000, 1001, 1002, 1003, 1004, 1005, 1006, 1007] (by decide +kernel) (by decide +kernel)
set_option maxRecDepth 20000 in
theorem gL_law_X6_back : GoodIn wsL_law (wsV RL 158 RX6 yX6_back wsX6_back) := goodIn_app (goodIn_of _ (by decide +kernel)) ggL_law_X6_back
set_option maxRecDepth 20000 in
theorem ggL_law_X5_sheet : GoodIn wsL_law wsX5_sheet := goodIn_r _ [894, 29, 895, 896, 2, 897, 107, 108, 109, 898, 899, 900, 901, 902, 903, 36, 904, 82, 83, 84, 971, 972, 973, 974, 975, 976, 977, 978, 979, 980, 981, 1028, 1029, 1030] (by decide +kernel) (by decide +kernel)
set_option maxRecDepth 20000 in
theorem gL_law_X5_sheet : GoodIn wsL_law (wsV RL 159 RX5 yX5_sheet wsX5_sheet) := goodIn_app (goodIn_of _ (by decide +kernel)) ggL_law_X5_sheet
set_option maxRecDepth 20000 in
theorem ggL_law_X6_sheet : GoodIn wsL_law wsX6_sheet := goodIn_r _ [908, 458, 384, 98, 99, 100, 120, 121, 5, 122, 982, 983, 984, 985, 986, 987, 988, 989, 990, 991, 992, 993, 994, 995, 996, 997, 998, 999, 1000, 1001, 1002, 1003, 1004, 1005, 1006, 1007] (by decide +kernel) (by decide +kernel)
set_option maxRecDepth 20000 in
theorem gL_law_X6_sheet : GoodIn wsL_law (wsV RL 162 RX6 yX6_sheet wsX6_sheet) := goodIn_app (goodIn_of _ (by decide +kernel)) ggL_law_X6_sheet
set_option maxRecDepth 20000 in
theorem ggL_law_X5_lay : GoodIn wsL_law wsX5_lay := goodIn_r _ [912, 29, 913, 895, 896, 2, 897, 107, 108, 109, 914, 915, 916, 36, 917, 83, 84, 918, 919, 920, 921, 922, 923, 924, 925, 82, 971, 972, 973, 974, 975, 976, 977, 978, 979, 980, 981, 1028, 1029, 1030] (by decide +kernel) (by decide +kernel)
set_option maxRecDepth 20000 in
theorem gL_law_X5_lay : GoodIn wsL_law (wsV RL 163 RX5 yX5_lay wsX5_lay) := goodIn_app (goodIn_of _ (by decide +kernel)) ggL_law_X5_lay
set_option maxRecDepth 20000 in
theorem ggL_law_X6_lay : GoodIn wsL_law wsX6_lay := goodIn_r _ [929, 458, 98, 99, 100, 120, 121, 5, 122, 982, 983, 984, 985, 986, 987, 988, 989, 990, 991, 992, 993, 994, 995, 996, 997, 998, 999, 1000, 1001, 1002, 1003, 1004, 1005, 1006, 1007] (by decide +kernel) (by decide +kernel)
set_option maxRecDepth 20000 in
theorem gL_law_X6_lay : GoodIn wsL_law (wsV RL 166 RX6 yX6_lay wsX6_lay) := goodIn_app (goodIn_of _ (by decide +kernel)) ggL_law_X6_lay
set_option maxRecDepth 20000 in
theorem ggL_law_X5_read : GoodIn wsL_law wsX5_read := goodIn_r _ [933, 29, 16, 15, 934, 334, 34, 895, 896, 2, 897, 107, 108, 109, 898, 899, 900, 268, 269, 270, 14, 271, 40, 272, 273, 274, 275, 41, 42, 43, 44, 45, 46, 47, 48, 49, 935, 936, 937, 36, 938, 939, 915, 916, 917, 83, 84, 918, 919, 920, 921, 519, 520, 521, 493, 494, 495, 522, 261, 262, 263, 971, 972, 973, 974, 975, 976, 977, 978, 979, 980, 981, 1028, 1029, 1030, 1008, 1009, 1010, 1011, 1012, 1013, 1014, 1015, 1016, 1017] (by decide +kernel) (by decide +kernel)
set_option maxRecDepth 20000 in
theorem gL_law_X5_read : GoodIn wsL_law (wsV RL 167 RX5 yX5_read wsX5_read) := goodIn_app (goodIn_of _ (by decide +kernel)) ggL_law_X5_read
set_option maxRecDepth 20000 in
theorem ggL_law_X6_read : GoodIn wsL_law wsX6_read := goodIn_r _ [943, 458, 384, 510, 98, 99, 100, 944, 120, 121, 5, 122, 622, 623, 624, 625, 89, 527, 528, 529, 530, 507, 508, 509, 982, 983, 984, 985, 986, 987, 988, 989, 990, 991, 992, 993, 994, 995, 996, 997, 998, 999, 1000, 1001, 1002, 1003, 1004, 1005, 1006, 1007] (by decide +kernel) (by decide +kernel)
set_option maxRecDepth 20000 in
theorem gL_law_X6_read : GoodIn wsL_law (wsV RL 171 RX6 yX6_read wsX6_read) := goodIn_app (goodIn_of _ (by decide +kernel)) ggL_law_X6_read
set_option maxRecDepth 20000 in
theorem ggL_law_X5_torn : GoodIn wsL_law wsX5_torn := goodIn_r _ [948, 34, 971, 972, 973, 974, 975, 976, 977, 978, 979, 980, 981] (by decide +kernel) (by decide +kernel)
set_option maxRecDepth 20000 in
theorem gL_law_X5_torn : GoodIn wsL_law (wsV RL 172 RX5 yX5_torn wsX5_torn) := goodIn_app (goodIn_of _ (by decide +kernel)) ggL_law_X5_torn
set_option maxRecDepth 20000 in
theorem ggL_law_X6_torn : GoodIn wsL_law wsX6_torn := goodIn_r _ [952, 944, 982, 983, 984, 985, 986, 987, 988, 989, 990, 991, 992, 993, 994, 995, 996, 997, 998, 999, 1000, 1001, 1002, 1003, 1004, 1005, 1006, 1007] (by decide +kernel) (by decide +kernel)
set_option maxRecDepth 20000 in
theorem gL_law_X6_torn : GoodIn wsL_law (wsV RL 175 RX6 yX6_torn wsX6_torn) := goodIn_app (goodIn_of _ (by decide +kernel)) ggL_law_X6_torn
set_option maxRecDepth 20000 in
theorem ggL_law_X5_count : GoodIn wsL_law wsX5_count := goodIn_r _ [956, 27, 138, 19, 23, 105, 106, 29, 957, 15, 958, 919, 920, 36, 921, 84, 959, 960, 961, 14, 962, 46, 44, 963, 964, 965, 966, 42, 40, 41, 971, 972, 973, 974, 975, 976, 977, 978, 979, 980, 981, 1024, 1025, 1026, 1027, 1018, 1019, 1020, 1021, 1022, 1023, 1031, 1032, 1033, 1034, 1035, 1028, 1029, 1030, 1008, 1009, 1010, 1011, 1012, 1013, 1014, 1015, 1016, 1017] (by decide +kernel) (by decide +kernel)
set_option maxRecDepth 20000 in
theorem gL_law_X5_count : GoodIn wsL_law (wsV RL 176 RX5 yX5_count wsX5_count) := goodIn_app (goodIn_of _ (by decide +kernel)) ggL_law_X5_count
set_option maxRecDepth 20000 in
theorem ggL_law_X6_count : GoodIn wsL_law wsX6_count := goodIn_r _ [970, 89, 286, 97, 119, 98, 99, 982, 983, 984, 985, 986, 987, 988, 989, 990, 991, 992, 993, 994, 995, 996, 997, 998, 999, 1000, 1001, 1002, 1003, 1004, 1005, 1006, 1007] (by decide +kernel) (by decide +kernel)
set_option maxRecDepth 20000 in
theorem gL_law_X6_count : GoodIn wsL_law (wsV RL 179 RX6 yX6_count wsX6_count) := goodIn_app (goodIn_of _ (by decide +kernel)) ggL_law_X6_count

