set_option maxRecDepth 20000 in
theorem ggL_law_X8_init : GoodIn wsL_lawN wsX8_init := goodIn_r _ [10, 11, 12, 13, 14, 15, 16, 17, 18, 19, 20, 21, 22, 23, 24, 25, 26, 27, 28, 29, 30, 31, 32, 33, 34, 35, 36, 37, 38, 39, 40, 41, 42, 43, 44, 45, 46, 47, 48, 49, 50, 51, 52, 53, 54, 55, 56, 57, 58, 59, 60, 61, 62, 63, 64, 65, 66, 67, 68, 69, 70, 71, 72, 73, 74, 75, 76, 77, 78, 79, 80, 81, 82, 83, 84, 85, 86, 87, 88, 89, 90, 91, 92, 1017, 1018, 1019, 1020, 1021, 1022, 1023, 1024, 1025, 945, 946, 947, 948, 949, 950, 951, 952, 953, 954, 1026, 1027, 1028, 1029, 1030, 1031, 1032, 1033, 1034, 1035, 1036, 1037, 1038, 1039, 1040, 1041, 1042, 1043, 1044, 1045, 1046, 1047, 1048, 1049, 1050, 1051, 1052, 1053, 1054, 1055, 1056, 1057, 1058, 1059, 1060, 1061, 1062] (by decide +kernel) (by decide +kernel)
set_option maxRecDepth 20000 in
theorem gL_law_X8_init : GoodIn wsL_lawN (wsX8_init) := ggL_law_X8_init
set_option maxRecDepth 20000 in
theorem ggL_law_X9_init : GoodIn wsL_lawN wsX9_init := goodIn_r _ [95, 96, 12, 13, 24, 97, 98, 99, 6, 100, 101, 102, 103, 104, 105, 106, 107, 108, 109, 110, 111, 112, 113, 114, 115, 116, 117, 118, 119, 120, 121, 49, 122, 123, 124, 125, 126, 127, 128, 129, 130, 131, 132, 133, 134, 135, 136, 137, 138, 139, 140, 141, 142, 143, 144, 145, 955, 956, 957, 958, 959, 960, 961, 962, 963, 964, 965, 966, 967, 968, 969, 970, 971, 972, 973, 974, 975, 976, 977, 978, 979, 980, 981, 982, 983, 984, 985, 986, 987, 988, 989, 990, 991, 992, 993, 994, 995, 996, 997, 998, 999, 1000, 1001, 1002, 1003, 1004, 1005, 1006, 1007, 1008, 1009, 1010, 1011, 1012, 1013, 1014, 1015, 1016] (by decide +kernel) (by decide +kernel)
set_option maxRecDepth 20000 in
theorem gL_law_X9_init : GoodIn wsL_lawN (wsX9_init) := ggL_law_X9_init
set_option maxRecDepth 20000 in
theorem ggL_law_X8_examiner : GoodIn wsL_lawN wsX8_examiner := goodIn_r _ [149, 17, 150, 151, 152, 16, 153, 154, 945, 946, 947, 948, 949, 950, 951, 952, 953, 954, 1017, 1018, 1019, 1020, 1021, 1022, 1023, 1024, 1025] (by decide +kernel) (by decide +kernel)
set_option maxRecDepth 20000 in
theorem gL_law_X8_examiner : GoodIn wsL_lawN (wsV RL 19 RX8 yX8_examiner wsX8_examiner) := goodIn_app (goodIn_of _ (by decide +kernel)) ggL_law_X8_examiner
set_option maxRecDepth 20000 in
theorem ggL_law_X9_examiner : GoodIn wsL_lawN wsX9_examiner := goodIn_r _ [158, 159, 160, 955, 956, 957, 958, 959, 960, 961, 962, 963, 964, 965, 966, 967, 968, 969, 970, 971, 972, 973, 974, 975, 976, 977, 978, 979, 980, 981, 982, 983, 984, 985, 986, 987, 988, 989, 990, 991, 992, 993, 994, 995, 996, 997, 998, 999, 1000, 1001, 1002, 1003, 1004, 1005, 1006, 1007, 1008, 1009, 1010, 1011, 1012, 1013, 1014, 1015, 1016] (by decide +kernel) (by decide +kernel)
set_option maxRecDepth 20000 in
theorem gL_law_X9_examiner : GoodIn wsL_lawN (wsV RL 23 RX9 yX9_examiner wsX9_examiner) := goodIn_app (goodIn_of _ (by decide +kernel)) ggL_law_X9_examiner
set_option maxRecDepth 20000 in
theorem ggL_law_X8_place : GoodIn wsL_lawN wsX8_place := goodIn_r _ [164, 17, 165, 166, 167, 168, 16, 169, 154, 170, 171, 2, 172, 173, 174, 175, 176, 48, 177, 178, 179, 180, 181, 182, 183, 43, 19, 184, 185, 186, 187, 188, 189, 190, 191, 192, 193, 194, 195, 196, 197, 198, 199, 200, 201, 202, 203, 204, 205, 206, 207, 208, 209, 210, 211, 212, 213, 214, 215, 216, 217, 218, 219, 51, 220, 221, 222, 223, 945, 946, 947, 948, 949, 950, 951, 952, 953, 954, 1017, 1018, 1019, 1020, 1021, 1022, 1023, 1024, 1025, 1063, 1064, 1065, 1066, 1067, 1068, 1069, 1070, 1071, 1072, 1073, 1074] (by decide +kernel) (by decide +kernel)
set_option maxRecDepth 20000 in
theorem gL_law_X8_place : GoodIn wsL_lawN (wsV RL 24 RX8 yX8_place wsX8_place) := goodIn_app (goodIn_of _ (by decide +kernel)) ggL_law_X8_place
set_option maxRecDepth 20000 in
theorem ggL_law_X9_place : GoodIn wsL_lawN wsX9_place := goodIn_r _ [227, 159, 160, 228, 121, 229, 132, 133, 125, 230, 231, 232, 5, 233, 234, 235, 236, 237, 238, 239, 240, 241, 955, 956, 957, 958, 959, 960, 961, 962, 963, 964, 965, 966, 967, 968, 969, 970, 971, 972, 973, 974, 975, 976, 977, 978, 979, 980, 981, 982, 983, 984, 985, 986, 987, 988, 989, 990, 991, 992, 993, 994, 995, 996, 997, 998, 999, 1000, 1001, 1002, 1003, 1004, 1005, 1006, 1007, 1008, 1009, 1010, 1011, 1012, 1013, 1014, 1015, 1016] (by decide +kernel) (by decide +kernel)
set_option maxRecDepth 20000 in
theorem gL_law_X9_place : GoodIn wsL_lawN (wsV RL 28 RX9 yX9_place wsX9_place) := goodIn_app (goodIn_of _ (by decide +kernel)) ggL_law_X9_place
set_option maxRecDepth 20000 in
theorem ggL_law_X8_learner : GoodIn wsL_lawN wsX8_learner := goodIn_r _ [245, 43, 18, 246, 247, 17, 165, 193, 248, 249, 250, 251, 252, 19, 253, 170, 171, 2, 172, 254, 178, 179, 255, 256, 257, 258, 12, 13, 259, 260, 261, 262, 945, 946, 947, 948, 949, 950, 951, 952, 953, 954, 1063, 1064, 1065, 1066, 1067, 1068, 1069, 1070, 1071, 1072, 1073, 1074, 1017, 1018, 1019, 1020, 1021, 1022, 1023, 1024, 1025] (by decide +kernel) (by decide +kernel)
set_option maxRecDepth 20000 in
theorem gL_law_X8_learner : GoodIn wsL_lawN (wsV RL 29 RX8 yX8_learner wsX8_learner) := goodIn_app (goodIn_of _ (by decide +kernel)) ggL_law_X8_learner
set_option maxRecDepth 20000 in
theorem ggL_law_X9_learner : GoodIn wsL_lawN wsX9_learner := goodIn_r _ [266, 159, 229, 125, 126, 127, 128, 129, 130, 131, 228, 132, 133, 955, 956, 957, 958, 959, 960, 961, 962, 963, 964, 965, 966, 967, 968, 969, 970, 971, 972, 973, 974, 975, 976, 977, 978, 979, 980, 981, 982, 983, 984, 985, 986, 987, 988, 989, 990, 991, 992, 993, 994, 995, 996, 997, 998, 999, 1000, 1001, 1002, 1003, 1004, 1005, 1006, 1007, 1008, 1009, 1010, 1011, 1012, 1013, 1014, 1015, 1016] (by decide +kernel) (by decide +kernel)
set_option maxRecDepth 20000 in
theorem gL_law_X9_learner : GoodIn wsL_lawN (wsV RL 33 RX9 yX9_learner wsX9_learner) := goodIn_app (goodIn_of _ (by decide +kernel)) ggL_law_X9_learner
set_option maxRecDepth 20000 in
theorem ggL_law_X8_feed : GoodIn wsL_lawN wsX8_feed := goodIn_r _ [270, 29, 271, 272, 273, 274, 28, 275, 276, 67, 171, 2, 172, 945, 946, 947, 948, 949, 950, 951, 952, 953, 954, 1029, 1030] (by decide +kernel) (by decide +kernel)
set_option maxRecDepth 20000 in
theorem gL_law_X8_feed : GoodIn wsL_lawN (wsV RL 36 RX8 yX8_feed wsX8_feed) := goodIn_app (goodIn_of _ (by decide +kernel)) ggL_law_X8_feed
set_option maxRecDepth 20000 in
theorem ggL_law_X9_feed : GoodIn wsL_lawN wsX9_feed := goodIn_r _ [280, 159, 281, 282, 283, 284, 5, 285, 97, 955, 956, 957, 958, 959, 960, 961, 962, 963, 964, 965, 966, 967, 968, 969, 970, 971, 972, 973, 974, 975, 976, 977, 978, 979, 980, 981, 982, 983, 984, 985, 986, 987, 988, 989, 990, 991, 992, 993, 994, 995, 996, 997, 998, 999, 1000, 1001, 1002, 1003, 1004, 1005, 1006, 1007, 1008, 1009, 1010, 1011, 1012, 1013, 1014, 1015, 1016] (by decide +kernel) (by decide +kernel)
set_option maxRecDepth 20000 in
theorem gL_law_X9_feed : GoodIn wsL_lawN (wsV RL 40 RX9 yX9_feed wsX9_feed) := goodIn_app (goodIn_of _ (by decide +kernel)) ggL_law_X9_feed
set_option maxRecDepth 20000 in
theorem ggL_law_X8_text : GoodIn wsL_lawN wsX8_text := goodIn_r _ [289, 33, 29, 42, 271, 41, 290, 291, 292, 32, 293, 294, 295, 296, 297, 298, 299, 300, 301, 302, 303, 40, 304, 305, 306, 307, 308, 309, 310, 311, 312, 313, 314, 315, 316, 317, 318, 319, 320, 321, 322, 323, 324, 325, 326, 327, 328, 329, 330, 331, 332, 333, 334, 335, 336, 337, 338, 339, 340, 341, 342, 343, 344, 345, 346, 347, 348, 349, 350, 351, 352, 353, 354, 355, 356, 357, 358, 359, 360, 361, 362, 363, 364, 365, 366, 367, 368, 369, 370, 371, 372, 373, 374, 375, 376, 377, 378, 379, 380, 381, 382, 383, 384, 385, 386, 387, 388, 389, 390, 391, 392, 393, 394, 395, 396, 71, 72, 397, 398, 399, 400, 401, 402, 403, 404, 405, 406, 407, 408, 409, 410, 411, 412, 413, 414, 415, 416, 417, 418, 419, 420, 91, 421, 422, 423, 424, 425, 426, 427, 428, 429, 430, 431, 432, 433, 89, 90, 434, 435, 436, 437, 945, 946, 947, 948, 949, 950, 951, 952, 953, 954, 1029, 1030, 1031, 1032, 1033, 1034, 1035, 1036, 1037, 1038, 1057, 1058, 1059, 1060, 1061, 1062] (by decide +kernel) (by decide +kernel)
set_option maxRecDepth 20000 in
theorem gL_law_X8_text : GoodIn wsL_lawN (wsV RL 41 RX8 yX8_text wsX8_text) := goodIn_app (goodIn_of _ (by decide +kernel)) ggL_law_X8_text
set_option maxRecDepth 20000 in
theorem ggL_law_X9_text : GoodIn wsL_lawN wsX9_text := goodIn_r _ [441, 159, 442, 443, 111, 444, 445, 98, 446, 447, 448, 449, 5, 450, 281, 451, 97, 99, 452, 453, 454, 100, 455, 456, 457, 458, 459, 460, 461, 462, 463, 464, 465, 466, 467, 468, 469, 470, 471, 112, 113, 472, 473, 474, 475, 476, 110, 477, 478, 479, 480, 481, 482, 483, 484, 485, 486, 487, 488, 489, 490, 491, 492, 116, 117, 118, 493, 494, 495, 496, 497, 498, 499, 500, 501, 502, 503, 504, 505, 506, 507, 508, 509, 510, 511, 512, 114, 115, 513, 514, 515, 516, 517, 518, 519, 520, 955, 956, 957, 958, 959, 960, 961, 962, 963, 964, 965, 966, 967, 968, 969, 970, 971, 972, 973, 974, 975, 976, 977, 978, 979, 980, 981, 982, 983, 984, 985, 986, 987, 988, 989, 990, 991, 992, 993, 994, 995, 996, 997, 998, 999, 1000, 1001, 1002, 1003, 1004, 1005, 1006, 1007, 1008, 1009, 1010, 1011, 1012, 1013, 1014, 1015, 1016] (by decide +kernel) (by decide +kernel)
set_option maxRecDepth 20000 in
theorem gL_law_X9_text : GoodIn wsL_lawN (wsV RL 44 RX9 yX9_text wsX9_text) := goodIn_app (goodIn_of _ (by decide +kernel)) ggL_law_X9_text
