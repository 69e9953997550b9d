set_option maxRecDepth 20000 in
theorem ggL_law_X9_route : GoodIn wsL_lawN wsX9_route := goodIn_r _ [876, 159, 858, 836, 837, 5, 838, 839, 840, 841, 842, 843, 844, 845, 846, 847, 848, 849, 850, 851, 852, 784, 142, 143, 138, 139, 144, 140, 141, 853, 854, 855, 856, 857, 145, 955, 956, 957, 958, 959, 960, 961, 962, 963, 964, 965, 966, 967, 968, 969, 970, 971, 972, 973, 974, 975, 976, 977, 978, 979, 980, 981, 982, 983, 984, 985, 986, 987, 988, 989, 990, 991, 992, 993, 994, 995, 996, 997, 998, 999, 1000, 1001, 1002, 1003, 1004, 1005, 1006, 1007, 1008, 1009, 1010, 1011, 1012, 1013, 1014, 1015, 1016] (by decide +kernel) (by decide +kernel)
set_option maxRecDepth 20000 in
theorem gL_law_X9_route : GoodIn wsL_lawN (wsV RL 101 RX9 yX9_route wsX9_route) := goodIn_app (goodIn_of _ (by decide +kernel)) ggL_law_X9_route
set_option maxRecDepth 20000 in
theorem ggL_law_X8_part : GoodIn wsL_lawN wsX8_part := goodIn_r _ [880, 37, 881, 882, 883, 36, 884, 871, 85, 171, 2, 172, 945, 946, 947, 948, 949, 950, 951, 952, 953, 954, 1039, 1040, 1041, 1042, 1043, 1044, 1045, 1046, 1047, 1048, 1049, 1050, 1051, 1052, 1053, 1054, 1055, 1056] (by decide +kernel) (by decide +kernel)
set_option maxRecDepth 20000 in
theorem gL_law_X8_part : GoodIn wsL_lawN (wsV RL 102 RX8 yX8_part wsX8_part) := goodIn_app (goodIn_of _ (by decide +kernel)) ggL_law_X8_part
set_option maxRecDepth 20000 in
theorem ggL_law_X9_part_ : GoodIn wsL_lawN wsX9_part_ := goodIn_r _ [888, 159, 857, 145, 955, 956, 957, 958, 959, 960, 961, 962, 963, 964, 965, 966, 967, 968, 969, 970, 971, 972, 973, 974, 975, 976, 977, 978, 979, 980, 981, 982, 983, 984, 985, 986, 987, 988, 989, 990, 991, 992, 993, 994, 995, 996, 997, 998, 999, 1000, 1001, 1002, 1003, 1004, 1005, 1006, 1007, 1008, 1009, 1010, 1011, 1012, 1013, 1014, 1015, 1016] (by decide +kernel) (by decide +kernel)
set_option maxRecDepth 20000 in
theorem gL_law_X9_part_ : GoodIn wsL_lawN (wsV RL 105 RX9 yX9_part_ wsX9_part_) := goodIn_app (goodIn_of _ (by decide +kernel)) ggL_law_X9_part_
set_option maxRecDepth 20000 in
theorem ggL_law_X8_differs : GoodIn wsL_lawN wsX8_differs := goodIn_r _ [892, 17, 166, 167, 168, 16, 169, 154, 170, 171, 2, 172, 893, 894, 895, 896, 712, 713, 897, 898, 899, 900, 901, 52, 177, 902, 903, 904, 905, 53, 945, 946, 947, 948, 949, 950, 951, 952, 953, 954, 1017, 1018, 1019, 1020, 1021, 1022, 1023, 1024, 1025] (by decide +kernel) (by decide +kernel)
set_option maxRecDepth 20000 in
theorem gL_law_X8_differs : GoodIn wsL_lawN (wsV RL 106 RX8 yX8_differs wsX8_differs) := goodIn_app (goodIn_of _ (by decide +kernel)) ggL_law_X8_differs
set_option maxRecDepth 20000 in
theorem ggL_law_X9_differs : GoodIn wsL_lawN wsX9_differs := goodIn_r _ [909, 159, 160, 123, 124, 910, 955, 956, 957, 958, 959, 960, 961, 962, 963, 964, 965, 966, 967, 968, 969, 970, 971, 972, 973, 974, 975, 976, 977, 978, 979, 980, 981, 982, 983, 984, 985, 986, 987, 988, 989, 990, 991, 992, 993, 994, 995, 996, 997, 998, 999, 1000, 1001, 1002, 1003, 1004, 1005, 1006, 1007, 1008, 1009, 1010, 1011, 1012, 1013, 1014, 1015, 1016] (by decide +kernel) (by decide +kernel)
set_option maxRecDepth 20000 in
theorem gL_law_X9_differs : GoodIn wsL_lawN (wsV RL 109 RX9 yX9_differs wsX9_differs) := goodIn_app (goodIn_of _ (by decide +kernel)) ggL_law_X9_differs
set_option maxRecDepth 20000 in
theorem ggL_law_X8_count : GoodIn wsL_lawN wsX8_count := goodIn_r _ [914, 17, 915, 43, 165, 41, 916, 29, 271, 37, 917, 918, 919, 920, 921, 2, 922, 19, 184, 945, 946, 947, 948, 949, 950, 951, 952, 953, 954, 1017, 1018, 1019, 1020, 1021, 1022, 1023, 1024, 1025, 1057, 1058, 1059, 1060, 1061, 1062, 1029, 1030, 1039, 1040, 1041, 1042, 1043, 1044, 1045, 1046, 1047, 1048, 1049, 1050, 1051, 1052, 1053, 1054, 1055, 1056, 1063, 1064, 1065, 1066, 1067, 1068, 1069, 1070, 1071, 1072, 1073, 1074] (by decide +kernel) (by decide +kernel)
set_option maxRecDepth 20000 in
theorem gL_law_X8_count : GoodIn wsL_lawN (wsV RL 110 RX8 yX8_count wsX8_count) := goodIn_app (goodIn_of _ (by decide +kernel)) ggL_law_X8_count
set_option maxRecDepth 20000 in
theorem ggL_law_X9_count : GoodIn wsL_lawN wsX9_count := goodIn_r _ [926, 159, 160, 229, 228, 111, 442, 281, 784, 718, 927, 928, 929, 5, 930, 132, 955, 956, 957, 958, 959, 960, 961, 962, 963, 964, 965, 966, 967, 968, 969, 970, 971, 972, 973, 974, 975, 976, 977, 978, 979, 980, 981, 982, 983, 984, 985, 986, 987, 988, 989, 990, 991, 992, 993, 994, 995, 996, 997, 998, 999, 1000, 1001, 1002, 1003, 1004, 1005, 1006, 1007, 1008, 1009, 1010, 1011, 1012, 1013, 1014, 1015, 1016] (by decide +kernel) (by decide +kernel)
set_option maxRecDepth 20000 in
theorem gL_law_X9_count : GoodIn wsL_lawN (wsV RL 113 RX9 yX9_count wsX9_count) := goodIn_app (goodIn_of _ (by decide +kernel)) ggL_law_X9_count
set_option maxRecDepth 20000 in
theorem ggL_law_X8_load : GoodIn wsL_lawN wsX8_load := goodIn_r _ [934, 17, 166, 167, 168, 16, 169, 154, 935, 899, 900, 901, 52, 177, 936, 903, 904, 905, 53, 937, 938, 939, 2, 940, 43, 19, 184, 185, 186, 187, 188, 945, 946, 947, 948, 949, 950, 951, 952, 953, 954, 1017, 1018, 1019, 1020, 1021, 1022, 1023, 1024, 1025, 1063, 1064, 1065, 1066, 1067, 1068, 1069, 1070, 1071, 1072, 1073, 1074] (by decide +kernel) (by decide +kernel)
set_option maxRecDepth 20000 in
theorem gL_law_X8_load : GoodIn wsL_lawN (wsV RL 114 RX8 yX8_load wsX8_load) := goodIn_app (goodIn_of _ (by decide +kernel)) ggL_law_X8_load
set_option maxRecDepth 20000 in
theorem ggL_law_X9_load : GoodIn wsL_lawN wsX9_load := goodIn_r _ [944, 159, 160, 229, 132, 133, 123, 124, 955, 956, 957, 958, 959, 960, 961, 962, 963, 964, 965, 966, 967, 968, 969, 970, 971, 972, 973, 974, 975, 976, 977, 978, 979, 980, 981, 982, 983, 984, 985, 986, 987, 988, 989, 990, 991, 992, 993, 994, 995, 996, 997, 998, 999, 1000, 1001, 1002, 1003, 1004, 1005, 1006, 1007, 1008, 1009, 1010, 1011, 1012, 1013, 1014, 1015, 1016] (by decide +kernel) (by decide +kernel)
set_option maxRecDepth 20000 in
theorem gL_law_X9_load : GoodIn wsL_lawN (wsV RL 117 RX9 yX9_load wsX9_load) := goodIn_app (goodIn_of _ (by decide +kernel)) ggL_law_X9_load
