set_option maxRecDepth 20000 in
theorem ggL_law_L_look : GoodIn wsL_lawN wsL_lookN := goodIn_ca (goodIn_r _ [722, 723, 724, 725, 726, 2, 727, 728, 729, 184, 185, 539, 646, 561, 562, 563, 564, 43, 19, 170, 171, 172, 730, 731, 732, 733, 23, 253, 525, 526, 527, 528, 529, 530, 531, 22, 532, 533, 534, 535, 536, 537, 25, 248, 193, 17, 165, 538, 250, 41, 540, 541, 542, 40, 543, 305, 90, 89, 544, 545, 546, 547, 91, 92, 548, 549, 550, 551, 552, 553, 554, 62, 61, 734, 735, 736, 737, 1063, 1064, 1065, 1066, 1067, 1068, 1069, 1070, 1071, 1072, 1073, 1074, 945, 946, 947, 948, 949, 950, 951, 952, 953, 954, 1026, 1027, 1028, 1017, 1018, 1019, 1020, 1021, 1022, 1023, 1024, 1025, 1057, 1058, 1059, 1060, 1061, 1062] (by decide +kernel) (by decide +kernel)) (goodIn_sub (fun _ h => List.mem_append_right _ h) (by decide +kernel))
set_option maxRecDepth 20000 in
theorem gL_law_L_look : GoodIn wsL_lawN (va_wsS RL 72 yL_look wsL_lookN) := goodIn_app (goodIn_of _ (by decide +kernel)) ggL_law_L_look
set_option maxRecDepth 20000 in
theorem ggL_law_X9_look : GoodIn wsL_lawN wsX9_look := goodIn_r _ [741, 159, 132, 133, 134, 135, 664, 665, 666, 5, 667, 229, 742, 743, 744, 745, 602, 603, 604, 605, 136, 606, 607, 608, 609, 119, 126, 125, 228, 131, 128, 442, 111, 113, 112, 610, 611, 612, 613, 114, 120, 115, 618, 619, 620, 621, 955, 956, 957, 958, 959, 960, 961, 962, 963, 964, 965, 966, 967, 968, 969, 970, 971, 972, 973, 974, 975, 976, 977, 978, 979, 980, 981, 982, 983, 984, 985, 986, 987, 988, 989, 990, 991, 992, 993, 994, 995, 996, 997, 998, 999, 1000, 1001, 1002, 1003, 1004, 1005, 1006, 1007, 1008, 1009, 1010, 1011, 1012, 1013, 1014, 1015, 1016] (by decide +kernel) (by decide +kernel)
set_option maxRecDepth 20000 in
theorem gL_law_X9_look : GoodIn wsL_lawN (wsV RL 77 RX9 yX9_look wsX9_look) := goodIn_app (goodIn_of _ (by decide +kernel)) ggL_law_X9_look
set_option maxRecDepth 20000 in
theorem ggL_law_X9_thrown : GoodIn wsL_lawN wsX9_thrown := goodIn_r _ [749, 159, 955, 956, 957, 958, 959, 960, 961, 962, 963, 964, 965, 966, 967, 968, 969, 970, 971, 972, 973, 974, 975, 976, 977, 978, 979, 980, 981, 982, 983, 984, 985, 986, 987, 988, 989, 990, 991, 992, 993, 994, 995, 996, 997, 998, 999, 1000, 1001, 1002, 1003, 1004, 1005, 1006, 1007, 1008, 1009, 1010, 1011, 1012, 1013, 1014, 1015, 1016] (by decide +kernel) (by decide +kernel)
set_option maxRecDepth 20000 in
theorem gL_law_X9_thrown : GoodIn wsL_lawN (wsV RL 78 RX9 yX9_thrown wsX9_thrown) := goodIn_app (goodIn_of _ (by decide +kernel)) ggL_law_X9_thrown
set_option maxRecDepth 20000 in
theorem ggL_law_X8_at : GoodIn wsL_lawN wsX8_at := goodIn_r _ [753, 17, 254, 178, 2, 179, 170, 171, 172, 166, 167, 168, 16, 169, 154, 200, 201, 202, 203, 204, 205, 206, 207, 48, 208, 209, 210, 754, 583, 584, 755, 756, 757, 758, 51, 220, 221, 222, 223, 945, 946, 947, 948, 949, 950, 951, 952, 953, 954, 1017, 1018, 1019, 1020, 1021, 1022, 1023, 1024, 1025] (by decide +kernel) (by decide +kernel)
set_option maxRecDepth 20000 in
theorem gL_law_X8_at : GoodIn wsL_lawN (wsV RL 81 RX8 yX8_at wsX8_at) := goodIn_app (goodIn_of _ (by decide +kernel)) ggL_law_X8_at
set_option maxRecDepth 20000 in
theorem ggL_law_X9_at : GoodIn wsL_lawN wsX9_at := goodIn_r _ [762, 159, 160, 234, 235, 236, 5, 237, 121, 626, 627, 628, 629, 229, 132, 133, 955, 956, 957, 958, 959, 960, 961, 962, 963, 964, 965, 966, 967, 968, 969, 970, 971, 972, 973, 974, 975, 976, 977, 978, 979, 980, 981, 982, 983, 984, 985, 986, 987, 988, 989, 990, 991, 992, 993, 994, 995, 996, 997, 998, 999, 1000, 1001, 1002, 1003, 1004, 1005, 1006, 1007, 1008, 1009, 1010, 1011, 1012, 1013, 1014, 1015, 1016] (by decide +kernel) (by decide +kernel)
set_option maxRecDepth 20000 in
theorem gL_law_X9_at : GoodIn wsL_lawN (wsV RL 85 RX9 yX9_at wsX9_at) := goodIn_app (goodIn_of _ (by decide +kernel)) ggL_law_X9_at
set_option maxRecDepth 20000 in
theorem ggL_law_X8_street : GoodIn wsL_lawN wsX8_street := goodIn_r _ [766, 37, 767, 768, 769, 36, 770, 771, 76, 77, 78, 79, 772, 773, 774, 775, 83, 171, 2, 172, 776, 777, 778, 779, 82, 945, 946, 947, 948, 949, 950, 951, 952, 953, 954, 1039, 1040, 1041, 1042, 1043, 1044, 1045, 1046, 1047, 1048, 1049, 1050, 1051, 1052, 1053, 1054, 1055, 1056] (by decide +kernel) (by decide +kernel)
set_option maxRecDepth 20000 in
theorem gL_law_X8_street : GoodIn wsL_lawN (wsV RL 86 RX8 yX8_street wsX8_street) := goodIn_app (goodIn_of _ (by decide +kernel)) ggL_law_X8_street
set_option maxRecDepth 20000 in
theorem ggL_law_X9_street : GoodIn wsL_lawN wsX9_street := goodIn_r _ [783, 159, 784, 138, 139, 140, 141, 785, 786, 787, 5, 788, 955, 956, 957, 958, 959, 960, 961, 962, 963, 964, 965, 966, 967, 968, 969, 970, 971, 972, 973, 974, 975, 976, 977, 978, 979, 980, 981, 982, 983, 984, 985, 986, 987, 988, 989, 990, 991, 992, 993, 994, 995, 996, 997, 998, 999, 1000, 1001, 1002, 1003, 1004, 1005, 1006, 1007, 1008, 1009, 1010, 1011, 1012, 1013, 1014, 1015, 1016] (by decide +kernel) (by decide +kernel)
set_option maxRecDepth 20000 in
theorem gL_law_X9_street : GoodIn wsL_lawN (wsV RL 89 RX9 yX9_street wsX9_street) := goodIn_app (goodIn_of _ (by decide +kernel)) ggL_law_X9_street
set_option maxRecDepth 20000 in
theorem ggL_law_X8_close : GoodIn wsL_lawN wsX8_close := goodIn_r _ [792, 37, 793, 794, 795, 36, 796, 771, 80, 171, 2, 172, 945, 946, 947, 948, 949, 950, 951, 952, 953, 954, 1039, 1040, 1041, 1042, 1043, 1044, 1045, 1046, 1047, 1048, 1049, 1050, 1051, 1052, 1053, 1054, 1055, 1056] (by decide +kernel) (by decide +kernel)
set_option maxRecDepth 20000 in
theorem gL_law_X8_close : GoodIn wsL_lawN (wsV RL 90 RX8 yX8_close wsX8_close) := goodIn_app (goodIn_of _ (by decide +kernel)) ggL_law_X8_close
set_option maxRecDepth 20000 in
theorem ggL_law_X9_close : GoodIn wsL_lawN wsX9_close := goodIn_r _ [800, 159, 784, 142, 955, 956, 957, 958, 959, 960, 961, 962, 963, 964, 965, 966, 967, 968, 969, 970, 971, 972, 973, 974, 975, 976, 977, 978, 979, 980, 981, 982, 983, 984, 985, 986, 987, 988, 989, 990, 991, 992, 993, 994, 995, 996, 997, 998, 999, 1000, 1001, 1002, 1003, 1004, 1005, 1006, 1007, 1008, 1009, 1010, 1011, 1012, 1013, 1014, 1015, 1016] (by decide +kernel) (by decide +kernel)
set_option maxRecDepth 20000 in
theorem gL_law_X9_close : GoodIn wsL_lawN (wsV RL 93 RX9 yX9_close wsX9_close) := goodIn_app (goodIn_of _ (by decide +kernel)) ggL_law_X9_close
set_option maxRecDepth 20000 in
theorem ggL_law_X8_routes : GoodIn wsL_lawN wsX8_routes := goodIn_r _ [804, 37, 805, 806, 807, 36, 808, 809, 810, 811, 812, 171, 2, 172, 813, 814, 815, 816, 817, 818, 819, 820, 821, 83, 82, 84, 76, 77, 78, 79, 822, 823, 824, 825, 771, 80, 826, 827, 828, 829, 830, 831, 945, 946, 947, 948, 949, 950, 951, 952, 953, 954, 1039, 1040, 1041, 1042, 1043, 1044, 1045, 1046, 1047, 1048, 1049, 1050, 1051, 1052, 1053, 1054, 1055, 1056] (by decide +kernel) (by decide +kernel)
set_option maxRecDepth 20000 in
theorem gL_law_X8_routes : GoodIn wsL_lawN (wsV RL 94 RX8 yX8_routes wsX8_routes) := goodIn_app (goodIn_of _ (by decide +kernel)) ggL_law_X8_routes
set_option maxRecDepth 20000 in
theorem ggL_law_X9_routes : GoodIn wsL_lawN wsX9_routes := goodIn_r _ [835, 159, 836, 837, 5, 838, 839, 840, 841, 842, 843, 844, 845, 846, 847, 848, 849, 850, 851, 852, 784, 142, 143, 138, 139, 144, 140, 141, 853, 854, 855, 856, 857, 858, 145, 955, 956, 957, 958, 959, 960, 961, 962, 963, 964, 965, 966, 967, 968, 969, 970, 971, 972, 973, 974, 975, 976, 977, 978, 979, 980, 981, 982, 983, 984, 985, 986, 987, 988, 989, 990, 991, 992, 993, 994, 995, 996, 997, 998, 999, 1000, 1001, 1002, 1003, 1004, 1005, 1006, 1007, 1008, 1009, 1010, 1011, 1012, 1013, 1014, 1015, 1016] (by decide +kernel) (by decide +kernel)
set_option maxRecDepth 20000 in
theorem gL_law_X9_routes : GoodIn wsL_lawN (wsV RL 97 RX9 yX9_routes wsX9_routes) := goodIn_app (goodIn_of _ (by decide +kernel)) ggL_law_X9_routes
set_option maxRecDepth 20000 in
theorem ggL_law_X8_route : GoodIn wsL_lawN wsX8_route := goodIn_r _ [862, 37, 863, 864, 865, 36, 866, 84, 85, 867, 868, 869, 870, 830, 871, 831, 872, 806, 807, 808, 809, 810, 811, 812, 171, 2, 172, 813, 814, 815, 816, 817, 818, 819, 820, 821, 83, 82, 76, 77, 78, 79, 822, 823, 824, 825, 771, 80, 826, 827, 828, 829, 945, 946, 947, 948, 949, 950, 951, 952, 953, 954, 1039, 1040, 1041, 1042, 1043, 1044, 1045, 1046, 1047, 1048, 1049, 1050, 1051, 1052, 1053, 1054, 1055, 1056] (by decide +kernel) (by decide +kernel)
set_option maxRecDepth 20000 in
theorem gL_law_X8_route : GoodIn wsL_lawN (wsV RL 98 RX8 yX8_route wsX8_route) := goodIn_app (goodIn_of _ (by decide +kernel)) ggL_law_X8_route
