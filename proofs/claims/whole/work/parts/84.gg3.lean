set_option maxRecDepth 20000 in
theorem ggL_law_L_look : GoodIn wsL_lawN wsL_lookN := goodIn_ca (goodIn_r _ [726, 727, 728, 729, 730, 2, 731, 732, 733, 184, 185, 539, 650, 561, 562, 563, 564, 43, 19, 170, 171, 172, 734, 735, 736, 737, 23, 253, 525, 526, 527, 528, 529, 530, 531, 22, 532, 533, 534, 535, 536, 537, 25, 248, 193, 17, 165, 538, 250, 41, 540, 541, 542, 40, 543, 305, 90, 89, 544, 545, 546, 547, 91, 92, 548, 549, 550, 551, 552, 553, 554, 62, 61, 738, 739, 740, 741, 1067, 1068, 1069, 1070, 1071, 1072, 1073, 1074, 1075, 1076, 1077, 1078, 949, 950, 951, 952, 953, 954, 955, 956, 957, 958, 1030, 1031, 1032, 1021, 1022, 1023, 1024, 1025, 1026, 1027, 1028, 1029, 1061, 1062, 1063, 1064, 1065, 1066] (by decide +kernel) (by decide +kernel)) (goodIn_sub (fun _ h => List.mem_append_right _ h) (by decide +kernel))
set_option maxRecDepth 20000 in
theorem gL_law_L_look : GoodIn wsL_lawN (va_wsS RL 72 yL_look wsL_lookN) := goodIn_app (goodIn_of _ (by decide +kernel)) ggL_law_L_look
set_option maxRecDepth 20000 in
theorem ggL_law_X9_look : GoodIn wsL_lawN wsX9_look := goodIn_r _ [745, 159, 132, 133, 134, 135, 668, 669, 670, 5, 671, 229, 746, 747, 748, 749, 606, 607, 608, 609, 136, 610, 611, 612, 613, 119, 126, 125, 228, 131, 128, 442, 111, 113, 112, 614, 615, 616, 617, 114, 120, 115, 622, 623, 624, 625, 959, 960, 961, 962, 963, 964, 965, 966, 967, 968, 969, 970, 971, 972, 973, 974, 975, 976, 977, 978, 979, 980, 981, 982, 983, 984, 985, 986, 987, 988, 989, 990, 991, 992, 993, 994, 995, 996, 997, 998, 999, 1000, 1001, 1002, 1003, 1004, 1005, 1006, 1007, 1008, 1009, 1010, 1011, 1012, 1013, 1014, 1015, 1016, 1017, 1018, 1019, 1020] (by decide +kernel) (by decide +kernel)
set_option maxRecDepth 20000 in
theorem gL_law_X9_look : GoodIn wsL_lawN (wsV RL 77 RX9 yX9_look wsX9_look) := goodIn_app (goodIn_of _ (by decide +kernel)) ggL_law_X9_look
set_option maxRecDepth 20000 in
theorem ggL_law_X9_thrown : GoodIn wsL_lawN wsX9_thrown := goodIn_r _ [753, 159, 959, 960, 961, 962, 963, 964, 965, 966, 967, 968, 969, 970, 971, 972, 973, 974, 975, 976, 977, 978, 979, 980, 981, 982, 983, 984, 985, 986, 987, 988, 989, 990, 991, 992, 993, 994, 995, 996, 997, 998, 999, 1000, 1001, 1002, 1003, 1004, 1005, 1006, 1007, 1008, 1009, 1010, 1011, 1012, 1013, 1014, 1015, 1016, 1017, 1018, 1019, 1020] (by decide +kernel) (by decide +kernel)
set_option maxRecDepth 20000 in
theorem gL_law_X9_thrown : GoodIn wsL_lawN (wsV RL 78 RX9 yX9_thrown wsX9_thrown) := goodIn_app (goodIn_of _ (by decide +kernel)) ggL_law_X9_thrown
set_option maxRecDepth 20000 in
theorem ggL_law_X8_at : GoodIn wsL_lawN wsX8_at := goodIn_r _ [757, 17, 254, 178, 2, 179, 170, 171, 172, 166, 167, 168, 16, 169, 154, 200, 201, 202, 203, 204, 205, 206, 207, 48, 208, 209, 210, 758, 587, 588, 759, 760, 761, 762, 51, 220, 221, 222, 223, 949, 950, 951, 952, 953, 954, 955, 956, 957, 958, 1021, 1022, 1023, 1024, 1025, 1026, 1027, 1028, 1029] (by decide +kernel) (by decide +kernel)
set_option maxRecDepth 20000 in
theorem gL_law_X8_at : GoodIn wsL_lawN (wsV RL 81 RX8 yX8_at wsX8_at) := goodIn_app (goodIn_of _ (by decide +kernel)) ggL_law_X8_at
set_option maxRecDepth 20000 in
theorem ggL_law_X9_at : GoodIn wsL_lawN wsX9_at := goodIn_r _ [766, 159, 160, 234, 235, 236, 5, 237, 121, 630, 631, 632, 633, 229, 132, 133, 959, 960, 961, 962, 963, 964, 965, 966, 967, 968, 969, 970, 971, 972, 973, 974, 975, 976, 977, 978, 979, 980, 981, 982, 983, 984, 985, 986, 987, 988, 989, 990, 991, 992, 993, 994, 995, 996, 997, 998, 999, 1000, 1001, 1002, 1003, 1004, 1005, 1006, 1007, 1008, 1009, 1010, 1011, 1012, 1013, 1014, 1015, 1016, 1017, 1018, 1019, 1020] (by decide +kernel) (by decide +kernel)
set_option maxRecDepth 20000 in
theorem gL_law_X9_at : GoodIn wsL_lawN (wsV RL 85 RX9 yX9_at wsX9_at) := goodIn_app (goodIn_of _ (by decide +kernel)) ggL_law_X9_at
set_option maxRecDepth 20000 in
theorem ggL_law_X8_street : GoodIn wsL_lawN wsX8_street := goodIn_r _ [770, 37, 771, 772, 773, 36, 774, 775, 76, 77, 78, 79, 776, 777, 778, 779, 83, 171, 2, 172, 780, 781, 782, 783, 82, 949, 950, 951, 952, 953, 954, 955, 956, 957, 958, 1043, 1044, 1045, 1046, 1047, 1048, 1049, 1050, 1051, 1052, 1053, 1054, 1055, 1056, 1057, 1058, 1059, 1060] (by decide +kernel) (by decide +kernel)
set_option maxRecDepth 20000 in
theorem gL_law_X8_street : GoodIn wsL_lawN (wsV RL 86 RX8 yX8_street wsX8_street) := goodIn_app (goodIn_of _ (by decide +kernel)) ggL_law_X8_street
set_option maxRecDepth 20000 in
theorem ggL_law_X9_street : GoodIn wsL_lawN wsX9_street := goodIn_r _ [787, 159, 788, 138, 139, 140, 141, 789, 790, 791, 5, 792, 959, 960, 961, 962, 963, 964, 965, 966, 967, 968, 969, 970, 971, 972, 973, 974, 975, 976, 977, 978, 979, 980, 981, 982, 983, 984, 985, 986, 987, 988, 989, 990, 991, 992, 993, 994, 995, 996, 997, 998, 999, 1000, 1001, 1002, 1003, 1004, 1005, 1006, 1007, 1008, 1009, 1010, 1011, 1012, 1013, 1014, 1015, 1016, 1017, 1018, 1019, 1020] (by decide +kernel) (by decide +kernel)
set_option maxRecDepth 20000 in
theorem gL_law_X9_street : GoodIn wsL_lawN (wsV RL 89 RX9 yX9_street wsX9_street) := goodIn_app (goodIn_of _ (by decide +kernel)) ggL_law_X9_street
set_option maxRecDepth 20000 in
theorem ggL_law_X8_close : GoodIn wsL_lawN wsX8_close := goodIn_r _ [796, 37, 797, 798, 799, 36, 800, 775, 80, 171, 2, 172, 949, 950, 951, 952, 953, 954, 955, 956, 957, 958, 1043, 1044, 1045, 1046, 1047, 1048, 1049, 1050, 1051, 1052, 1053, 1054, 1055, 1056, 1057, 1058, 1059, 1060] (by decide +kernel) (by decide +kernel)
set_option maxRecDepth 20000 in
theorem gL_law_X8_close : GoodIn wsL_lawN (wsV RL 90 RX8 yX8_close wsX8_close) := goodIn_app (goodIn_of _ (by decide +kernel)) ggL_law_X8_close
set_option maxRecDepth 20000 in
theorem ggL_law_X9_close : GoodIn wsL_lawN wsX9_close := goodIn_r _ [804, 159, 788, 142, 959, 960, 961, 962, 963, 964, 965, 966, 967, 968, 969, 970, 971, 972, 973, 974, 975, 976, 977, 978, 979, 980, 981, 982, 983, 984, 985, 986, 987, 988, 989, 990, 991, 992, 993, 994, 995, 996, 997, 998, 999, 1000, 1001, 1002, 1003, 1004, 1005, 1006, 1007, 1008, 1009, 1010, 1011, 1012, 1013, 1014, 1015, 1016, 1017, 1018, 1019, 1020] (by decide +kernel) (by decide +kernel)
set_option maxRecDepth 20000 in
theorem gL_law_X9_close : GoodIn wsL_lawN (wsV RL 93 RX9 yX9_close wsX9_close) := goodIn_app (goodIn_of _ (by decide +kernel)) ggL_law_X9_close
set_option maxRecDepth 20000 in
theorem ggL_law_X8_routes : GoodIn wsL_lawN wsX8_routes := goodIn_r _ [808, 37, 809, 810, 811, 36, 812, 813, 814, 815, 816, 171, 2, 172, 817, 818, 819, 820, 821, 822, 823, 824, 825, 83, 82, 84, 76, 77, 78, 79, 826, 827, 828, 829, 775, 80, 830, 831, 832, 833, 834, 835, 949, 950, 951, 952, 953, 954, 955, 956, 957, 958, 1043, 1044, 1045, 1046, 1047, 1048, 1049, 1050, 1051, 1052, 1053, 1054, 1055, 1056, 1057, 1058, 1059, 1060] (by decide +kernel) (by decide +kernel)
set_option maxRecDepth 20000 in
theorem gL_law_X8_routes : GoodIn wsL_lawN (wsV RL 94 RX8 yX8_routes wsX8_routes) := goodIn_app (goodIn_of _ (by decide +kernel)) ggL_law_X8_routes
set_option maxRecDepth 20000 in
theorem ggL_law_X9_routes : GoodIn wsL_lawN wsX9_routes := goodIn_r _ [839, 159, 840, 841, 5, 842, 843, 844, 845, 846, 847, 848, 849, 850, 851, 852, 853, 854, 855, 856, 788, 142, 143, 138, 139, 144, 140, 141, 857, 858, 859, 860, 861, 862, 145, 959, 960, 961, 962, 963, 964, 965, 966, 967, 968, 969, 970, 971, 972, 973, 974, 975, 976, 977, 978, 979, 980, 981, 982, 983, 984, 985, 986, 987, 988, 989, 990, 991, 992, 993, 994, 995, 996, 997, 998, 999, 1000, 1001, 1002, 1003, 1004, 1005, 1006, 1007, 1008, 1009, 1010, 1011, 1012, 1013, 1014, 1015, 1016, 1017, 1018, 1019, 1020] (by decide +kernel) (by decide +kernel)
set_option maxRecDepth 20000 in
theorem gL_law_X9_routes : GoodIn wsL_lawN (wsV RL 97 RX9 yX9_routes wsX9_routes) := goodIn_app (goodIn_of _ (by decide +kernel)) ggL_law_X9_routes
set_option maxRecDepth 20000 in
theorem ggL_law_X8_route : GoodIn wsL_lawN wsX8_route := goodIn_r _ [866, 37, 867, 868, 869, 36, 870, 84, 85, 871, 872, 873, 874, 834, 875, 835, 876, 810, 811, 812, 813, 814, 815, 816, 171, 2, 172, 817, 818, 819, 820, 821, 822, 823, 824, 825, 83, 82, 76, 77, 78, 79, 826, 827, 828, 829, 775, 80, 830, 831, 832, 833, 949, 950, 951, 952, 953, 954, 955, 956, 957, 958, 1043, 1044, 1045, 1046, 1047, 1048, 1049, 1050, 1051, 1052, 1053, 1054, 1055, 1056, 1057, 1058, 1059, 1060] (by decide +kernel) (by decide +kernel)
set_option maxRecDepth 20000 in
theorem gL_law_X8_route : GoodIn wsL_lawN (wsV RL 98 RX8 yX8_route wsX8_route) := goodIn_app (goodIn_of _ (by decide +kernel)) ggL_law_X8_route
