theorem dX6_scan_39 : decode cX6_scan 39 = .ok (.istore_n 1, 1) := by decide +kernel
theorem dX6_scan_40 : decode cX6_scan 40 = .ok (.aload_n 0, 1) := by decide +kernel
theorem dX6_scan_41 : decode cX6_scan 41 = .ok (.aload_n 0, 1) := by decide +kernel
theorem dX6_scan_42 : decode cX6_scan 42 = .ok (.iload_n 2, 1) := by decide +kernel
theorem dX6_scan_43 : decode cX6_scan 43 = .ok (.iload_n 1, 1) := by decide +kernel
theorem dX6_scan_44 : decode cX6_scan 44 = .ok (.invokevirtual 96, 3) := by decide +kernel
theorem dX6_scan_47 : decode cX6_scan 47 = .ok (.iload_n 2, 1) := by decide +kernel
theorem dX6_scan_48 : decode cX6_scan 48 = .ok (.invokevirtual 100, 3) := by decide +kernel
theorem dX6_scan_51 : decode cX6_scan 51 = .ok (.iinc 2 1, 3) := by decide +kernel
theorem dX6_scan_54 : decode cX6_scan 54 = .ok (.goto (-45), 3) := by decide +kernel
theorem dX6_scan_57 : decode cX6_scan 57 = .ok (.aload_n 0, 1) := by decide +kernel
theorem dX6_scan_58 : decode cX6_scan 58 = .ok (.sipush 10016, 3) := by decide +kernel
theorem dX6_scan_61 : decode cX6_scan 61 = .ok (.aload_n 0, 1) := by decide +kernel
theorem dX6_scan_62 : decode cX6_scan 62 = .ok (.getfield 27, 3) := by decide +kernel
theorem dX6_scan_65 : decode cX6_scan 65 = .ok (.invokevirtual 100, 3) := by decide +kernel
theorem dX6_scan_68 : decode cX6_scan 68 = .ok (.return_, 1) := by decide +kernel
theorem dX6_addToken_0 : decode cX6_addToken 0 = .ok (.aload_n 0, 1) := by decide +kernel
theorem dX6_addToken_1 : decode cX6_addToken 1 = .ok (.getfield 59, 3) := by decide +kernel
theorem dX6_addToken_4 : decode cX6_addToken 4 = .ok (.sipush 601, 3) := by decide +kernel
theorem dX6_addToken_7 : decode cX6_addToken 7 = .ok (.if_icmp .ge 33, 3) := by decide +kernel
theorem dX6_addToken_10 : decode cX6_addToken 10 = .ok (.aload_n 0, 1) := by decide +kernel
theorem dX6_addToken_11 : decode cX6_addToken 11 = .ok (.getfield 11, 3) := by decide +kernel
theorem dX6_addToken_14 : decode cX6_addToken 14 = .ok (.aload_n 0, 1) := by decide +kernel
theorem dX6_addToken_15 : decode cX6_addToken 15 = .ok (.getfield 59, 3) := by decide +kernel
theorem dX6_addToken_18 : decode cX6_addToken 18 = .ok (.iload_n 1, 1) := by decide +kernel
theorem dX6_addToken_19 : decode cX6_addToken 19 = .ok (.iastore, 1) := by decide +kernel
theorem dX6_addToken_20 : decode cX6_addToken 20 = .ok (.aload_n 0, 1) := by decide +kernel
theorem dX6_addToken_21 : decode cX6_addToken 21 = .ok (.getfield 15, 3) := by decide +kernel
theorem dX6_addToken_24 : decode cX6_addToken 24 = .ok (.aload_n 0, 1) := by decide +kernel
theorem dX6_addToken_25 : decode cX6_addToken 25 = .ok (.getfield 59, 3) := by decide +kernel
theorem dX6_addToken_28 : decode cX6_addToken 28 = .ok (.iload_n 2, 1) := by decide +kernel
theorem dX6_addToken_29 : decode cX6_addToken 29 = .ok (.iastore, 1) := by decide +kernel
theorem dX6_addToken_30 : decode cX6_addToken 30 = .ok (.aload_n 0, 1) := by decide +kernel
theorem dX6_addToken_31 : decode cX6_addToken 31 = .ok (.dup, 1) := by decide +kernel
theorem dX6_addToken_32 : decode cX6_addToken 32 = .ok (.getfield 59, 3) := by decide +kernel
theorem dX6_addToken_35 : decode cX6_addToken 35 = .ok (.iconst 1, 1) := by decide +kernel
theorem dX6_addToken_36 : decode cX6_addToken 36 = .ok (.iadd, 1) := by decide +kernel
theorem dX6_addToken_37 : decode cX6_addToken 37 = .ok (.putfield 59, 3) := by decide +kernel
theorem dX6_addToken_40 : decode cX6_addToken 40 = .ok (.return_, 1) := by decide +kernel
set_option maxRecDepth 20000 in
theorem ggX6_endOf_X6_isLetter : GoodIn wsX6_endOf wsX6_isLetter := goodIn_r _ [6] (by decide +kernel) (by decide +kernel)
set_option maxRecDepth 20000 in
theorem gX6_endOf_X6_isLetter : GoodIn wsX6_endOf (va_wsS RX6 104 yX6_isLetter wsX6_isLetter) := goodIn_app (goodIn_of _ (by decide +kernel)) ggX6_endOf_X6_isLetter
set_option maxRecDepth 20000 in
theorem ggX6_endOf_X6_isDigit : GoodIn wsX6_endOf wsX6_isDigit := goodIn_r _ [9] (by decide +kernel) (by decide +kernel)
set_option maxRecDepth 20000 in
theorem gX6_endOf_X6_isDigit : GoodIn wsX6_endOf (va_wsS RX6 107 yX6_isDigit wsX6_isDigit) := goodIn_app (goodIn_of _ (by decide +kernel)) ggX6_endOf_X6_isDigit
theorem dX6_endOf_0 : decode cX6_endOf 0 = .ok (.aload_n 0, 1) := by decide +kernel
theorem dX6_endOf_1 : decode cX6_endOf 1 = .ok (.getfield 22, 3) := by decide +kernel
theorem dX6_endOf_4 : decode cX6_endOf 4 = .ok (.iload_n 1, 1) := by decide +kernel
theorem dX6_endOf_5 : decode cX6_endOf 5 = .ok (.caload, 1) := by decide +kernel
theorem dX6_endOf_6 : decode cX6_endOf 6 = .ok (.invokestatic 104, 3) := by decide +kernel
theorem dX6_endOf_9 : decode cX6_endOf 9 = .ok (.istore_n 2, 1) := by decide +kernel
theorem dX6_endOf_10 : decode cX6_endOf 10 = .ok (.aload_n 0, 1) := by decide +kernel
theorem dX6_endOf_11 : decode cX6_endOf 11 = .ok (.getfield 22, 3) := by decide +kernel
theorem dX6_endOf_14 : decode cX6_endOf 14 = .ok (.iload_n 1, 1) := by decide +kernel
theorem dX6_endOf_15 : decode cX6_endOf 15 = .ok (.caload, 1) := by decide +kernel
theorem dX6_endOf_16 : decode cX6_endOf 16 = .ok (.invokestatic 107, 3) := by decide +kernel
theorem dX6_endOf_19 : decode cX6_endOf 19 = .ok (.istore_n 3, 1) := by decide +kernel
theorem dX6_endOf_20 : decode cX6_endOf 20 = .ok (.iload_n 1, 1) := by decide +kernel
theorem dX6_endOf_21 : decode cX6_endOf 21 = .ok (.iconst 1, 1) := by decide +kernel
theorem dX6_endOf_22 : decode cX6_endOf 22 = .ok (.iadd, 1) := by decide +kernel
theorem dX6_endOf_23 : decode cX6_endOf 23 = .ok (.istore 4, 2) := by decide +kernel
theorem dX6_endOf_25 : decode cX6_endOf 25 = .ok (.iload 4, 2) := by decide +kernel
theorem dX6_endOf_27 : decode cX6_endOf 27 = .ok (.aload_n 0, 1) := by decide +kernel
theorem dX6_endOf_28 : decode cX6_endOf 28 = .ok (.getfield 27, 3) := by decide +kernel
theorem dX6_endOf_31 : decode cX6_endOf 31 = .ok (.if_icmp .ge 43, 3) := by decide +kernel
theorem dX6_endOf_34 : decode cX6_endOf 34 = .ok (.iload_n 2, 1) := by decide +kernel
theorem dX6_endOf_35 : decode cX6_endOf 35 = .ok (.ifCond .eq 16, 3) := by decide +kernel
theorem dX6_endOf_38 : decode cX6_endOf 38 = .ok (.aload_n 0, 1) := by decide +kernel
theorem dX6_endOf_39 : decode cX6_endOf 39 = .ok (.getfield 22, 3) := by decide +kernel
theorem dX6_endOf_42 : decode cX6_endOf 42 = .ok (.iload 4, 2) := by decide +kernel
theorem dX6_endOf_44 : decode cX6_endOf 44 = .ok (.caload, 1) := by decide +kernel
theorem dX6_endOf_45 : decode cX6_endOf 45 = .ok (.invokestatic 104, 3) := by decide +kernel
theorem dX6_endOf_48 : decode cX6_endOf 48 = .ok (.ifCond .ne 20, 3) := by decide +kernel
theorem dX6_endOf_51 : decode cX6_endOf 51 = .ok (.iload_n 3, 1) := by decide +kernel
theorem dX6_endOf_52 : decode cX6_endOf 52 = .ok (.ifCond .eq 22, 3) := by decide +kernel
theorem dX6_endOf_55 : decode cX6_endOf 55 = .ok (.aload_n 0, 1) := by decide +kernel
theorem dX6_endOf_56 : decode cX6_endOf 56 = .ok (.getfield 22, 3) := by decide +kernel
theorem dX6_endOf_59 : decode cX6_endOf 59 = .ok (.iload 4, 2) := by decide +kernel
theorem dX6_endOf_61 : decode cX6_endOf 61 = .ok (.caload, 1) := by decide +kernel
theorem dX6_endOf_62 : decode cX6_endOf 62 = .ok (.invokestatic 107, 3) := by decide +kernel
theorem dX6_endOf_65 : decode cX6_endOf 65 = .ok (.ifCond .eq 9, 3) := by decide +kernel
theorem dX6_endOf_68 : decode cX6_endOf 68 = .ok (.iinc 4 1, 3) := by decide +kernel
theorem dX6_endOf_71 : decode cX6_endOf 71 = .ok (.goto (-46), 3) := by decide +kernel
theorem dX6_endOf_74 : decode cX6_endOf 74 = .ok (.iload 4, 2) := by decide +kernel
theorem dX6_endOf_76 : decode cX6_endOf 76 = .ok (.ireturn, 1) := by decide +kernel
set_option maxRecDepth 20000 in
theorem ggX6_tokenOf_X6_isLetter : GoodIn wsX6_tokenOf wsX6_isLetter := goodIn_r _ [5] (by decide +kernel) (by decide +kernel)
set_option maxRecDepth 20000 in
theorem gX6_tokenOf_X6_isLetter : GoodIn wsX6_tokenOf (va_wsS RX6 104 yX6_isLetter wsX6_isLetter) := goodIn_app (goodIn_of _ (by decide +kernel)) ggX6_tokenOf_X6_isLetter
set_option maxRecDepth 20000 in
theorem ggX6_tokenOf_X6_wordOf : GoodIn wsX6_tokenOf wsX6_wordOf := goodIn_r _ [9, 10, 11, 12, 4, 13, 1, 14, 15, 16, 17, 18, 19, 20, 21, 22, 23, 24, 25, 26, 27, 28, 29, 30, 31, 32, 33, 34, 35, 36, 37, 38, 39, 40, 41, 42, 43, 44, 45, 46, 47, 48, 49, 50, 51, 52, 53, 54, 55, 56, 57, 58, 59, 60, 61, 62, 73, 74, 75, 76, 77, 78, 79, 80] (by decide +kernel) (by decide +kernel)
set_option maxRecDepth 20000 in
theorem gX6_tokenOf_X6_wordOf : GoodIn wsX6_tokenOf (wsV RX6 110 RX6 yX6_wordOf wsX6_wordOf) := goodIn_app (goodIn_of _ (by decide +kernel)) ggX6_tokenOf_X6_wordOf
set_option maxRecDepth 20000 in
theorem ggX6_tokenOf_X6_isDigit : GoodIn wsX6_tokenOf wsX6_isDigit := goodIn_r _ [65] (by decide +kernel) (by decide +kernel)
set_option maxRecDepth 20000 in
theorem gX6_tokenOf_X6_isDigit : GoodIn wsX6_tokenOf (va_wsS RX6 107 yX6_isDigit wsX6_isDigit) := goodIn_app (goodIn_of _ (by decide +kernel)) ggX6_tokenOf_X6_isDigit
set_option maxRecDepth 20000 in
theorem ggX6_tokenOf_X6_numberOf : GoodIn wsX6_tokenOf wsX6_numberOf := goodIn_r _ [69, 1, 73, 74, 75, 76, 77, 78, 79, 80] (by decide +kernel) (by decide +kernel)
set_option maxRecDepth 20000 in
theorem gX6_tokenOf_X6_numberOf : GoodIn wsX6_tokenOf (wsV RX6 113 RX6 yX6_numberOf wsX6_numberOf) := goodIn_app (goodIn_of _ (by decide +kernel)) ggX6_tokenOf_X6_numberOf
set_option maxRecDepth 20000 in
theorem ggX6_tokenOf_X6_signOf : GoodIn wsX6_tokenOf wsX6_signOf := goodIn_r _ [72] (by decide +kernel) (by decide +kernel)
set_option maxRecDepth 20000 in
theorem gX6_tokenOf_X6_signOf : GoodIn wsX6_tokenOf (va_wsS RX6 116 yX6_signOf wsX6_signOf) := goodIn_app (goodIn_of _ (by decide +kernel)) ggX6_tokenOf_X6_signOf
theorem dX6_tokenOf_0 : decode cX6_tokenOf 0 = .ok (.aload_n 0, 1) := by decide +kernel
theorem dX6_tokenOf_1 : decode cX6_tokenOf 1 = .ok (.getfield 22, 3) := by decide +kernel
theorem dX6_tokenOf_4 : decode cX6_tokenOf 4 = .ok (.iload_n 1, 1) := by decide +kernel
theorem dX6_tokenOf_5 : decode cX6_tokenOf 5 = .ok (.caload, 1) := by decide +kernel
theorem dX6_tokenOf_6 : decode cX6_tokenOf 6 = .ok (.invokestatic 104, 3) := by decide +kernel
theorem dX6_tokenOf_9 : decode cX6_tokenOf 9 = .ok (.ifCond .eq 10, 3) := by decide +kernel
theorem dX6_tokenOf_12 : decode cX6_tokenOf 12 = .ok (.aload_n 0, 1) := by decide +kernel
theorem dX6_tokenOf_13 : decode cX6_tokenOf 13 = .ok (.iload_n 1, 1) := by decide +kernel
theorem dX6_tokenOf_14 : decode cX6_tokenOf 14 = .ok (.iload_n 2, 1) := by decide +kernel
theorem dX6_tokenOf_15 : decode cX6_tokenOf 15 = .ok (.invokevirtual 110, 3) := by decide +kernel
theorem dX6_tokenOf_18 : decode cX6_tokenOf 18 = .ok (.ireturn, 1) := by decide +kernel
theorem dX6_tokenOf_19 : decode cX6_tokenOf 19 = .ok (.aload_n 0, 1) := by decide +kernel
theorem dX6_tokenOf_20 : decode cX6_tokenOf 20 = .ok (.getfield 22, 3) := by decide +kernel
theorem dX6_tokenOf_23 : decode cX6_tokenOf 23 = .ok (.iload_n 1, 1) := by decide +kernel
theorem dX6_tokenOf_24 : decode cX6_tokenOf 24 = .ok (.caload, 1) := by decide +kernel
theorem dX6_tokenOf_25 : decode cX6_tokenOf 25 = .ok (.invokestatic 107, 3) := by decide +kernel
theorem dX6_tokenOf_28 : decode cX6_tokenOf 28 = .ok (.ifCond .eq 10, 3) := by decide +kernel
theorem dX6_tokenOf_31 : decode cX6_tokenOf 31 = .ok (.aload_n 0, 1) := by decide +kernel
theorem dX6_tokenOf_32 : decode cX6_tokenOf 32 = .ok (.iload_n 1, 1) := by decide +kernel
theorem dX6_tokenOf_33 : decode cX6_tokenOf 33 = .ok (.iload_n 2, 1) := by decide +kernel
theorem dX6_tokenOf_34 : decode cX6_tokenOf 34 = .ok (.invokevirtual 113, 3) := by decide +kernel
theorem dX6_tokenOf_37 : decode cX6_tokenOf 37 = .ok (.ireturn, 1) := by decide +kernel
theorem dX6_tokenOf_38 : decode cX6_tokenOf 38 = .ok (.aload_n 0, 1) := by decide +kernel
theorem dX6_tokenOf_39 : decode cX6_tokenOf 39 = .ok (.getfield 22, 3) := by decide +kernel
theorem dX6_tokenOf_42 : decode cX6_tokenOf 42 = .ok (.iload_n 1, 1) := by decide +kernel
theorem dX6_tokenOf_43 : decode cX6_tokenOf 43 = .ok (.caload, 1) := by decide +kernel
theorem dX6_tokenOf_44 : decode cX6_tokenOf 44 = .ok (.invokestatic 116, 3) := by decide +kernel
theorem dX6_tokenOf_47 : decode cX6_tokenOf 47 = .ok (.ireturn, 1) := by decide +kernel
set_option maxRecDepth 20000 in
theorem ggX6_wordOf_X6_isSpelt : GoodIn wsX6_wordOf wsX6_isSpelt := goodIn_r _ [5, 6, 7, 8, 9, 10, 11, 12, 13, 14, 15, 16, 17, 18, 19, 20, 21, 22, 23, 24, 25, 26, 27, 28, 29, 30, 31, 32, 33, 34, 35, 36, 37, 38, 39, 40, 41, 42, 43, 44, 45, 46, 47, 48, 49, 50, 51, 52, 53, 54, 55, 56, 57, 58, 59, 60, 61, 62, 63] (by decide +kernel) (by decide +kernel)
set_option maxRecDepth 20000 in
theorem gX6_wordOf_X6_isSpelt : GoodIn wsX6_wordOf (wsV RX6 122 RX6 yX6_isSpelt wsX6_isSpelt) := goodIn_app (goodIn_of _ (by decide +kernel)) ggX6_wordOf_X6_isSpelt
theorem dX6_wordOf_0 : decode cX6_wordOf 0 = .ok (.aload_n 0, 1) := by decide +kernel
theorem dX6_wordOf_1 : decode cX6_wordOf 1 = .ok (.iload_n 1, 1) := by decide +kernel
theorem dX6_wordOf_2 : decode cX6_wordOf 2 = .ok (.iload_n 2, 1) := by decide +kernel
theorem dX6_wordOf_3 : decode cX6_wordOf 3 = .ok (.ldc 120, 2) := by decide +kernel
theorem dX6_wordOf_5 : decode cX6_wordOf 5 = .ok (.invokevirtual 122, 3) := by decide +kernel
theorem dX6_wordOf_8 : decode cX6_wordOf 8 = .ok (.ifCond .eq 7, 3) := by decide +kernel
theorem dX6_wordOf_11 : decode cX6_wordOf 11 = .ok (.sipush 10011, 3) := by decide +kernel
theorem dX6_wordOf_14 : decode cX6_wordOf 14 = .ok (.ireturn, 1) := by decide +kernel
theorem dX6_wordOf_15 : decode cX6_wordOf 15 = .ok (.aload_n 0, 1) := by decide +kernel
theorem dX6_wordOf_16 : decode cX6_wordOf 16 = .ok (.iload_n 1, 1) := by decide +kernel
theorem dX6_wordOf_17 : decode cX6_wordOf 17 = .ok (.iload_n 2, 1) := by decide +kernel
theorem dX6_wordOf_18 : decode cX6_wordOf 18 = .ok (.ldc 126, 2) := by decide +kernel
theorem dX6_wordOf_20 : decode cX6_wordOf 20 = .ok (.invokevirtual 122, 3) := by decide +kernel
theorem dX6_wordOf_23 : decode cX6_wordOf 23 = .ok (.ifCond .eq 7, 3) := by decide +kernel
theorem dX6_wordOf_26 : decode cX6_wordOf 26 = .ok (.sipush 10012, 3) := by decide +kernel
theorem dX6_wordOf_29 : decode cX6_wordOf 29 = .ok (.ireturn, 1) := by decide +kernel
theorem dX6_wordOf_30 : decode cX6_wordOf 30 = .ok (.aload_n 0, 1) := by decide +kernel
theorem dX6_wordOf_31 : decode cX6_wordOf 31 = .ok (.iload_n 1, 1) := by decide +kernel
theorem dX6_wordOf_32 : decode cX6_wordOf 32 = .ok (.iload_n 2, 1) := by decide +kernel
theorem dX6_wordOf_33 : decode cX6_wordOf 33 = .ok (.ldc 128, 2) := by decide +kernel
theorem dX6_wordOf_35 : decode cX6_wordOf 35 = .ok (.invokevirtual 122, 3) := by decide +kernel
theorem dX6_wordOf_38 : decode cX6_wordOf 38 = .ok (.ifCond .eq 7, 3) := by decide +kernel
theorem dX6_wordOf_41 : decode cX6_wordOf 41 = .ok (.sipush 10010, 3) := by decide +kernel
theorem dX6_wordOf_44 : decode cX6_wordOf 44 = .ok (.ireturn, 1) := by decide +kernel
theorem dX6_wordOf_45 : decode cX6_wordOf 45 = .ok (.aload_n 0, 1) := by decide +kernel
theorem dX6_wordOf_46 : decode cX6_wordOf 46 = .ok (.iload_n 1, 1) := by decide +kernel
theorem dX6_wordOf_47 : decode cX6_wordOf 47 = .ok (.iload_n 2, 1) := by decide +kernel
theorem dX6_wordOf_48 : decode cX6_wordOf 48 = .ok (.ldc 130, 2) := by decide +kernel
theorem dX6_wordOf_50 : decode cX6_wordOf 50 = .ok (.invokevirtual 122, 3) := by decide +kernel
theorem dX6_wordOf_53 : decode cX6_wordOf 53 = .ok (.ifCond .eq 7, 3) := by decide +kernel
theorem dX6_wordOf_56 : decode cX6_wordOf 56 = .ok (.sipush 10000, 3) := by decide +kernel
theorem dX6_wordOf_59 : decode cX6_wordOf 59 = .ok (.ireturn, 1) := by decide +kernel
theorem dX6_wordOf_60 : decode cX6_wordOf 60 = .ok (.aload_n 0, 1) := by decide +kernel
theorem dX6_wordOf_61 : decode cX6_wordOf 61 = .ok (.iload_n 1, 1) := by decide +kernel
theorem dX6_wordOf_62 : decode cX6_wordOf 62 = .ok (.iload_n 2, 1) := by decide +kernel
theorem dX6_wordOf_63 : decode cX6_wordOf 63 = .ok (.ldc 132, 2) := by decide +kernel
theorem dX6_wordOf_65 : decode cX6_wordOf 65 = .ok (.invokevirtual 122, 3) := by decide +kernel
theorem dX6_wordOf_68 : decode cX6_wordOf 68 = .ok (.ifCond .eq 7, 3) := by decide +kernel
theorem dX6_wordOf_71 : decode cX6_wordOf 71 = .ok (.sipush 10001, 3) := by decide +kernel
theorem dX6_wordOf_74 : decode cX6_wordOf 74 = .ok (.ireturn, 1) := by decide +kernel
theorem dX6_wordOf_75 : decode cX6_wordOf 75 = .ok (.aload_n 0, 1) := by decide +kernel
theorem dX6_wordOf_76 : decode cX6_wordOf 76 = .ok (.iload_n 1, 1) := by decide +kernel
theorem dX6_wordOf_77 : decode cX6_wordOf 77 = .ok (.iload_n 2, 1) := by decide +kernel
theorem dX6_wordOf_78 : decode cX6_wordOf 78 = .ok (.ldc 134, 2) := by decide +kernel
theorem dX6_wordOf_80 : decode cX6_wordOf 80 = .ok (.invokevirtual 122, 3) := by decide +kernel
theorem dX6_wordOf_83 : decode cX6_wordOf 83 = .ok (.ifCond .eq 7, 3) := by decide +kernel
theorem dX6_wordOf_86 : decode cX6_wordOf 86 = .ok (.sipush 10002, 3) := by decide +kernel
theorem dX6_wordOf_89 : decode cX6_wordOf 89 = .ok (.ireturn, 1) := by decide +kernel
theorem dX6_wordOf_90 : decode cX6_wordOf 90 = .ok (.aload_n 0, 1) := by decide +kernel
theorem dX6_wordOf_91 : decode cX6_wordOf 91 = .ok (.iload_n 1, 1) := by decide +kernel
theorem dX6_wordOf_92 : decode cX6_wordOf 92 = .ok (.iload_n 2, 1) := by decide +kernel
theorem dX6_wordOf_93 : decode cX6_wordOf 93 = .ok (.ldc 136, 2) := by decide +kernel
theorem dX6_wordOf_95 : decode cX6_wordOf 95 = .ok (.invokevirtual 122, 3) := by decide +kernel
theorem dX6_wordOf_98 : decode cX6_wordOf 98 = .ok (.ifCond .eq 7, 3) := by decide +kernel
theorem dX6_wordOf_101 : decode cX6_wordOf 101 = .ok (.sipush 10003, 3) := by decide +kernel
theorem dX6_wordOf_104 : decode cX6_wordOf 104 = .ok (.ireturn, 1) := by decide +kernel
theorem dX6_wordOf_105 : decode cX6_wordOf 105 = .ok (.aload_n 0, 1) := by decide +kernel
theorem dX6_wordOf_106 : decode cX6_wordOf 106 = .ok (.iload_n 1, 1) := by decide +kernel
theorem dX6_wordOf_107 : decode cX6_wordOf 107 = .ok (.iload_n 2, 1) := by decide +kernel
theorem dX6_wordOf_108 : decode cX6_wordOf 108 = .ok (.ldc 138, 2) := by decide +kernel
theorem dX6_wordOf_110 : decode cX6_wordOf 110 = .ok (.invokevirtual 122, 3) := by decide +kernel
theorem dX6_wordOf_113 : decode cX6_wordOf 113 = .ok (.ifCond .eq 7, 3) := by decide +kernel
theorem dX6_wordOf_116 : decode cX6_wordOf 116 = .ok (.sipush 10004, 3) := by decide +kernel
theorem dX6_wordOf_119 : decode cX6_wordOf 119 = .ok (.ireturn, 1) := by decide +kernel
theorem dX6_wordOf_120 : decode cX6_wordOf 120 = .ok (.aload_n 0, 1) := by decide +kernel
theorem dX6_wordOf_121 : decode cX6_wordOf 121 = .ok (.iload_n 1, 1) := by decide +kernel
theorem dX6_wordOf_122 : decode cX6_wordOf 122 = .ok (.iload_n 2, 1) := by decide +kernel
theorem dX6_wordOf_123 : decode cX6_wordOf 123 = .ok (.ldc 140, 2) := by decide +kernel
theorem dX6_wordOf_125 : decode cX6_wordOf 125 = .ok (.invokevirtual 122, 3) := by decide +kernel
theorem dX6_wordOf_128 : decode cX6_wordOf 128 = .ok (.ifCond .eq 9, 3) := by decide +kernel
theorem dX6_wordOf_131 : decode cX6_wordOf 131 = .ok (.sipush 10005, 3) := by decide +kernel
theorem dX6_wordOf_134 : decode cX6_wordOf 134 = .ok (.goto 6, 3) := by decide +kernel
theorem dX6_wordOf_137 : decode cX6_wordOf 137 = .ok (.sipush 10017, 3) := by decide +kernel
theorem dX6_wordOf_140 : decode cX6_wordOf 140 = .ok (.ireturn, 1) := by decide +kernel
set_option maxRecDepth 20000 in
theorem ggX6_isSpelt_J0_length_8abf5 : GoodIn wsX6_isSpelt wsJ0_length_8abf5 := goodIn_r _ [6, 7, 8, 9, 10, 5, 11, 12, 13] (by decide +kernel) (by decide +kernel)
set_option maxRecDepth 20000 in
theorem gX6_isSpelt_J0_length_8abf5 : GoodIn wsX6_isSpelt (wsV RX6 142 RJ0 yJ0_length_8abf5 wsJ0_length_8abf5) := goodIn_app (goodIn_of _ (by decide +kernel)) ggX6_isSpelt_J0_length_8abf5
set_option maxRecDepth 20000 in
theorem ggX6_isSpelt_J0_charAt_5068e : GoodIn wsX6_isSpelt wsJ0_charAt_5068e := goodIn_r _ [17, 7, 18, 19, 20, 5, 21, 12, 13, 22, 23, 24, 25, 26, 27, 28, 29, 30, 31, 32, 33, 34, 35, 36, 37, 38, 39, 40, 41, 42, 43, 44, 45, 46, 47, 48, 49, 50] (by decide +kernel) (by decide +kernel)
set_option maxRecDepth 20000 in
theorem gX6_isSpelt_J0_charAt_5068e : GoodIn wsX6_isSpelt (wsV RX6 146 RJ0 yJ0_charAt_5068e wsJ0_charAt_5068e) := goodIn_app (goodIn_of _ (by decide +kernel)) ggX6_isSpelt_J0_charAt_5068e
theorem dX6_isSpelt_0 : decode cX6_isSpelt 0 = .ok (.iload_n 2, 1) := by decide +kernel
theorem dX6_isSpelt_1 : decode cX6_isSpelt 1 = .ok (.iload_n 1, 1) := by decide +kernel
theorem dX6_isSpelt_2 : decode cX6_isSpelt 2 = .ok (.isub, 1) := by decide +kernel
theorem dX6_isSpelt_3 : decode cX6_isSpelt 3 = .ok (.aload_n 3, 1) := by decide +kernel
theorem dX6_isSpelt_4 : decode cX6_isSpelt 4 = .ok (.invokevirtual 142, 3) := by decide +kernel
theorem dX6_isSpelt_7 : decode cX6_isSpelt 7 = .ok (.if_icmp .eq 5, 3) := by decide +kernel
theorem dX6_isSpelt_10 : decode cX6_isSpelt 10 = .ok (.iconst 0, 1) := by decide +kernel
theorem dX6_isSpelt_11 : decode cX6_isSpelt 11 = .ok (.ireturn, 1) := by decide +kernel
theorem dX6_isSpelt_12 : decode cX6_isSpelt 12 = .ok (.iconst 0, 1) := by decide +kernel
theorem dX6_isSpelt_13 : decode cX6_isSpelt 13 = .ok (.istore 4, 2) := by decide +kernel
theorem dX6_isSpelt_15 : decode cX6_isSpelt 15 = .ok (.iload 4, 2) := by decide +kernel
theorem dX6_isSpelt_17 : decode cX6_isSpelt 17 = .ok (.aload_n 3, 1) := by decide +kernel
theorem dX6_isSpelt_18 : decode cX6_isSpelt 18 = .ok (.invokevirtual 142, 3) := by decide +kernel
theorem dX6_isSpelt_21 : decode cX6_isSpelt 21 = .ok (.if_icmp .ge 29, 3) := by decide +kernel
theorem dX6_isSpelt_24 : decode cX6_isSpelt 24 = .ok (.aload_n 0, 1) := by decide +kernel
theorem dX6_isSpelt_25 : decode cX6_isSpelt 25 = .ok (.getfield 22, 3) := by decide +kernel
theorem dX6_isSpelt_28 : decode cX6_isSpelt 28 = .ok (.iload_n 1, 1) := by decide +kernel
theorem dX6_isSpelt_29 : decode cX6_isSpelt 29 = .ok (.iload 4, 2) := by decide +kernel
theorem dX6_isSpelt_31 : decode cX6_isSpelt 31 = .ok (.iadd, 1) := by decide +kernel
theorem dX6_isSpelt_32 : decode cX6_isSpelt 32 = .ok (.caload, 1) := by decide +kernel
theorem dX6_isSpelt_33 : decode cX6_isSpelt 33 = .ok (.aload_n 3, 1) := by decide +kernel
theorem dX6_isSpelt_34 : decode cX6_isSpelt 34 = .ok (.iload 4, 2) := by decide +kernel
theorem dX6_isSpelt_36 : decode cX6_isSpelt 36 = .ok (.invokevirtual 146, 3) := by decide +kernel
theorem dX6_isSpelt_39 : decode cX6_isSpelt 39 = .ok (.if_icmp .eq 5, 3) := by decide +kernel
theorem dX6_isSpelt_42 : decode cX6_isSpelt 42 = .ok (.iconst 0, 1) := by decide +kernel
theorem dX6_isSpelt_43 : decode cX6_isSpelt 43 = .ok (.ireturn, 1) := by decide +kernel
theorem dX6_isSpelt_44 : decode cX6_isSpelt 44 = .ok (.iinc 4 1, 3) := by decide +kernel
theorem dX6_isSpelt_47 : decode cX6_isSpelt 47 = .ok (.goto (-32), 3) := by decide +kernel
theorem dX6_isSpelt_50 : decode cX6_isSpelt 50 = .ok (.iconst 1, 1) := by decide +kernel
theorem dX6_isSpelt_51 : decode cX6_isSpelt 51 = .ok (.ireturn, 1) := by decide +kernel
theorem dX6_numberOf_0 : decode cX6_numberOf 0 = .ok (.iload_n 2, 1) := by decide +kernel
theorem dX6_numberOf_1 : decode cX6_numberOf 1 = .ok (.iload_n 1, 1) := by decide +kernel
theorem dX6_numberOf_2 : decode cX6_numberOf 2 = .ok (.isub, 1) := by decide +kernel
theorem dX6_numberOf_3 : decode cX6_numberOf 3 = .ok (.iconst 4, 1) := by decide +kernel
theorem dX6_numberOf_4 : decode cX6_numberOf 4 = .ok (.if_icmp .le 7, 3) := by decide +kernel
theorem dX6_numberOf_7 : decode cX6_numberOf 7 = .ok (.sipush 10017, 3) := by decide +kernel
theorem dX6_numberOf_10 : decode cX6_numberOf 10 = .ok (.ireturn, 1) := by decide +kernel
theorem dX6_numberOf_11 : decode cX6_numberOf 11 = .ok (.iconst 0, 1) := by decide +kernel
theorem dX6_numberOf_12 : decode cX6_numberOf 12 = .ok (.istore_n 3, 1) := by decide +kernel
theorem dX6_numberOf_13 : decode cX6_numberOf 13 = .ok (.iload_n 1, 1) := by decide +kernel
theorem dX6_numberOf_14 : decode cX6_numberOf 14 = .ok (.istore 4, 2) := by decide +kernel
theorem dX6_numberOf_16 : decode cX6_numberOf 16 = .ok (.iload 4, 2) := by decide +kernel
theorem dX6_numberOf_18 : decode cX6_numberOf 18 = .ok (.iload_n 2, 1) := by decide +kernel
theorem dX6_numberOf_19 : decode cX6_numberOf 19 = .ok (.if_icmp .ge 25, 3) := by decide +kernel
theorem dX6_numberOf_22 : decode cX6_numberOf 22 = .ok (.bipush 10, 2) := by decide +kernel
theorem dX6_numberOf_24 : decode cX6_numberOf 24 = .ok (.iload_n 3, 1) := by decide +kernel
theorem dX6_numberOf_25 : decode cX6_numberOf 25 = .ok (.imul, 1) := by decide +kernel
theorem dX6_numberOf_26 : decode cX6_numberOf 26 = .ok (.aload_n 0, 1) := by decide +kernel
theorem dX6_numberOf_27 : decode cX6_numberOf 27 = .ok (.getfield 22, 3) := by decide +kernel
theorem dX6_numberOf_30 : decode cX6_numberOf 30 = .ok (.iload 4, 2) := by decide +kernel
theorem dX6_numberOf_32 : decode cX6_numberOf 32 = .ok (.caload, 1) := by decide +kernel
theorem dX6_numberOf_33 : decode cX6_numberOf 33 = .ok (.iadd, 1) := by decide +kernel
theorem dX6_numberOf_34 : decode cX6_numberOf 34 = .ok (.bipush 48, 2) := by decide +kernel
theorem dX6_numberOf_36 : decode cX6_numberOf 36 = .ok (.isub, 1) := by decide +kernel
theorem dX6_numberOf_37 : decode cX6_numberOf 37 = .ok (.istore_n 3, 1) := by decide +kernel
theorem dX6_numberOf_38 : decode cX6_numberOf 38 = .ok (.iinc 4 1, 3) := by decide +kernel
theorem dX6_numberOf_41 : decode cX6_numberOf 41 = .ok (.goto (-25), 3) := by decide +kernel
theorem dX6_numberOf_44 : decode cX6_numberOf 44 = .ok (.iload_n 3, 1) := by decide +kernel
theorem dX6_numberOf_45 : decode cX6_numberOf 45 = .ok (.ireturn, 1) := by decide +kernel
theorem dX6_signOf_0 : decode cX6_signOf 0 = .ok (.iload_n 0, 1) := by decide +kernel
theorem dX6_signOf_1 : decode cX6_signOf 1 = .ok (.tableswitch 131 40 61 #[103, 107, 131, 119, 131, 123, 131, 131, 131, 131, 131, 131, 131, 131, 131, 131, 131, 131, 131, 127, 111, 115], 103) := by decide +kernel
theorem dX6_signOf_104 : decode cX6_signOf 104 = .ok (.sipush 10013, 3) := by decide +kernel
theorem dX6_signOf_107 : decode cX6_signOf 107 = .ok (.ireturn, 1) := by decide +kernel
theorem dX6_signOf_108 : decode cX6_signOf 108 = .ok (.sipush 10014, 3) := by decide +kernel
theorem dX6_signOf_111 : decode cX6_signOf 111 = .ok (.ireturn, 1) := by decide +kernel
theorem dX6_signOf_112 : decode cX6_signOf 112 = .ok (.sipush 10008, 3) := by decide +kernel
theorem dX6_signOf_115 : decode cX6_signOf 115 = .ok (.ireturn, 1) := by decide +kernel
theorem dX6_signOf_116 : decode cX6_signOf 116 = .ok (.sipush 10009, 3) := by decide +kernel
theorem dX6_signOf_119 : decode cX6_signOf 119 = .ok (.ireturn, 1) := by decide +kernel
theorem dX6_signOf_120 : decode cX6_signOf 120 = .ok (.sipush 10006, 3) := by decide +kernel
theorem dX6_signOf_123 : decode cX6_signOf 123 = .ok (.ireturn, 1) := by decide +kernel
theorem dX6_signOf_124 : decode cX6_signOf 124 = .ok (.sipush 10007, 3) := by decide +kernel
theorem dX6_signOf_127 : decode cX6_signOf 127 = .ok (.ireturn, 1) := by decide +kernel
theorem dX6_signOf_128 : decode cX6_signOf 128 = .ok (.sipush 10015, 3) := by decide +kernel
theorem dX6_signOf_131 : decode cX6_signOf 131 = .ok (.ireturn, 1) := by decide +kernel
theorem dX6_signOf_132 : decode cX6_signOf 132 = .ok (.sipush 10017, 3) := by decide +kernel
theorem dX6_signOf_135 : decode cX6_signOf 135 = .ok (.ireturn, 1) := by decide +kernel
theorem dX6_isBlank_0 : decode cX6_isBlank 0 = .ok (.iload_n 0, 1) := by decide +kernel
theorem dX6_isBlank_1 : decode cX6_isBlank 1 = .ok (.bipush 10, 2) := by decide +kernel
theorem dX6_isBlank_3 : decode cX6_isBlank 3 = .ok (.if_icmp .eq 9, 3) := by decide +kernel
theorem dX6_isBlank_6 : decode cX6_isBlank 6 = .ok (.iload_n 0, 1) := by decide +kernel
theorem dX6_isBlank_7 : decode cX6_isBlank 7 = .ok (.bipush 32, 2) := by decide +kernel
theorem dX6_isBlank_9 : decode cX6_isBlank 9 = .ok (.if_icmp .ne 7, 3) := by decide +kernel
theorem dX6_isBlank_12 : decode cX6_isBlank 12 = .ok (.iconst 1, 1) := by decide +kernel
theorem dX6_isBlank_13 : decode cX6_isBlank 13 = .ok (.goto 4, 3) := by decide +kernel
theorem dX6_isBlank_16 : decode cX6_isBlank 16 = .ok (.iconst 0, 1) := by decide +kernel
theorem dX6_isBlank_17 : decode cX6_isBlank 17 = .ok (.ireturn, 1) := by decide +kernel
theorem dX6_isLetter_0 : decode cX6_isLetter 0 = .ok (.iload_n 0, 1) := by decide +kernel
theorem dX6_isLetter_1 : decode cX6_isLetter 1 = .ok (.bipush 97, 2) := by decide +kernel
theorem dX6_isLetter_3 : decode cX6_isLetter 3 = .ok (.if_icmp .lt 13, 3) := by decide +kernel
theorem dX6_isLetter_6 : decode cX6_isLetter 6 = .ok (.iload_n 0, 1) := by decide +kernel
theorem dX6_isLetter_7 : decode cX6_isLetter 7 = .ok (.bipush 122, 2) := by decide +kernel
theorem dX6_isLetter_9 : decode cX6_isLetter 9 = .ok (.if_icmp .gt 7, 3) := by decide +kernel
theorem dX6_isLetter_12 : decode cX6_isLetter 12 = .ok (.iconst 1, 1) := by decide +kernel
theorem dX6_isLetter_13 : decode cX6_isLetter 13 = .ok (.goto 4, 3) := by decide +kernel
theorem dX6_isLetter_16 : decode cX6_isLetter 16 = .ok (.iconst 0, 1) := by decide +kernel
theorem dX6_isLetter_17 : decode cX6_isLetter 17 = .ok (.ireturn, 1) := by decide +kernel
theorem dX6_isDigit_0 : decode cX6_isDigit 0 = .ok (.iload_n 0, 1) := by decide +kernel
theorem dX6_isDigit_1 : decode cX6_isDigit 1 = .ok (.bipush 48, 2) := by decide +kernel
theorem dX6_isDigit_3 : decode cX6_isDigit 3 = .ok (.if_icmp .lt 13, 3) := by decide +kernel
theorem dX6_isDigit_6 : decode cX6_isDigit 6 = .ok (.iload_n 0, 1) := by decide +kernel
theorem dX6_isDigit_7 : decode cX6_isDigit 7 = .ok (.bipush 57, 2) := by decide +kernel
theorem dX6_isDigit_9 : decode cX6_isDigit 9 = .ok (.if_icmp .gt 7, 3) := by decide +kernel
theorem dX6_isDigit_12 : decode cX6_isDigit 12 = .ok (.iconst 1, 1) := by decide +kernel
theorem dX6_isDigit_13 : decode cX6_isDigit 13 = .ok (.goto 4, 3) := by decide +kernel
theorem dX6_isDigit_16 : decode cX6_isDigit 16 = .ok (.iconst 0, 1) := by decide +kernel
theorem dX6_isDigit_17 : decode cX6_isDigit 17 = .ok (.ireturn, 1) := by decide +kernel
set_option maxRecDepth 20000 in
theorem ggX8_init_X0_init : GoodIn wsX8_init wsX0_init := goodIn_r _ [36, 37, 2, 3, 14, 38, 39, 40, 41, 42, 43, 44, 45, 46, 47, 83, 84, 85, 86, 87, 88, 89, 90, 91] (by decide +kernel) (by decide +kernel)
set_option maxRecDepth 20000 in
theorem gX8_init_X0_init : GoodIn wsX8_init (wsX0_init) := ggX8_init_X0_init
set_option maxRecDepth 20000 in
theorem ggX8_init_X2_init : GoodIn wsX8_init wsX2_init := goodIn_r _ [49, 50, 2, 3, 14, 51, 52, 102, 103, 104] (by decide +kernel) (by decide +kernel)
set_option maxRecDepth 20000 in
theorem gX8_init_X2_init_n24 : GoodIn wsX8_init (wsX2_init) := ggX8_init_X2_init
set_option maxRecDepth 20000 in
theorem ggX8_init_X4_init : GoodIn wsX8_init wsX4_init := goodIn_r _ [54, 55, 2, 3, 56, 57, 105, 106] (by decide +kernel) (by decide +kernel)
set_option maxRecDepth 20000 in
theorem gX8_init_X4_init_n37 : GoodIn wsX8_init (wsX4_init) := ggX8_init_X4_init
set_option maxRecDepth 20000 in
theorem ggX8_init_X6_init : GoodIn wsX8_init wsX6_init := goodIn_r _ [59, 60, 2, 3, 14, 61, 62, 107, 108, 109, 110, 111, 112, 113, 114] (by decide +kernel) (by decide +kernel)
set_option maxRecDepth 20000 in
theorem gX8_init_X6_init_n44 : GoodIn wsX8_init (wsX6_init) := ggX8_init_X6_init
set_option maxRecDepth 20000 in
theorem ggX8_init_X3_init : GoodIn wsX8_init wsX3_init := goodIn_r _ [64, 65, 2, 3, 14, 66, 67, 68, 69, 39, 70, 71, 72, 73, 74, 75, 115, 116, 117, 118, 119, 120, 121, 122, 123, 124, 125, 126, 127, 128, 129, 130, 131, 132] (by decide +kernel) (by decide +kernel)
set_option maxRecDepth 20000 in
theorem gX8_init_X3_init_n51 : GoodIn wsX8_init (wsX3_init) := ggX8_init_X3_init
set_option maxRecDepth 20000 in
theorem ggX8_init_X5_init : GoodIn wsX8_init wsX5_init := goodIn_r _ [77, 78, 2, 3, 14, 79, 80, 81, 82, 133, 134, 135, 136, 137, 138] (by decide +kernel) (by decide +kernel)
set_option maxRecDepth 20000 in
theorem gX8_init_X5_init_n56 : GoodIn wsX8_init (wsX5_init) := ggX8_init_X5_init
theorem dX8_init_0 : decode cX8_init 0 = .ok (.aload_n 0, 1) := by decide +kernel
theorem dX8_init_1 : decode cX8_init 1 = .ok (.invokespecial 3, 3) := by decide +kernel
theorem dX8_init_4 : decode cX8_init 4 = .ok (.aload_n 0, 1) := by decide +kernel
theorem dX8_init_5 : decode cX8_init 5 = .ok (.new 9, 3) := by decide +kernel
theorem dX8_init_8 : decode cX8_init 8 = .ok (.dup, 1) := by decide +kernel
theorem dX8_init_9 : decode cX8_init 9 = .ok (.invokespecial 11, 3) := by decide +kernel
theorem dX8_init_12 : decode cX8_init 12 = .ok (.putfield 12, 3) := by decide +kernel
theorem dX8_init_15 : decode cX8_init 15 = .ok (.aload_n 0, 1) := by decide +kernel
theorem dX8_init_16 : decode cX8_init 16 = .ok (.bipush 60, 2) := by decide +kernel
theorem dX8_init_18 : decode cX8_init 18 = .ok (.anewarray 16, 3) := by decide +kernel
theorem dX8_init_21 : decode cX8_init 21 = .ok (.putfield 18, 3) := by decide +kernel
theorem dX8_init_24 : decode cX8_init 24 = .ok (.aload_n 0, 1) := by decide +kernel
theorem dX8_init_25 : decode cX8_init 25 = .ok (.new 22, 3) := by decide +kernel
theorem dX8_init_28 : decode cX8_init 28 = .ok (.dup, 1) := by decide +kernel
theorem dX8_init_29 : decode cX8_init 29 = .ok (.invokespecial 24, 3) := by decide +kernel
theorem dX8_init_32 : decode cX8_init 32 = .ok (.putfield 25, 3) := by decide +kernel
theorem dX8_init_35 : decode cX8_init 35 = .ok (.aload_n 0, 1) := by decide +kernel
theorem dX8_init_36 : decode cX8_init 36 = .ok (.bipush 6, 2) := by decide +kernel
theorem dX8_init_38 : decode cX8_init 38 = .ok (.newarray .int, 2) := by decide +kernel
theorem dX8_init_40 : decode cX8_init 40 = .ok (.putfield 31, 3) := by decide +kernel
theorem dX8_init_43 : decode cX8_init 43 = .ok (.aload_n 0, 1) := by decide +kernel
theorem dX8_init_44 : decode cX8_init 44 = .ok (.new 35, 3) := by decide +kernel
theorem dX8_init_47 : decode cX8_init 47 = .ok (.dup, 1) := by decide +kernel
theorem dX8_init_48 : decode cX8_init 48 = .ok (.invokespecial 37, 3) := by decide +kernel
theorem dX8_init_51 : decode cX8_init 51 = .ok (.putfield 38, 3) := by decide +kernel
theorem dX8_init_54 : decode cX8_init 54 = .ok (.aload_n 0, 1) := by decide +kernel
theorem dX8_init_55 : decode cX8_init 55 = .ok (.new 42, 3) := by decide +kernel
theorem dX8_init_58 : decode cX8_init 58 = .ok (.dup, 1) := by decide +kernel
theorem dX8_init_59 : decode cX8_init 59 = .ok (.invokespecial 44, 3) := by decide +kernel
theorem dX8_init_62 : decode cX8_init 62 = .ok (.putfield 45, 3) := by decide +kernel
theorem dX8_init_65 : decode cX8_init 65 = .ok (.aload_n 0, 1) := by decide +kernel
theorem dX8_init_66 : decode cX8_init 66 = .ok (.new 49, 3) := by decide +kernel
theorem dX8_init_69 : decode cX8_init 69 = .ok (.dup, 1) := by decide +kernel
theorem dX8_init_70 : decode cX8_init 70 = .ok (.invokespecial 51, 3) := by decide +kernel
theorem dX8_init_73 : decode cX8_init 73 = .ok (.putfield 52, 3) := by decide +kernel
theorem dX8_init_76 : decode cX8_init 76 = .ok (.aload_n 0, 1) := by decide +kernel
theorem dX8_init_77 : decode cX8_init 77 = .ok (.new 29, 3) := by decide +kernel
theorem dX8_init_80 : decode cX8_init 80 = .ok (.dup, 1) := by decide +kernel
theorem dX8_init_81 : decode cX8_init 81 = .ok (.invokespecial 56, 3) := by decide +kernel
theorem dX8_init_84 : decode cX8_init 84 = .ok (.putfield 57, 3) := by decide +kernel
theorem dX8_init_87 : decode cX8_init 87 = .ok (.aload_n 0, 1) := by decide +kernel
theorem dX8_init_88 : decode cX8_init 88 = .ok (.new 29, 3) := by decide +kernel
theorem dX8_init_91 : decode cX8_init 91 = .ok (.dup, 1) := by decide +kernel
theorem dX8_init_92 : decode cX8_init 92 = .ok (.invokespecial 56, 3) := by decide +kernel
theorem dX8_init_95 : decode cX8_init 95 = .ok (.putfield 61, 3) := by decide +kernel
theorem dX8_init_98 : decode cX8_init 98 = .ok (.aload_n 0, 1) := by decide +kernel
theorem dX8_init_99 : decode cX8_init 99 = .ok (.iconst 0, 1) := by decide +kernel
theorem dX8_init_100 : decode cX8_init 100 = .ok (.putfield 64, 3) := by decide +kernel
theorem dX8_init_103 : decode cX8_init 103 = .ok (.return_, 1) := by decide +kernel
set_option maxRecDepth 20000 in
theorem ggX8_examiner_X0_addExaminer : GoodIn wsX8_examiner wsX0_addExaminer := goodIn_r _ [6, 7, 18, 19, 20, 21, 22, 23, 24, 25, 26] (by decide +kernel) (by decide +kernel)
set_option maxRecDepth 20000 in
theorem gX8_examiner_X0_addExaminer : GoodIn wsX8_examiner (wsV RX8 68 RX0 yX0_addExaminer wsX0_addExaminer) := goodIn_app (goodIn_of _ (by decide +kernel)) ggX8_examiner_X0_addExaminer
theorem dX8_examiner_0 : decode cX8_examiner 0 = .ok (.aload_n 0, 1) := by decide +kernel
theorem dX8_examiner_1 : decode cX8_examiner 1 = .ok (.getfield 12, 3) := by decide +kernel
theorem dX8_examiner_4 : decode cX8_examiner 4 = .ok (.invokevirtual 68, 3) := by decide +kernel
theorem dX8_examiner_7 : decode cX8_examiner 7 = .ok (.ireturn, 1) := by decide +kernel
set_option maxRecDepth 20000 in
theorem ggX8_place_X0_isExaminer : GoodIn wsX8_place wsX0_isExaminer := goodIn_r _ [7, 8, 78, 79, 80, 81, 82, 83, 84, 85, 86] (by decide +kernel) (by decide +kernel)
set_option maxRecDepth 20000 in
theorem gX8_place_X0_isExaminer : GoodIn wsX8_place (wsV RX8 72 RX0 yX0_isExaminer wsX0_isExaminer) := goodIn_app (goodIn_of _ (by decide +kernel)) ggX8_place_X0_isExaminer
set_option maxRecDepth 20000 in
theorem ggX8_place_X8_isWithin : GoodIn wsX8_place wsX8_isWithin := goodIn_r _ [12] (by decide +kernel) (by decide +kernel)
set_option maxRecDepth 20000 in
theorem gX8_place_X8_isWithin : GoodIn wsX8_place (va_wsS RX8 76 yX8_isWithin wsX8_isWithin) := goodIn_app (goodIn_of _ (by decide +kernel)) ggX8_place_X8_isWithin
set_option maxRecDepth 20000 in
theorem ggX8_place_X0_setTown : GoodIn wsX8_place wsX0_setTown := goodIn_r _ [16, 17, 18, 4, 5, 6, 7, 8, 19, 11, 20, 78, 79, 80, 81, 82, 83, 84, 85, 86] (by decide +kernel) (by decide +kernel)
set_option maxRecDepth 20000 in
theorem gX8_place_X0_setTown : GoodIn wsX8_place (wsV RX8 83 RX0 yX0_setTown wsX0_setTown) := goodIn_app (goodIn_of _ (by decide +kernel)) ggX8_place_X0_setTown
set_option maxRecDepth 20000 in
theorem ggX8_place_X8_releaseMisplaced : GoodIn wsX8_place wsX8_releaseMisplaced := goodIn_r _ [24, 25, 26, 27, 28, 29, 30, 11, 31, 32, 33, 34, 35, 1, 36, 37, 38, 39, 40, 41, 42, 43, 44, 45, 6, 46, 47, 48, 49, 50, 8, 17, 51, 52, 53, 54, 55, 56, 57, 58, 59, 60, 61, 62, 63, 64, 65, 66, 67, 68, 69, 70, 71, 72, 73, 74, 75, 76, 77, 87, 88, 89, 90, 91, 92, 93, 94, 95, 96, 97, 98, 78, 79, 80, 81, 82, 83, 84, 85, 86] (by decide +kernel) (by decide +kernel)
set_option maxRecDepth 20000 in
theorem gX8_place_X8_releaseMisplaced : GoodIn wsX8_place (wsV RX8 87 RX8 yX8_releaseMisplaced wsX8_releaseMisplaced) := goodIn_app (goodIn_of _ (by decide +kernel)) ggX8_place_X8_releaseMisplaced
theorem dX8_place_0 : decode cX8_place 0 = .ok (.aload_n 0, 1) := by decide +kernel
theorem dX8_place_1 : decode cX8_place 1 = .ok (.getfield 12, 3) := by decide +kernel
theorem dX8_place_4 : decode cX8_place 4 = .ok (.iload_n 1, 1) := by decide +kernel
theorem dX8_place_5 : decode cX8_place 5 = .ok (.invokevirtual 72, 3) := by decide +kernel
theorem dX8_place_8 : decode cX8_place 8 = .ok (.ifCond .eq 16, 3) := by decide +kernel
theorem dX8_place_11 : decode cX8_place 11 = .ok (.iload_n 2, 1) := by decide +kernel
theorem dX8_place_12 : decode cX8_place 12 = .ok (.iconst (-1), 1) := by decide +kernel
theorem dX8_place_13 : decode cX8_place 13 = .ok (.iconst 5, 1) := by decide +kernel
theorem dX8_place_14 : decode cX8_place 14 = .ok (.invokestatic 76, 3) := by decide +kernel
theorem dX8_place_17 : decode cX8_place 17 = .ok (.ifCond .eq 7, 3) := by decide +kernel
theorem dX8_place_20 : decode cX8_place 20 = .ok (.iconst 1, 1) := by decide +kernel
theorem dX8_place_21 : decode cX8_place 21 = .ok (.goto 4, 3) := by decide +kernel
theorem dX8_place_24 : decode cX8_place 24 = .ok (.iconst 0, 1) := by decide +kernel
theorem dX8_place_25 : decode cX8_place 25 = .ok (.istore 5, 2) := by decide +kernel
theorem dX8_place_27 : decode cX8_place 27 = .ok (.iload 5, 2) := by decide +kernel
theorem dX8_place_29 : decode cX8_place 29 = .ok (.ifCond .eq 27, 3) := by decide +kernel
theorem dX8_place_32 : decode cX8_place 32 = .ok (.iload_n 3, 1) := by decide +kernel
theorem dX8_place_33 : decode cX8_place 33 = .ok (.aload_n 0, 1) := by decide +kernel
theorem dX8_place_34 : decode cX8_place 34 = .ok (.getfield 12, 3) := by decide +kernel
theorem dX8_place_37 : decode cX8_place 37 = .ok (.getfield 80, 3) := by decide +kernel
theorem dX8_place_40 : decode cX8_place 40 = .ok (.if_icmp .le 16, 3) := by decide +kernel
theorem dX8_place_43 : decode cX8_place 43 = .ok (.iload_n 3, 1) := by decide +kernel
theorem dX8_place_44 : decode cX8_place 44 = .ok (.iload 4, 2) := by decide +kernel
theorem dX8_place_46 : decode cX8_place 46 = .ok (.if_icmp .gt 10, 3) := by decide +kernel
theorem dX8_place_49 : decode cX8_place 49 = .ok (.iload 4, 2) := by decide +kernel
theorem dX8_place_51 : decode cX8_place 51 = .ok (.bipush 60, 2) := by decide +kernel
theorem dX8_place_53 : decode cX8_place 53 = .ok (.if_icmp .lt 5, 3) := by decide +kernel
theorem dX8_place_56 : decode cX8_place 56 = .ok (.iconst (-1), 1) := by decide +kernel
theorem dX8_place_57 : decode cX8_place 57 = .ok (.ireturn, 1) := by decide +kernel
theorem dX8_place_58 : decode cX8_place 58 = .ok (.iload_n 3, 1) := by decide +kernel
theorem dX8_place_59 : decode cX8_place 59 = .ok (.istore 6, 2) := by decide +kernel
theorem dX8_place_61 : decode cX8_place 61 = .ok (.iload 6, 2) := by decide +kernel
theorem dX8_place_63 : decode cX8_place 63 = .ok (.iload 4, 2) := by decide +kernel
theorem dX8_place_65 : decode cX8_place 65 = .ok (.if_icmp .gt 20, 3) := by decide +kernel
theorem dX8_place_68 : decode cX8_place 68 = .ok (.aload_n 0, 1) := by decide +kernel
theorem dX8_place_69 : decode cX8_place 69 = .ok (.getfield 12, 3) := by decide +kernel
theorem dX8_place_72 : decode cX8_place 72 = .ok (.iload_n 1, 1) := by decide +kernel
theorem dX8_place_73 : decode cX8_place 73 = .ok (.iload 6, 2) := by decide +kernel
theorem dX8_place_75 : decode cX8_place 75 = .ok (.iload_n 2, 1) := by decide +kernel
theorem dX8_place_76 : decode cX8_place 76 = .ok (.invokevirtual 83, 3) := by decide +kernel
theorem dX8_place_79 : decode cX8_place 79 = .ok (.iinc 6 1, 3) := by decide +kernel
theorem dX8_place_82 : decode cX8_place 82 = .ok (.goto (-21), 3) := by decide +kernel
theorem dX8_place_85 : decode cX8_place 85 = .ok (.aload_n 0, 1) := by decide +kernel
theorem dX8_place_86 : decode cX8_place 86 = .ok (.iload_n 1, 1) := by decide +kernel
theorem dX8_place_87 : decode cX8_place 87 = .ok (.invokevirtual 87, 3) := by decide +kernel
theorem dX8_place_90 : decode cX8_place 90 = .ok (.ireturn, 1) := by decide +kernel
set_option maxRecDepth 20000 in
theorem ggX8_learner_X8_isWithin : GoodIn wsX8_learner wsX8_isWithin := goodIn_r _ [18] (by decide +kernel) (by decide +kernel)
set_option maxRecDepth 20000 in
theorem gX8_learner_X8_isWithin : GoodIn wsX8_learner (va_wsS RX8 76 yX8_isWithin wsX8_isWithin) := goodIn_app (goodIn_of _ (by decide +kernel)) ggX8_learner_X8_isWithin
set_option maxRecDepth 20000 in
theorem ggX8_learner_X8_isDay : GoodIn wsX8_learner wsX8_isDay := goodIn_r _ [21] (by decide +kernel) (by decide +kernel)
set_option maxRecDepth 20000 in
theorem gX8_learner_X8_isDay : GoodIn wsX8_learner (va_wsS RX8 91 yX8_isDay wsX8_isDay) := goodIn_app (goodIn_of _ (by decide +kernel)) ggX8_learner_X8_isDay
set_option maxRecDepth 20000 in
theorem ggX8_learner_X1_init : GoodIn wsX8_learner wsX1_init := goodIn_r _ [24, 25, 26, 27, 28, 29, 30, 31, 42, 43, 44, 45, 46, 47, 48, 49, 50, 51, 52, 53] (by decide +kernel) (by decide +kernel)
set_option maxRecDepth 20000 in
theorem gX8_learner_X1_init : GoodIn wsX8_learner (wsX1_init) := ggX8_learner_X1_init
theorem dX8_learner_0 : decode cX8_learner 0 = .ok (.iload_n 1, 1) := by decide +kernel
theorem dX8_learner_1 : decode cX8_learner 1 = .ok (.iconst 0, 1) := by decide +kernel
theorem dX8_learner_2 : decode cX8_learner 2 = .ok (.iconst 5, 1) := by decide +kernel
theorem dX8_learner_3 : decode cX8_learner 3 = .ok (.invokestatic 76, 3) := by decide +kernel
theorem dX8_learner_6 : decode cX8_learner 6 = .ok (.ifCond .eq 12, 3) := by decide +kernel
theorem dX8_learner_9 : decode cX8_learner 9 = .ok (.iload_n 2, 1) := by decide +kernel
theorem dX8_learner_10 : decode cX8_learner 10 = .ok (.iconst 0, 1) := by decide +kernel
theorem dX8_learner_11 : decode cX8_learner 11 = .ok (.iconst 3, 1) := by decide +kernel
theorem dX8_learner_12 : decode cX8_learner 12 = .ok (.invokestatic 76, 3) := by decide +kernel
theorem dX8_learner_15 : decode cX8_learner 15 = .ok (.ifCond .ne 5, 3) := by decide +kernel
theorem dX8_learner_18 : decode cX8_learner 18 = .ok (.iconst (-1), 1) := by decide +kernel
theorem dX8_learner_19 : decode cX8_learner 19 = .ok (.ireturn, 1) := by decide +kernel
theorem dX8_learner_20 : decode cX8_learner 20 = .ok (.iload_n 3, 1) := by decide +kernel
theorem dX8_learner_21 : decode cX8_learner 21 = .ok (.invokestatic 91, 3) := by decide +kernel
theorem dX8_learner_24 : decode cX8_learner 24 = .ok (.ifCond .eq 25, 3) := by decide +kernel
theorem dX8_learner_27 : decode cX8_learner 27 = .ok (.iload 4, 2) := by decide +kernel
theorem dX8_learner_29 : decode cX8_learner 29 = .ok (.invokestatic 91, 3) := by decide +kernel
theorem dX8_learner_32 : decode cX8_learner 32 = .ok (.ifCond .eq 17, 3) := by decide +kernel
theorem dX8_learner_35 : decode cX8_learner 35 = .ok (.iload 5, 2) := by decide +kernel
theorem dX8_learner_37 : decode cX8_learner 37 = .ok (.invokestatic 91, 3) := by decide +kernel
theorem dX8_learner_40 : decode cX8_learner 40 = .ok (.ifCond .eq 9, 3) := by decide +kernel
theorem dX8_learner_43 : decode cX8_learner 43 = .ok (.iload_n 3, 1) := by decide +kernel
theorem dX8_learner_44 : decode cX8_learner 44 = .ok (.iload 4, 2) := by decide +kernel
theorem dX8_learner_46 : decode cX8_learner 46 = .ok (.if_icmp .le 5, 3) := by decide +kernel
theorem dX8_learner_49 : decode cX8_learner 49 = .ok (.iconst (-1), 1) := by decide +kernel
theorem dX8_learner_50 : decode cX8_learner 50 = .ok (.ireturn, 1) := by decide +kernel
theorem dX8_learner_51 : decode cX8_learner 51 = .ok (.aload_n 0, 1) := by decide +kernel
theorem dX8_learner_52 : decode cX8_learner 52 = .ok (.getfield 64, 3) := by decide +kernel
theorem dX8_learner_55 : decode cX8_learner 55 = .ok (.bipush 60, 2) := by decide +kernel
theorem dX8_learner_57 : decode cX8_learner 57 = .ok (.if_icmp .lt 5, 3) := by decide +kernel
theorem dX8_learner_60 : decode cX8_learner 60 = .ok (.iconst (-1), 1) := by decide +kernel
theorem dX8_learner_61 : decode cX8_learner 61 = .ok (.ireturn, 1) := by decide +kernel
theorem dX8_learner_62 : decode cX8_learner 62 = .ok (.new 16, 3) := by decide +kernel
theorem dX8_learner_65 : decode cX8_learner 65 = .ok (.dup, 1) := by decide +kernel
theorem dX8_learner_66 : decode cX8_learner 66 = .ok (.aload_n 0, 1) := by decide +kernel
theorem dX8_learner_67 : decode cX8_learner 67 = .ok (.getfield 64, 3) := by decide +kernel
theorem dX8_learner_70 : decode cX8_learner 70 = .ok (.aload_n 0, 1) := by decide +kernel
theorem dX8_learner_71 : decode cX8_learner 71 = .ok (.getfield 12, 3) := by decide +kernel
theorem dX8_learner_74 : decode cX8_learner 74 = .ok (.getfield 80, 3) := by decide +kernel
theorem dX8_learner_77 : decode cX8_learner 77 = .ok (.invokespecial 94, 3) := by decide +kernel
theorem dX8_learner_80 : decode cX8_learner 80 = .ok (.astore 7, 2) := by decide +kernel
theorem dX8_learner_82 : decode cX8_learner 82 = .ok (.aload 7, 2) := by decide +kernel
theorem dX8_learner_84 : decode cX8_learner 84 = .ok (.iload_n 1, 1) := by decide +kernel
theorem dX8_learner_85 : decode cX8_learner 85 = .ok (.putfield 97, 3) := by decide +kernel
theorem dX8_learner_88 : decode cX8_learner 88 = .ok (.aload 7, 2) := by decide +kernel
theorem dX8_learner_90 : decode cX8_learner 90 = .ok (.iload_n 2, 1) := by decide +kernel
theorem dX8_learner_91 : decode cX8_learner 91 = .ok (.putfield 100, 3) := by decide +kernel
theorem dX8_learner_94 : decode cX8_learner 94 = .ok (.aload 7, 2) := by decide +kernel
theorem dX8_learner_96 : decode cX8_learner 96 = .ok (.iload_n 3, 1) := by decide +kernel
theorem dX8_learner_97 : decode cX8_learner 97 = .ok (.putfield 103, 3) := by decide +kernel
theorem dX8_learner_100 : decode cX8_learner 100 = .ok (.aload 7, 2) := by decide +kernel
theorem dX8_learner_102 : decode cX8_learner 102 = .ok (.iload 4, 2) := by decide +kernel
theorem dX8_learner_104 : decode cX8_learner 104 = .ok (.putfield 106, 3) := by decide +kernel
theorem dX8_learner_107 : decode cX8_learner 107 = .ok (.aload 7, 2) := by decide +kernel
theorem dX8_learner_109 : decode cX8_learner 109 = .ok (.iload 5, 2) := by decide +kernel
theorem dX8_learner_111 : decode cX8_learner 111 = .ok (.putfield 109, 3) := by decide +kernel
theorem dX8_learner_114 : decode cX8_learner 114 = .ok (.aload 7, 2) := by decide +kernel
theorem dX8_learner_116 : decode cX8_learner 116 = .ok (.iload 6, 2) := by decide +kernel
theorem dX8_learner_118 : decode cX8_learner 118 = .ok (.putfield 112, 3) := by decide +kernel
theorem dX8_learner_121 : decode cX8_learner 121 = .ok (.aload_n 0, 1) := by decide +kernel
theorem dX8_learner_122 : decode cX8_learner 122 = .ok (.getfield 18, 3) := by decide +kernel
theorem dX8_learner_125 : decode cX8_learner 125 = .ok (.aload_n 0, 1) := by decide +kernel
theorem dX8_learner_126 : decode cX8_learner 126 = .ok (.getfield 64, 3) := by decide +kernel
theorem dX8_learner_129 : decode cX8_learner 129 = .ok (.aload 7, 2) := by decide +kernel
theorem dX8_learner_131 : decode cX8_learner 131 = .ok (.aastore, 1) := by decide +kernel
theorem dX8_learner_132 : decode cX8_learner 132 = .ok (.aload_n 0, 1) := by decide +kernel
theorem dX8_learner_133 : decode cX8_learner 133 = .ok (.dup, 1) := by decide +kernel
theorem dX8_learner_134 : decode cX8_learner 134 = .ok (.getfield 64, 3) := by decide +kernel
theorem dX8_learner_137 : decode cX8_learner 137 = .ok (.iconst 1, 1) := by decide +kernel
theorem dX8_learner_138 : decode cX8_learner 138 = .ok (.iadd, 1) := by decide +kernel
theorem dX8_learner_139 : decode cX8_learner 139 = .ok (.putfield 64, 3) := by decide +kernel
theorem dX8_learner_142 : decode cX8_learner 142 = .ok (.aload 7, 2) := by decide +kernel
theorem dX8_learner_144 : decode cX8_learner 144 = .ok (.getfield 116, 3) := by decide +kernel
theorem dX8_learner_147 : decode cX8_learner 147 = .ok (.ireturn, 1) := by decide +kernel
set_option maxRecDepth 20000 in
theorem ggX8_feed_X4_addEight : GoodIn wsX8_feed wsX4_addEight := goodIn_r _ [7, 8, 9, 10, 11, 12, 23, 24] (by decide +kernel) (by decide +kernel)
set_option maxRecDepth 20000 in
theorem gX8_feed_X4_addEight : GoodIn wsX8_feed (wsV RX8 119 RX4 yX4_addEight wsX4_addEight) := goodIn_app (goodIn_of _ (by decide +kernel)) ggX8_feed_X4_addEight
theorem dX8_feed_0 : decode cX8_feed 0 = .ok (.aload_n 0, 1) := by decide +kernel
theorem dX8_feed_1 : decode cX8_feed 1 = .ok (.getfield 38, 3) := by decide +kernel
theorem dX8_feed_4 : decode cX8_feed 4 = .ok (.lload_n 1, 1) := by decide +kernel
theorem dX8_feed_5 : decode cX8_feed 5 = .ok (.invokevirtual 119, 3) := by decide +kernel
theorem dX8_feed_8 : decode cX8_feed 8 = .ok (.aload_n 0, 1) := by decide +kernel
theorem dX8_feed_9 : decode cX8_feed 9 = .ok (.getfield 38, 3) := by decide +kernel
theorem dX8_feed_12 : decode cX8_feed 12 = .ok (.lload_n 3, 1) := by decide +kernel
theorem dX8_feed_13 : decode cX8_feed 13 = .ok (.invokevirtual 119, 3) := by decide +kernel
theorem dX8_feed_16 : decode cX8_feed 16 = .ok (.aload_n 0, 1) := by decide +kernel
theorem dX8_feed_17 : decode cX8_feed 17 = .ok (.getfield 38, 3) := by decide +kernel
theorem dX8_feed_20 : decode cX8_feed 20 = .ok (.lload 5, 2) := by decide +kernel
theorem dX8_feed_22 : decode cX8_feed 22 = .ok (.invokevirtual 119, 3) := by decide +kernel
theorem dX8_feed_25 : decode cX8_feed 25 = .ok (.aload_n 0, 1) := by decide +kernel
theorem dX8_feed_26 : decode cX8_feed 26 = .ok (.getfield 38, 3) := by decide +kernel
theorem dX8_feed_29 : decode cX8_feed 29 = .ok (.getfield 123, 3) := by decide +kernel
theorem dX8_feed_32 : decode cX8_feed 32 = .ok (.ireturn, 1) := by decide +kernel
set_option maxRecDepth 20000 in
theorem ggX8_text_X6_read : GoodIn wsX8_text wsX6_read := goodIn_r _ [10, 11, 12, 13, 14, 15, 16, 17, 18, 19, 20, 21, 22, 23, 24, 25, 26, 27, 9, 28, 29, 30, 31, 32, 33, 34, 35, 36, 37, 38, 39, 40, 41, 42, 43, 44, 45, 46, 47, 48, 49, 50, 51, 52, 53, 54, 55, 56, 57, 58, 59, 60, 61, 62, 63, 64, 65, 66, 67, 68, 69, 70, 71, 72, 73, 74, 75, 76, 77, 78, 79, 80, 81, 82, 83, 84, 85, 86, 87, 88, 89, 90, 91, 92, 93, 94, 95, 96, 97, 98, 99, 100, 101, 102, 103, 104, 105, 106, 107, 108, 109, 110, 111, 112, 113, 114, 115, 116, 117, 118, 119, 120, 121, 122, 123, 124, 125, 126, 127, 128, 129, 130, 131, 132, 133, 134, 135, 136, 137, 138, 139, 140, 141, 142, 143, 144, 145, 146, 147, 148, 149, 150, 151, 152, 153, 154, 155, 156, 157, 158, 159, 160, 171, 172, 173, 174, 175, 176, 177, 178, 179, 180, 181, 182, 183, 184, 185, 186] (by decide +kernel) (by decide +kernel)
set_option maxRecDepth 20000 in
theorem gX8_text_X6_read : GoodIn wsX8_text (wsV RX8 126 RX6 yX6_read wsX6_read) := goodIn_app (goodIn_of _ (by decide +kernel)) ggX8_text_X6_read
theorem dX8_text_0 : decode cX8_text 0 = .ok (.aload_n 0, 1) := by decide +kernel
theorem dX8_text_1 : decode cX8_text 1 = .ok (.getfield 45, 3) := by decide +kernel
theorem dX8_text_4 : decode cX8_text 4 = .ok (.aload_n 0, 1) := by decide +kernel
theorem dX8_text_5 : decode cX8_text 5 = .ok (.getfield 38, 3) := by decide +kernel
theorem dX8_text_8 : decode cX8_text 8 = .ok (.aload_n 0, 1) := by decide +kernel
theorem dX8_text_9 : decode cX8_text 9 = .ok (.getfield 61, 3) := by decide +kernel
theorem dX8_text_12 : decode cX8_text 12 = .ok (.invokevirtual 126, 3) := by decide +kernel
theorem dX8_text_15 : decode cX8_text 15 = .ok (.istore_n 1, 1) := by decide +kernel
theorem dX8_text_16 : decode cX8_text 16 = .ok (.aload_n 0, 1) := by decide +kernel
theorem dX8_text_17 : decode cX8_text 17 = .ok (.getfield 38, 3) := by decide +kernel
theorem dX8_text_20 : decode cX8_text 20 = .ok (.iconst 0, 1) := by decide +kernel
theorem dX8_text_21 : decode cX8_text 21 = .ok (.putfield 123, 3) := by decide +kernel
theorem dX8_text_24 : decode cX8_text 24 = .ok (.iload_n 1, 1) := by decide +kernel
theorem dX8_text_25 : decode cX8_text 25 = .ok (.ifCond .ne 21, 3) := by decide +kernel
theorem dX8_text_28 : decode cX8_text 28 = .ok (.aload_n 0, 1) := by decide +kernel
theorem dX8_text_29 : decode cX8_text 29 = .ok (.getfield 57, 3) := by decide +kernel
theorem dX8_text_32 : decode cX8_text 32 = .ok (.astore_n 2, 1) := by decide +kernel
theorem dX8_text_33 : decode cX8_text 33 = .ok (.aload_n 0, 1) := by decide +kernel
theorem dX8_text_34 : decode cX8_text 34 = .ok (.aload_n 0, 1) := by decide +kernel
theorem dX8_text_35 : decode cX8_text 35 = .ok (.getfield 61, 3) := by decide +kernel
theorem dX8_text_38 : decode cX8_text 38 = .ok (.putfield 57, 3) := by decide +kernel
theorem dX8_text_41 : decode cX8_text 41 = .ok (.aload_n 0, 1) := by decide +kernel
theorem dX8_text_42 : decode cX8_text 42 = .ok (.aload_n 2, 1) := by decide +kernel
theorem dX8_text_43 : decode cX8_text 43 = .ok (.putfield 61, 3) := by decide +kernel
theorem dX8_text_46 : decode cX8_text 46 = .ok (.iload_n 1, 1) := by decide +kernel
theorem dX8_text_47 : decode cX8_text 47 = .ok (.ireturn, 1) := by decide +kernel
set_option maxRecDepth 20000 in
theorem ggX8_deal_X8_lineUpWaiting : GoodIn wsX8_deal wsX8_lineUpWaiting := goodIn_r _ [5, 6, 7, 8, 9, 10, 11, 12, 13, 14, 15, 16, 17, 18, 4, 19, 20, 21, 22, 23, 24, 25, 26, 27, 28, 29, 30, 31, 32, 33, 34, 35, 36, 37, 38, 39, 40, 41, 42, 43, 44, 45, 46, 47, 48, 49, 50, 51, 127, 128, 129, 130, 131, 132, 133, 134, 135, 136, 137, 138, 139, 140, 141, 142, 143, 144, 145, 146, 147, 148, 149, 150, 151, 152, 153, 154, 155, 156, 157, 158, 159, 160, 161, 162, 163, 164, 165, 166] (by decide +kernel) (by decide +kernel)
set_option maxRecDepth 20000 in
theorem gX8_deal_X8_lineUpWaiting : GoodIn wsX8_deal (wsV RX8 130 RX8 yX8_lineUpWaiting wsX8_lineUpWaiting) := goodIn_app (goodIn_of _ (by decide +kernel)) ggX8_deal_X8_lineUpWaiting
set_option maxRecDepth 20000 in
theorem ggX8_deal_X8_dealLine : GoodIn wsX8_deal wsX8_dealLine := goodIn_r _ [55, 6, 56, 57, 58, 59, 60, 4, 61, 7, 8, 62, 63, 64, 65, 66, 67, 68, 23, 22, 69, 70, 71, 72, 73, 74, 27, 75, 76, 77, 78, 79, 80, 81, 82, 83, 84, 85, 86, 87, 88, 89, 90, 91, 92, 93, 94, 95, 96, 97, 98, 99, 100, 101, 102, 103, 104, 105, 106, 107, 108, 109, 110, 111, 112, 113, 114, 115, 116, 117, 118, 119, 120, 121, 122, 9, 123, 124, 125, 126, 127, 128, 129, 130, 131, 132, 133, 134, 135, 136, 149, 150, 151, 137, 138, 139, 140, 141, 142, 143, 144, 145, 146, 147, 148, 152, 153, 154, 155, 156, 157, 158, 159, 160] (by decide +kernel) (by decide +kernel)
set_option maxRecDepth 20000 in
theorem gX8_deal_X8_dealLine : GoodIn wsX8_deal (wsV RX8 133 RX8 yX8_dealLine wsX8_dealLine) := goodIn_app (goodIn_of _ (by decide +kernel)) ggX8_deal_X8_dealLine
theorem dX8_deal_0 : decode cX8_deal 0 = .ok (.aload_n 0, 1) := by decide +kernel
theorem dX8_deal_1 : decode cX8_deal 1 = .ok (.invokevirtual 130, 3) := by decide +kernel
theorem dX8_deal_4 : decode cX8_deal 4 = .ok (.aload_n 0, 1) := by decide +kernel
theorem dX8_deal_5 : decode cX8_deal 5 = .ok (.invokevirtual 133, 3) := by decide +kernel
theorem dX8_deal_8 : decode cX8_deal 8 = .ok (.ireturn, 1) := by decide +kernel
set_option maxRecDepth 20000 in
theorem ggX8_cancel_X8_find : GoodIn wsX8_cancel wsX8_find := goodIn_r _ [7, 8, 9, 10, 11, 6, 12, 137, 138, 139, 140, 141, 142, 143, 144, 145, 146] (by decide +kernel) (by decide +kernel)
set_option maxRecDepth 20000 in
theorem gX8_cancel_X8_find : GoodIn wsX8_cancel (wsV RX8 136 RX8 yX8_find wsX8_find) := goodIn_app (goodIn_of _ (by decide +kernel)) ggX8_cancel_X8_find
set_option maxRecDepth 20000 in
theorem ggX8_cancel_X8_release : GoodIn wsX8_cancel wsX8_release := goodIn_r _ [16, 17, 2, 1, 18, 19, 20, 21, 22, 23, 24, 25, 26, 27, 137, 138, 139, 140, 141, 142, 143, 144, 145, 146, 125, 126, 127, 128, 129, 130, 131, 132, 133, 134, 135, 136, 147, 148, 149, 150, 151, 152, 153, 154, 155] (by decide +kernel) (by decide +kernel)
set_option maxRecDepth 20000 in
theorem gX8_cancel_X8_release : GoodIn wsX8_cancel (wsV RX8 146 RX8 yX8_release wsX8_release) := goodIn_app (goodIn_of _ (by decide +kernel)) ggX8_cancel_X8_release
set_option maxRecDepth 20000 in
theorem ggX8_cancel_X8_moveUp : GoodIn wsX8_cancel wsX8_moveUp := goodIn_r _ [31, 17, 2, 32, 33, 34, 35, 6, 36, 37, 8, 9, 1, 38, 39, 40, 41, 42, 43, 44, 45, 46, 47, 48, 49, 50, 51, 52, 53, 54, 55, 56, 57, 58, 59, 60, 61, 62, 63, 64, 65, 66, 67, 68, 69, 70, 71, 72, 73, 74, 75, 76, 77, 78, 79, 80, 81, 82, 21, 83, 23, 84, 85, 24, 25, 26, 27, 86, 87, 88, 89, 90, 91, 92, 93, 94, 95, 96, 97, 98, 99, 100, 101, 102, 103, 104, 105, 106, 107, 108, 109, 110, 3, 4, 5, 7, 10, 11, 12, 111, 112, 113, 114, 115, 116, 117, 118, 119, 13, 14, 15, 16, 18, 19, 20, 22, 120, 121, 122, 123, 124, 137, 138, 139, 140, 141, 142, 143, 144, 145, 146, 125, 126, 127, 128, 129, 130, 131, 132, 133, 134, 135, 136, 156, 157, 158, 147, 148, 149, 150, 151, 152, 153, 154, 155, 159, 160, 161, 162, 163, 164] (by decide +kernel) (by decide +kernel)
set_option maxRecDepth 20000 in
theorem gX8_cancel_X8_moveUp : GoodIn wsX8_cancel (wsV RX8 150 RX8 yX8_moveUp wsX8_moveUp) := goodIn_app (goodIn_of _ (by decide +kernel)) ggX8_cancel_X8_moveUp
theorem dX8_cancel_0 : decode cX8_cancel 0 = .ok (.aload_n 0, 1) := by decide +kernel
theorem dX8_cancel_1 : decode cX8_cancel 1 = .ok (.iload_n 1, 1) := by decide +kernel
theorem dX8_cancel_2 : decode cX8_cancel 2 = .ok (.invokevirtual 136, 3) := by decide +kernel
theorem dX8_cancel_5 : decode cX8_cancel 5 = .ok (.astore_n 2, 1) := by decide +kernel
theorem dX8_cancel_6 : decode cX8_cancel 6 = .ok (.aload_n 2, 1) := by decide +kernel
theorem dX8_cancel_7 : decode cX8_cancel 7 = .ok (.ifnull 11, 3) := by decide +kernel
theorem dX8_cancel_10 : decode cX8_cancel 10 = .ok (.aload_n 2, 1) := by decide +kernel
theorem dX8_cancel_11 : decode cX8_cancel 11 = .ok (.getfield 140, 3) := by decide +kernel
theorem dX8_cancel_14 : decode cX8_cancel 14 = .ok (.iconst 1, 1) := by decide +kernel
theorem dX8_cancel_15 : decode cX8_cancel 15 = .ok (.if_icmp .eq 5, 3) := by decide +kernel
theorem dX8_cancel_18 : decode cX8_cancel 18 = .ok (.iconst (-1), 1) := by decide +kernel
theorem dX8_cancel_19 : decode cX8_cancel 19 = .ok (.ireturn, 1) := by decide +kernel
theorem dX8_cancel_20 : decode cX8_cancel 20 = .ok (.aload_n 2, 1) := by decide +kernel
theorem dX8_cancel_21 : decode cX8_cancel 21 = .ok (.getfield 143, 3) := by decide +kernel
theorem dX8_cancel_24 : decode cX8_cancel 24 = .ok (.istore_n 3, 1) := by decide +kernel
theorem dX8_cancel_25 : decode cX8_cancel 25 = .ok (.aload_n 0, 1) := by decide +kernel
theorem dX8_cancel_26 : decode cX8_cancel 26 = .ok (.aload_n 2, 1) := by decide +kernel
theorem dX8_cancel_27 : decode cX8_cancel 27 = .ok (.invokevirtual 146, 3) := by decide +kernel
theorem dX8_cancel_30 : decode cX8_cancel 30 = .ok (.aload_n 0, 1) := by decide +kernel
theorem dX8_cancel_31 : decode cX8_cancel 31 = .ok (.iload_n 3, 1) := by decide +kernel
theorem dX8_cancel_32 : decode cX8_cancel 32 = .ok (.invokevirtual 150, 3) := by decide +kernel
theorem dX8_cancel_35 : decode cX8_cancel 35 = .ok (.ireturn, 1) := by decide +kernel
set_option maxRecDepth 20000 in
theorem ggX8_leave_X8_find : GoodIn wsX8_leave wsX8_find := goodIn_r _ [7, 8, 9, 10, 11, 6, 12, 137, 138, 139, 140, 141, 142, 143, 144, 145, 146] (by decide +kernel) (by decide +kernel)
set_option maxRecDepth 20000 in
theorem gX8_leave_X8_find : GoodIn wsX8_leave (wsV RX8 136 RX8 yX8_find wsX8_find) := goodIn_app (goodIn_of _ (by decide +kernel)) ggX8_leave_X8_find
set_option maxRecDepth 20000 in
theorem ggX8_leave_X8_release : GoodIn wsX8_leave wsX8_release := goodIn_r _ [16, 17, 2, 1, 18, 19, 20, 21, 22, 23, 24, 25, 26, 27, 137, 138, 139, 140, 141, 142, 143, 144, 145, 146, 125, 126, 127, 128, 129, 130, 131, 132, 133, 134, 135, 136, 147, 148, 149, 150, 151, 152, 153, 154, 155] (by decide +kernel) (by decide +kernel)
set_option maxRecDepth 20000 in
theorem gX8_leave_X8_release : GoodIn wsX8_leave (wsV RX8 146 RX8 yX8_release wsX8_release) := goodIn_app (goodIn_of _ (by decide +kernel)) ggX8_leave_X8_release
set_option maxRecDepth 20000 in
theorem ggX8_leave_X8_moveUp : GoodIn wsX8_leave wsX8_moveUp := goodIn_r _ [31, 17, 2, 32, 33, 34, 35, 6, 36, 37, 8, 9, 1, 38, 39, 40, 41, 42, 43, 44, 45, 46, 47, 48, 49, 50, 51, 52, 53, 54, 55, 56, 57, 58, 59, 60, 61, 62, 63, 64, 65, 66, 67, 68, 69, 70, 71, 72, 73, 74, 75, 76, 77, 78, 79, 80, 81, 82, 21, 83, 23, 84, 85, 24, 25, 26, 27, 86, 87, 88, 89, 90, 91, 92, 93, 94, 95, 96, 97, 98, 99, 100, 101, 102, 103, 104, 105, 106, 107, 108, 109, 110, 3, 4, 5, 7, 10, 11, 12, 111, 112, 113, 114, 115, 116, 117, 118, 119, 13, 14, 15, 16, 18, 19, 20, 22, 120, 121, 122, 123, 124, 137, 138, 139, 140, 141, 142, 143, 144, 145, 146, 125, 126, 127, 128, 129, 130, 131, 132, 133, 134, 135, 136, 156, 157, 158, 147, 148, 149, 150, 151, 152, 153, 154, 155, 159, 160, 161, 162, 163, 164] (by decide +kernel) (by decide +kernel)
set_option maxRecDepth 20000 in
theorem gX8_leave_X8_moveUp : GoodIn wsX8_leave (wsV RX8 150 RX8 yX8_moveUp wsX8_moveUp) := goodIn_app (goodIn_of _ (by decide +kernel)) ggX8_leave_X8_moveUp
theorem dX8_leave_0 : decode cX8_leave 0 = .ok (.aload_n 0, 1) := by decide +kernel
theorem dX8_leave_1 : decode cX8_leave 1 = .ok (.iload_n 1, 1) := by decide +kernel
theorem dX8_leave_2 : decode cX8_leave 2 = .ok (.invokevirtual 136, 3) := by decide +kernel
theorem dX8_leave_5 : decode cX8_leave 5 = .ok (.astore_n 2, 1) := by decide +kernel
theorem dX8_leave_6 : decode cX8_leave 6 = .ok (.aload_n 2, 1) := by decide +kernel
theorem dX8_leave_7 : decode cX8_leave 7 = .ok (.ifnull 18, 3) := by decide +kernel
theorem dX8_leave_10 : decode cX8_leave 10 = .ok (.aload_n 2, 1) := by decide +kernel
theorem dX8_leave_11 : decode cX8_leave 11 = .ok (.getfield 140, 3) := by decide +kernel
theorem dX8_leave_14 : decode cX8_leave 14 = .ok (.ifCond .eq 13, 3) := by decide +kernel
theorem dX8_leave_17 : decode cX8_leave 17 = .ok (.aload_n 2, 1) := by decide +kernel
theorem dX8_leave_18 : decode cX8_leave 18 = .ok (.getfield 140, 3) := by decide +kernel
theorem dX8_leave_21 : decode cX8_leave 21 = .ok (.iconst 1, 1) := by decide +kernel
theorem dX8_leave_22 : decode cX8_leave 22 = .ok (.if_icmp .eq 5, 3) := by decide +kernel
theorem dX8_leave_25 : decode cX8_leave 25 = .ok (.iconst 0, 1) := by decide +kernel
theorem dX8_leave_26 : decode cX8_leave 26 = .ok (.ireturn, 1) := by decide +kernel
theorem dX8_leave_27 : decode cX8_leave 27 = .ok (.aload_n 2, 1) := by decide +kernel
theorem dX8_leave_28 : decode cX8_leave 28 = .ok (.getfield 143, 3) := by decide +kernel
theorem dX8_leave_31 : decode cX8_leave 31 = .ok (.istore_n 3, 1) := by decide +kernel
theorem dX8_leave_32 : decode cX8_leave 32 = .ok (.aload_n 2, 1) := by decide +kernel
theorem dX8_leave_33 : decode cX8_leave 33 = .ok (.getfield 140, 3) := by decide +kernel
theorem dX8_leave_36 : decode cX8_leave 36 = .ok (.iconst 1, 1) := by decide +kernel
theorem dX8_leave_37 : decode cX8_leave 37 = .ok (.if_icmp .ne 8, 3) := by decide +kernel
theorem dX8_leave_40 : decode cX8_leave 40 = .ok (.aload_n 0, 1) := by decide +kernel
theorem dX8_leave_41 : decode cX8_leave 41 = .ok (.aload_n 2, 1) := by decide +kernel
theorem dX8_leave_42 : decode cX8_leave 42 = .ok (.invokevirtual 146, 3) := by decide +kernel
theorem dX8_leave_45 : decode cX8_leave 45 = .ok (.aload_n 2, 1) := by decide +kernel
theorem dX8_leave_46 : decode cX8_leave 46 = .ok (.iconst 3, 1) := by decide +kernel
theorem dX8_leave_47 : decode cX8_leave 47 = .ok (.putfield 140, 3) := by decide +kernel
theorem dX8_leave_50 : decode cX8_leave 50 = .ok (.iload_n 3, 1) := by decide +kernel
theorem dX8_leave_51 : decode cX8_leave 51 = .ok (.iconst (-1), 1) := by decide +kernel
theorem dX8_leave_52 : decode cX8_leave 52 = .ok (.if_icmp .eq 9, 3) := by decide +kernel
theorem dX8_leave_55 : decode cX8_leave 55 = .ok (.aload_n 0, 1) := by decide +kernel
theorem dX8_leave_56 : decode cX8_leave 56 = .ok (.iload_n 3, 1) := by decide +kernel
theorem dX8_leave_57 : decode cX8_leave 57 = .ok (.invokevirtual 150, 3) := by decide +kernel
theorem dX8_leave_60 : decode cX8_leave 60 = .ok (.pop, 1) := by decide +kernel
theorem dX8_leave_61 : decode cX8_leave 61 = .ok (.iconst 1, 1) := by decide +kernel
theorem dX8_leave_62 : decode cX8_leave 62 = .ok (.ireturn, 1) := by decide +kernel
set_option maxRecDepth 20000 in
theorem ggX8_shut_X8_isDay : GoodIn wsX8_shut wsX8_isDay := goodIn_r _ [12] (by decide +kernel) (by decide +kernel)
set_option maxRecDepth 20000 in
theorem gX8_shut_X8_isDay : GoodIn wsX8_shut (va_wsS RX8 91 yX8_isDay wsX8_isDay) := goodIn_app (goodIn_of _ (by decide +kernel)) ggX8_shut_X8_isDay
set_option maxRecDepth 20000 in
theorem ggX8_shut_X0_isShut : GoodIn wsX8_shut wsX0_isShut := goodIn_r _ [17, 18, 10, 11, 12, 149, 150, 151, 152, 153, 154, 155, 156, 157] (by decide +kernel) (by decide +kernel)
set_option maxRecDepth 20000 in
theorem gX8_shut_X0_isShut : GoodIn wsX8_shut (wsV RX8 153 RX0 yX0_isShut wsX0_isShut) := goodIn_app (goodIn_of _ (by decide +kernel)) ggX8_shut_X0_isShut
set_option maxRecDepth 20000 in
theorem ggX8_shut_X0_shutDay : GoodIn wsX8_shut wsX0_shutDay := goodIn_r _ [22, 18, 10, 11, 12, 149, 150, 151, 152, 153, 154, 155, 156, 157] (by decide +kernel) (by decide +kernel)
set_option maxRecDepth 20000 in
theorem gX8_shut_X0_shutDay : GoodIn wsX8_shut (wsV RX8 156 RX0 yX0_shutDay wsX0_shutDay) := goodIn_app (goodIn_of _ (by decide +kernel)) ggX8_shut_X0_shutDay
set_option maxRecDepth 20000 in
theorem ggX8_shut_X2_clear : GoodIn wsX8_shut wsX2_clear := goodIn_r _ [27, 28, 170, 171, 172] (by decide +kernel) (by decide +kernel)
set_option maxRecDepth 20000 in
theorem gX8_shut_X2_clear : GoodIn wsX8_shut (wsV RX8 160 RX2 yX2_clear wsX2_clear) := goodIn_app (goodIn_of _ (by decide +kernel)) ggX8_shut_X2_clear
set_option maxRecDepth 20000 in
theorem ggX8_shut_X8_dayOf : GoodIn wsX8_shut wsX8_dayOf := goodIn_r _ [31] (by decide +kernel) (by decide +kernel)
set_option maxRecDepth 20000 in
theorem gX8_shut_X8_dayOf : GoodIn wsX8_shut (va_wsS RX8 163 yX8_dayOf wsX8_dayOf) := goodIn_app (goodIn_of _ (by decide +kernel)) ggX8_shut_X8_dayOf
set_option maxRecDepth 20000 in
theorem ggX8_shut_X8_release : GoodIn wsX8_shut wsX8_release := goodIn_r _ [35, 1, 7, 6, 36, 37, 38, 16, 39, 40, 41, 42, 43, 44, 139, 140, 141, 142, 143, 144, 145, 146, 147, 148, 158, 159, 160, 161, 162, 163, 164, 165, 166, 167, 168, 169, 149, 150, 151, 152, 153, 154, 155, 156, 157] (by decide +kernel) (by decide +kernel)
set_option maxRecDepth 20000 in
theorem gX8_shut_X8_release : GoodIn wsX8_shut (wsV RX8 146 RX8 yX8_release wsX8_release) := goodIn_app (goodIn_of _ (by decide +kernel)) ggX8_shut_X8_release
set_option maxRecDepth 20000 in
theorem ggX8_shut_X8_rankOf : GoodIn wsX8_shut wsX8_rankOf := goodIn_r _ [48, 49, 50, 51, 1, 2, 52, 53, 54, 55, 56, 57, 58, 59, 60, 61, 62, 63, 64, 65, 66, 67, 68, 69, 70, 71, 72, 139, 140, 141, 142, 143, 144, 145, 146, 147, 148, 158, 159, 160, 161, 162, 163, 164, 165, 166, 167, 168, 169, 149, 150, 151, 152, 153, 154, 155, 156, 157, 173, 174, 175, 176, 177, 178] (by decide +kernel) (by decide +kernel)
set_option maxRecDepth 20000 in
theorem gX8_shut_X8_rankOf : GoodIn wsX8_shut (wsV RX8 166 RX8 yX8_rankOf wsX8_rankOf) := goodIn_app (goodIn_of _ (by decide +kernel)) ggX8_shut_X8_rankOf
set_option maxRecDepth 20000 in
theorem ggX8_shut_X2_add : GoodIn wsX8_shut wsX2_add := goodIn_r _ [76, 28, 77, 78, 170, 171, 172] (by decide +kernel) (by decide +kernel)
set_option maxRecDepth 20000 in
theorem gX8_shut_X2_add : GoodIn wsX8_shut (wsV RX8 170 RX2 yX2_add wsX2_add) := goodIn_app (goodIn_of _ (by decide +kernel)) ggX8_shut_X2_add
set_option maxRecDepth 20000 in
theorem ggX8_shut_X8_dealLine : GoodIn wsX8_shut wsX8_dealLine := goodIn_r _ [82, 3, 8, 83, 84, 85, 86, 11, 87, 4, 5, 88, 89, 90, 91, 92, 93, 94, 1, 51, 95, 96, 97, 98, 99, 100, 54, 101, 102, 103, 16, 104, 105, 106, 107, 108, 109, 110, 111, 112, 113, 114, 115, 116, 117, 118, 119, 120, 121, 122, 40, 18, 41, 42, 43, 44, 30, 31, 123, 124, 125, 126, 127, 128, 129, 130, 131, 132, 133, 134, 135, 136, 137, 138, 7, 6, 36, 37, 38, 39, 139, 140, 141, 142, 143, 144, 145, 146, 147, 148, 170, 171, 172, 158, 159, 160, 161, 162, 163, 164, 165, 166, 167, 168, 169, 149, 150, 151, 152, 153, 154, 155, 156, 157] (by decide +kernel) (by decide +kernel)
set_option maxRecDepth 20000 in
theorem gX8_shut_X8_dealLine : GoodIn wsX8_shut (wsV RX8 133 RX8 yX8_dealLine wsX8_dealLine) := goodIn_app (goodIn_of _ (by decide +kernel)) ggX8_shut_X8_dealLine
theorem dX8_shut_0 : decode cX8_shut 0 = .ok (.iload_n 1, 1) := by decide +kernel
theorem dX8_shut_1 : decode cX8_shut 1 = .ok (.invokestatic 91, 3) := by decide +kernel
theorem dX8_shut_4 : decode cX8_shut 4 = .ok (.ifCond .eq 25, 3) := by decide +kernel
theorem dX8_shut_7 : decode cX8_shut 7 = .ok (.iload_n 1, 1) := by decide +kernel
theorem dX8_shut_8 : decode cX8_shut 8 = .ok (.aload_n 0, 1) := by decide +kernel
theorem dX8_shut_9 : decode cX8_shut 9 = .ok (.getfield 12, 3) := by decide +kernel
theorem dX8_shut_12 : decode cX8_shut 12 = .ok (.getfield 80, 3) := by decide +kernel
theorem dX8_shut_15 : decode cX8_shut 15 = .ok (.if_icmp .le 14, 3) := by decide +kernel
theorem dX8_shut_18 : decode cX8_shut 18 = .ok (.aload_n 0, 1) := by decide +kernel
theorem dX8_shut_19 : decode cX8_shut 19 = .ok (.getfield 12, 3) := by decide +kernel
theorem dX8_shut_22 : decode cX8_shut 22 = .ok (.iload_n 1, 1) := by decide +kernel
theorem dX8_shut_23 : decode cX8_shut 23 = .ok (.invokevirtual 153, 3) := by decide +kernel
theorem dX8_shut_26 : decode cX8_shut 26 = .ok (.ifCond .eq 5, 3) := by decide +kernel
theorem dX8_shut_29 : decode cX8_shut 29 = .ok (.iconst (-1), 1) := by decide +kernel
theorem dX8_shut_30 : decode cX8_shut 30 = .ok (.ireturn, 1) := by decide +kernel
theorem dX8_shut_31 : decode cX8_shut 31 = .ok (.aload_n 0, 1) := by decide +kernel
theorem dX8_shut_32 : decode cX8_shut 32 = .ok (.getfield 12, 3) := by decide +kernel
theorem dX8_shut_35 : decode cX8_shut 35 = .ok (.iload_n 1, 1) := by decide +kernel
theorem dX8_shut_36 : decode cX8_shut 36 = .ok (.invokevirtual 156, 3) := by decide +kernel
theorem dX8_shut_39 : decode cX8_shut 39 = .ok (.aload_n 0, 1) := by decide +kernel
theorem dX8_shut_40 : decode cX8_shut 40 = .ok (.getfield 25, 3) := by decide +kernel
theorem dX8_shut_43 : decode cX8_shut 43 = .ok (.invokevirtual 160, 3) := by decide +kernel
theorem dX8_shut_46 : decode cX8_shut 46 = .ok (.iconst 0, 1) := by decide +kernel
theorem dX8_shut_47 : decode cX8_shut 47 = .ok (.istore_n 2, 1) := by decide +kernel
theorem dX8_shut_48 : decode cX8_shut 48 = .ok (.iload_n 2, 1) := by decide +kernel
theorem dX8_shut_49 : decode cX8_shut 49 = .ok (.aload_n 0, 1) := by decide +kernel
theorem dX8_shut_50 : decode cX8_shut 50 = .ok (.getfield 64, 3) := by decide +kernel
theorem dX8_shut_53 : decode cX8_shut 53 = .ok (.if_icmp .ge 53, 3) := by decide +kernel
theorem dX8_shut_56 : decode cX8_shut 56 = .ok (.aload_n 0, 1) := by decide +kernel
theorem dX8_shut_57 : decode cX8_shut 57 = .ok (.getfield 18, 3) := by decide +kernel
theorem dX8_shut_60 : decode cX8_shut 60 = .ok (.iload_n 2, 1) := by decide +kernel
theorem dX8_shut_61 : decode cX8_shut 61 = .ok (.aaload, 1) := by decide +kernel
theorem dX8_shut_62 : decode cX8_shut 62 = .ok (.astore_n 3, 1) := by decide +kernel
theorem dX8_shut_63 : decode cX8_shut 63 = .ok (.aload_n 3, 1) := by decide +kernel
theorem dX8_shut_64 : decode cX8_shut 64 = .ok (.getfield 140, 3) := by decide +kernel
theorem dX8_shut_67 : decode cX8_shut 67 = .ok (.iconst 1, 1) := by decide +kernel
theorem dX8_shut_68 : decode cX8_shut 68 = .ok (.if_icmp .ne 32, 3) := by decide +kernel
theorem dX8_shut_71 : decode cX8_shut 71 = .ok (.aload_n 3, 1) := by decide +kernel
theorem dX8_shut_72 : decode cX8_shut 72 = .ok (.getfield 143, 3) := by decide +kernel
theorem dX8_shut_75 : decode cX8_shut 75 = .ok (.invokestatic 163, 3) := by decide +kernel
theorem dX8_shut_78 : decode cX8_shut 78 = .ok (.iload_n 1, 1) := by decide +kernel
theorem dX8_shut_79 : decode cX8_shut 79 = .ok (.if_icmp .ne 21, 3) := by decide +kernel
theorem dX8_shut_82 : decode cX8_shut 82 = .ok (.aload_n 0, 1) := by decide +kernel
theorem dX8_shut_83 : decode cX8_shut 83 = .ok (.aload_n 3, 1) := by decide +kernel
theorem dX8_shut_84 : decode cX8_shut 84 = .ok (.invokevirtual 146, 3) := by decide +kernel
theorem dX8_shut_87 : decode cX8_shut 87 = .ok (.aload_n 0, 1) := by decide +kernel
theorem dX8_shut_88 : decode cX8_shut 88 = .ok (.getfield 25, 3) := by decide +kernel
theorem dX8_shut_91 : decode cX8_shut 91 = .ok (.iload_n 2, 1) := by decide +kernel
theorem dX8_shut_92 : decode cX8_shut 92 = .ok (.aload_n 0, 1) := by decide +kernel
theorem dX8_shut_93 : decode cX8_shut 93 = .ok (.aload_n 3, 1) := by decide +kernel
theorem dX8_shut_94 : decode cX8_shut 94 = .ok (.invokevirtual 166, 3) := by decide +kernel
theorem dX8_shut_97 : decode cX8_shut 97 = .ok (.invokevirtual 170, 3) := by decide +kernel
theorem dX8_shut_100 : decode cX8_shut 100 = .ok (.iinc 2 1, 3) := by decide +kernel
theorem dX8_shut_103 : decode cX8_shut 103 = .ok (.goto (-55), 3) := by decide +kernel
theorem dX8_shut_106 : decode cX8_shut 106 = .ok (.aload_n 0, 1) := by decide +kernel
theorem dX8_shut_107 : decode cX8_shut 107 = .ok (.getfield 25, 3) := by decide +kernel
theorem dX8_shut_110 : decode cX8_shut 110 = .ok (.getfield 173, 3) := by decide +kernel
theorem dX8_shut_113 : decode cX8_shut 113 = .ok (.aload_n 0, 1) := by decide +kernel
theorem dX8_shut_114 : decode cX8_shut 114 = .ok (.invokevirtual 133, 3) := by decide +kernel
theorem dX8_shut_117 : decode cX8_shut 117 = .ok (.isub, 1) := by decide +kernel
theorem dX8_shut_118 : decode cX8_shut 118 = .ok (.ireturn, 1) := by decide +kernel
set_option maxRecDepth 20000 in
theorem ggX8_days_X8_isWithin : GoodIn wsX8_days wsX8_isWithin := goodIn_r _ [10] (by decide +kernel) (by decide +kernel)
set_option maxRecDepth 20000 in
theorem gX8_days_X8_isWithin : GoodIn wsX8_days (va_wsS RX8 76 yX8_isWithin wsX8_isWithin) := goodIn_app (goodIn_of _ (by decide +kernel)) ggX8_days_X8_isWithin
set_option maxRecDepth 20000 in
theorem ggX8_days_X8_isDay : GoodIn wsX8_days wsX8_isDay := goodIn_r _ [13] (by decide +kernel) (by decide +kernel)
set_option maxRecDepth 20000 in
theorem gX8_days_X8_isDay : GoodIn wsX8_days (va_wsS RX8 91 yX8_isDay wsX8_isDay) := goodIn_app (goodIn_of _ (by decide +kernel)) ggX8_days_X8_isDay
set_option maxRecDepth 20000 in
theorem ggX8_days_X8_dayOf : GoodIn wsX8_days wsX8_dayOf := goodIn_r _ [16] (by decide +kernel) (by decide +kernel)
set_option maxRecDepth 20000 in
theorem gX8_days_X8_dayOf : GoodIn wsX8_days (va_wsS RX8 163 yX8_dayOf wsX8_dayOf) := goodIn_app (goodIn_of _ (by decide +kernel)) ggX8_days_X8_dayOf
set_option maxRecDepth 20000 in
theorem ggX8_days_X8_release : GoodIn wsX8_days wsX8_release := goodIn_r _ [20, 1, 6, 5, 21, 22, 23, 24, 25, 26, 27, 28, 29, 30, 31, 32, 33, 34, 35, 36, 37, 38, 39, 40, 50, 51, 52, 53, 54, 55, 56, 57, 58, 59, 60, 61, 41, 42, 43, 44, 45, 46, 47, 48, 49] (by decide +kernel) (by decide +kernel)
set_option maxRecDepth 20000 in
theorem gX8_days_X8_release : GoodIn wsX8_days (wsV RX8 146 RX8 yX8_release wsX8_release) := goodIn_app (goodIn_of _ (by decide +kernel)) ggX8_days_X8_release
theorem dX8_days_0 : decode cX8_days 0 = .ok (.iload_n 1, 1) := by decide +kernel
theorem dX8_days_1 : decode cX8_days 1 = .ok (.iconst 1, 1) := by decide +kernel
theorem dX8_days_2 : decode cX8_days 2 = .ok (.bipush 59, 2) := by decide +kernel
theorem dX8_days_4 : decode cX8_days 4 = .ok (.invokestatic 76, 3) := by decide +kernel
theorem dX8_days_7 : decode cX8_days 7 = .ok (.ifCond .eq 18, 3) := by decide +kernel
theorem dX8_days_10 : decode cX8_days 10 = .ok (.aload_n 0, 1) := by decide +kernel
theorem dX8_days_11 : decode cX8_days 11 = .ok (.getfield 12, 3) := by decide +kernel
theorem dX8_days_14 : decode cX8_days 14 = .ok (.getfield 80, 3) := by decide +kernel
theorem dX8_days_17 : decode cX8_days 17 = .ok (.iload_n 1, 1) := by decide +kernel
theorem dX8_days_18 : decode cX8_days 18 = .ok (.iadd, 1) := by decide +kernel
theorem dX8_days_19 : decode cX8_days 19 = .ok (.invokestatic 91, 3) := by decide +kernel
theorem dX8_days_22 : decode cX8_days 22 = .ok (.ifCond .ne 5, 3) := by decide +kernel
theorem dX8_days_25 : decode cX8_days 25 = .ok (.iconst (-1), 1) := by decide +kernel
theorem dX8_days_26 : decode cX8_days 26 = .ok (.ireturn, 1) := by decide +kernel
theorem dX8_days_27 : decode cX8_days 27 = .ok (.aload_n 0, 1) := by decide +kernel
theorem dX8_days_28 : decode cX8_days 28 = .ok (.getfield 12, 3) := by decide +kernel
theorem dX8_days_31 : decode cX8_days 31 = .ok (.dup, 1) := by decide +kernel
theorem dX8_days_32 : decode cX8_days 32 = .ok (.getfield 80, 3) := by decide +kernel
theorem dX8_days_35 : decode cX8_days 35 = .ok (.iload_n 1, 1) := by decide +kernel
theorem dX8_days_36 : decode cX8_days 36 = .ok (.iadd, 1) := by decide +kernel
theorem dX8_days_37 : decode cX8_days 37 = .ok (.putfield 80, 3) := by decide +kernel
theorem dX8_days_40 : decode cX8_days 40 = .ok (.iconst 0, 1) := by decide +kernel
theorem dX8_days_41 : decode cX8_days 41 = .ok (.istore_n 2, 1) := by decide +kernel
theorem dX8_days_42 : decode cX8_days 42 = .ok (.iload_n 2, 1) := by decide +kernel
theorem dX8_days_43 : decode cX8_days 43 = .ok (.aload_n 0, 1) := by decide +kernel
theorem dX8_days_44 : decode cX8_days 44 = .ok (.getfield 64, 3) := by decide +kernel
theorem dX8_days_47 : decode cX8_days 47 = .ok (.if_icmp .ge 46, 3) := by decide +kernel
theorem dX8_days_50 : decode cX8_days 50 = .ok (.aload_n 0, 1) := by decide +kernel
theorem dX8_days_51 : decode cX8_days 51 = .ok (.getfield 18, 3) := by decide +kernel
theorem dX8_days_54 : decode cX8_days 54 = .ok (.iload_n 2, 1) := by decide +kernel
theorem dX8_days_55 : decode cX8_days 55 = .ok (.aaload, 1) := by decide +kernel
theorem dX8_days_56 : decode cX8_days 56 = .ok (.astore_n 3, 1) := by decide +kernel
theorem dX8_days_57 : decode cX8_days 57 = .ok (.aload_n 3, 1) := by decide +kernel
theorem dX8_days_58 : decode cX8_days 58 = .ok (.getfield 140, 3) := by decide +kernel
theorem dX8_days_61 : decode cX8_days 61 = .ok (.iconst 1, 1) := by decide +kernel
theorem dX8_days_62 : decode cX8_days 62 = .ok (.if_icmp .ne 25, 3) := by decide +kernel
theorem dX8_days_65 : decode cX8_days 65 = .ok (.aload_n 3, 1) := by decide +kernel
theorem dX8_days_66 : decode cX8_days 66 = .ok (.getfield 143, 3) := by decide +kernel
theorem dX8_days_69 : decode cX8_days 69 = .ok (.invokestatic 163, 3) := by decide +kernel
theorem dX8_days_72 : decode cX8_days 72 = .ok (.aload_n 0, 1) := by decide +kernel
theorem dX8_days_73 : decode cX8_days 73 = .ok (.getfield 12, 3) := by decide +kernel
theorem dX8_days_76 : decode cX8_days 76 = .ok (.getfield 80, 3) := by decide +kernel
theorem dX8_days_79 : decode cX8_days 79 = .ok (.if_icmp .ge 8, 3) := by decide +kernel
theorem dX8_days_82 : decode cX8_days 82 = .ok (.aload_n 0, 1) := by decide +kernel
theorem dX8_days_83 : decode cX8_days 83 = .ok (.aload_n 3, 1) := by decide +kernel
theorem dX8_days_84 : decode cX8_days 84 = .ok (.invokevirtual 146, 3) := by decide +kernel
theorem dX8_days_87 : decode cX8_days 87 = .ok (.iinc 2 1, 3) := by decide +kernel
theorem dX8_days_90 : decode cX8_days 90 = .ok (.goto (-48), 3) := by decide +kernel
theorem dX8_days_93 : decode cX8_days 93 = .ok (.aload_n 0, 1) := by decide +kernel
theorem dX8_days_94 : decode cX8_days 94 = .ok (.getfield 12, 3) := by decide +kernel
theorem dX8_days_97 : decode cX8_days 97 = .ok (.getfield 80, 3) := by decide +kernel
theorem dX8_days_100 : decode cX8_days 100 = .ok (.ireturn, 1) := by decide +kernel
set_option maxRecDepth 20000 in
theorem ggX8_held_X8_find : GoodIn wsX8_held wsX8_find := goodIn_r _ [10, 11, 12, 13, 14, 9, 15, 61, 62, 63, 64, 65, 66, 67, 68, 69, 70] (by decide +kernel) (by decide +kernel)
set_option maxRecDepth 20000 in
theorem gX8_held_X8_find : GoodIn wsX8_held (wsV RX8 136 RX8 yX8_find wsX8_find) := goodIn_app (goodIn_of _ (by decide +kernel)) ggX8_held_X8_find
set_option maxRecDepth 20000 in
theorem ggX8_held_X8_dayOf : GoodIn wsX8_held wsX8_dayOf := goodIn_r _ [18] (by decide +kernel) (by decide +kernel)
set_option maxRecDepth 20000 in
theorem gX8_held_X8_dayOf : GoodIn wsX8_held (va_wsS RX8 163 yX8_dayOf wsX8_dayOf) := goodIn_app (goodIn_of _ (by decide +kernel)) ggX8_held_X8_dayOf
set_option maxRecDepth 20000 in
theorem ggX8_held_X8_examinerOf : GoodIn wsX8_held wsX8_examinerOf := goodIn_r _ [21] (by decide +kernel) (by decide +kernel)
set_option maxRecDepth 20000 in
theorem gX8_held_X8_examinerOf : GoodIn wsX8_held (va_wsS RX8 176 yX8_examinerOf wsX8_examinerOf) := goodIn_app (goodIn_of _ (by decide +kernel)) ggX8_held_X8_examinerOf
set_option maxRecDepth 20000 in
theorem ggX8_held_X0_noteTest : GoodIn wsX8_held wsX0_noteTest := goodIn_r _ [26, 27, 28, 29, 30, 31, 32, 33, 25, 34, 35, 71, 72, 73, 74, 75, 76, 77, 78, 79] (by decide +kernel) (by decide +kernel)
set_option maxRecDepth 20000 in
theorem gX8_held_X0_noteTest : GoodIn wsX8_held (wsV RX8 179 RX0 yX0_noteTest wsX0_noteTest) := goodIn_app (goodIn_of _ (by decide +kernel)) ggX8_held_X0_noteTest
set_option maxRecDepth 20000 in
theorem ggX8_held_X8_release : GoodIn wsX8_held wsX8_release := goodIn_r _ [39, 3, 2, 1, 40, 41, 42, 25, 43, 44, 45, 46, 47, 48, 61, 62, 63, 64, 65, 66, 67, 68, 69, 70, 49, 50, 51, 52, 53, 54, 55, 56, 57, 58, 59, 60, 71, 72, 73, 74, 75, 76, 77, 78, 79] (by decide +kernel) (by decide +kernel)
set_option maxRecDepth 20000 in
theorem gX8_held_X8_release : GoodIn wsX8_held (wsV RX8 146 RX8 yX8_release wsX8_release) := goodIn_app (goodIn_of _ (by decide +kernel)) ggX8_held_X8_release
theorem dX8_held_0 : decode cX8_held 0 = .ok (.aload_n 0, 1) := by decide +kernel
theorem dX8_held_1 : decode cX8_held 1 = .ok (.iload_n 1, 1) := by decide +kernel
theorem dX8_held_2 : decode cX8_held 2 = .ok (.invokevirtual 136, 3) := by decide +kernel
theorem dX8_held_5 : decode cX8_held 5 = .ok (.astore_n 3, 1) := by decide +kernel
theorem dX8_held_6 : decode cX8_held 6 = .ok (.aload_n 3, 1) := by decide +kernel
theorem dX8_held_7 : decode cX8_held 7 = .ok (.ifnull 28, 3) := by decide +kernel
theorem dX8_held_10 : decode cX8_held 10 = .ok (.aload_n 3, 1) := by decide +kernel
theorem dX8_held_11 : decode cX8_held 11 = .ok (.getfield 140, 3) := by decide +kernel
theorem dX8_held_14 : decode cX8_held 14 = .ok (.iconst 1, 1) := by decide +kernel
theorem dX8_held_15 : decode cX8_held 15 = .ok (.if_icmp .ne 20, 3) := by decide +kernel
theorem dX8_held_18 : decode cX8_held 18 = .ok (.aload_n 3, 1) := by decide +kernel
theorem dX8_held_19 : decode cX8_held 19 = .ok (.getfield 143, 3) := by decide +kernel
theorem dX8_held_22 : decode cX8_held 22 = .ok (.invokestatic 163, 3) := by decide +kernel
theorem dX8_held_25 : decode cX8_held 25 = .ok (.aload_n 0, 1) := by decide +kernel
theorem dX8_held_26 : decode cX8_held 26 = .ok (.getfield 12, 3) := by decide +kernel
theorem dX8_held_29 : decode cX8_held 29 = .ok (.getfield 80, 3) := by decide +kernel
theorem dX8_held_32 : decode cX8_held 32 = .ok (.if_icmp .eq 5, 3) := by decide +kernel
theorem dX8_held_35 : decode cX8_held 35 = .ok (.iconst 0, 1) := by decide +kernel
theorem dX8_held_36 : decode cX8_held 36 = .ok (.ireturn, 1) := by decide +kernel
theorem dX8_held_37 : decode cX8_held 37 = .ok (.aload_n 0, 1) := by decide +kernel
theorem dX8_held_38 : decode cX8_held 38 = .ok (.getfield 12, 3) := by decide +kernel
theorem dX8_held_41 : decode cX8_held 41 = .ok (.aload_n 3, 1) := by decide +kernel
theorem dX8_held_42 : decode cX8_held 42 = .ok (.getfield 143, 3) := by decide +kernel
theorem dX8_held_45 : decode cX8_held 45 = .ok (.invokestatic 176, 3) := by decide +kernel
theorem dX8_held_48 : decode cX8_held 48 = .ok (.iload_n 2, 1) := by decide +kernel
theorem dX8_held_49 : decode cX8_held 49 = .ok (.invokevirtual 179, 3) := by decide +kernel
theorem dX8_held_52 : decode cX8_held 52 = .ok (.aload_n 0, 1) := by decide +kernel
theorem dX8_held_53 : decode cX8_held 53 = .ok (.aload_n 3, 1) := by decide +kernel
theorem dX8_held_54 : decode cX8_held 54 = .ok (.invokevirtual 146, 3) := by decide +kernel
theorem dX8_held_57 : decode cX8_held 57 = .ok (.iload_n 2, 1) := by decide +kernel
theorem dX8_held_58 : decode cX8_held 58 = .ok (.ifCond .eq 11, 3) := by decide +kernel
theorem dX8_held_61 : decode cX8_held 61 = .ok (.aload_n 3, 1) := by decide +kernel
theorem dX8_held_62 : decode cX8_held 62 = .ok (.iconst 2, 1) := by decide +kernel
theorem dX8_held_63 : decode cX8_held 63 = .ok (.putfield 140, 3) := by decide +kernel
theorem dX8_held_66 : decode cX8_held 66 = .ok (.goto 13, 3) := by decide +kernel
theorem dX8_held_69 : decode cX8_held 69 = .ok (.aload_n 3, 1) := by decide +kernel
theorem dX8_held_70 : decode cX8_held 70 = .ok (.dup, 1) := by decide +kernel
theorem dX8_held_71 : decode cX8_held 71 = .ok (.getfield 183, 3) := by decide +kernel
theorem dX8_held_74 : decode cX8_held 74 = .ok (.iconst 1, 1) := by decide +kernel
theorem dX8_held_75 : decode cX8_held 75 = .ok (.iadd, 1) := by decide +kernel
theorem dX8_held_76 : decode cX8_held 76 = .ok (.putfield 183, 3) := by decide +kernel
theorem dX8_held_79 : decode cX8_held 79 = .ok (.iconst 1, 1) := by decide +kernel
theorem dX8_held_80 : decode cX8_held 80 = .ok (.ireturn, 1) := by decide +kernel
set_option maxRecDepth 20000 in
theorem ggX8_look_X8_find : GoodIn wsX8_look wsX8_find := goodIn_r _ [11, 12, 13, 14, 15, 10, 16, 84, 85, 86, 87, 88, 89, 90, 91, 92, 93] (by decide +kernel) (by decide +kernel)
set_option maxRecDepth 20000 in
theorem gX8_look_X8_find : GoodIn wsX8_look (wsV RX8 136 RX8 yX8_find wsX8_find) := goodIn_app (goodIn_of _ (by decide +kernel)) ggX8_look_X8_find
set_option maxRecDepth 20000 in
theorem ggX8_look_X8_placeAmongWaiting : GoodIn wsX8_look wsX8_placeAmongWaiting := goodIn_r _ [20, 21, 22, 23, 24, 25, 10, 26, 12, 13, 3, 27, 28, 29, 30, 31, 32, 33, 34, 35, 36, 37, 38, 39, 40, 41, 42, 5, 43, 44, 45, 46, 47, 48, 49, 50, 51, 52, 53, 54, 55, 56, 57, 58, 59, 60, 61, 62, 63, 64, 65, 66, 67, 68, 69, 70, 71, 84, 85, 86, 87, 88, 89, 90, 91, 92, 93, 72, 73, 74, 75, 76, 77, 78, 79, 80, 81, 82, 83, 94, 95, 96, 97, 98, 99, 100, 101, 102, 103, 104, 105, 106, 107, 108, 109, 110, 111] (by decide +kernel) (by decide +kernel)
set_option maxRecDepth 20000 in
theorem gX8_look_X8_placeAmongWaiting : GoodIn wsX8_look (wsV RX8 193 RX8 yX8_placeAmongWaiting wsX8_placeAmongWaiting) := goodIn_app (goodIn_of _ (by decide +kernel)) ggX8_look_X8_placeAmongWaiting
theorem dX8_look_0 : decode cX8_look 0 = .ok (.aload_n 0, 1) := by decide +kernel
theorem dX8_look_1 : decode cX8_look 1 = .ok (.iload_n 1, 1) := by decide +kernel
theorem dX8_look_2 : decode cX8_look 2 = .ok (.invokevirtual 136, 3) := by decide +kernel
theorem dX8_look_5 : decode cX8_look 5 = .ok (.astore_n 3, 1) := by decide +kernel
theorem dX8_look_6 : decode cX8_look 6 = .ok (.aload_n 3, 1) := by decide +kernel
theorem dX8_look_7 : decode cX8_look 7 = .ok (.ifnonnull 13, 3) := by decide +kernel
theorem dX8_look_10 : decode cX8_look 10 = .ok (.new 186, 3) := by decide +kernel
theorem dX8_look_13 : decode cX8_look 13 = .ok (.dup, 1) := by decide +kernel
theorem dX8_look_14 : decode cX8_look 14 = .ok (.ldc 188, 2) := by decide +kernel
theorem dX8_look_16 : decode cX8_look 16 = .ok (.invokespecial 190, 3) := by decide +kernel
theorem dX8_look_19 : decode cX8_look 19 = .ok (.athrow, 1) := by decide +kernel
theorem dX8_look_20 : decode cX8_look 20 = .ok (.iload_n 2, 1) := by decide +kernel
theorem dX8_look_21 : decode cX8_look 21 = .ok (.tableswitch 61 0 4 #[35, 40, 45, 50, 56], 35) := by decide +kernel
theorem dX8_look_56 : decode cX8_look 56 = .ok (.aload_n 3, 1) := by decide +kernel
theorem dX8_look_57 : decode cX8_look 57 = .ok (.getfield 140, 3) := by decide +kernel
theorem dX8_look_60 : decode cX8_look 60 = .ok (.ireturn, 1) := by decide +kernel
theorem dX8_look_61 : decode cX8_look 61 = .ok (.aload_n 3, 1) := by decide +kernel
theorem dX8_look_62 : decode cX8_look 62 = .ok (.getfield 143, 3) := by decide +kernel
theorem dX8_look_65 : decode cX8_look 65 = .ok (.ireturn, 1) := by decide +kernel
theorem dX8_look_66 : decode cX8_look 66 = .ok (.aload_n 3, 1) := by decide +kernel
theorem dX8_look_67 : decode cX8_look 67 = .ok (.getfield 183, 3) := by decide +kernel
theorem dX8_look_70 : decode cX8_look 70 = .ok (.ireturn, 1) := by decide +kernel
theorem dX8_look_71 : decode cX8_look 71 = .ok (.aload_n 0, 1) := by decide +kernel
theorem dX8_look_72 : decode cX8_look 72 = .ok (.aload_n 3, 1) := by decide +kernel
theorem dX8_look_73 : decode cX8_look 73 = .ok (.invokevirtual 193, 3) := by decide +kernel
theorem dX8_look_76 : decode cX8_look 76 = .ok (.ireturn, 1) := by decide +kernel
theorem dX8_look_77 : decode cX8_look 77 = .ok (.aload_n 3, 1) := by decide +kernel
theorem dX8_look_78 : decode cX8_look 78 = .ok (.getfield 196, 3) := by decide +kernel
theorem dX8_look_81 : decode cX8_look 81 = .ok (.ireturn, 1) := by decide +kernel
theorem dX8_look_82 : decode cX8_look 82 = .ok (.new 186, 3) := by decide +kernel
theorem dX8_look_85 : decode cX8_look 85 = .ok (.dup, 1) := by decide +kernel
theorem dX8_look_86 : decode cX8_look 86 = .ok (.ldc 199, 2) := by decide +kernel
theorem dX8_look_88 : decode cX8_look 88 = .ok (.invokespecial 190, 3) := by decide +kernel
theorem dX8_look_91 : decode cX8_look 91 = .ok (.athrow, 1) := by decide +kernel
set_option maxRecDepth 20000 in
theorem ggX8_at_X8_isDay : GoodIn wsX8_at wsX8_isDay := goodIn_r _ [5] (by decide +kernel) (by decide +kernel)
set_option maxRecDepth 20000 in
theorem gX8_at_X8_isDay : GoodIn wsX8_at (va_wsS RX8 91 yX8_isDay wsX8_isDay) := goodIn_app (goodIn_of _ (by decide +kernel)) ggX8_at_X8_isDay
set_option maxRecDepth 20000 in
theorem ggX8_at_X8_isWithin : GoodIn wsX8_at wsX8_isWithin := goodIn_r _ [8] (by decide +kernel) (by decide +kernel)
set_option maxRecDepth 20000 in
theorem gX8_at_X8_isWithin : GoodIn wsX8_at (va_wsS RX8 76 yX8_isWithin wsX8_isWithin) := goodIn_app (goodIn_of _ (by decide +kernel)) ggX8_at_X8_isWithin
set_option maxRecDepth 20000 in
theorem ggX8_at_X0_isExaminer : GoodIn wsX8_at wsX0_isExaminer := goodIn_r _ [13, 14, 49, 50, 51, 52, 53, 54, 55, 56, 57] (by decide +kernel) (by decide +kernel)
set_option maxRecDepth 20000 in
theorem gX8_at_X0_isExaminer : GoodIn wsX8_at (wsV RX8 72 RX0 yX0_isExaminer wsX0_isExaminer) := goodIn_app (goodIn_of _ (by decide +kernel)) ggX8_at_X0_isExaminer
set_option maxRecDepth 20000 in
theorem ggX8_at_X0_hasHour : GoodIn wsX8_at wsX0_hasHour := goodIn_r _ [18, 19, 20, 21, 12, 22, 14, 23, 24, 25, 26, 49, 50, 51, 52, 53, 54, 55, 56, 57] (by decide +kernel) (by decide +kernel)
set_option maxRecDepth 20000 in
theorem gX8_at_X0_hasHour : GoodIn wsX8_at (wsV RX8 201 RX0 yX0_hasHour wsX0_hasHour) := goodIn_app (goodIn_of _ (by decide +kernel)) ggX8_at_X0_hasHour
set_option maxRecDepth 20000 in
theorem ggX8_at_X8_slotOf : GoodIn wsX8_at wsX8_slotOf := goodIn_r _ [29] (by decide +kernel) (by decide +kernel)
set_option maxRecDepth 20000 in
theorem gX8_at_X8_slotOf : GoodIn wsX8_at (va_wsS RX8 204 yX8_slotOf wsX8_slotOf) := goodIn_app (goodIn_of _ (by decide +kernel)) ggX8_at_X8_slotOf
set_option maxRecDepth 20000 in
theorem ggX8_at_X0_bookedIn : GoodIn wsX8_at wsX0_bookedIn := goodIn_r _ [33, 34, 35, 36, 37, 12, 38, 49, 50, 51, 52, 53, 54, 55, 56, 57] (by decide +kernel) (by decide +kernel)
set_option maxRecDepth 20000 in
theorem gX8_at_X0_bookedIn : GoodIn wsX8_at (wsV RX8 208 RX0 yX0_bookedIn wsX0_bookedIn) := goodIn_app (goodIn_of _ (by decide +kernel)) ggX8_at_X0_bookedIn
theorem dX8_at_0 : decode cX8_at 0 = .ok (.iload_n 1, 1) := by decide +kernel
theorem dX8_at_1 : decode cX8_at 1 = .ok (.invokestatic 91, 3) := by decide +kernel
theorem dX8_at_4 : decode cX8_at 4 = .ok (.ifCond .eq 23, 3) := by decide +kernel
theorem dX8_at_7 : decode cX8_at 7 = .ok (.iload_n 2, 1) := by decide +kernel
theorem dX8_at_8 : decode cX8_at 8 = .ok (.iconst 0, 1) := by decide +kernel
theorem dX8_at_9 : decode cX8_at 9 = .ok (.iconst 5, 1) := by decide +kernel
theorem dX8_at_10 : decode cX8_at 10 = .ok (.invokestatic 76, 3) := by decide +kernel
theorem dX8_at_13 : decode cX8_at 13 = .ok (.ifCond .eq 14, 3) := by decide +kernel
theorem dX8_at_16 : decode cX8_at 16 = .ok (.aload_n 0, 1) := by decide +kernel
theorem dX8_at_17 : decode cX8_at 17 = .ok (.getfield 12, 3) := by decide +kernel
theorem dX8_at_20 : decode cX8_at 20 = .ok (.iload_n 3, 1) := by decide +kernel
theorem dX8_at_21 : decode cX8_at 21 = .ok (.invokevirtual 72, 3) := by decide +kernel
theorem dX8_at_24 : decode cX8_at 24 = .ok (.ifCond .ne 6, 3) := by decide +kernel
theorem dX8_at_27 : decode cX8_at 27 = .ok (.bipush (-3), 2) := by decide +kernel
theorem dX8_at_29 : decode cX8_at 29 = .ok (.ireturn, 1) := by decide +kernel
theorem dX8_at_30 : decode cX8_at 30 = .ok (.aload_n 0, 1) := by decide +kernel
theorem dX8_at_31 : decode cX8_at 31 = .ok (.getfield 12, 3) := by decide +kernel
theorem dX8_at_34 : decode cX8_at 34 = .ok (.iload_n 1, 1) := by decide +kernel
theorem dX8_at_35 : decode cX8_at 35 = .ok (.iload_n 2, 1) := by decide +kernel
theorem dX8_at_36 : decode cX8_at 36 = .ok (.iload_n 3, 1) := by decide +kernel
theorem dX8_at_37 : decode cX8_at 37 = .ok (.invokevirtual 201, 3) := by decide +kernel
theorem dX8_at_40 : decode cX8_at 40 = .ok (.ifCond .ne 6, 3) := by decide +kernel
theorem dX8_at_43 : decode cX8_at 43 = .ok (.bipush (-2), 2) := by decide +kernel
theorem dX8_at_45 : decode cX8_at 45 = .ok (.ireturn, 1) := by decide +kernel
theorem dX8_at_46 : decode cX8_at 46 = .ok (.aload_n 0, 1) := by decide +kernel
theorem dX8_at_47 : decode cX8_at 47 = .ok (.getfield 12, 3) := by decide +kernel
theorem dX8_at_50 : decode cX8_at 50 = .ok (.iload_n 1, 1) := by decide +kernel
theorem dX8_at_51 : decode cX8_at 51 = .ok (.iload_n 2, 1) := by decide +kernel
theorem dX8_at_52 : decode cX8_at 52 = .ok (.iload_n 3, 1) := by decide +kernel
theorem dX8_at_53 : decode cX8_at 53 = .ok (.invokestatic 204, 3) := by decide +kernel
theorem dX8_at_56 : decode cX8_at 56 = .ok (.invokevirtual 208, 3) := by decide +kernel
theorem dX8_at_59 : decode cX8_at 59 = .ok (.ireturn, 1) := by decide +kernel
set_option maxRecDepth 20000 in
theorem ggX8_street_X3_add : GoodIn wsX8_street wsX3_add := goodIn_r _ [6, 7, 8, 9, 10, 11, 12, 13, 14, 5, 15, 16, 17, 18, 19, 20, 21, 22, 23, 24, 35, 36, 37, 38, 39, 40, 41, 42, 43, 44, 45, 46, 47, 48, 49, 50, 51, 52] (by decide +kernel) (by decide +kernel)
set_option maxRecDepth 20000 in
theorem gX8_street_X3_add : GoodIn wsX8_street (wsV RX8 211 RX3 yX3_add wsX3_add) := goodIn_app (goodIn_of _ (by decide +kernel)) ggX8_street_X3_add
theorem dX8_street_0 : decode cX8_street 0 = .ok (.aload_n 0, 1) := by decide +kernel
theorem dX8_street_1 : decode cX8_street 1 = .ok (.getfield 52, 3) := by decide +kernel
theorem dX8_street_4 : decode cX8_street 4 = .ok (.iload_n 1, 1) := by decide +kernel
theorem dX8_street_5 : decode cX8_street 5 = .ok (.iload_n 2, 1) := by decide +kernel
theorem dX8_street_6 : decode cX8_street 6 = .ok (.iload_n 3, 1) := by decide +kernel
theorem dX8_street_7 : decode cX8_street 7 = .ok (.iload 4, 2) := by decide +kernel
theorem dX8_street_9 : decode cX8_street 9 = .ok (.invokevirtual 211, 3) := by decide +kernel
theorem dX8_street_12 : decode cX8_street 12 = .ok (.ireturn, 1) := by decide +kernel
set_option maxRecDepth 20000 in
theorem ggX8_close_X3_setClosed : GoodIn wsX8_close wsX3_setClosed := goodIn_r _ [6, 7, 8, 9, 10, 11, 22, 23, 24, 25, 26, 27, 28, 29, 30, 31, 32, 33, 34, 35, 36, 37, 38, 39] (by decide +kernel) (by decide +kernel)
set_option maxRecDepth 20000 in
theorem gX8_close_X3_setClosed : GoodIn wsX8_close (wsV RX8 214 RX3 yX3_setClosed wsX3_setClosed) := goodIn_app (goodIn_of _ (by decide +kernel)) ggX8_close_X3_setClosed
theorem dX8_close_0 : decode cX8_close 0 = .ok (.aload_n 0, 1) := by decide +kernel
theorem dX8_close_1 : decode cX8_close 1 = .ok (.getfield 52, 3) := by decide +kernel
theorem dX8_close_4 : decode cX8_close 4 = .ok (.iload_n 1, 1) := by decide +kernel
theorem dX8_close_5 : decode cX8_close 5 = .ok (.iload_n 2, 1) := by decide +kernel
theorem dX8_close_6 : decode cX8_close 6 = .ok (.invokevirtual 214, 3) := by decide +kernel
theorem dX8_close_9 : decode cX8_close 9 = .ok (.ireturn, 1) := by decide +kernel
set_option maxRecDepth 20000 in
theorem ggX8_routes_X3_countRoutes : GoodIn wsX8_routes wsX3_countRoutes := goodIn_r _ [6, 7, 8, 9, 10, 11, 12, 13, 14, 15, 16, 5, 17, 18, 19, 20, 21, 22, 23, 24, 25, 26, 27, 28, 29, 30, 31, 32, 33, 34, 35, 36, 37, 38, 39, 40, 41, 52, 53, 54, 55, 56, 57, 58, 59, 60, 61, 62, 63, 64, 65, 66, 67, 68, 69] (by decide +kernel) (by decide +kernel)
set_option maxRecDepth 20000 in
theorem gX8_routes_X3_countRoutes : GoodIn wsX8_routes (wsV RX8 218 RX3 yX3_countRoutes wsX3_countRoutes) := goodIn_app (goodIn_of _ (by decide +kernel)) ggX8_routes_X3_countRoutes
theorem dX8_routes_0 : decode cX8_routes 0 = .ok (.aload_n 0, 1) := by decide +kernel
theorem dX8_routes_1 : decode cX8_routes 1 = .ok (.getfield 52, 3) := by decide +kernel
theorem dX8_routes_4 : decode cX8_routes 4 = .ok (.iload_n 1, 1) := by decide +kernel
theorem dX8_routes_5 : decode cX8_routes 5 = .ok (.iload_n 2, 1) := by decide +kernel
theorem dX8_routes_6 : decode cX8_routes 6 = .ok (.iload_n 3, 1) := by decide +kernel
theorem dX8_routes_7 : decode cX8_routes 7 = .ok (.invokevirtual 218, 3) := by decide +kernel
theorem dX8_routes_10 : decode cX8_routes 10 = .ok (.ireturn, 1) := by decide +kernel
set_option maxRecDepth 20000 in
theorem ggX8_route_X3_draw : GoodIn wsX8_route wsX3_draw := goodIn_r _ [6, 7, 8, 9, 10, 11, 12, 13, 14, 15, 16, 17, 18, 5, 19, 20, 21, 22, 23, 24, 25, 26, 27, 28, 29, 30, 31, 32, 33, 34, 35, 36, 37, 38, 39, 40, 41, 42, 43, 44, 45, 46, 47, 48, 49, 50, 51, 62, 63, 64, 65, 66, 67, 68, 69, 70, 71, 72, 73, 74, 75, 76, 77, 78, 79] (by decide +kernel) (by decide +kernel)
set_option maxRecDepth 20000 in
theorem gX8_route_X3_draw : GoodIn wsX8_route (wsV RX8 221 RX3 yX3_draw wsX3_draw) := goodIn_app (goodIn_of _ (by decide +kernel)) ggX8_route_X3_draw
theorem dX8_route_0 : decode cX8_route 0 = .ok (.aload_n 0, 1) := by decide +kernel
theorem dX8_route_1 : decode cX8_route 1 = .ok (.getfield 52, 3) := by decide +kernel
theorem dX8_route_4 : decode cX8_route 4 = .ok (.iload_n 1, 1) := by decide +kernel
theorem dX8_route_5 : decode cX8_route 5 = .ok (.iload_n 2, 1) := by decide +kernel
theorem dX8_route_6 : decode cX8_route 6 = .ok (.iload_n 3, 1) := by decide +kernel
theorem dX8_route_7 : decode cX8_route 7 = .ok (.iload 4, 2) := by decide +kernel
theorem dX8_route_9 : decode cX8_route 9 = .ok (.invokevirtual 221, 3) := by decide +kernel
theorem dX8_route_12 : decode cX8_route 12 = .ok (.ireturn, 1) := by decide +kernel
set_option maxRecDepth 20000 in
theorem ggX8_part_X3_drawnStreet : GoodIn wsX8_part wsX3_drawnStreet := goodIn_r _ [6, 7, 8, 9, 10, 11, 22, 23, 24, 25, 26, 27, 28, 29, 30, 31, 32, 33, 34, 35, 36, 37, 38, 39] (by decide +kernel) (by decide +kernel)
set_option maxRecDepth 20000 in
theorem gX8_part_X3_drawnStreet : GoodIn wsX8_part (wsV RX8 224 RX3 yX3_drawnStreet wsX3_drawnStreet) := goodIn_app (goodIn_of _ (by decide +kernel)) ggX8_part_X3_drawnStreet
theorem dX8_part_0 : decode cX8_part 0 = .ok (.aload_n 0, 1) := by decide +kernel
theorem dX8_part_1 : decode cX8_part 1 = .ok (.getfield 52, 3) := by decide +kernel
theorem dX8_part_4 : decode cX8_part 4 = .ok (.iload_n 1, 1) := by decide +kernel
theorem dX8_part_5 : decode cX8_part 5 = .ok (.invokevirtual 224, 3) := by decide +kernel
theorem dX8_part_8 : decode cX8_part 8 = .ok (.ireturn, 1) := by decide +kernel
set_option maxRecDepth 20000 in
theorem ggX8_differs_X0_isExaminer : GoodIn wsX8_differs wsX0_isExaminer := goodIn_r _ [6, 7, 40, 41, 42, 43, 44, 45, 46, 47, 48] (by decide +kernel) (by decide +kernel)
set_option maxRecDepth 20000 in
theorem gX8_differs_X0_isExaminer : GoodIn wsX8_differs (wsV RX8 72 RX0 yX0_isExaminer wsX0_isExaminer) := goodIn_app (goodIn_of _ (by decide +kernel)) ggX8_differs_X0_isExaminer
set_option maxRecDepth 20000 in
theorem ggX8_differs_X8_isWithin : GoodIn wsX8_differs wsX8_isWithin := goodIn_r _ [11] (by decide +kernel) (by decide +kernel)
set_option maxRecDepth 20000 in
theorem gX8_differs_X8_isWithin : GoodIn wsX8_differs (va_wsS RX8 76 yX8_isWithin wsX8_isWithin) := goodIn_app (goodIn_of _ (by decide +kernel)) ggX8_differs_X8_isWithin
set_option maxRecDepth 20000 in
theorem ggX8_differs_X0_difference : GoodIn wsX8_differs wsX0_difference := goodIn_r _ [15, 16, 17, 18, 19, 20, 21, 5, 22, 23, 24, 3, 4, 6, 7, 25, 26, 27, 28, 29, 40, 41, 42, 43, 44, 45, 46, 47, 48] (by decide +kernel) (by decide +kernel)
set_option maxRecDepth 20000 in
theorem gX8_differs_X0_difference : GoodIn wsX8_differs (wsV RX8 227 RX0 yX0_difference wsX0_difference) := goodIn_app (goodIn_of _ (by decide +kernel)) ggX8_differs_X0_difference
theorem dX8_differs_0 : decode cX8_differs 0 = .ok (.aload_n 0, 1) := by decide +kernel
theorem dX8_differs_1 : decode cX8_differs 1 = .ok (.getfield 12, 3) := by decide +kernel
theorem dX8_differs_4 : decode cX8_differs 4 = .ok (.iload_n 1, 1) := by decide +kernel
theorem dX8_differs_5 : decode cX8_differs 5 = .ok (.invokevirtual 72, 3) := by decide +kernel
theorem dX8_differs_8 : decode cX8_differs 8 = .ok (.ifCond .eq 13, 3) := by decide +kernel
theorem dX8_differs_11 : decode cX8_differs 11 = .ok (.iload_n 2, 1) := by decide +kernel
theorem dX8_differs_12 : decode cX8_differs 12 = .ok (.iconst 0, 1) := by decide +kernel
theorem dX8_differs_13 : decode cX8_differs 13 = .ok (.bipush 100, 2) := by decide +kernel
theorem dX8_differs_15 : decode cX8_differs 15 = .ok (.invokestatic 76, 3) := by decide +kernel
theorem dX8_differs_18 : decode cX8_differs 18 = .ok (.ifCond .ne 6, 3) := by decide +kernel
theorem dX8_differs_21 : decode cX8_differs 21 = .ok (.bipush (-2), 2) := by decide +kernel
theorem dX8_differs_23 : decode cX8_differs 23 = .ok (.ireturn, 1) := by decide +kernel
theorem dX8_differs_24 : decode cX8_differs 24 = .ok (.aload_n 0, 1) := by decide +kernel
theorem dX8_differs_25 : decode cX8_differs 25 = .ok (.getfield 12, 3) := by decide +kernel
theorem dX8_differs_28 : decode cX8_differs 28 = .ok (.iload_n 1, 1) := by decide +kernel
theorem dX8_differs_29 : decode cX8_differs 29 = .ok (.iload_n 2, 1) := by decide +kernel
theorem dX8_differs_30 : decode cX8_differs 30 = .ok (.invokevirtual 227, 3) := by decide +kernel
theorem dX8_differs_33 : decode cX8_differs 33 = .ok (.ireturn, 1) := by decide +kernel
set_option maxRecDepth 20000 in
theorem ggX8_count_X8_countOfState : GoodIn wsX8_count wsX8_countOfState := goodIn_r _ [16, 3, 17, 18, 19, 20, 21, 22, 23, 24, 25, 26, 27, 28, 64, 65, 66, 67, 68, 69, 70, 71, 72, 73, 74, 75] (by decide +kernel) (by decide +kernel)
set_option maxRecDepth 20000 in
theorem gX8_count_X8_countOfState : GoodIn wsX8_count (wsV RX8 234 RX8 yX8_countOfState wsX8_countOfState) := goodIn_app (goodIn_of _ (by decide +kernel)) ggX8_count_X8_countOfState
theorem dX8_count_0 : decode cX8_count 0 = .ok (.iload_n 1, 1) := by decide +kernel
theorem dX8_count_1 : decode cX8_count 1 = .ok (.tableswitch 120 0 10 #[59, 67, 72, 80, 80, 80, 80, 88, 96, 104, 112], 59) := by decide +kernel
theorem dX8_count_60 : decode cX8_count 60 = .ok (.aload_n 0, 1) := by decide +kernel
theorem dX8_count_61 : decode cX8_count 61 = .ok (.getfield 12, 3) := by decide +kernel
theorem dX8_count_64 : decode cX8_count 64 = .ok (.getfield 231, 3) := by decide +kernel
theorem dX8_count_67 : decode cX8_count 67 = .ok (.ireturn, 1) := by decide +kernel
theorem dX8_count_68 : decode cX8_count 68 = .ok (.aload_n 0, 1) := by decide +kernel
theorem dX8_count_69 : decode cX8_count 69 = .ok (.getfield 64, 3) := by decide +kernel
theorem dX8_count_72 : decode cX8_count 72 = .ok (.ireturn, 1) := by decide +kernel
theorem dX8_count_73 : decode cX8_count 73 = .ok (.aload_n 0, 1) := by decide +kernel
theorem dX8_count_74 : decode cX8_count 74 = .ok (.getfield 12, 3) := by decide +kernel
theorem dX8_count_77 : decode cX8_count 77 = .ok (.getfield 80, 3) := by decide +kernel
theorem dX8_count_80 : decode cX8_count 80 = .ok (.ireturn, 1) := by decide +kernel
theorem dX8_count_81 : decode cX8_count 81 = .ok (.aload_n 0, 1) := by decide +kernel
theorem dX8_count_82 : decode cX8_count 82 = .ok (.iload_n 1, 1) := by decide +kernel
theorem dX8_count_83 : decode cX8_count 83 = .ok (.iconst 3, 1) := by decide +kernel
theorem dX8_count_84 : decode cX8_count 84 = .ok (.isub, 1) := by decide +kernel
theorem dX8_count_85 : decode cX8_count 85 = .ok (.invokevirtual 234, 3) := by decide +kernel
theorem dX8_count_88 : decode cX8_count 88 = .ok (.ireturn, 1) := by decide +kernel
theorem dX8_count_89 : decode cX8_count 89 = .ok (.aload_n 0, 1) := by decide +kernel
theorem dX8_count_90 : decode cX8_count 90 = .ok (.getfield 57, 3) := by decide +kernel
theorem dX8_count_93 : decode cX8_count 93 = .ok (.getfield 237, 3) := by decide +kernel
theorem dX8_count_96 : decode cX8_count 96 = .ok (.ireturn, 1) := by decide +kernel
theorem dX8_count_97 : decode cX8_count 97 = .ok (.aload_n 0, 1) := by decide +kernel
theorem dX8_count_98 : decode cX8_count 98 = .ok (.getfield 38, 3) := by decide +kernel
theorem dX8_count_101 : decode cX8_count 101 = .ok (.getfield 123, 3) := by decide +kernel
theorem dX8_count_104 : decode cX8_count 104 = .ok (.ireturn, 1) := by decide +kernel
theorem dX8_count_105 : decode cX8_count 105 = .ok (.aload_n 0, 1) := by decide +kernel
theorem dX8_count_106 : decode cX8_count 106 = .ok (.getfield 52, 3) := by decide +kernel
theorem dX8_count_109 : decode cX8_count 109 = .ok (.getfield 240, 3) := by decide +kernel
theorem dX8_count_112 : decode cX8_count 112 = .ok (.ireturn, 1) := by decide +kernel
theorem dX8_count_113 : decode cX8_count 113 = .ok (.aload_n 0, 1) := by decide +kernel
theorem dX8_count_114 : decode cX8_count 114 = .ok (.getfield 12, 3) := by decide +kernel
theorem dX8_count_117 : decode cX8_count 117 = .ok (.getfield 241, 3) := by decide +kernel
theorem dX8_count_120 : decode cX8_count 120 = .ok (.ireturn, 1) := by decide +kernel
theorem dX8_count_121 : decode cX8_count 121 = .ok (.iconst (-1), 1) := by decide +kernel
theorem dX8_count_122 : decode cX8_count 122 = .ok (.ireturn, 1) := by decide +kernel
set_option maxRecDepth 20000 in
theorem ggX8_load_X0_isExaminer : GoodIn wsX8_load wsX0_isExaminer := goodIn_r _ [6, 7, 41, 42, 43, 44, 45, 46, 47, 48, 49] (by decide +kernel) (by decide +kernel)
set_option maxRecDepth 20000 in
theorem gX8_load_X0_isExaminer : GoodIn wsX8_load (wsV RX8 72 RX0 yX0_isExaminer wsX0_isExaminer) := goodIn_app (goodIn_of _ (by decide +kernel)) ggX8_load_X0_isExaminer
set_option maxRecDepth 20000 in
theorem ggX8_load_X0_testsOf : GoodIn wsX8_load wsX0_testsOf := goodIn_r _ [11, 12, 13, 3, 4, 5, 6, 7, 41, 42, 43, 44, 45, 46, 47, 48, 49] (by decide +kernel) (by decide +kernel)
set_option maxRecDepth 20000 in
theorem gX8_load_X0_testsOf : GoodIn wsX8_load (wsV RX8 244 RX0 yX0_testsOf wsX0_testsOf) := goodIn_app (goodIn_of _ (by decide +kernel)) ggX8_load_X0_testsOf
set_option maxRecDepth 20000 in
theorem ggX8_load_X0_passesOf : GoodIn wsX8_load wsX0_passesOf := goodIn_r _ [17, 18, 13, 3, 4, 5, 6, 7, 41, 42, 43, 44, 45, 46, 47, 48, 49] (by decide +kernel) (by decide +kernel)
set_option maxRecDepth 20000 in
theorem gX8_load_X0_passesOf : GoodIn wsX8_load (wsV RX8 247 RX0 yX0_passesOf wsX0_passesOf) := goodIn_app (goodIn_of _ (by decide +kernel)) ggX8_load_X0_passesOf
set_option maxRecDepth 20000 in
theorem ggX8_load_X8_countBookedWith : GoodIn wsX8_load wsX8_countBookedWith := goodIn_r _ [23, 24, 25, 26, 27, 28, 29, 22, 30, 31, 32, 33, 34, 35, 36, 37, 38, 39, 40, 50, 51, 52, 53, 54, 55, 56, 57, 58, 59, 60, 61] (by decide +kernel) (by decide +kernel)
set_option maxRecDepth 20000 in
theorem gX8_load_X8_countBookedWith : GoodIn wsX8_load (wsV RX8 250 RX8 yX8_countBookedWith wsX8_countBookedWith) := goodIn_app (goodIn_of _ (by decide +kernel)) ggX8_load_X8_countBookedWith
theorem dX8_load_0 : decode cX8_load 0 = .ok (.aload_n 0, 1) := by decide +kernel
theorem dX8_load_1 : decode cX8_load 1 = .ok (.getfield 12, 3) := by decide +kernel
theorem dX8_load_4 : decode cX8_load 4 = .ok (.iload_n 1, 1) := by decide +kernel
theorem dX8_load_5 : decode cX8_load 5 = .ok (.invokevirtual 72, 3) := by decide +kernel
theorem dX8_load_8 : decode cX8_load 8 = .ok (.ifCond .ne 5, 3) := by decide +kernel
theorem dX8_load_11 : decode cX8_load 11 = .ok (.iconst (-1), 1) := by decide +kernel
theorem dX8_load_12 : decode cX8_load 12 = .ok (.ireturn, 1) := by decide +kernel
theorem dX8_load_13 : decode cX8_load 13 = .ok (.iload_n 2, 1) := by decide +kernel
theorem dX8_load_14 : decode cX8_load 14 = .ok (.tableswitch 50 0 2 #[26, 35, 44], 26) := by decide +kernel
theorem dX8_load_40 : decode cX8_load 40 = .ok (.aload_n 0, 1) := by decide +kernel
theorem dX8_load_41 : decode cX8_load 41 = .ok (.getfield 12, 3) := by decide +kernel
theorem dX8_load_44 : decode cX8_load 44 = .ok (.iload_n 1, 1) := by decide +kernel
theorem dX8_load_45 : decode cX8_load 45 = .ok (.invokevirtual 244, 3) := by decide +kernel
theorem dX8_load_48 : decode cX8_load 48 = .ok (.ireturn, 1) := by decide +kernel
theorem dX8_load_49 : decode cX8_load 49 = .ok (.aload_n 0, 1) := by decide +kernel
theorem dX8_load_50 : decode cX8_load 50 = .ok (.getfield 12, 3) := by decide +kernel
theorem dX8_load_53 : decode cX8_load 53 = .ok (.iload_n 1, 1) := by decide +kernel
theorem dX8_load_54 : decode cX8_load 54 = .ok (.invokevirtual 247, 3) := by decide +kernel
theorem dX8_load_57 : decode cX8_load 57 = .ok (.ireturn, 1) := by decide +kernel
theorem dX8_load_58 : decode cX8_load 58 = .ok (.aload_n 0, 1) := by decide +kernel
theorem dX8_load_59 : decode cX8_load 59 = .ok (.iload_n 1, 1) := by decide +kernel
theorem dX8_load_60 : decode cX8_load 60 = .ok (.invokevirtual 250, 3) := by decide +kernel
theorem dX8_load_63 : decode cX8_load 63 = .ok (.ireturn, 1) := by decide +kernel
theorem dX8_load_64 : decode cX8_load 64 = .ok (.iconst (-1), 1) := by decide +kernel
theorem dX8_load_65 : decode cX8_load 65 = .ok (.ireturn, 1) := by decide +kernel
theorem dX8_isWithin_0 : decode cX8_isWithin 0 = .ok (.iload_n 0, 1) := by decide +kernel
theorem dX8_isWithin_1 : decode cX8_isWithin 1 = .ok (.iload_n 1, 1) := by decide +kernel
theorem dX8_isWithin_2 : decode cX8_isWithin 2 = .ok (.if_icmp .lt 12, 3) := by decide +kernel
theorem dX8_isWithin_5 : decode cX8_isWithin 5 = .ok (.iload_n 0, 1) := by decide +kernel
theorem dX8_isWithin_6 : decode cX8_isWithin 6 = .ok (.iload_n 2, 1) := by decide +kernel
theorem dX8_isWithin_7 : decode cX8_isWithin 7 = .ok (.if_icmp .gt 7, 3) := by decide +kernel
theorem dX8_isWithin_10 : decode cX8_isWithin 10 = .ok (.iconst 1, 1) := by decide +kernel
theorem dX8_isWithin_11 : decode cX8_isWithin 11 = .ok (.goto 4, 3) := by decide +kernel
theorem dX8_isWithin_14 : decode cX8_isWithin 14 = .ok (.iconst 0, 1) := by decide +kernel
theorem dX8_isWithin_15 : decode cX8_isWithin 15 = .ok (.ireturn, 1) := by decide +kernel
theorem dX8_isDay_0 : decode cX8_isDay 0 = .ok (.iload_n 0, 1) := by decide +kernel
theorem dX8_isDay_1 : decode cX8_isDay 1 = .ok (.ifCond .lt 13, 3) := by decide +kernel
theorem dX8_isDay_4 : decode cX8_isDay 4 = .ok (.iload_n 0, 1) := by decide +kernel
theorem dX8_isDay_5 : decode cX8_isDay 5 = .ok (.bipush 60, 2) := by decide +kernel
theorem dX8_isDay_7 : decode cX8_isDay 7 = .ok (.if_icmp .ge 7, 3) := by decide +kernel
theorem dX8_isDay_10 : decode cX8_isDay 10 = .ok (.iconst 1, 1) := by decide +kernel
theorem dX8_isDay_11 : decode cX8_isDay 11 = .ok (.goto 4, 3) := by decide +kernel
theorem dX8_isDay_14 : decode cX8_isDay 14 = .ok (.iconst 0, 1) := by decide +kernel
theorem dX8_isDay_15 : decode cX8_isDay 15 = .ok (.ireturn, 1) := by decide +kernel
theorem dX8_slotOf_0 : decode cX8_slotOf 0 = .ok (.bipush 48, 2) := by decide +kernel
theorem dX8_slotOf_2 : decode cX8_slotOf 2 = .ok (.iload_n 0, 1) := by decide +kernel
theorem dX8_slotOf_3 : decode cX8_slotOf 3 = .ok (.imul, 1) := by decide +kernel
theorem dX8_slotOf_4 : decode cX8_slotOf 4 = .ok (.bipush 8, 2) := by decide +kernel
theorem dX8_slotOf_6 : decode cX8_slotOf 6 = .ok (.iload_n 1, 1) := by decide +kernel
theorem dX8_slotOf_7 : decode cX8_slotOf 7 = .ok (.imul, 1) := by decide +kernel
theorem dX8_slotOf_8 : decode cX8_slotOf 8 = .ok (.iadd, 1) := by decide +kernel
theorem dX8_slotOf_9 : decode cX8_slotOf 9 = .ok (.iload_n 2, 1) := by decide +kernel
theorem dX8_slotOf_10 : decode cX8_slotOf 10 = .ok (.iadd, 1) := by decide +kernel
theorem dX8_slotOf_11 : decode cX8_slotOf 11 = .ok (.ireturn, 1) := by decide +kernel
theorem dX8_dayOf_0 : decode cX8_dayOf 0 = .ok (.iload_n 0, 1) := by decide +kernel
theorem dX8_dayOf_1 : decode cX8_dayOf 1 = .ok (.bipush 48, 2) := by decide +kernel
theorem dX8_dayOf_3 : decode cX8_dayOf 3 = .ok (.idiv, 1) := by decide +kernel
theorem dX8_dayOf_4 : decode cX8_dayOf 4 = .ok (.ireturn, 1) := by decide +kernel
theorem dX8_hourOf_0 : decode cX8_hourOf 0 = .ok (.iload_n 0, 1) := by decide +kernel
theorem dX8_hourOf_1 : decode cX8_hourOf 1 = .ok (.bipush 48, 2) := by decide +kernel
theorem dX8_hourOf_3 : decode cX8_hourOf 3 = .ok (.irem, 1) := by decide +kernel
theorem dX8_hourOf_4 : decode cX8_hourOf 4 = .ok (.bipush 8, 2) := by decide +kernel
theorem dX8_hourOf_6 : decode cX8_hourOf 6 = .ok (.idiv, 1) := by decide +kernel
theorem dX8_hourOf_7 : decode cX8_hourOf 7 = .ok (.ireturn, 1) := by decide +kernel
theorem dX8_examinerOf_0 : decode cX8_examinerOf 0 = .ok (.iload_n 0, 1) := by decide +kernel
theorem dX8_examinerOf_1 : decode cX8_examinerOf 1 = .ok (.bipush 8, 2) := by decide +kernel
theorem dX8_examinerOf_3 : decode cX8_examinerOf 3 = .ok (.irem, 1) := by decide +kernel
theorem dX8_examinerOf_4 : decode cX8_examinerOf 4 = .ok (.ireturn, 1) := by decide +kernel
set_option maxRecDepth 20000 in
theorem ggX8_find_X8_isWithin : GoodIn wsX8_find wsX8_isWithin := goodIn_r _ [6] (by decide +kernel) (by decide +kernel)
set_option maxRecDepth 20000 in
theorem gX8_find_X8_isWithin : GoodIn wsX8_find (va_wsS RX8 76 yX8_isWithin wsX8_isWithin) := goodIn_app (goodIn_of _ (by decide +kernel)) ggX8_find_X8_isWithin
theorem dX8_find_0 : decode cX8_find 0 = .ok (.iload_n 1, 1) := by decide +kernel
theorem dX8_find_1 : decode cX8_find 1 = .ok (.iconst 0, 1) := by decide +kernel
theorem dX8_find_2 : decode cX8_find 2 = .ok (.aload_n 0, 1) := by decide +kernel
theorem dX8_find_3 : decode cX8_find 3 = .ok (.getfield 64, 3) := by decide +kernel
theorem dX8_find_6 : decode cX8_find 6 = .ok (.iconst 1, 1) := by decide +kernel
theorem dX8_find_7 : decode cX8_find 7 = .ok (.isub, 1) := by decide +kernel
theorem dX8_find_8 : decode cX8_find 8 = .ok (.invokestatic 76, 3) := by decide +kernel
theorem dX8_find_11 : decode cX8_find 11 = .ok (.ifCond .eq 12, 3) := by decide +kernel
theorem dX8_find_14 : decode cX8_find 14 = .ok (.aload_n 0, 1) := by decide +kernel
theorem dX8_find_15 : decode cX8_find 15 = .ok (.getfield 18, 3) := by decide +kernel
theorem dX8_find_18 : decode cX8_find 18 = .ok (.iload_n 1, 1) := by decide +kernel
theorem dX8_find_19 : decode cX8_find 19 = .ok (.aaload, 1) := by decide +kernel
theorem dX8_find_20 : decode cX8_find 20 = .ok (.goto 4, 3) := by decide +kernel
theorem dX8_find_23 : decode cX8_find 23 = .ok (.aconst_null, 1) := by decide +kernel
theorem dX8_find_24 : decode cX8_find 24 = .ok (.areturn, 1) := by decide +kernel
set_option maxRecDepth 20000 in
theorem ggX8_book_X0_setBooked : GoodIn wsX8_book wsX0_setBooked := goodIn_r _ [9, 10, 11, 12, 13, 8, 14, 37, 38, 39, 40, 41, 42, 43, 44, 45] (by decide +kernel) (by decide +kernel)
set_option maxRecDepth 20000 in
theorem gX8_book_X0_setBooked : GoodIn wsX8_book (wsV RX8 253 RX0 yX0_setBooked wsX0_setBooked) := goodIn_app (goodIn_of _ (by decide +kernel)) ggX8_book_X0_setBooked
theorem dX8_book_0 : decode cX8_book 0 = .ok (.aload_n 0, 1) := by decide +kernel
theorem dX8_book_1 : decode cX8_book 1 = .ok (.getfield 12, 3) := by decide +kernel
theorem dX8_book_4 : decode cX8_book 4 = .ok (.iload_n 2, 1) := by decide +kernel
theorem dX8_book_5 : decode cX8_book 5 = .ok (.aload_n 1, 1) := by decide +kernel
theorem dX8_book_6 : decode cX8_book 6 = .ok (.getfield 116, 3) := by decide +kernel
theorem dX8_book_9 : decode cX8_book 9 = .ok (.invokevirtual 253, 3) := by decide +kernel
theorem dX8_book_12 : decode cX8_book 12 = .ok (.aload_n 1, 1) := by decide +kernel
theorem dX8_book_13 : decode cX8_book 13 = .ok (.iload_n 2, 1) := by decide +kernel
theorem dX8_book_14 : decode cX8_book 14 = .ok (.putfield 143, 3) := by decide +kernel
theorem dX8_book_17 : decode cX8_book 17 = .ok (.aload_n 1, 1) := by decide +kernel
theorem dX8_book_18 : decode cX8_book 18 = .ok (.iconst 1, 1) := by decide +kernel
theorem dX8_book_19 : decode cX8_book 19 = .ok (.putfield 140, 3) := by decide +kernel
theorem dX8_book_22 : decode cX8_book 22 = .ok (.return_, 1) := by decide +kernel
set_option maxRecDepth 20000 in
theorem ggX8_release_X0_setBooked : GoodIn wsX8_release wsX0_setBooked := goodIn_r _ [8, 9, 10, 11, 12, 7, 13, 36, 37, 38, 39, 40, 41, 42, 43, 44] (by decide +kernel) (by decide +kernel)
set_option maxRecDepth 20000 in
theorem gX8_release_X0_setBooked : GoodIn wsX8_release (wsV RX8 253 RX0 yX0_setBooked wsX0_setBooked) := goodIn_app (goodIn_of _ (by decide +kernel)) ggX8_release_X0_setBooked
theorem dX8_release_0 : decode cX8_release 0 = .ok (.aload_n 0, 1) := by decide +kernel
theorem dX8_release_1 : decode cX8_release 1 = .ok (.getfield 12, 3) := by decide +kernel
theorem dX8_release_4 : decode cX8_release 4 = .ok (.aload_n 1, 1) := by decide +kernel
theorem dX8_release_5 : decode cX8_release 5 = .ok (.getfield 143, 3) := by decide +kernel
theorem dX8_release_8 : decode cX8_release 8 = .ok (.iconst (-1), 1) := by decide +kernel
theorem dX8_release_9 : decode cX8_release 9 = .ok (.invokevirtual 253, 3) := by decide +kernel
theorem dX8_release_12 : decode cX8_release 12 = .ok (.aload_n 1, 1) := by decide +kernel
theorem dX8_release_13 : decode cX8_release 13 = .ok (.iconst (-1), 1) := by decide +kernel
theorem dX8_release_14 : decode cX8_release 14 = .ok (.putfield 143, 3) := by decide +kernel
theorem dX8_release_17 : decode cX8_release 17 = .ok (.aload_n 1, 1) := by decide +kernel
theorem dX8_release_18 : decode cX8_release 18 = .ok (.iconst 0, 1) := by decide +kernel
theorem dX8_release_19 : decode cX8_release 19 = .ok (.putfield 140, 3) := by decide +kernel
theorem dX8_release_22 : decode cX8_release 22 = .ok (.return_, 1) := by decide +kernel
set_option maxRecDepth 20000 in
theorem ggX8_releaseMisplaced_X8_examinerOf : GoodIn wsX8_releaseMisplaced wsX8_examinerOf := goodIn_r _ [8] (by decide +kernel) (by decide +kernel)
set_option maxRecDepth 20000 in
theorem gX8_releaseMisplaced_X8_examinerOf : GoodIn wsX8_releaseMisplaced (va_wsS RX8 176 yX8_examinerOf wsX8_examinerOf) := goodIn_app (goodIn_of _ (by decide +kernel)) ggX8_releaseMisplaced_X8_examinerOf
set_option maxRecDepth 20000 in
theorem ggX8_releaseMisplaced_X8_isStillThere : GoodIn wsX8_releaseMisplaced wsX8_isStillThere := goodIn_r _ [12, 4, 13, 14, 15, 16, 7, 17, 5, 6, 8, 18, 19, 20, 21, 22, 23, 24, 25, 26, 27, 28, 29, 30, 31, 32, 33, 34, 35, 59, 60, 61, 62, 63, 64, 65, 66, 67, 68, 69, 70, 49, 50, 51, 52, 53, 54, 55, 56, 57, 58, 71, 72, 73, 74, 75, 76, 77, 78, 79] (by decide +kernel) (by decide +kernel)
set_option maxRecDepth 20000 in
theorem gX8_releaseMisplaced_X8_isStillThere : GoodIn wsX8_releaseMisplaced (wsV RX8 256 RX8 yX8_isStillThere wsX8_isStillThere) := goodIn_app (goodIn_of _ (by decide +kernel)) ggX8_releaseMisplaced_X8_isStillThere
set_option maxRecDepth 20000 in
theorem ggX8_releaseMisplaced_X8_release : GoodIn wsX8_releaseMisplaced wsX8_release := goodIn_r _ [39, 13, 4, 3, 40, 41, 42, 24, 43, 44, 45, 46, 47, 48, 49, 50, 51, 52, 53, 54, 55, 56, 57, 58, 59, 60, 61, 62, 63, 64, 65, 66, 67, 68, 69, 70, 71, 72, 73, 74, 75, 76, 77, 78, 79] (by decide +kernel) (by decide +kernel)
set_option maxRecDepth 20000 in
theorem gX8_releaseMisplaced_X8_release : GoodIn wsX8_releaseMisplaced (wsV RX8 146 RX8 yX8_release wsX8_release) := goodIn_app (goodIn_of _ (by decide +kernel)) ggX8_releaseMisplaced_X8_release
theorem dX8_releaseMisplaced_0 : decode cX8_releaseMisplaced 0 = .ok (.iconst 0, 1) := by decide +kernel
theorem dX8_releaseMisplaced_1 : decode cX8_releaseMisplaced 1 = .ok (.istore_n 2, 1) := by decide +kernel
theorem dX8_releaseMisplaced_2 : decode cX8_releaseMisplaced 2 = .ok (.iconst 0, 1) := by decide +kernel
theorem dX8_releaseMisplaced_3 : decode cX8_releaseMisplaced 3 = .ok (.istore_n 3, 1) := by decide +kernel
theorem dX8_releaseMisplaced_4 : decode cX8_releaseMisplaced 4 = .ok (.iload_n 3, 1) := by decide +kernel
theorem dX8_releaseMisplaced_5 : decode cX8_releaseMisplaced 5 = .ok (.aload_n 0, 1) := by decide +kernel
theorem dX8_releaseMisplaced_6 : decode cX8_releaseMisplaced 6 = .ok (.getfield 64, 3) := by decide +kernel
theorem dX8_releaseMisplaced_9 : decode cX8_releaseMisplaced 9 = .ok (.if_icmp .ge 56, 3) := by decide +kernel
theorem dX8_releaseMisplaced_12 : decode cX8_releaseMisplaced 12 = .ok (.aload_n 0, 1) := by decide +kernel
theorem dX8_releaseMisplaced_13 : decode cX8_releaseMisplaced 13 = .ok (.getfield 18, 3) := by decide +kernel
theorem dX8_releaseMisplaced_16 : decode cX8_releaseMisplaced 16 = .ok (.iload_n 3, 1) := by decide +kernel
theorem dX8_releaseMisplaced_17 : decode cX8_releaseMisplaced 17 = .ok (.aaload, 1) := by decide +kernel
theorem dX8_releaseMisplaced_18 : decode cX8_releaseMisplaced 18 = .ok (.astore 4, 2) := by decide +kernel
theorem dX8_releaseMisplaced_20 : decode cX8_releaseMisplaced 20 = .ok (.aload 4, 2) := by decide +kernel
theorem dX8_releaseMisplaced_22 : decode cX8_releaseMisplaced 22 = .ok (.getfield 140, 3) := by decide +kernel
theorem dX8_releaseMisplaced_25 : decode cX8_releaseMisplaced 25 = .ok (.iconst 1, 1) := by decide +kernel
theorem dX8_releaseMisplaced_26 : decode cX8_releaseMisplaced 26 = .ok (.if_icmp .ne 33, 3) := by decide +kernel
theorem dX8_releaseMisplaced_29 : decode cX8_releaseMisplaced 29 = .ok (.aload 4, 2) := by decide +kernel
theorem dX8_releaseMisplaced_31 : decode cX8_releaseMisplaced 31 = .ok (.getfield 143, 3) := by decide +kernel
theorem dX8_releaseMisplaced_34 : decode cX8_releaseMisplaced 34 = .ok (.invokestatic 176, 3) := by decide +kernel
theorem dX8_releaseMisplaced_37 : decode cX8_releaseMisplaced 37 = .ok (.iload_n 1, 1) := by decide +kernel
theorem dX8_releaseMisplaced_38 : decode cX8_releaseMisplaced 38 = .ok (.if_icmp .ne 21, 3) := by decide +kernel
theorem dX8_releaseMisplaced_41 : decode cX8_releaseMisplaced 41 = .ok (.aload_n 0, 1) := by decide +kernel
theorem dX8_releaseMisplaced_42 : decode cX8_releaseMisplaced 42 = .ok (.aload 4, 2) := by decide +kernel
theorem dX8_releaseMisplaced_44 : decode cX8_releaseMisplaced 44 = .ok (.invokevirtual 256, 3) := by decide +kernel
theorem dX8_releaseMisplaced_47 : decode cX8_releaseMisplaced 47 = .ok (.ifCond .ne 12, 3) := by decide +kernel
theorem dX8_releaseMisplaced_50 : decode cX8_releaseMisplaced 50 = .ok (.aload_n 0, 1) := by decide +kernel
theorem dX8_releaseMisplaced_51 : decode cX8_releaseMisplaced 51 = .ok (.aload 4, 2) := by decide +kernel
theorem dX8_releaseMisplaced_53 : decode cX8_releaseMisplaced 53 = .ok (.invokevirtual 146, 3) := by decide +kernel
theorem dX8_releaseMisplaced_56 : decode cX8_releaseMisplaced 56 = .ok (.iinc 2 1, 3) := by decide +kernel
theorem dX8_releaseMisplaced_59 : decode cX8_releaseMisplaced 59 = .ok (.iinc 3 1, 3) := by decide +kernel
theorem dX8_releaseMisplaced_62 : decode cX8_releaseMisplaced 62 = .ok (.goto (-58), 3) := by decide +kernel
theorem dX8_releaseMisplaced_65 : decode cX8_releaseMisplaced 65 = .ok (.iload_n 2, 1) := by decide +kernel
theorem dX8_releaseMisplaced_66 : decode cX8_releaseMisplaced 66 = .ok (.ireturn, 1) := by decide +kernel
set_option maxRecDepth 20000 in
theorem ggX8_isStillThere_X8_dayOf : GoodIn wsX8_isStillThere wsX8_dayOf := goodIn_r _ [7] (by decide +kernel) (by decide +kernel)
set_option maxRecDepth 20000 in
theorem gX8_isStillThere_X8_dayOf : GoodIn wsX8_isStillThere (va_wsS RX8 163 yX8_dayOf wsX8_dayOf) := goodIn_app (goodIn_of _ (by decide +kernel)) ggX8_isStillThere_X8_dayOf
set_option maxRecDepth 20000 in
theorem ggX8_isStillThere_X8_examinerOf : GoodIn wsX8_isStillThere wsX8_examinerOf := goodIn_r _ [10] (by decide +kernel) (by decide +kernel)
set_option maxRecDepth 20000 in
theorem gX8_isStillThere_X8_examinerOf : GoodIn wsX8_isStillThere (va_wsS RX8 176 yX8_examinerOf wsX8_examinerOf) := goodIn_app (goodIn_of _ (by decide +kernel)) ggX8_isStillThere_X8_examinerOf
set_option maxRecDepth 20000 in
theorem ggX8_isStillThere_X8_hourOf : GoodIn wsX8_isStillThere wsX8_hourOf := goodIn_r _ [13] (by decide +kernel) (by decide +kernel)
set_option maxRecDepth 20000 in
theorem gX8_isStillThere_X8_hourOf : GoodIn wsX8_isStillThere (va_wsS RX8 260 yX8_hourOf wsX8_hourOf) := goodIn_app (goodIn_of _ (by decide +kernel)) ggX8_isStillThere_X8_hourOf
set_option maxRecDepth 20000 in
theorem ggX8_isStillThere_X0_hasHour : GoodIn wsX8_isStillThere wsX0_hasHour := goodIn_r _ [18, 19, 20, 21, 17, 22, 23, 24, 25, 26, 27, 51, 52, 53, 54, 55, 56, 57, 58, 59] (by decide +kernel) (by decide +kernel)
set_option maxRecDepth 20000 in
theorem gX8_isStillThere_X0_hasHour : GoodIn wsX8_isStillThere (wsV RX8 201 RX0 yX0_hasHour wsX0_hasHour) := goodIn_app (goodIn_of _ (by decide +kernel)) ggX8_isStillThere_X0_hasHour
set_option maxRecDepth 20000 in
theorem ggX8_isStillThere_X0_townOf : GoodIn wsX8_isStillThere wsX0_townOf := goodIn_r _ [22, 23, 24, 51, 52, 53, 54, 55, 56, 57, 58, 59] (by decide +kernel) (by decide +kernel)
set_option maxRecDepth 20000 in
theorem gX8_isStillThere_X0_townOf : GoodIn wsX8_isStillThere (wsV RX8 263 RX0 yX0_townOf wsX0_townOf) := goodIn_app (goodIn_of _ (by decide +kernel)) ggX8_isStillThere_X0_townOf
theorem dX8_isStillThere_0 : decode cX8_isStillThere 0 = .ok (.aload_n 1, 1) := by decide +kernel
theorem dX8_isStillThere_1 : decode cX8_isStillThere 1 = .ok (.getfield 143, 3) := by decide +kernel
theorem dX8_isStillThere_4 : decode cX8_isStillThere 4 = .ok (.invokestatic 163, 3) := by decide +kernel
theorem dX8_isStillThere_7 : decode cX8_isStillThere 7 = .ok (.istore_n 2, 1) := by decide +kernel
theorem dX8_isStillThere_8 : decode cX8_isStillThere 8 = .ok (.aload_n 1, 1) := by decide +kernel
theorem dX8_isStillThere_9 : decode cX8_isStillThere 9 = .ok (.getfield 143, 3) := by decide +kernel
theorem dX8_isStillThere_12 : decode cX8_isStillThere 12 = .ok (.invokestatic 176, 3) := by decide +kernel
theorem dX8_isStillThere_15 : decode cX8_isStillThere 15 = .ok (.istore_n 3, 1) := by decide +kernel
theorem dX8_isStillThere_16 : decode cX8_isStillThere 16 = .ok (.aload_n 0, 1) := by decide +kernel
theorem dX8_isStillThere_17 : decode cX8_isStillThere 17 = .ok (.getfield 12, 3) := by decide +kernel
theorem dX8_isStillThere_20 : decode cX8_isStillThere 20 = .ok (.iload_n 2, 1) := by decide +kernel
theorem dX8_isStillThere_21 : decode cX8_isStillThere 21 = .ok (.aload_n 1, 1) := by decide +kernel
theorem dX8_isStillThere_22 : decode cX8_isStillThere 22 = .ok (.getfield 143, 3) := by decide +kernel
theorem dX8_isStillThere_25 : decode cX8_isStillThere 25 = .ok (.invokestatic 260, 3) := by decide +kernel
theorem dX8_isStillThere_28 : decode cX8_isStillThere 28 = .ok (.iload_n 3, 1) := by decide +kernel
theorem dX8_isStillThere_29 : decode cX8_isStillThere 29 = .ok (.invokevirtual 201, 3) := by decide +kernel
theorem dX8_isStillThere_32 : decode cX8_isStillThere 32 = .ok (.ifCond .eq 23, 3) := by decide +kernel
theorem dX8_isStillThere_35 : decode cX8_isStillThere 35 = .ok (.aload_n 0, 1) := by decide +kernel
theorem dX8_isStillThere_36 : decode cX8_isStillThere 36 = .ok (.getfield 12, 3) := by decide +kernel
theorem dX8_isStillThere_39 : decode cX8_isStillThere 39 = .ok (.iload_n 3, 1) := by decide +kernel
theorem dX8_isStillThere_40 : decode cX8_isStillThere 40 = .ok (.iload_n 2, 1) := by decide +kernel
theorem dX8_isStillThere_41 : decode cX8_isStillThere 41 = .ok (.invokevirtual 263, 3) := by decide +kernel
theorem dX8_isStillThere_44 : decode cX8_isStillThere 44 = .ok (.aload_n 1, 1) := by decide +kernel
theorem dX8_isStillThere_45 : decode cX8_isStillThere 45 = .ok (.getfield 97, 3) := by decide +kernel
theorem dX8_isStillThere_48 : decode cX8_isStillThere 48 = .ok (.if_icmp .ne 7, 3) := by decide +kernel
theorem dX8_isStillThere_51 : decode cX8_isStillThere 51 = .ok (.iconst 1, 1) := by decide +kernel
theorem dX8_isStillThere_52 : decode cX8_isStillThere 52 = .ok (.goto 4, 3) := by decide +kernel
theorem dX8_isStillThere_55 : decode cX8_isStillThere 55 = .ok (.iconst 0, 1) := by decide +kernel
theorem dX8_isStillThere_56 : decode cX8_isStillThere 56 = .ok (.ireturn, 1) := by decide +kernel
set_option maxRecDepth 20000 in
theorem ggX8_rankOf_X5_rankBy : GoodIn wsX8_rankOf wsX5_rankBy := goodIn_r _ [14, 15, 16, 17, 18, 19, 20, 13, 21, 22, 23, 24, 25, 26, 58, 59, 60, 61, 62, 63] (by decide +kernel) (by decide +kernel)
set_option maxRecDepth 20000 in
theorem gX8_rankOf_X5_rankBy : GoodIn wsX8_rankOf (wsV RX8 269 RX5 yX5_rankBy wsX5_rankBy) := goodIn_app (goodIn_of _ (by decide +kernel)) ggX8_rankOf_X5_rankBy
theorem dX8_rankOf_0 : decode cX8_rankOf 0 = .ok (.aload_n 0, 1) := by decide +kernel
theorem dX8_rankOf_1 : decode cX8_rankOf 1 = .ok (.getfield 31, 3) := by decide +kernel
theorem dX8_rankOf_4 : decode cX8_rankOf 4 = .ok (.iconst 0, 1) := by decide +kernel
theorem dX8_rankOf_5 : decode cX8_rankOf 5 = .ok (.aload_n 1, 1) := by decide +kernel
theorem dX8_rankOf_6 : decode cX8_rankOf 6 = .ok (.getfield 100, 3) := by decide +kernel
theorem dX8_rankOf_9 : decode cX8_rankOf 9 = .ok (.iastore, 1) := by decide +kernel
theorem dX8_rankOf_10 : decode cX8_rankOf 10 = .ok (.aload_n 0, 1) := by decide +kernel
theorem dX8_rankOf_11 : decode cX8_rankOf 11 = .ok (.getfield 31, 3) := by decide +kernel
theorem dX8_rankOf_14 : decode cX8_rankOf 14 = .ok (.iconst 1, 1) := by decide +kernel
theorem dX8_rankOf_15 : decode cX8_rankOf 15 = .ok (.aload_n 1, 1) := by decide +kernel
theorem dX8_rankOf_16 : decode cX8_rankOf 16 = .ok (.getfield 97, 3) := by decide +kernel
theorem dX8_rankOf_19 : decode cX8_rankOf 19 = .ok (.iastore, 1) := by decide +kernel
theorem dX8_rankOf_20 : decode cX8_rankOf 20 = .ok (.aload_n 0, 1) := by decide +kernel
theorem dX8_rankOf_21 : decode cX8_rankOf 21 = .ok (.getfield 31, 3) := by decide +kernel
theorem dX8_rankOf_24 : decode cX8_rankOf 24 = .ok (.iconst 2, 1) := by decide +kernel
theorem dX8_rankOf_25 : decode cX8_rankOf 25 = .ok (.aload_n 0, 1) := by decide +kernel
theorem dX8_rankOf_26 : decode cX8_rankOf 26 = .ok (.getfield 12, 3) := by decide +kernel
theorem dX8_rankOf_29 : decode cX8_rankOf 29 = .ok (.getfield 80, 3) := by decide +kernel
theorem dX8_rankOf_32 : decode cX8_rankOf 32 = .ok (.aload_n 1, 1) := by decide +kernel
theorem dX8_rankOf_33 : decode cX8_rankOf 33 = .ok (.getfield 266, 3) := by decide +kernel
theorem dX8_rankOf_36 : decode cX8_rankOf 36 = .ok (.isub, 1) := by decide +kernel
theorem dX8_rankOf_37 : decode cX8_rankOf 37 = .ok (.iastore, 1) := by decide +kernel
theorem dX8_rankOf_38 : decode cX8_rankOf 38 = .ok (.aload_n 0, 1) := by decide +kernel
theorem dX8_rankOf_39 : decode cX8_rankOf 39 = .ok (.getfield 31, 3) := by decide +kernel
theorem dX8_rankOf_42 : decode cX8_rankOf 42 = .ok (.iconst 3, 1) := by decide +kernel
theorem dX8_rankOf_43 : decode cX8_rankOf 43 = .ok (.aload_n 1, 1) := by decide +kernel
theorem dX8_rankOf_44 : decode cX8_rankOf 44 = .ok (.getfield 183, 3) := by decide +kernel
theorem dX8_rankOf_47 : decode cX8_rankOf 47 = .ok (.iastore, 1) := by decide +kernel
theorem dX8_rankOf_48 : decode cX8_rankOf 48 = .ok (.aload_n 0, 1) := by decide +kernel
theorem dX8_rankOf_49 : decode cX8_rankOf 49 = .ok (.getfield 31, 3) := by decide +kernel
theorem dX8_rankOf_52 : decode cX8_rankOf 52 = .ok (.iconst 4, 1) := by decide +kernel
theorem dX8_rankOf_53 : decode cX8_rankOf 53 = .ok (.aload_n 1, 1) := by decide +kernel
theorem dX8_rankOf_54 : decode cX8_rankOf 54 = .ok (.getfield 106, 3) := by decide +kernel
theorem dX8_rankOf_57 : decode cX8_rankOf 57 = .ok (.aload_n 0, 1) := by decide +kernel
theorem dX8_rankOf_58 : decode cX8_rankOf 58 = .ok (.getfield 12, 3) := by decide +kernel
theorem dX8_rankOf_61 : decode cX8_rankOf 61 = .ok (.getfield 80, 3) := by decide +kernel
theorem dX8_rankOf_64 : decode cX8_rankOf 64 = .ok (.isub, 1) := by decide +kernel
theorem dX8_rankOf_65 : decode cX8_rankOf 65 = .ok (.iastore, 1) := by decide +kernel
theorem dX8_rankOf_66 : decode cX8_rankOf 66 = .ok (.aload_n 0, 1) := by decide +kernel
theorem dX8_rankOf_67 : decode cX8_rankOf 67 = .ok (.getfield 31, 3) := by decide +kernel
theorem dX8_rankOf_70 : decode cX8_rankOf 70 = .ok (.iconst 5, 1) := by decide +kernel
theorem dX8_rankOf_71 : decode cX8_rankOf 71 = .ok (.aload_n 0, 1) := by decide +kernel
theorem dX8_rankOf_72 : decode cX8_rankOf 72 = .ok (.getfield 12, 3) := by decide +kernel
theorem dX8_rankOf_75 : decode cX8_rankOf 75 = .ok (.getfield 80, 3) := by decide +kernel
theorem dX8_rankOf_78 : decode cX8_rankOf 78 = .ok (.iastore, 1) := by decide +kernel
theorem dX8_rankOf_79 : decode cX8_rankOf 79 = .ok (.aload_n 0, 1) := by decide +kernel
theorem dX8_rankOf_80 : decode cX8_rankOf 80 = .ok (.getfield 57, 3) := by decide +kernel
theorem dX8_rankOf_83 : decode cX8_rankOf 83 = .ok (.aload_n 0, 1) := by decide +kernel
theorem dX8_rankOf_84 : decode cX8_rankOf 84 = .ok (.getfield 31, 3) := by decide +kernel
theorem dX8_rankOf_87 : decode cX8_rankOf 87 = .ok (.invokevirtual 269, 3) := by decide +kernel
theorem dX8_rankOf_90 : decode cX8_rankOf 90 = .ok (.ireturn, 1) := by decide +kernel
set_option maxRecDepth 20000 in
theorem ggX8_lineUpWaiting_X2_clear : GoodIn wsX8_lineUpWaiting wsX2_clear := goodIn_r _ [9, 10, 70, 71, 72] (by decide +kernel) (by decide +kernel)
set_option maxRecDepth 20000 in
theorem gX8_lineUpWaiting_X2_clear : GoodIn wsX8_lineUpWaiting (wsV RX8 160 RX2 yX2_clear wsX2_clear) := goodIn_app (goodIn_of _ (by decide +kernel)) ggX8_lineUpWaiting_X2_clear
set_option maxRecDepth 20000 in
theorem ggX8_lineUpWaiting_X8_rankOf : GoodIn wsX8_lineUpWaiting wsX8_rankOf := goodIn_r _ [15, 16, 17, 18, 19, 20, 21, 22, 23, 24, 25, 26, 27, 28, 29, 30, 31, 32, 33, 34, 35, 36, 37, 38, 39, 40, 41, 48, 49, 50, 51, 52, 53, 54, 55, 56, 57, 58, 59, 60, 61, 62, 63, 64, 65, 66, 67, 68, 69, 73, 74, 75, 76, 77, 78, 79, 80, 81, 82, 83, 84, 85, 86, 87] (by decide +kernel) (by decide +kernel)
set_option maxRecDepth 20000 in
theorem gX8_lineUpWaiting_X8_rankOf : GoodIn wsX8_lineUpWaiting (wsV RX8 166 RX8 yX8_rankOf wsX8_rankOf) := goodIn_app (goodIn_of _ (by decide +kernel)) ggX8_lineUpWaiting_X8_rankOf
set_option maxRecDepth 20000 in
theorem ggX8_lineUpWaiting_X2_add : GoodIn wsX8_lineUpWaiting wsX2_add := goodIn_r _ [45, 10, 46, 47, 70, 71, 72] (by decide +kernel) (by decide +kernel)
set_option maxRecDepth 20000 in
theorem gX8_lineUpWaiting_X2_add : GoodIn wsX8_lineUpWaiting (wsV RX8 170 RX2 yX2_add wsX2_add) := goodIn_app (goodIn_of _ (by decide +kernel)) ggX8_lineUpWaiting_X2_add
theorem dX8_lineUpWaiting_0 : decode cX8_lineUpWaiting 0 = .ok (.aload_n 0, 1) := by decide +kernel
theorem dX8_lineUpWaiting_1 : decode cX8_lineUpWaiting 1 = .ok (.getfield 25, 3) := by decide +kernel
theorem dX8_lineUpWaiting_4 : decode cX8_lineUpWaiting 4 = .ok (.invokevirtual 160, 3) := by decide +kernel
theorem dX8_lineUpWaiting_7 : decode cX8_lineUpWaiting 7 = .ok (.iconst 0, 1) := by decide +kernel
theorem dX8_lineUpWaiting_8 : decode cX8_lineUpWaiting 8 = .ok (.istore_n 1, 1) := by decide +kernel
theorem dX8_lineUpWaiting_9 : decode cX8_lineUpWaiting 9 = .ok (.iload_n 1, 1) := by decide +kernel
theorem dX8_lineUpWaiting_10 : decode cX8_lineUpWaiting 10 = .ok (.aload_n 0, 1) := by decide +kernel
theorem dX8_lineUpWaiting_11 : decode cX8_lineUpWaiting 11 = .ok (.getfield 64, 3) := by decide +kernel
theorem dX8_lineUpWaiting_14 : decode cX8_lineUpWaiting 14 = .ok (.if_icmp .ge 39, 3) := by decide +kernel
theorem dX8_lineUpWaiting_17 : decode cX8_lineUpWaiting 17 = .ok (.aload_n 0, 1) := by decide +kernel
theorem dX8_lineUpWaiting_18 : decode cX8_lineUpWaiting 18 = .ok (.getfield 18, 3) := by decide +kernel
theorem dX8_lineUpWaiting_21 : decode cX8_lineUpWaiting 21 = .ok (.iload_n 1, 1) := by decide +kernel
theorem dX8_lineUpWaiting_22 : decode cX8_lineUpWaiting 22 = .ok (.aaload, 1) := by decide +kernel
theorem dX8_lineUpWaiting_23 : decode cX8_lineUpWaiting 23 = .ok (.getfield 140, 3) := by decide +kernel
theorem dX8_lineUpWaiting_26 : decode cX8_lineUpWaiting 26 = .ok (.ifCond .ne 21, 3) := by decide +kernel
theorem dX8_lineUpWaiting_29 : decode cX8_lineUpWaiting 29 = .ok (.aload_n 0, 1) := by decide +kernel
theorem dX8_lineUpWaiting_30 : decode cX8_lineUpWaiting 30 = .ok (.getfield 25, 3) := by decide +kernel
theorem dX8_lineUpWaiting_33 : decode cX8_lineUpWaiting 33 = .ok (.iload_n 1, 1) := by decide +kernel
theorem dX8_lineUpWaiting_34 : decode cX8_lineUpWaiting 34 = .ok (.aload_n 0, 1) := by decide +kernel
theorem dX8_lineUpWaiting_35 : decode cX8_lineUpWaiting 35 = .ok (.aload_n 0, 1) := by decide +kernel
theorem dX8_lineUpWaiting_36 : decode cX8_lineUpWaiting 36 = .ok (.getfield 18, 3) := by decide +kernel
theorem dX8_lineUpWaiting_39 : decode cX8_lineUpWaiting 39 = .ok (.iload_n 1, 1) := by decide +kernel
theorem dX8_lineUpWaiting_40 : decode cX8_lineUpWaiting 40 = .ok (.aaload, 1) := by decide +kernel
theorem dX8_lineUpWaiting_41 : decode cX8_lineUpWaiting 41 = .ok (.invokevirtual 166, 3) := by decide +kernel
theorem dX8_lineUpWaiting_44 : decode cX8_lineUpWaiting 44 = .ok (.invokevirtual 170, 3) := by decide +kernel
theorem dX8_lineUpWaiting_47 : decode cX8_lineUpWaiting 47 = .ok (.iinc 1 1, 3) := by decide +kernel
theorem dX8_lineUpWaiting_50 : decode cX8_lineUpWaiting 50 = .ok (.goto (-41), 3) := by decide +kernel
theorem dX8_lineUpWaiting_53 : decode cX8_lineUpWaiting 53 = .ok (.return_, 1) := by decide +kernel
set_option maxRecDepth 20000 in
theorem ggX8_placeAmongWaiting_X8_lineUpWaiting : GoodIn wsX8_placeAmongWaiting wsX8_lineUpWaiting := goodIn_r _ [7, 1, 8, 9, 10, 11, 12, 13, 14, 15, 16, 17, 18, 19, 6, 20, 21, 22, 23, 24, 25, 26, 27, 28, 29, 30, 31, 32, 33, 34, 35, 36, 37, 38, 39, 40, 41, 42, 43, 44, 45, 46, 47, 48, 49, 50, 51, 52, 57, 58, 59, 60, 61, 62, 63, 64, 65, 66, 67, 68, 69, 70, 71, 72, 73, 74, 75, 76, 77, 78, 79, 80, 81, 82, 83, 84, 85, 86, 87, 88, 89, 90, 91, 92, 93, 94, 95, 96] (by decide +kernel) (by decide +kernel)
set_option maxRecDepth 20000 in
theorem gX8_placeAmongWaiting_X8_lineUpWaiting : GoodIn wsX8_placeAmongWaiting (wsV RX8 130 RX8 yX8_lineUpWaiting wsX8_lineUpWaiting) := goodIn_app (goodIn_of _ (by decide +kernel)) ggX8_placeAmongWaiting_X8_lineUpWaiting
set_option maxRecDepth 20000 in
theorem ggX8_placeAmongWaiting_X2_placeOf : GoodIn wsX8_placeAmongWaiting wsX2_placeOf := goodIn_r _ [56, 16, 52, 79, 80, 81] (by decide +kernel) (by decide +kernel)
set_option maxRecDepth 20000 in
theorem gX8_placeAmongWaiting_X2_placeOf : GoodIn wsX8_placeAmongWaiting (wsV RX8 273 RX2 yX2_placeOf wsX2_placeOf) := goodIn_app (goodIn_of _ (by decide +kernel)) ggX8_placeAmongWaiting_X2_placeOf
theorem dX8_placeAmongWaiting_0 : decode cX8_placeAmongWaiting 0 = .ok (.aload_n 0, 1) := by decide +kernel
theorem dX8_placeAmongWaiting_1 : decode cX8_placeAmongWaiting 1 = .ok (.invokevirtual 130, 3) := by decide +kernel
theorem dX8_placeAmongWaiting_4 : decode cX8_placeAmongWaiting 4 = .ok (.aload_n 0, 1) := by decide +kernel
theorem dX8_placeAmongWaiting_5 : decode cX8_placeAmongWaiting 5 = .ok (.getfield 25, 3) := by decide +kernel
theorem dX8_placeAmongWaiting_8 : decode cX8_placeAmongWaiting 8 = .ok (.aload_n 1, 1) := by decide +kernel
theorem dX8_placeAmongWaiting_9 : decode cX8_placeAmongWaiting 9 = .ok (.getfield 116, 3) := by decide +kernel
theorem dX8_placeAmongWaiting_12 : decode cX8_placeAmongWaiting 12 = .ok (.invokevirtual 273, 3) := by decide +kernel
theorem dX8_placeAmongWaiting_15 : decode cX8_placeAmongWaiting 15 = .ok (.ireturn, 1) := by decide +kernel
set_option maxRecDepth 20000 in
theorem ggX8_dealLine_X8_find : GoodIn wsX8_dealLine wsX8_find := goodIn_r _ [8, 9, 10, 11, 12, 7, 13, 80, 81, 82, 83, 84, 85, 86, 87, 88, 89] (by decide +kernel) (by decide +kernel)
set_option maxRecDepth 20000 in
theorem gX8_dealLine_X8_find : GoodIn wsX8_dealLine (wsV RX8 136 RX8 yX8_find wsX8_find) := goodIn_app (goodIn_of _ (by decide +kernel)) ggX8_dealLine_X8_find
set_option maxRecDepth 20000 in
theorem ggX8_dealLine_X8_bookLeast : GoodIn wsX8_dealLine wsX8_bookLeast := goodIn_r _ [17, 18, 19, 20, 21, 22, 23, 24, 25, 26, 27, 28, 29, 30, 31, 32, 33, 34, 35, 36, 37, 38, 39, 7, 40, 41, 42, 43, 44, 45, 46, 47, 48, 49, 50, 51, 52, 53, 54, 55, 56, 57, 58, 59, 60, 61, 62, 63, 64, 65, 66, 67, 68, 69, 70, 71, 72, 73, 74, 75, 76, 77, 78, 79, 80, 81, 82, 83, 84, 85, 86, 87, 88, 89, 93, 94, 95, 96, 97, 98, 99, 100, 101, 102, 103, 104, 105, 106, 107, 108, 109, 110, 111, 112, 113] (by decide +kernel) (by decide +kernel)
set_option maxRecDepth 20000 in
theorem gX8_dealLine_X8_bookLeast : GoodIn wsX8_dealLine (wsV RX8 279 RX8 yX8_bookLeast wsX8_bookLeast) := goodIn_app (goodIn_of _ (by decide +kernel)) ggX8_dealLine_X8_bookLeast
theorem dX8_dealLine_0 : decode cX8_dealLine 0 = .ok (.iconst 0, 1) := by decide +kernel
theorem dX8_dealLine_1 : decode cX8_dealLine 1 = .ok (.istore_n 1, 1) := by decide +kernel
theorem dX8_dealLine_2 : decode cX8_dealLine 2 = .ok (.iconst 0, 1) := by decide +kernel
theorem dX8_dealLine_3 : decode cX8_dealLine 3 = .ok (.istore_n 2, 1) := by decide +kernel
theorem dX8_dealLine_4 : decode cX8_dealLine 4 = .ok (.iload_n 2, 1) := by decide +kernel
theorem dX8_dealLine_5 : decode cX8_dealLine 5 = .ok (.aload_n 0, 1) := by decide +kernel
theorem dX8_dealLine_6 : decode cX8_dealLine 6 = .ok (.getfield 25, 3) := by decide +kernel
theorem dX8_dealLine_9 : decode cX8_dealLine 9 = .ok (.getfield 173, 3) := by decide +kernel
theorem dX8_dealLine_12 : decode cX8_dealLine 12 = .ok (.if_icmp .ge 38, 3) := by decide +kernel
theorem dX8_dealLine_15 : decode cX8_dealLine 15 = .ok (.aload_n 0, 1) := by decide +kernel
theorem dX8_dealLine_16 : decode cX8_dealLine 16 = .ok (.aload_n 0, 1) := by decide +kernel
theorem dX8_dealLine_17 : decode cX8_dealLine 17 = .ok (.getfield 25, 3) := by decide +kernel
theorem dX8_dealLine_20 : decode cX8_dealLine 20 = .ok (.getfield 276, 3) := by decide +kernel
theorem dX8_dealLine_23 : decode cX8_dealLine 23 = .ok (.iload_n 2, 1) := by decide +kernel
theorem dX8_dealLine_24 : decode cX8_dealLine 24 = .ok (.iaload, 1) := by decide +kernel
theorem dX8_dealLine_25 : decode cX8_dealLine 25 = .ok (.invokevirtual 136, 3) := by decide +kernel
theorem dX8_dealLine_28 : decode cX8_dealLine 28 = .ok (.astore_n 3, 1) := by decide +kernel
theorem dX8_dealLine_29 : decode cX8_dealLine 29 = .ok (.aload_n 3, 1) := by decide +kernel
theorem dX8_dealLine_30 : decode cX8_dealLine 30 = .ok (.ifnull 14, 3) := by decide +kernel
theorem dX8_dealLine_33 : decode cX8_dealLine 33 = .ok (.aload_n 0, 1) := by decide +kernel
theorem dX8_dealLine_34 : decode cX8_dealLine 34 = .ok (.aload_n 3, 1) := by decide +kernel
theorem dX8_dealLine_35 : decode cX8_dealLine 35 = .ok (.invokevirtual 279, 3) := by decide +kernel
theorem dX8_dealLine_38 : decode cX8_dealLine 38 = .ok (.ifCond .eq 6, 3) := by decide +kernel
theorem dX8_dealLine_41 : decode cX8_dealLine 41 = .ok (.iinc 1 1, 3) := by decide +kernel
theorem dX8_dealLine_44 : decode cX8_dealLine 44 = .ok (.iinc 2 1, 3) := by decide +kernel
theorem dX8_dealLine_47 : decode cX8_dealLine 47 = .ok (.goto (-43), 3) := by decide +kernel
theorem dX8_dealLine_50 : decode cX8_dealLine 50 = .ok (.iload_n 1, 1) := by decide +kernel
theorem dX8_dealLine_51 : decode cX8_dealLine 51 = .ok (.ireturn, 1) := by decide +kernel
set_option maxRecDepth 20000 in
theorem ggX8_bookLeast_X0_leastFree : GoodIn wsX8_bookLeast wsX0_leastFree := goodIn_r _ [14, 15, 16, 6, 7, 8, 17, 18, 19, 13, 20, 21, 22, 23, 24, 25, 26, 27, 28, 29, 30, 31, 32, 33, 34, 35, 36, 37, 38, 39, 40, 41, 42, 43, 44, 45, 46, 47, 48, 49, 50, 51, 52, 86, 87, 88, 89, 90, 91, 92, 93, 94] (by decide +kernel) (by decide +kernel)
set_option maxRecDepth 20000 in
theorem gX8_bookLeast_X0_leastFree : GoodIn wsX8_bookLeast (wsV RX8 287 RX0 yX0_leastFree wsX0_leastFree) := goodIn_app (goodIn_of _ (by decide +kernel)) ggX8_bookLeast_X0_leastFree
set_option maxRecDepth 20000 in
theorem ggX8_bookLeast_X8_book : GoodIn wsX8_bookLeast wsX8_book := goodIn_r _ [56, 1, 57, 58, 59, 60, 61, 62, 13, 63, 34, 36, 37, 38, 39, 64, 65, 66, 67, 68, 69, 70, 71, 72, 73, 74, 75, 76, 77, 78, 79, 80, 81, 82, 83, 84, 85, 86, 87, 88, 89, 90, 91, 92, 93, 94] (by decide +kernel) (by decide +kernel)
set_option maxRecDepth 20000 in
theorem gX8_bookLeast_X8_book : GoodIn wsX8_bookLeast (wsV RX8 290 RX8 yX8_book wsX8_book) := goodIn_app (goodIn_of _ (by decide +kernel)) ggX8_bookLeast_X8_book
theorem dX8_bookLeast_0 : decode cX8_bookLeast 0 = .ok (.aload_n 0, 1) := by decide +kernel
theorem dX8_bookLeast_1 : decode cX8_bookLeast 1 = .ok (.getfield 12, 3) := by decide +kernel
theorem dX8_bookLeast_4 : decode cX8_bookLeast 4 = .ok (.aload_n 1, 1) := by decide +kernel
theorem dX8_bookLeast_5 : decode cX8_bookLeast 5 = .ok (.getfield 97, 3) := by decide +kernel
theorem dX8_bookLeast_8 : decode cX8_bookLeast 8 = .ok (.aload_n 1, 1) := by decide +kernel
theorem dX8_bookLeast_9 : decode cX8_bookLeast 9 = .ok (.getfield 109, 3) := by decide +kernel
theorem dX8_bookLeast_12 : decode cX8_bookLeast 12 = .ok (.aload_n 1, 1) := by decide +kernel
theorem dX8_bookLeast_13 : decode cX8_bookLeast 13 = .ok (.getfield 103, 3) := by decide +kernel
theorem dX8_bookLeast_16 : decode cX8_bookLeast 16 = .ok (.invokestatic 282, 3) := by decide +kernel
theorem dX8_bookLeast_19 : decode cX8_bookLeast 19 = .ok (.aload_n 1, 1) := by decide +kernel
theorem dX8_bookLeast_20 : decode cX8_bookLeast 20 = .ok (.getfield 106, 3) := by decide +kernel
theorem dX8_bookLeast_23 : decode cX8_bookLeast 23 = .ok (.invokevirtual 287, 3) := by decide +kernel
theorem dX8_bookLeast_26 : decode cX8_bookLeast 26 = .ok (.istore_n 2, 1) := by decide +kernel
theorem dX8_bookLeast_27 : decode cX8_bookLeast 27 = .ok (.iload_n 2, 1) := by decide +kernel
theorem dX8_bookLeast_28 : decode cX8_bookLeast 28 = .ok (.iconst (-1), 1) := by decide +kernel
theorem dX8_bookLeast_29 : decode cX8_bookLeast 29 = .ok (.if_icmp .ne 5, 3) := by decide +kernel
theorem dX8_bookLeast_32 : decode cX8_bookLeast 32 = .ok (.iconst 0, 1) := by decide +kernel
theorem dX8_bookLeast_33 : decode cX8_bookLeast 33 = .ok (.ireturn, 1) := by decide +kernel
theorem dX8_bookLeast_34 : decode cX8_bookLeast 34 = .ok (.aload_n 0, 1) := by decide +kernel
theorem dX8_bookLeast_35 : decode cX8_bookLeast 35 = .ok (.aload_n 1, 1) := by decide +kernel
theorem dX8_bookLeast_36 : decode cX8_bookLeast 36 = .ok (.iload_n 2, 1) := by decide +kernel
theorem dX8_bookLeast_37 : decode cX8_bookLeast 37 = .ok (.invokevirtual 290, 3) := by decide +kernel
theorem dX8_bookLeast_40 : decode cX8_bookLeast 40 = .ok (.iconst 1, 1) := by decide +kernel
theorem dX8_bookLeast_41 : decode cX8_bookLeast 41 = .ok (.ireturn, 1) := by decide +kernel
set_option maxRecDepth 20000 in
theorem ggX8_moveUp_X8_lineUpSooner : GoodIn wsX8_moveUp wsX8_lineUpSooner := goodIn_r _ [8, 9, 10, 11, 12, 13, 14, 15, 16, 17, 18, 19, 20, 21, 22, 7, 23, 24, 25, 26, 1, 27, 28, 29, 30, 31, 32, 33, 34, 35, 36, 37, 38, 39, 40, 41, 42, 43, 44, 45, 46, 47, 48, 49, 50, 51, 52, 53, 54, 121, 122, 123, 124, 125, 126, 127, 128, 129, 130, 131, 132, 133, 134, 135, 136, 137, 138, 139, 140, 141, 142, 143, 144, 145, 146, 147, 148, 149, 150, 151, 152, 153, 154, 155, 156, 157, 158, 159, 160] (by decide +kernel) (by decide +kernel)
set_option maxRecDepth 20000 in
theorem gX8_moveUp_X8_lineUpSooner : GoodIn wsX8_moveUp (wsV RX8 294 RX8 yX8_lineUpSooner wsX8_lineUpSooner) := goodIn_app (goodIn_of _ (by decide +kernel)) ggX8_moveUp_X8_lineUpSooner
set_option maxRecDepth 20000 in
theorem ggX8_moveUp_X0_isFree : GoodIn wsX8_moveUp wsX0_isFree := goodIn_r _ [59, 60, 61, 62, 63, 64, 65, 58, 66, 67, 7, 68, 69, 70, 71, 72, 73, 74, 75, 76, 77, 78, 79, 80, 81, 82, 83, 84, 85, 146, 147, 148, 149, 150, 151, 152, 153, 154] (by decide +kernel) (by decide +kernel)
set_option maxRecDepth 20000 in
theorem gX8_moveUp_X0_isFree : GoodIn wsX8_moveUp (wsV RX8 297 RX0 yX0_isFree wsX0_isFree) := goodIn_app (goodIn_of _ (by decide +kernel)) ggX8_moveUp_X0_isFree
set_option maxRecDepth 20000 in
theorem ggX8_moveUp_X8_firstToMove : GoodIn wsX8_moveUp wsX8_firstToMove := goodIn_r _ [89, 9, 90, 91, 2, 92, 93, 94, 7, 95, 10, 11, 96, 97, 98, 99, 100, 101, 102, 103, 104, 30, 1, 26, 105, 67, 68, 106, 71, 72, 107, 78, 79, 58, 80, 81, 82, 121, 122, 123, 124, 125, 126, 127, 128, 129, 130, 143, 144, 145, 131, 132, 133, 134, 135, 136, 137, 138, 139, 140, 141, 142, 146, 147, 148, 149, 150, 151, 152, 153, 154] (by decide +kernel) (by decide +kernel)
set_option maxRecDepth 20000 in
theorem gX8_moveUp_X8_firstToMove : GoodIn wsX8_moveUp (wsV RX8 300 RX8 yX8_firstToMove wsX8_firstToMove) := goodIn_app (goodIn_of _ (by decide +kernel)) ggX8_moveUp_X8_firstToMove
set_option maxRecDepth 20000 in
theorem ggX8_moveUp_X8_release : GoodIn wsX8_moveUp wsX8_release := goodIn_r _ [111, 1, 2, 12, 112, 113, 114, 58, 115, 60, 63, 64, 65, 66, 121, 122, 123, 124, 125, 126, 127, 128, 129, 130, 131, 132, 133, 134, 135, 136, 137, 138, 139, 140, 141, 142, 146, 147, 148, 149, 150, 151, 152, 153, 154] (by decide +kernel) (by decide +kernel)
set_option maxRecDepth 20000 in
theorem gX8_moveUp_X8_release : GoodIn wsX8_moveUp (wsV RX8 146 RX8 yX8_release wsX8_release) := goodIn_app (goodIn_of _ (by decide +kernel)) ggX8_moveUp_X8_release
set_option maxRecDepth 20000 in
theorem ggX8_moveUp_X8_book : GoodIn wsX8_moveUp wsX8_book := goodIn_r _ [119, 1, 120, 2, 12, 112, 113, 114, 58, 115, 60, 63, 64, 65, 66, 121, 122, 123, 124, 125, 126, 127, 128, 129, 130, 131, 132, 133, 134, 135, 136, 137, 138, 139, 140, 141, 142, 146, 147, 148, 149, 150, 151, 152, 153, 154] (by decide +kernel) (by decide +kernel)
set_option maxRecDepth 20000 in
theorem gX8_moveUp_X8_book : GoodIn wsX8_moveUp (wsV RX8 290 RX8 yX8_book wsX8_book) := goodIn_app (goodIn_of _ (by decide +kernel)) ggX8_moveUp_X8_book
theorem dX8_moveUp_0 : decode cX8_moveUp 0 = .ok (.aload_n 0, 1) := by decide +kernel
theorem dX8_moveUp_1 : decode cX8_moveUp 1 = .ok (.invokevirtual 294, 3) := by decide +kernel
theorem dX8_moveUp_4 : decode cX8_moveUp 4 = .ok (.iconst 0, 1) := by decide +kernel
theorem dX8_moveUp_5 : decode cX8_moveUp 5 = .ok (.istore_n 2, 1) := by decide +kernel
theorem dX8_moveUp_6 : decode cX8_moveUp 6 = .ok (.iload_n 1, 1) := by decide +kernel
theorem dX8_moveUp_7 : decode cX8_moveUp 7 = .ok (.istore_n 3, 1) := by decide +kernel
theorem dX8_moveUp_8 : decode cX8_moveUp 8 = .ok (.iconst 0, 1) := by decide +kernel
theorem dX8_moveUp_9 : decode cX8_moveUp 9 = .ok (.istore 4, 2) := by decide +kernel
theorem dX8_moveUp_11 : decode cX8_moveUp 11 = .ok (.iload 4, 2) := by decide +kernel
theorem dX8_moveUp_13 : decode cX8_moveUp 13 = .ok (.bipush 60, 2) := by decide +kernel
theorem dX8_moveUp_15 : decode cX8_moveUp 15 = .ok (.if_icmp .ge 72, 3) := by decide +kernel
theorem dX8_moveUp_18 : decode cX8_moveUp 18 = .ok (.aload_n 0, 1) := by decide +kernel
theorem dX8_moveUp_19 : decode cX8_moveUp 19 = .ok (.getfield 12, 3) := by decide +kernel
theorem dX8_moveUp_22 : decode cX8_moveUp 22 = .ok (.iload_n 3, 1) := by decide +kernel
theorem dX8_moveUp_23 : decode cX8_moveUp 23 = .ok (.invokevirtual 297, 3) := by decide +kernel
theorem dX8_moveUp_26 : decode cX8_moveUp 26 = .ok (.ifCond .eq 61, 3) := by decide +kernel
theorem dX8_moveUp_29 : decode cX8_moveUp 29 = .ok (.aload_n 0, 1) := by decide +kernel
theorem dX8_moveUp_30 : decode cX8_moveUp 30 = .ok (.iload_n 3, 1) := by decide +kernel
theorem dX8_moveUp_31 : decode cX8_moveUp 31 = .ok (.invokevirtual 300, 3) := by decide +kernel
theorem dX8_moveUp_34 : decode cX8_moveUp 34 = .ok (.astore 5, 2) := by decide +kernel
theorem dX8_moveUp_36 : decode cX8_moveUp 36 = .ok (.aload 5, 2) := by decide +kernel
theorem dX8_moveUp_38 : decode cX8_moveUp 38 = .ok (.ifnonnull 6, 3) := by decide +kernel
theorem dX8_moveUp_41 : decode cX8_moveUp 41 = .ok (.goto 46, 3) := by decide +kernel
theorem dX8_moveUp_44 : decode cX8_moveUp 44 = .ok (.aload 5, 2) := by decide +kernel
theorem dX8_moveUp_46 : decode cX8_moveUp 46 = .ok (.getfield 143, 3) := by decide +kernel
theorem dX8_moveUp_49 : decode cX8_moveUp 49 = .ok (.istore 6, 2) := by decide +kernel
theorem dX8_moveUp_51 : decode cX8_moveUp 51 = .ok (.aload_n 0, 1) := by decide +kernel
theorem dX8_moveUp_52 : decode cX8_moveUp 52 = .ok (.aload 5, 2) := by decide +kernel
theorem dX8_moveUp_54 : decode cX8_moveUp 54 = .ok (.invokevirtual 146, 3) := by decide +kernel
theorem dX8_moveUp_57 : decode cX8_moveUp 57 = .ok (.aload_n 0, 1) := by decide +kernel
theorem dX8_moveUp_58 : decode cX8_moveUp 58 = .ok (.aload 5, 2) := by decide +kernel
theorem dX8_moveUp_60 : decode cX8_moveUp 60 = .ok (.iload_n 3, 1) := by decide +kernel
theorem dX8_moveUp_61 : decode cX8_moveUp 61 = .ok (.invokevirtual 290, 3) := by decide +kernel
theorem dX8_moveUp_64 : decode cX8_moveUp 64 = .ok (.aload 5, 2) := by decide +kernel
theorem dX8_moveUp_66 : decode cX8_moveUp 66 = .ok (.dup, 1) := by decide +kernel
theorem dX8_moveUp_67 : decode cX8_moveUp 67 = .ok (.getfield 196, 3) := by decide +kernel
theorem dX8_moveUp_70 : decode cX8_moveUp 70 = .ok (.iconst 1, 1) := by decide +kernel
theorem dX8_moveUp_71 : decode cX8_moveUp 71 = .ok (.iadd, 1) := by decide +kernel
theorem dX8_moveUp_72 : decode cX8_moveUp 72 = .ok (.putfield 196, 3) := by decide +kernel
theorem dX8_moveUp_75 : decode cX8_moveUp 75 = .ok (.iinc 2 1, 3) := by decide +kernel
theorem dX8_moveUp_78 : decode cX8_moveUp 78 = .ok (.iload 6, 2) := by decide +kernel
theorem dX8_moveUp_80 : decode cX8_moveUp 80 = .ok (.istore_n 3, 1) := by decide +kernel
theorem dX8_moveUp_81 : decode cX8_moveUp 81 = .ok (.iinc 4 1, 3) := by decide +kernel
theorem dX8_moveUp_84 : decode cX8_moveUp 84 = .ok (.goto (-73), 3) := by decide +kernel
theorem dX8_moveUp_87 : decode cX8_moveUp 87 = .ok (.iload_n 2, 1) := by decide +kernel
theorem dX8_moveUp_88 : decode cX8_moveUp 88 = .ok (.ireturn, 1) := by decide +kernel
set_option maxRecDepth 20000 in
theorem ggX8_lineUpSooner_X2_clear : GoodIn wsX8_lineUpSooner wsX2_clear := goodIn_r _ [10, 11, 71, 72, 73] (by decide +kernel) (by decide +kernel)
set_option maxRecDepth 20000 in
theorem gX8_lineUpSooner_X2_clear : GoodIn wsX8_lineUpSooner (wsV RX8 160 RX2 yX2_clear wsX2_clear) := goodIn_app (goodIn_of _ (by decide +kernel)) ggX8_lineUpSooner_X2_clear
set_option maxRecDepth 20000 in
theorem ggX8_lineUpSooner_X8_rankOf : GoodIn wsX8_lineUpSooner wsX8_rankOf := goodIn_r _ [16, 17, 18, 19, 20, 21, 22, 23, 24, 25, 26, 27, 28, 29, 30, 31, 32, 33, 34, 35, 36, 37, 38, 39, 40, 41, 42, 49, 50, 51, 52, 53, 54, 55, 56, 57, 58, 59, 60, 61, 62, 63, 64, 65, 66, 67, 68, 69, 70, 74, 75, 76, 77, 78, 79, 80, 81, 82, 83, 84, 85, 86, 87, 88] (by decide +kernel) (by decide +kernel)
set_option maxRecDepth 20000 in
theorem gX8_lineUpSooner_X8_rankOf : GoodIn wsX8_lineUpSooner (wsV RX8 166 RX8 yX8_rankOf wsX8_rankOf) := goodIn_app (goodIn_of _ (by decide +kernel)) ggX8_lineUpSooner_X8_rankOf
set_option maxRecDepth 20000 in
theorem ggX8_lineUpSooner_X2_add : GoodIn wsX8_lineUpSooner wsX2_add := goodIn_r _ [46, 11, 47, 48, 71, 72, 73] (by decide +kernel) (by decide +kernel)
set_option maxRecDepth 20000 in
theorem gX8_lineUpSooner_X2_add : GoodIn wsX8_lineUpSooner (wsV RX8 170 RX2 yX2_add wsX2_add) := goodIn_app (goodIn_of _ (by decide +kernel)) ggX8_lineUpSooner_X2_add
theorem dX8_lineUpSooner_0 : decode cX8_lineUpSooner 0 = .ok (.aload_n 0, 1) := by decide +kernel
theorem dX8_lineUpSooner_1 : decode cX8_lineUpSooner 1 = .ok (.getfield 25, 3) := by decide +kernel
theorem dX8_lineUpSooner_4 : decode cX8_lineUpSooner 4 = .ok (.invokevirtual 160, 3) := by decide +kernel
theorem dX8_lineUpSooner_7 : decode cX8_lineUpSooner 7 = .ok (.iconst 0, 1) := by decide +kernel
theorem dX8_lineUpSooner_8 : decode cX8_lineUpSooner 8 = .ok (.istore_n 1, 1) := by decide +kernel
theorem dX8_lineUpSooner_9 : decode cX8_lineUpSooner 9 = .ok (.iload_n 1, 1) := by decide +kernel
theorem dX8_lineUpSooner_10 : decode cX8_lineUpSooner 10 = .ok (.aload_n 0, 1) := by decide +kernel
theorem dX8_lineUpSooner_11 : decode cX8_lineUpSooner 11 = .ok (.getfield 64, 3) := by decide +kernel
theorem dX8_lineUpSooner_14 : decode cX8_lineUpSooner 14 = .ok (.if_icmp .ge 52, 3) := by decide +kernel
theorem dX8_lineUpSooner_17 : decode cX8_lineUpSooner 17 = .ok (.aload_n 0, 1) := by decide +kernel
theorem dX8_lineUpSooner_18 : decode cX8_lineUpSooner 18 = .ok (.getfield 18, 3) := by decide +kernel
theorem dX8_lineUpSooner_21 : decode cX8_lineUpSooner 21 = .ok (.iload_n 1, 1) := by decide +kernel
theorem dX8_lineUpSooner_22 : decode cX8_lineUpSooner 22 = .ok (.aaload, 1) := by decide +kernel
theorem dX8_lineUpSooner_23 : decode cX8_lineUpSooner 23 = .ok (.getfield 140, 3) := by decide +kernel
theorem dX8_lineUpSooner_26 : decode cX8_lineUpSooner 26 = .ok (.iconst 1, 1) := by decide +kernel
theorem dX8_lineUpSooner_27 : decode cX8_lineUpSooner 27 = .ok (.if_icmp .ne 33, 3) := by decide +kernel
theorem dX8_lineUpSooner_30 : decode cX8_lineUpSooner 30 = .ok (.aload_n 0, 1) := by decide +kernel
theorem dX8_lineUpSooner_31 : decode cX8_lineUpSooner 31 = .ok (.getfield 18, 3) := by decide +kernel
theorem dX8_lineUpSooner_34 : decode cX8_lineUpSooner 34 = .ok (.iload_n 1, 1) := by decide +kernel
theorem dX8_lineUpSooner_35 : decode cX8_lineUpSooner 35 = .ok (.aaload, 1) := by decide +kernel
theorem dX8_lineUpSooner_36 : decode cX8_lineUpSooner 36 = .ok (.getfield 112, 3) := by decide +kernel
theorem dX8_lineUpSooner_39 : decode cX8_lineUpSooner 39 = .ok (.ifCond .eq 21, 3) := by decide +kernel
theorem dX8_lineUpSooner_42 : decode cX8_lineUpSooner 42 = .ok (.aload_n 0, 1) := by decide +kernel
theorem dX8_lineUpSooner_43 : decode cX8_lineUpSooner 43 = .ok (.getfield 25, 3) := by decide +kernel
theorem dX8_lineUpSooner_46 : decode cX8_lineUpSooner 46 = .ok (.iload_n 1, 1) := by decide +kernel
theorem dX8_lineUpSooner_47 : decode cX8_lineUpSooner 47 = .ok (.aload_n 0, 1) := by decide +kernel
theorem dX8_lineUpSooner_48 : decode cX8_lineUpSooner 48 = .ok (.aload_n 0, 1) := by decide +kernel
theorem dX8_lineUpSooner_49 : decode cX8_lineUpSooner 49 = .ok (.getfield 18, 3) := by decide +kernel
theorem dX8_lineUpSooner_52 : decode cX8_lineUpSooner 52 = .ok (.iload_n 1, 1) := by decide +kernel
theorem dX8_lineUpSooner_53 : decode cX8_lineUpSooner 53 = .ok (.aaload, 1) := by decide +kernel
theorem dX8_lineUpSooner_54 : decode cX8_lineUpSooner 54 = .ok (.invokevirtual 166, 3) := by decide +kernel
theorem dX8_lineUpSooner_57 : decode cX8_lineUpSooner 57 = .ok (.invokevirtual 170, 3) := by decide +kernel
theorem dX8_lineUpSooner_60 : decode cX8_lineUpSooner 60 = .ok (.iinc 1 1, 3) := by decide +kernel
theorem dX8_lineUpSooner_63 : decode cX8_lineUpSooner 63 = .ok (.goto (-54), 3) := by decide +kernel
theorem dX8_lineUpSooner_66 : decode cX8_lineUpSooner 66 = .ok (.return_, 1) := by decide +kernel
set_option maxRecDepth 20000 in
theorem ggX8_firstToMove_X8_find : GoodIn wsX8_firstToMove wsX8_find := goodIn_r _ [9, 10, 11, 12, 13, 8, 14, 37, 38, 39, 40, 41, 42, 43, 44, 45, 46] (by decide +kernel) (by decide +kernel)
set_option maxRecDepth 20000 in
theorem gX8_firstToMove_X8_find : GoodIn wsX8_firstToMove (wsV RX8 136 RX8 yX8_find wsX8_find) := goodIn_app (goodIn_of _ (by decide +kernel)) ggX8_firstToMove_X8_find
set_option maxRecDepth 20000 in
theorem ggX8_firstToMove_X8_isSuiting : GoodIn wsX8_firstToMove wsX8_isSuiting := goodIn_r _ [18, 19, 20, 21, 22, 23, 24, 25, 8, 26, 27, 28, 29, 30, 31, 32, 33, 34, 35, 36, 50, 51, 52, 53, 54, 55, 56, 57, 58, 59, 60, 61, 37, 38, 39, 40, 41, 42, 43, 44, 45, 46, 62, 63, 64, 65, 66, 67, 68, 69, 70] (by decide +kernel) (by decide +kernel)
set_option maxRecDepth 20000 in
theorem gX8_firstToMove_X8_isSuiting : GoodIn wsX8_firstToMove (wsV RX8 303 RX8 yX8_isSuiting wsX8_isSuiting) := goodIn_app (goodIn_of _ (by decide +kernel)) ggX8_firstToMove_X8_isSuiting
theorem dX8_firstToMove_0 : decode cX8_firstToMove 0 = .ok (.iconst 0, 1) := by decide +kernel
theorem dX8_firstToMove_1 : decode cX8_firstToMove 1 = .ok (.istore_n 2, 1) := by decide +kernel
theorem dX8_firstToMove_2 : decode cX8_firstToMove 2 = .ok (.iload_n 2, 1) := by decide +kernel
theorem dX8_firstToMove_3 : decode cX8_firstToMove 3 = .ok (.aload_n 0, 1) := by decide +kernel
theorem dX8_firstToMove_4 : decode cX8_firstToMove 4 = .ok (.getfield 25, 3) := by decide +kernel
theorem dX8_firstToMove_7 : decode cX8_firstToMove 7 = .ok (.getfield 173, 3) := by decide +kernel
theorem dX8_firstToMove_10 : decode cX8_firstToMove 10 = .ok (.if_icmp .ge 46, 3) := by decide +kernel
theorem dX8_firstToMove_13 : decode cX8_firstToMove 13 = .ok (.aload_n 0, 1) := by decide +kernel
theorem dX8_firstToMove_14 : decode cX8_firstToMove 14 = .ok (.aload_n 0, 1) := by decide +kernel
theorem dX8_firstToMove_15 : decode cX8_firstToMove 15 = .ok (.getfield 25, 3) := by decide +kernel
theorem dX8_firstToMove_18 : decode cX8_firstToMove 18 = .ok (.getfield 276, 3) := by decide +kernel
theorem dX8_firstToMove_21 : decode cX8_firstToMove 21 = .ok (.iload_n 2, 1) := by decide +kernel
theorem dX8_firstToMove_22 : decode cX8_firstToMove 22 = .ok (.iaload, 1) := by decide +kernel
theorem dX8_firstToMove_23 : decode cX8_firstToMove 23 = .ok (.invokevirtual 136, 3) := by decide +kernel
theorem dX8_firstToMove_26 : decode cX8_firstToMove 26 = .ok (.astore_n 3, 1) := by decide +kernel
theorem dX8_firstToMove_27 : decode cX8_firstToMove 27 = .ok (.aload_n 3, 1) := by decide +kernel
theorem dX8_firstToMove_28 : decode cX8_firstToMove 28 = .ok (.ifnull 22, 3) := by decide +kernel
theorem dX8_firstToMove_31 : decode cX8_firstToMove 31 = .ok (.aload_n 3, 1) := by decide +kernel
theorem dX8_firstToMove_32 : decode cX8_firstToMove 32 = .ok (.getfield 143, 3) := by decide +kernel
theorem dX8_firstToMove_35 : decode cX8_firstToMove 35 = .ok (.iload_n 1, 1) := by decide +kernel
theorem dX8_firstToMove_36 : decode cX8_firstToMove 36 = .ok (.if_icmp .le 14, 3) := by decide +kernel
theorem dX8_firstToMove_39 : decode cX8_firstToMove 39 = .ok (.aload_n 0, 1) := by decide +kernel
theorem dX8_firstToMove_40 : decode cX8_firstToMove 40 = .ok (.iload_n 1, 1) := by decide +kernel
theorem dX8_firstToMove_41 : decode cX8_firstToMove 41 = .ok (.aload_n 3, 1) := by decide +kernel
theorem dX8_firstToMove_42 : decode cX8_firstToMove 42 = .ok (.invokevirtual 303, 3) := by decide +kernel
theorem dX8_firstToMove_45 : decode cX8_firstToMove 45 = .ok (.ifCond .eq 5, 3) := by decide +kernel
theorem dX8_firstToMove_48 : decode cX8_firstToMove 48 = .ok (.aload_n 3, 1) := by decide +kernel
theorem dX8_firstToMove_49 : decode cX8_firstToMove 49 = .ok (.areturn, 1) := by decide +kernel
theorem dX8_firstToMove_50 : decode cX8_firstToMove 50 = .ok (.iinc 2 1, 3) := by decide +kernel
theorem dX8_firstToMove_53 : decode cX8_firstToMove 53 = .ok (.goto (-51), 3) := by decide +kernel
theorem dX8_firstToMove_56 : decode cX8_firstToMove 56 = .ok (.aconst_null, 1) := by decide +kernel
theorem dX8_firstToMove_57 : decode cX8_firstToMove 57 = .ok (.areturn, 1) := by decide +kernel
set_option maxRecDepth 20000 in
theorem ggX8_isSuiting_X8_dayOf : GoodIn wsX8_isSuiting wsX8_dayOf := goodIn_r _ [9] (by decide +kernel) (by decide +kernel)
set_option maxRecDepth 20000 in
theorem gX8_isSuiting_X8_dayOf : GoodIn wsX8_isSuiting (va_wsS RX8 163 yX8_dayOf wsX8_dayOf) := goodIn_app (goodIn_of _ (by decide +kernel)) ggX8_isSuiting_X8_dayOf
set_option maxRecDepth 20000 in
theorem ggX8_isSuiting_X8_examinerOf : GoodIn wsX8_isSuiting wsX8_examinerOf := goodIn_r _ [12] (by decide +kernel) (by decide +kernel)
set_option maxRecDepth 20000 in
theorem gX8_isSuiting_X8_examinerOf : GoodIn wsX8_isSuiting (va_wsS RX8 176 yX8_examinerOf wsX8_examinerOf) := goodIn_app (goodIn_of _ (by decide +kernel)) ggX8_isSuiting_X8_examinerOf
set_option maxRecDepth 20000 in
theorem ggX8_isSuiting_X0_townOf : GoodIn wsX8_isSuiting wsX0_townOf := goodIn_r _ [17, 18, 19, 42, 43, 44, 45, 46, 47, 48, 49, 50] (by decide +kernel) (by decide +kernel)
set_option maxRecDepth 20000 in
theorem gX8_isSuiting_X0_townOf : GoodIn wsX8_isSuiting (wsV RX8 263 RX0 yX0_townOf wsX0_townOf) := goodIn_app (goodIn_of _ (by decide +kernel)) ggX8_isSuiting_X0_townOf
theorem dX8_isSuiting_0 : decode cX8_isSuiting 0 = .ok (.iload_n 1, 1) := by decide +kernel
theorem dX8_isSuiting_1 : decode cX8_isSuiting 1 = .ok (.invokestatic 163, 3) := by decide +kernel
theorem dX8_isSuiting_4 : decode cX8_isSuiting 4 = .ok (.istore_n 3, 1) := by decide +kernel
theorem dX8_isSuiting_5 : decode cX8_isSuiting 5 = .ok (.iload_n 3, 1) := by decide +kernel
theorem dX8_isSuiting_6 : decode cX8_isSuiting 6 = .ok (.aload_n 2, 1) := by decide +kernel
theorem dX8_isSuiting_7 : decode cX8_isSuiting 7 = .ok (.getfield 109, 3) := by decide +kernel
theorem dX8_isSuiting_10 : decode cX8_isSuiting 10 = .ok (.if_icmp .lt 23, 3) := by decide +kernel
theorem dX8_isSuiting_13 : decode cX8_isSuiting 13 = .ok (.iload_n 3, 1) := by decide +kernel
theorem dX8_isSuiting_14 : decode cX8_isSuiting 14 = .ok (.aload_n 2, 1) := by decide +kernel
theorem dX8_isSuiting_15 : decode cX8_isSuiting 15 = .ok (.getfield 103, 3) := by decide +kernel
theorem dX8_isSuiting_18 : decode cX8_isSuiting 18 = .ok (.if_icmp .lt 15, 3) := by decide +kernel
theorem dX8_isSuiting_21 : decode cX8_isSuiting 21 = .ok (.iload_n 3, 1) := by decide +kernel
theorem dX8_isSuiting_22 : decode cX8_isSuiting 22 = .ok (.aload_n 2, 1) := by decide +kernel
theorem dX8_isSuiting_23 : decode cX8_isSuiting 23 = .ok (.getfield 106, 3) := by decide +kernel
theorem dX8_isSuiting_26 : decode cX8_isSuiting 26 = .ok (.if_icmp .gt 7, 3) := by decide +kernel
theorem dX8_isSuiting_29 : decode cX8_isSuiting 29 = .ok (.iconst 1, 1) := by decide +kernel
theorem dX8_isSuiting_30 : decode cX8_isSuiting 30 = .ok (.goto 4, 3) := by decide +kernel
theorem dX8_isSuiting_33 : decode cX8_isSuiting 33 = .ok (.iconst 0, 1) := by decide +kernel
theorem dX8_isSuiting_34 : decode cX8_isSuiting 34 = .ok (.istore 4, 2) := by decide +kernel
theorem dX8_isSuiting_36 : decode cX8_isSuiting 36 = .ok (.iload 4, 2) := by decide +kernel
theorem dX8_isSuiting_38 : decode cX8_isSuiting 38 = .ok (.ifCond .eq 26, 3) := by decide +kernel
theorem dX8_isSuiting_41 : decode cX8_isSuiting 41 = .ok (.aload_n 0, 1) := by decide +kernel
theorem dX8_isSuiting_42 : decode cX8_isSuiting 42 = .ok (.getfield 12, 3) := by decide +kernel
theorem dX8_isSuiting_45 : decode cX8_isSuiting 45 = .ok (.iload_n 1, 1) := by decide +kernel
theorem dX8_isSuiting_46 : decode cX8_isSuiting 46 = .ok (.invokestatic 176, 3) := by decide +kernel
theorem dX8_isSuiting_49 : decode cX8_isSuiting 49 = .ok (.iload_n 3, 1) := by decide +kernel
theorem dX8_isSuiting_50 : decode cX8_isSuiting 50 = .ok (.invokevirtual 263, 3) := by decide +kernel
theorem dX8_isSuiting_53 : decode cX8_isSuiting 53 = .ok (.aload_n 2, 1) := by decide +kernel
theorem dX8_isSuiting_54 : decode cX8_isSuiting 54 = .ok (.getfield 97, 3) := by decide +kernel
theorem dX8_isSuiting_57 : decode cX8_isSuiting 57 = .ok (.if_icmp .ne 7, 3) := by decide +kernel
theorem dX8_isSuiting_60 : decode cX8_isSuiting 60 = .ok (.iconst 1, 1) := by decide +kernel
theorem dX8_isSuiting_61 : decode cX8_isSuiting 61 = .ok (.goto 4, 3) := by decide +kernel
theorem dX8_isSuiting_64 : decode cX8_isSuiting 64 = .ok (.iconst 0, 1) := by decide +kernel
theorem dX8_isSuiting_65 : decode cX8_isSuiting 65 = .ok (.ireturn, 1) := by decide +kernel
theorem dX8_countOfState_0 : decode cX8_countOfState 0 = .ok (.iconst 0, 1) := by decide +kernel
theorem dX8_countOfState_1 : decode cX8_countOfState 1 = .ok (.istore_n 2, 1) := by decide +kernel
theorem dX8_countOfState_2 : decode cX8_countOfState 2 = .ok (.iconst 0, 1) := by decide +kernel
theorem dX8_countOfState_3 : decode cX8_countOfState 3 = .ok (.istore_n 3, 1) := by decide +kernel
theorem dX8_countOfState_4 : decode cX8_countOfState 4 = .ok (.iload_n 3, 1) := by decide +kernel
theorem dX8_countOfState_5 : decode cX8_countOfState 5 = .ok (.aload_n 0, 1) := by decide +kernel
theorem dX8_countOfState_6 : decode cX8_countOfState 6 = .ok (.getfield 64, 3) := by decide +kernel
theorem dX8_countOfState_9 : decode cX8_countOfState 9 = .ok (.if_icmp .ge 25, 3) := by decide +kernel
theorem dX8_countOfState_12 : decode cX8_countOfState 12 = .ok (.aload_n 0, 1) := by decide +kernel
theorem dX8_countOfState_13 : decode cX8_countOfState 13 = .ok (.getfield 18, 3) := by decide +kernel
theorem dX8_countOfState_16 : decode cX8_countOfState 16 = .ok (.iload_n 3, 1) := by decide +kernel
theorem dX8_countOfState_17 : decode cX8_countOfState 17 = .ok (.aaload, 1) := by decide +kernel
theorem dX8_countOfState_18 : decode cX8_countOfState 18 = .ok (.getfield 140, 3) := by decide +kernel
theorem dX8_countOfState_21 : decode cX8_countOfState 21 = .ok (.iload_n 1, 1) := by decide +kernel
theorem dX8_countOfState_22 : decode cX8_countOfState 22 = .ok (.if_icmp .ne 6, 3) := by decide +kernel
theorem dX8_countOfState_25 : decode cX8_countOfState 25 = .ok (.iinc 2 1, 3) := by decide +kernel
theorem dX8_countOfState_28 : decode cX8_countOfState 28 = .ok (.iinc 3 1, 3) := by decide +kernel
theorem dX8_countOfState_31 : decode cX8_countOfState 31 = .ok (.goto (-27), 3) := by decide +kernel
theorem dX8_countOfState_34 : decode cX8_countOfState 34 = .ok (.iload_n 2, 1) := by decide +kernel
theorem dX8_countOfState_35 : decode cX8_countOfState 35 = .ok (.ireturn, 1) := by decide +kernel
set_option maxRecDepth 20000 in
theorem ggX8_countBookedWith_X8_examinerOf : GoodIn wsX8_countBookedWith wsX8_examinerOf := goodIn_r _ [8] (by decide +kernel) (by decide +kernel)
set_option maxRecDepth 20000 in
theorem gX8_countBookedWith_X8_examinerOf : GoodIn wsX8_countBookedWith (va_wsS RX8 176 yX8_examinerOf wsX8_examinerOf) := goodIn_app (goodIn_of _ (by decide +kernel)) ggX8_countBookedWith_X8_examinerOf
theorem dX8_countBookedWith_0 : decode cX8_countBookedWith 0 = .ok (.iconst 0, 1) := by decide +kernel
theorem dX8_countBookedWith_1 : decode cX8_countBookedWith 1 = .ok (.istore_n 2, 1) := by decide +kernel
theorem dX8_countBookedWith_2 : decode cX8_countBookedWith 2 = .ok (.iconst 0, 1) := by decide +kernel
theorem dX8_countBookedWith_3 : decode cX8_countBookedWith 3 = .ok (.istore_n 3, 1) := by decide +kernel
theorem dX8_countBookedWith_4 : decode cX8_countBookedWith 4 = .ok (.iload_n 3, 1) := by decide +kernel
theorem dX8_countBookedWith_5 : decode cX8_countBookedWith 5 = .ok (.aload_n 0, 1) := by decide +kernel
theorem dX8_countBookedWith_6 : decode cX8_countBookedWith 6 = .ok (.getfield 64, 3) := by decide +kernel
theorem dX8_countBookedWith_9 : decode cX8_countBookedWith 9 = .ok (.if_icmp .ge 41, 3) := by decide +kernel
theorem dX8_countBookedWith_12 : decode cX8_countBookedWith 12 = .ok (.aload_n 0, 1) := by decide +kernel
theorem dX8_countBookedWith_13 : decode cX8_countBookedWith 13 = .ok (.getfield 18, 3) := by decide +kernel
theorem dX8_countBookedWith_16 : decode cX8_countBookedWith 16 = .ok (.iload_n 3, 1) := by decide +kernel
theorem dX8_countBookedWith_17 : decode cX8_countBookedWith 17 = .ok (.aaload, 1) := by decide +kernel
theorem dX8_countBookedWith_18 : decode cX8_countBookedWith 18 = .ok (.getfield 140, 3) := by decide +kernel
theorem dX8_countBookedWith_21 : decode cX8_countBookedWith 21 = .ok (.iconst 1, 1) := by decide +kernel
theorem dX8_countBookedWith_22 : decode cX8_countBookedWith 22 = .ok (.if_icmp .ne 22, 3) := by decide +kernel
theorem dX8_countBookedWith_25 : decode cX8_countBookedWith 25 = .ok (.aload_n 0, 1) := by decide +kernel
theorem dX8_countBookedWith_26 : decode cX8_countBookedWith 26 = .ok (.getfield 18, 3) := by decide +kernel
theorem dX8_countBookedWith_29 : decode cX8_countBookedWith 29 = .ok (.iload_n 3, 1) := by decide +kernel
theorem dX8_countBookedWith_30 : decode cX8_countBookedWith 30 = .ok (.aaload, 1) := by decide +kernel
theorem dX8_countBookedWith_31 : decode cX8_countBookedWith 31 = .ok (.getfield 143, 3) := by decide +kernel
theorem dX8_countBookedWith_34 : decode cX8_countBookedWith 34 = .ok (.invokestatic 176, 3) := by decide +kernel
theorem dX8_countBookedWith_37 : decode cX8_countBookedWith 37 = .ok (.iload_n 1, 1) := by decide +kernel
theorem dX8_countBookedWith_38 : decode cX8_countBookedWith 38 = .ok (.if_icmp .ne 6, 3) := by decide +kernel
theorem dX8_countBookedWith_41 : decode cX8_countBookedWith 41 = .ok (.iinc 2 1, 3) := by decide +kernel
theorem dX8_countBookedWith_44 : decode cX8_countBookedWith 44 = .ok (.iinc 3 1, 3) := by decide +kernel
theorem dX8_countBookedWith_47 : decode cX8_countBookedWith 47 = .ok (.goto (-43), 3) := by decide +kernel
theorem dX8_countBookedWith_50 : decode cX8_countBookedWith 50 = .ok (.iload_n 2, 1) := by decide +kernel
theorem dX8_countBookedWith_51 : decode cX8_countBookedWith 51 = .ok (.ireturn, 1) := by decide +kernel
theorem dX9_thrown_0 : decode cX9_thrown 0 = .ok (.aload_n 0, 1) := by decide +kernel
theorem dX9_thrown_1 : decode cX9_thrown 1 = .ok (.getfield 1, 3) := by decide +kernel
theorem dX9_thrown_4 : decode cX9_thrown 4 = .ok (.ireturn, 1) := by decide +kernel
set_option maxRecDepth 20000 in
theorem ggX9_feed_X9_lay : GoodIn wsX9_feed wsX9_lay := goodIn_r _ [7, 2, 8, 9, 10, 11, 12, 13, 14, 15, 16, 17, 18, 19, 20, 21, 22, 23, 24, 25, 26, 27, 28, 29, 30, 31, 32, 33, 34, 35, 36, 37, 38, 39, 40, 41, 42, 43, 44, 45, 46, 47, 48, 49, 50, 51, 52, 53, 54, 55, 56, 57, 58, 59, 60, 61, 62, 63, 64, 65, 66, 67, 68, 69, 70] (by decide +kernel) (by decide +kernel)
set_option maxRecDepth 20000 in
theorem gX9_feed_X9_lay : GoodIn wsX9_feed (wsV RX9 7 RX9 yX9_lay wsX9_lay) := goodIn_app (goodIn_of _ (by decide +kernel)) ggX9_feed_X9_lay
