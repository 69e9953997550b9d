theorem dX9_deals_68 : decode cX9_deals 68 = .ok (.invokevirtual 287, 3) := by decide +kernel
theorem dX9_deals_71 : decode cX9_deals 71 = .ok (.iinc 1 1, 3) := by decide +kernel
theorem dX9_deals_74 : decode cX9_deals 74 = .ok (.iinc 3 1, 3) := by decide +kernel
theorem dX9_deals_77 : decode cX9_deals 77 = .ok (.goto (-45), 3) := by decide +kernel
theorem dX9_deals_80 : decode cX9_deals 80 = .ok (.aload_n 0, 1) := by decide +kernel
theorem dX9_deals_81 : decode cX9_deals 81 = .ok (.invokevirtual 277, 3) := by decide +kernel
theorem dX9_deals_84 : decode cX9_deals 84 = .ok (.istore_n 2, 1) := by decide +kernel
theorem dX9_deals_85 : decode cX9_deals 85 = .ok (.goto (-74), 3) := by decide +kernel
theorem dX9_deals_88 : decode cX9_deals 88 = .ok (.iload_n 1, 1) := by decide +kernel
theorem dX9_deals_89 : decode cX9_deals 89 = .ok (.ireturn, 1) := by decide +kernel
set_option maxRecDepth 20000 in
theorem ggX9_firstDealt_X9_isAhead : GoodIn wsX9_firstDealt wsX9_isAhead := goodIn_r _ [7, 8, 9, 10, 11, 12, 13, 14, 15, 16, 17, 18, 19, 20, 21, 22, 23, 24, 25, 26, 27, 28, 29, 30, 31, 32, 33, 34, 35, 36, 37, 38, 39, 40, 41, 42, 43, 44, 45, 46, 47, 48, 49, 50, 51, 52, 53, 54, 55, 56, 57, 58, 59, 60, 61, 62, 63, 64, 65, 66, 67, 68, 69, 70] (by decide +kernel) (by decide +kernel)
set_option maxRecDepth 20000 in
theorem gX9_firstDealt_X9_isAhead : GoodIn wsX9_firstDealt (wsV RX9 290 RX9 yX9_isAhead wsX9_isAhead) := goodIn_app (goodIn_of _ (by decide +kernel)) ggX9_firstDealt_X9_isAhead
theorem dX9_firstDealt_0 : decode cX9_firstDealt 0 = .ok (.iconst (-1), 1) := by decide +kernel
theorem dX9_firstDealt_1 : decode cX9_firstDealt 1 = .ok (.istore_n 1, 1) := by decide +kernel
theorem dX9_firstDealt_2 : decode cX9_firstDealt 2 = .ok (.iconst 0, 1) := by decide +kernel
theorem dX9_firstDealt_3 : decode cX9_firstDealt 3 = .ok (.istore_n 2, 1) := by decide +kernel
theorem dX9_firstDealt_4 : decode cX9_firstDealt 4 = .ok (.iload_n 2, 1) := by decide +kernel
theorem dX9_firstDealt_5 : decode cX9_firstDealt 5 = .ok (.aload_n 0, 1) := by decide +kernel
theorem dX9_firstDealt_6 : decode cX9_firstDealt 6 = .ok (.getfield 256, 3) := by decide +kernel
theorem dX9_firstDealt_9 : decode cX9_firstDealt 9 = .ok (.if_icmp .ge 37, 3) := by decide +kernel
theorem dX9_firstDealt_12 : decode cX9_firstDealt 12 = .ok (.aload_n 0, 1) := by decide +kernel
theorem dX9_firstDealt_13 : decode cX9_firstDealt 13 = .ok (.getfield 134, 3) := by decide +kernel
theorem dX9_firstDealt_16 : decode cX9_firstDealt 16 = .ok (.iload_n 2, 1) := by decide +kernel
theorem dX9_firstDealt_17 : decode cX9_firstDealt 17 = .ok (.baload, 1) := by decide +kernel
theorem dX9_firstDealt_18 : decode cX9_firstDealt 18 = .ok (.ifCond .eq 20, 3) := by decide +kernel
theorem dX9_firstDealt_21 : decode cX9_firstDealt 21 = .ok (.iload_n 1, 1) := by decide +kernel
theorem dX9_firstDealt_22 : decode cX9_firstDealt 22 = .ok (.ifCond .lt 12, 3) := by decide +kernel
theorem dX9_firstDealt_25 : decode cX9_firstDealt 25 = .ok (.aload_n 0, 1) := by decide +kernel
theorem dX9_firstDealt_26 : decode cX9_firstDealt 26 = .ok (.iload_n 2, 1) := by decide +kernel
theorem dX9_firstDealt_27 : decode cX9_firstDealt 27 = .ok (.iload_n 1, 1) := by decide +kernel
theorem dX9_firstDealt_28 : decode cX9_firstDealt 28 = .ok (.invokevirtual 290, 3) := by decide +kernel
theorem dX9_firstDealt_31 : decode cX9_firstDealt 31 = .ok (.ifCond .eq 7, 3) := by decide +kernel
theorem dX9_firstDealt_34 : decode cX9_firstDealt 34 = .ok (.iload_n 2, 1) := by decide +kernel
theorem dX9_firstDealt_35 : decode cX9_firstDealt 35 = .ok (.goto 4, 3) := by decide +kernel
theorem dX9_firstDealt_38 : decode cX9_firstDealt 38 = .ok (.iload_n 1, 1) := by decide +kernel
theorem dX9_firstDealt_39 : decode cX9_firstDealt 39 = .ok (.istore_n 1, 1) := by decide +kernel
theorem dX9_firstDealt_40 : decode cX9_firstDealt 40 = .ok (.iinc 2 1, 3) := by decide +kernel
theorem dX9_firstDealt_43 : decode cX9_firstDealt 43 = .ok (.goto (-39), 3) := by decide +kernel
theorem dX9_firstDealt_46 : decode cX9_firstDealt 46 = .ok (.iload_n 1, 1) := by decide +kernel
theorem dX9_firstDealt_47 : decode cX9_firstDealt 47 = .ok (.ireturn, 1) := by decide +kernel
theorem dX9_books_0 : decode cX9_books 0 = .ok (.aload_n 0, 1) := by decide +kernel
theorem dX9_books_1 : decode cX9_books 1 = .ok (.getfield 119, 3) := by decide +kernel
theorem dX9_books_4 : decode cX9_books 4 = .ok (.iload_n 1, 1) := by decide +kernel
theorem dX9_books_5 : decode cX9_books 5 = .ok (.iconst 1, 1) := by decide +kernel
theorem dX9_books_6 : decode cX9_books 6 = .ok (.iastore, 1) := by decide +kernel
theorem dX9_books_7 : decode cX9_books 7 = .ok (.aload_n 0, 1) := by decide +kernel
theorem dX9_books_8 : decode cX9_books 8 = .ok (.getfield 122, 3) := by decide +kernel
theorem dX9_books_11 : decode cX9_books 11 = .ok (.iload_n 1, 1) := by decide +kernel
theorem dX9_books_12 : decode cX9_books 12 = .ok (.iload_n 2, 1) := by decide +kernel
theorem dX9_books_13 : decode cX9_books 13 = .ok (.iastore, 1) := by decide +kernel
theorem dX9_books_14 : decode cX9_books 14 = .ok (.return_, 1) := by decide +kernel
theorem dX9_waits_0 : decode cX9_waits 0 = .ok (.aload_n 0, 1) := by decide +kernel
theorem dX9_waits_1 : decode cX9_waits 1 = .ok (.getfield 119, 3) := by decide +kernel
theorem dX9_waits_4 : decode cX9_waits 4 = .ok (.iload_n 1, 1) := by decide +kernel
theorem dX9_waits_5 : decode cX9_waits 5 = .ok (.iconst 0, 1) := by decide +kernel
theorem dX9_waits_6 : decode cX9_waits 6 = .ok (.iastore, 1) := by decide +kernel
theorem dX9_waits_7 : decode cX9_waits 7 = .ok (.aload_n 0, 1) := by decide +kernel
theorem dX9_waits_8 : decode cX9_waits 8 = .ok (.getfield 122, 3) := by decide +kernel
theorem dX9_waits_11 : decode cX9_waits 11 = .ok (.iload_n 1, 1) := by decide +kernel
theorem dX9_waits_12 : decode cX9_waits 12 = .ok (.iconst (-1), 1) := by decide +kernel
theorem dX9_waits_13 : decode cX9_waits 13 = .ok (.iastore, 1) := by decide +kernel
theorem dX9_waits_14 : decode cX9_waits 14 = .ok (.return_, 1) := by decide +kernel
set_option maxRecDepth 20000 in
theorem ggX9_deal_X9_deals : GoodIn wsX9_deal wsX9_deals := goodIn_r _ [9, 3, 10, 4, 11, 12, 13, 8, 14, 2, 15, 16, 17, 18, 19, 20, 21, 22, 23, 24, 25, 26, 27, 28, 29, 30, 31, 32, 33, 34, 35, 36, 37, 38, 39, 40, 41, 42, 43, 44, 45, 46, 47, 48, 49, 50, 51, 52, 53, 54, 55, 56, 57, 58, 59, 60, 61, 62, 63, 64, 65, 66, 67, 68, 69, 70, 71, 72, 73, 74, 75, 76, 77, 78, 79, 80, 81, 82, 83, 84, 85, 86, 87, 88, 89, 90, 91, 92, 93, 94, 95, 96, 97, 98, 99, 100, 101, 102, 103, 104, 105, 106, 107, 108, 109, 110, 111, 112, 113, 114, 115, 116, 117, 118, 119, 120, 121, 122, 123, 124, 125, 126, 127, 128, 129, 130, 131, 132, 133, 134, 135, 136] (by decide +kernel) (by decide +kernel)
set_option maxRecDepth 20000 in
theorem gX9_deal_X9_deals : GoodIn wsX9_deal (wsV RX9 293 RX9 yX9_deals wsX9_deals) := goodIn_app (goodIn_of _ (by decide +kernel)) ggX9_deal_X9_deals
theorem dX9_deal_0 : decode cX9_deal 0 = .ok (.aload_n 0, 1) := by decide +kernel
theorem dX9_deal_1 : decode cX9_deal 1 = .ok (.iconst 0, 1) := by decide +kernel
theorem dX9_deal_2 : decode cX9_deal 2 = .ok (.putfield 1, 3) := by decide +kernel
theorem dX9_deal_5 : decode cX9_deal 5 = .ok (.iconst 0, 1) := by decide +kernel
theorem dX9_deal_6 : decode cX9_deal 6 = .ok (.istore_n 1, 1) := by decide +kernel
theorem dX9_deal_7 : decode cX9_deal 7 = .ok (.iload_n 1, 1) := by decide +kernel
theorem dX9_deal_8 : decode cX9_deal 8 = .ok (.aload_n 0, 1) := by decide +kernel
theorem dX9_deal_9 : decode cX9_deal 9 = .ok (.getfield 256, 3) := by decide +kernel
theorem dX9_deal_12 : decode cX9_deal 12 = .ok (.if_icmp .ge 29, 3) := by decide +kernel
theorem dX9_deal_15 : decode cX9_deal 15 = .ok (.aload_n 0, 1) := by decide +kernel
theorem dX9_deal_16 : decode cX9_deal 16 = .ok (.getfield 134, 3) := by decide +kernel
theorem dX9_deal_19 : decode cX9_deal 19 = .ok (.iload_n 1, 1) := by decide +kernel
theorem dX9_deal_20 : decode cX9_deal 20 = .ok (.aload_n 0, 1) := by decide +kernel
theorem dX9_deal_21 : decode cX9_deal 21 = .ok (.getfield 119, 3) := by decide +kernel
theorem dX9_deal_24 : decode cX9_deal 24 = .ok (.iload_n 1, 1) := by decide +kernel
theorem dX9_deal_25 : decode cX9_deal 25 = .ok (.iaload, 1) := by decide +kernel
theorem dX9_deal_26 : decode cX9_deal 26 = .ok (.ifCond .ne 7, 3) := by decide +kernel
theorem dX9_deal_29 : decode cX9_deal 29 = .ok (.iconst 1, 1) := by decide +kernel
theorem dX9_deal_30 : decode cX9_deal 30 = .ok (.goto 4, 3) := by decide +kernel
theorem dX9_deal_33 : decode cX9_deal 33 = .ok (.iconst 0, 1) := by decide +kernel
theorem dX9_deal_34 : decode cX9_deal 34 = .ok (.bastore, 1) := by decide +kernel
theorem dX9_deal_35 : decode cX9_deal 35 = .ok (.iinc 1 1, 3) := by decide +kernel
theorem dX9_deal_38 : decode cX9_deal 38 = .ok (.goto (-31), 3) := by decide +kernel
theorem dX9_deal_41 : decode cX9_deal 41 = .ok (.aload_n 0, 1) := by decide +kernel
theorem dX9_deal_42 : decode cX9_deal 42 = .ok (.invokevirtual 293, 3) := by decide +kernel
theorem dX9_deal_45 : decode cX9_deal 45 = .ok (.ireturn, 1) := by decide +kernel
set_option maxRecDepth 20000 in
theorem ggX9_movesUp_X9_findRanks : GoodIn wsX9_movesUp wsX9_findRanks := goodIn_r _ [10, 1, 11, 12, 13, 14, 9, 15, 16, 17, 18, 19, 20, 21, 22, 23, 24, 25, 26, 27, 28, 29, 30, 31, 32, 33, 67, 68, 69, 70, 71, 72, 73, 74, 75, 76, 77, 78, 79, 80, 81, 82, 83, 84, 85, 86, 87, 88, 89, 90, 91, 92, 93, 94, 95, 96, 97, 98, 99, 100, 101, 102, 103, 104, 105, 106, 107, 108, 109, 110, 111, 112, 113, 114, 115, 116, 117, 118, 119, 120, 121, 122, 123, 124, 125, 126, 127, 128] (by decide +kernel) (by decide +kernel)
set_option maxRecDepth 20000 in
theorem gX9_movesUp_X9_findRanks : GoodIn wsX9_movesUp (wsV RX9 274 RX9 yX9_findRanks wsX9_findRanks) := goodIn_app (goodIn_of _ (by decide +kernel)) ggX9_movesUp_X9_findRanks
set_option maxRecDepth 20000 in
theorem ggX9_movesUp_X9_isFree : GoodIn wsX9_movesUp wsX9_isFree := goodIn_r _ [37, 19, 38, 39, 40, 41, 42, 9, 43, 44, 45, 46, 47, 48, 49, 50, 51, 52, 1, 2, 3, 67, 68, 69, 70, 71, 72, 73, 74, 75, 76, 77, 78, 79, 80, 81, 82, 83, 84, 85, 86, 87, 88, 89, 90, 91, 92, 93, 94, 95, 96, 97, 98, 99, 100, 101, 102, 103, 104, 105, 106, 107, 108, 109, 110, 111, 112, 113, 114, 115, 116, 117, 118, 119, 120, 121, 122, 123, 124, 125, 126, 127, 128] (by decide +kernel) (by decide +kernel)
set_option maxRecDepth 20000 in
theorem gX9_movesUp_X9_isFree : GoodIn wsX9_movesUp (wsV RX9 280 RX9 yX9_isFree wsX9_isFree) := goodIn_app (goodIn_of _ (by decide +kernel)) ggX9_movesUp_X9_isFree
set_option maxRecDepth 20000 in
theorem ggX9_movesUp_X9_suits : GoodIn wsX9_movesUp wsX9_suits := goodIn_r _ [56, 48, 18, 57, 58, 22, 67, 68, 69, 70, 71, 72, 73, 74, 75, 76, 77, 78, 79, 80, 81, 82, 83, 84, 85, 86, 87, 88, 89, 90, 91, 92, 93, 94, 95, 96, 97, 98, 99, 100, 101, 102, 103, 104, 105, 106, 107, 108, 109, 110, 111, 112, 113, 114, 115, 116, 117, 118, 119, 120, 121, 122, 123, 124, 125, 126, 127, 128] (by decide +kernel) (by decide +kernel)
set_option maxRecDepth 20000 in
theorem gX9_movesUp_X9_suits : GoodIn wsX9_movesUp (wsV RX9 283 RX9 yX9_suits wsX9_suits) := goodIn_app (goodIn_of _ (by decide +kernel)) ggX9_movesUp_X9_suits
set_option maxRecDepth 20000 in
theorem ggX9_movesUp_X9_isAhead : GoodIn wsX9_movesUp wsX9_isAhead := goodIn_r _ [62, 11, 67, 68, 69, 70, 71, 72, 73, 74, 75, 76, 77, 78, 79, 80, 81, 82, 83, 84, 85, 86, 87, 88, 89, 90, 91, 92, 93, 94, 95, 96, 97, 98, 99, 100, 101, 102, 103, 104, 105, 106, 107, 108, 109, 110, 111, 112, 113, 114, 115, 116, 117, 118, 119, 120, 121, 122, 123, 124, 125, 126, 127, 128] (by decide +kernel) (by decide +kernel)
set_option maxRecDepth 20000 in
theorem gX9_movesUp_X9_isAhead : GoodIn wsX9_movesUp (wsV RX9 290 RX9 yX9_isAhead wsX9_isAhead) := goodIn_app (goodIn_of _ (by decide +kernel)) ggX9_movesUp_X9_isAhead
set_option maxRecDepth 20000 in
theorem ggX9_movesUp_X9_books : GoodIn wsX9_movesUp wsX9_books := goodIn_r _ [66, 2, 3, 67, 68, 69, 70, 71, 72, 73, 74, 75, 76, 77, 78, 79, 80, 81, 82, 83, 84, 85, 86, 87, 88, 89, 90, 91, 92, 93, 94, 95, 96, 97, 98, 99, 100, 101, 102, 103, 104, 105, 106, 107, 108, 109, 110, 111, 112, 113, 114, 115, 116, 117, 118, 119, 120, 121, 122, 123, 124, 125, 126, 127, 128] (by decide +kernel) (by decide +kernel)
set_option maxRecDepth 20000 in
theorem gX9_movesUp_X9_books : GoodIn wsX9_movesUp (wsV RX9 287 RX9 yX9_books wsX9_books) := goodIn_app (goodIn_of _ (by decide +kernel)) ggX9_movesUp_X9_books
theorem dX9_movesUp_0 : decode cX9_movesUp 0 = .ok (.aload_n 0, 1) := by decide +kernel
theorem dX9_movesUp_1 : decode cX9_movesUp 1 = .ok (.invokevirtual 274, 3) := by decide +kernel
theorem dX9_movesUp_4 : decode cX9_movesUp 4 = .ok (.iconst 0, 1) := by decide +kernel
theorem dX9_movesUp_5 : decode cX9_movesUp 5 = .ok (.istore_n 2, 1) := by decide +kernel
theorem dX9_movesUp_6 : decode cX9_movesUp 6 = .ok (.iload_n 1, 1) := by decide +kernel
theorem dX9_movesUp_7 : decode cX9_movesUp 7 = .ok (.istore_n 3, 1) := by decide +kernel
theorem dX9_movesUp_8 : decode cX9_movesUp 8 = .ok (.iload_n 3, 1) := by decide +kernel
theorem dX9_movesUp_9 : decode cX9_movesUp 9 = .ok (.ifCond .lt 149, 3) := by decide +kernel
theorem dX9_movesUp_12 : decode cX9_movesUp 12 = .ok (.iconst (-1), 1) := by decide +kernel
theorem dX9_movesUp_13 : decode cX9_movesUp 13 = .ok (.istore 4, 2) := by decide +kernel
theorem dX9_movesUp_15 : decode cX9_movesUp 15 = .ok (.iconst 0, 1) := by decide +kernel
theorem dX9_movesUp_16 : decode cX9_movesUp 16 = .ok (.istore 5, 2) := by decide +kernel
theorem dX9_movesUp_18 : decode cX9_movesUp 18 = .ok (.iload 5, 2) := by decide +kernel
theorem dX9_movesUp_20 : decode cX9_movesUp 20 = .ok (.aload_n 0, 1) := by decide +kernel
theorem dX9_movesUp_21 : decode cX9_movesUp 21 = .ok (.getfield 256, 3) := by decide +kernel
theorem dX9_movesUp_24 : decode cX9_movesUp 24 = .ok (.if_icmp .ge 84, 3) := by decide +kernel
theorem dX9_movesUp_27 : decode cX9_movesUp 27 = .ok (.aload_n 0, 1) := by decide +kernel
theorem dX9_movesUp_28 : decode cX9_movesUp 28 = .ok (.iload_n 3, 1) := by decide +kernel
theorem dX9_movesUp_29 : decode cX9_movesUp 29 = .ok (.invokevirtual 280, 3) := by decide +kernel
theorem dX9_movesUp_32 : decode cX9_movesUp 32 = .ok (.ifCond .eq 76, 3) := by decide +kernel
theorem dX9_movesUp_35 : decode cX9_movesUp 35 = .ok (.aload_n 0, 1) := by decide +kernel
theorem dX9_movesUp_36 : decode cX9_movesUp 36 = .ok (.getfield 119, 3) := by decide +kernel
theorem dX9_movesUp_39 : decode cX9_movesUp 39 = .ok (.iload 5, 2) := by decide +kernel
theorem dX9_movesUp_41 : decode cX9_movesUp 41 = .ok (.iaload, 1) := by decide +kernel
theorem dX9_movesUp_42 : decode cX9_movesUp 42 = .ok (.iconst 1, 1) := by decide +kernel
theorem dX9_movesUp_43 : decode cX9_movesUp 43 = .ok (.if_icmp .ne 59, 3) := by decide +kernel
theorem dX9_movesUp_46 : decode cX9_movesUp 46 = .ok (.aload_n 0, 1) := by decide +kernel
theorem dX9_movesUp_47 : decode cX9_movesUp 47 = .ok (.getfield 122, 3) := by decide +kernel
theorem dX9_movesUp_50 : decode cX9_movesUp 50 = .ok (.iload 5, 2) := by decide +kernel
theorem dX9_movesUp_52 : decode cX9_movesUp 52 = .ok (.iaload, 1) := by decide +kernel
theorem dX9_movesUp_53 : decode cX9_movesUp 53 = .ok (.iload_n 3, 1) := by decide +kernel
theorem dX9_movesUp_54 : decode cX9_movesUp 54 = .ok (.if_icmp .le 48, 3) := by decide +kernel
theorem dX9_movesUp_57 : decode cX9_movesUp 57 = .ok (.aload_n 0, 1) := by decide +kernel
theorem dX9_movesUp_58 : decode cX9_movesUp 58 = .ok (.getfield 113, 3) := by decide +kernel
theorem dX9_movesUp_61 : decode cX9_movesUp 61 = .ok (.iload 5, 2) := by decide +kernel
theorem dX9_movesUp_63 : decode cX9_movesUp 63 = .ok (.baload, 1) := by decide +kernel
theorem dX9_movesUp_64 : decode cX9_movesUp 64 = .ok (.ifCond .eq 38, 3) := by decide +kernel
theorem dX9_movesUp_67 : decode cX9_movesUp 67 = .ok (.aload_n 0, 1) := by decide +kernel
theorem dX9_movesUp_68 : decode cX9_movesUp 68 = .ok (.iload_n 3, 1) := by decide +kernel
theorem dX9_movesUp_69 : decode cX9_movesUp 69 = .ok (.iload 5, 2) := by decide +kernel
theorem dX9_movesUp_71 : decode cX9_movesUp 71 = .ok (.invokevirtual 283, 3) := by decide +kernel
theorem dX9_movesUp_74 : decode cX9_movesUp 74 = .ok (.ifCond .eq 28, 3) := by decide +kernel
theorem dX9_movesUp_77 : decode cX9_movesUp 77 = .ok (.iload 4, 2) := by decide +kernel
theorem dX9_movesUp_79 : decode cX9_movesUp 79 = .ok (.ifCond .lt 14, 3) := by decide +kernel
theorem dX9_movesUp_82 : decode cX9_movesUp 82 = .ok (.aload_n 0, 1) := by decide +kernel
theorem dX9_movesUp_83 : decode cX9_movesUp 83 = .ok (.iload 5, 2) := by decide +kernel
theorem dX9_movesUp_85 : decode cX9_movesUp 85 = .ok (.iload 4, 2) := by decide +kernel
theorem dX9_movesUp_87 : decode cX9_movesUp 87 = .ok (.invokevirtual 290, 3) := by decide +kernel
theorem dX9_movesUp_90 : decode cX9_movesUp 90 = .ok (.ifCond .eq 8, 3) := by decide +kernel
theorem dX9_movesUp_93 : decode cX9_movesUp 93 = .ok (.iload 5, 2) := by decide +kernel
theorem dX9_movesUp_95 : decode cX9_movesUp 95 = .ok (.goto 5, 3) := by decide +kernel
theorem dX9_movesUp_98 : decode cX9_movesUp 98 = .ok (.iload 4, 2) := by decide +kernel
theorem dX9_movesUp_100 : decode cX9_movesUp 100 = .ok (.istore 4, 2) := by decide +kernel
theorem dX9_movesUp_102 : decode cX9_movesUp 102 = .ok (.iinc 5 1, 3) := by decide +kernel
theorem dX9_movesUp_105 : decode cX9_movesUp 105 = .ok (.goto (-87), 3) := by decide +kernel
theorem dX9_movesUp_108 : decode cX9_movesUp 108 = .ok (.iload 4, 2) := by decide +kernel
theorem dX9_movesUp_110 : decode cX9_movesUp 110 = .ok (.ifCond .ge 7, 3) := by decide +kernel
theorem dX9_movesUp_113 : decode cX9_movesUp 113 = .ok (.iconst (-1), 1) := by decide +kernel
theorem dX9_movesUp_114 : decode cX9_movesUp 114 = .ok (.goto 10, 3) := by decide +kernel
theorem dX9_movesUp_117 : decode cX9_movesUp 117 = .ok (.aload_n 0, 1) := by decide +kernel
theorem dX9_movesUp_118 : decode cX9_movesUp 118 = .ok (.getfield 122, 3) := by decide +kernel
theorem dX9_movesUp_121 : decode cX9_movesUp 121 = .ok (.iload 4, 2) := by decide +kernel
theorem dX9_movesUp_123 : decode cX9_movesUp 123 = .ok (.iaload, 1) := by decide +kernel
theorem dX9_movesUp_124 : decode cX9_movesUp 124 = .ok (.istore 5, 2) := by decide +kernel
theorem dX9_movesUp_126 : decode cX9_movesUp 126 = .ok (.iload 4, 2) := by decide +kernel
theorem dX9_movesUp_128 : decode cX9_movesUp 128 = .ok (.ifCond .lt 24, 3) := by decide +kernel
theorem dX9_movesUp_131 : decode cX9_movesUp 131 = .ok (.aload_n 0, 1) := by decide +kernel
theorem dX9_movesUp_132 : decode cX9_movesUp 132 = .ok (.iload 4, 2) := by decide +kernel
theorem dX9_movesUp_134 : decode cX9_movesUp 134 = .ok (.iload_n 3, 1) := by decide +kernel
theorem dX9_movesUp_135 : decode cX9_movesUp 135 = .ok (.invokevirtual 287, 3) := by decide +kernel
theorem dX9_movesUp_138 : decode cX9_movesUp 138 = .ok (.aload_n 0, 1) := by decide +kernel
theorem dX9_movesUp_139 : decode cX9_movesUp 139 = .ok (.getfield 128, 3) := by decide +kernel
theorem dX9_movesUp_142 : decode cX9_movesUp 142 = .ok (.iload 4, 2) := by decide +kernel
theorem dX9_movesUp_144 : decode cX9_movesUp 144 = .ok (.dup2, 1) := by decide +kernel
theorem dX9_movesUp_145 : decode cX9_movesUp 145 = .ok (.iaload, 1) := by decide +kernel
theorem dX9_movesUp_146 : decode cX9_movesUp 146 = .ok (.iconst 1, 1) := by decide +kernel
theorem dX9_movesUp_147 : decode cX9_movesUp 147 = .ok (.iadd, 1) := by decide +kernel
theorem dX9_movesUp_148 : decode cX9_movesUp 148 = .ok (.iastore, 1) := by decide +kernel
theorem dX9_movesUp_149 : decode cX9_movesUp 149 = .ok (.iinc 2 1, 3) := by decide +kernel
theorem dX9_movesUp_152 : decode cX9_movesUp 152 = .ok (.iload 5, 2) := by decide +kernel
theorem dX9_movesUp_154 : decode cX9_movesUp 154 = .ok (.istore_n 3, 1) := by decide +kernel
theorem dX9_movesUp_155 : decode cX9_movesUp 155 = .ok (.goto (-147), 3) := by decide +kernel
theorem dX9_movesUp_158 : decode cX9_movesUp 158 = .ok (.iload_n 2, 1) := by decide +kernel
theorem dX9_movesUp_159 : decode cX9_movesUp 159 = .ok (.ireturn, 1) := by decide +kernel
set_option maxRecDepth 20000 in
theorem ggX9_cancel_X9_isLearner : GoodIn wsX9_cancel wsX9_isLearner := goodIn_r _ [8, 9, 80, 81, 82, 83, 84, 85, 86, 87, 88, 89, 90, 91, 92, 93, 94, 95, 96, 97, 98, 99, 100, 101, 102, 103, 104, 105, 106, 107, 108, 109, 110, 111, 112, 113, 114, 115, 116, 117, 118, 119, 120, 121, 122, 123, 124, 125, 126, 127, 128, 129, 130, 131, 132, 133, 134, 135, 136, 137, 138, 139, 140, 141] (by decide +kernel) (by decide +kernel)
set_option maxRecDepth 20000 in
theorem gX9_cancel_X9_isLearner : GoodIn wsX9_cancel (wsV RX9 296 RX9 yX9_isLearner wsX9_isLearner) := goodIn_app (goodIn_of _ (by decide +kernel)) ggX9_cancel_X9_isLearner
set_option maxRecDepth 20000 in
theorem ggX9_cancel_X9_waits : GoodIn wsX9_cancel wsX9_waits := goodIn_r _ [13, 2, 3, 80, 81, 82, 83, 84, 85, 86, 87, 88, 89, 90, 91, 92, 93, 94, 95, 96, 97, 98, 99, 100, 101, 102, 103, 104, 105, 106, 107, 108, 109, 110, 111, 112, 113, 114, 115, 116, 117, 118, 119, 120, 121, 122, 123, 124, 125, 126, 127, 128, 129, 130, 131, 132, 133, 134, 135, 136, 137, 138, 139, 140, 141] (by decide +kernel) (by decide +kernel)
set_option maxRecDepth 20000 in
theorem gX9_cancel_X9_waits : GoodIn wsX9_cancel (wsV RX9 299 RX9 yX9_waits wsX9_waits) := goodIn_app (goodIn_of _ (by decide +kernel)) ggX9_cancel_X9_waits
set_option maxRecDepth 20000 in
theorem ggX9_cancel_X9_movesUp : GoodIn wsX9_cancel wsX9_movesUp := goodIn_r _ [17, 9, 2, 3, 18, 19, 20, 21, 22, 7, 23, 24, 25, 26, 27, 28, 29, 30, 31, 32, 33, 34, 35, 36, 37, 38, 39, 40, 41, 42, 43, 44, 45, 46, 47, 48, 49, 50, 51, 52, 53, 54, 55, 56, 57, 58, 59, 60, 61, 62, 63, 64, 65, 66, 67, 68, 69, 70, 71, 72, 73, 74, 75, 76, 77, 78, 79, 80, 81, 82, 83, 84, 85, 86, 87, 88, 89, 90, 91, 92, 93, 94, 95, 96, 97, 98, 99, 100, 101, 102, 103, 104, 105, 106, 107, 108, 109, 110, 111, 112, 113, 114, 115, 116, 117, 118, 119, 120, 121, 122, 123, 124, 125, 126, 127, 128, 129, 130, 131, 132, 133, 134, 135, 136, 137, 138, 139, 140, 141] (by decide +kernel) (by decide +kernel)
set_option maxRecDepth 20000 in
theorem gX9_cancel_X9_movesUp : GoodIn wsX9_cancel (wsV RX9 302 RX9 yX9_movesUp wsX9_movesUp) := goodIn_app (goodIn_of _ (by decide +kernel)) ggX9_cancel_X9_movesUp
theorem dX9_cancel_0 : decode cX9_cancel 0 = .ok (.aload_n 0, 1) := by decide +kernel
theorem dX9_cancel_1 : decode cX9_cancel 1 = .ok (.iconst 0, 1) := by decide +kernel
theorem dX9_cancel_2 : decode cX9_cancel 2 = .ok (.putfield 1, 3) := by decide +kernel
theorem dX9_cancel_5 : decode cX9_cancel 5 = .ok (.aload_n 0, 1) := by decide +kernel
theorem dX9_cancel_6 : decode cX9_cancel 6 = .ok (.iload_n 1, 1) := by decide +kernel
theorem dX9_cancel_7 : decode cX9_cancel 7 = .ok (.invokevirtual 296, 3) := by decide +kernel
theorem dX9_cancel_10 : decode cX9_cancel 10 = .ok (.ifCond .eq 13, 3) := by decide +kernel
theorem dX9_cancel_13 : decode cX9_cancel 13 = .ok (.aload_n 0, 1) := by decide +kernel
theorem dX9_cancel_14 : decode cX9_cancel 14 = .ok (.getfield 119, 3) := by decide +kernel
theorem dX9_cancel_17 : decode cX9_cancel 17 = .ok (.iload_n 1, 1) := by decide +kernel
theorem dX9_cancel_18 : decode cX9_cancel 18 = .ok (.iaload, 1) := by decide +kernel
theorem dX9_cancel_19 : decode cX9_cancel 19 = .ok (.iconst 1, 1) := by decide +kernel
theorem dX9_cancel_20 : decode cX9_cancel 20 = .ok (.if_icmp .eq 5, 3) := by decide +kernel
theorem dX9_cancel_23 : decode cX9_cancel 23 = .ok (.iconst (-1), 1) := by decide +kernel
theorem dX9_cancel_24 : decode cX9_cancel 24 = .ok (.ireturn, 1) := by decide +kernel
theorem dX9_cancel_25 : decode cX9_cancel 25 = .ok (.aload_n 0, 1) := by decide +kernel
theorem dX9_cancel_26 : decode cX9_cancel 26 = .ok (.getfield 122, 3) := by decide +kernel
theorem dX9_cancel_29 : decode cX9_cancel 29 = .ok (.iload_n 1, 1) := by decide +kernel
theorem dX9_cancel_30 : decode cX9_cancel 30 = .ok (.iaload, 1) := by decide +kernel
theorem dX9_cancel_31 : decode cX9_cancel 31 = .ok (.istore_n 2, 1) := by decide +kernel
theorem dX9_cancel_32 : decode cX9_cancel 32 = .ok (.aload_n 0, 1) := by decide +kernel
theorem dX9_cancel_33 : decode cX9_cancel 33 = .ok (.iload_n 1, 1) := by decide +kernel
theorem dX9_cancel_34 : decode cX9_cancel 34 = .ok (.invokevirtual 299, 3) := by decide +kernel
theorem dX9_cancel_37 : decode cX9_cancel 37 = .ok (.aload_n 0, 1) := by decide +kernel
theorem dX9_cancel_38 : decode cX9_cancel 38 = .ok (.iload_n 2, 1) := by decide +kernel
theorem dX9_cancel_39 : decode cX9_cancel 39 = .ok (.invokevirtual 302, 3) := by decide +kernel
theorem dX9_cancel_42 : decode cX9_cancel 42 = .ok (.ireturn, 1) := by decide +kernel
set_option maxRecDepth 20000 in
theorem ggX9_leave_X9_isLearner : GoodIn wsX9_leave wsX9_isLearner := goodIn_r _ [8, 9, 76, 77, 78, 79, 80, 81, 82, 83, 84, 85, 86, 87, 88, 89, 90, 91, 92, 93, 94, 95, 96, 97, 98, 99, 100, 101, 102, 103, 104, 105, 106, 107, 108, 109, 110, 111, 112, 113, 114, 115, 116, 117, 118, 119, 120, 121, 122, 123, 124, 125, 126, 127, 128, 129, 130, 131, 132, 133, 134, 135, 136, 137] (by decide +kernel) (by decide +kernel)
set_option maxRecDepth 20000 in
theorem gX9_leave_X9_isLearner : GoodIn wsX9_leave (wsV RX9 296 RX9 yX9_isLearner wsX9_isLearner) := goodIn_app (goodIn_of _ (by decide +kernel)) ggX9_leave_X9_isLearner
set_option maxRecDepth 20000 in
theorem ggX9_leave_X9_movesUp : GoodIn wsX9_leave wsX9_movesUp := goodIn_r _ [13, 9, 2, 3, 14, 15, 16, 17, 18, 7, 19, 20, 21, 22, 23, 24, 25, 26, 27, 28, 29, 30, 31, 32, 33, 34, 35, 36, 37, 38, 39, 40, 41, 42, 43, 44, 45, 46, 47, 48, 49, 50, 51, 52, 53, 54, 55, 56, 57, 58, 59, 60, 61, 62, 63, 64, 65, 66, 67, 68, 69, 70, 71, 72, 73, 74, 75, 76, 77, 78, 79, 80, 81, 82, 83, 84, 85, 86, 87, 88, 89, 90, 91, 92, 93, 94, 95, 96, 97, 98, 99, 100, 101, 102, 103, 104, 105, 106, 107, 108, 109, 110, 111, 112, 113, 114, 115, 116, 117, 118, 119, 120, 121, 122, 123, 124, 125, 126, 127, 128, 129, 130, 131, 132, 133, 134, 135, 136, 137] (by decide +kernel) (by decide +kernel)
set_option maxRecDepth 20000 in
theorem gX9_leave_X9_movesUp : GoodIn wsX9_leave (wsV RX9 302 RX9 yX9_movesUp wsX9_movesUp) := goodIn_app (goodIn_of _ (by decide +kernel)) ggX9_leave_X9_movesUp
theorem dX9_leave_0 : decode cX9_leave 0 = .ok (.aload_n 0, 1) := by decide +kernel
theorem dX9_leave_1 : decode cX9_leave 1 = .ok (.iconst 0, 1) := by decide +kernel
theorem dX9_leave_2 : decode cX9_leave 2 = .ok (.putfield 1, 3) := by decide +kernel
theorem dX9_leave_5 : decode cX9_leave 5 = .ok (.aload_n 0, 1) := by decide +kernel
theorem dX9_leave_6 : decode cX9_leave 6 = .ok (.iload_n 1, 1) := by decide +kernel
theorem dX9_leave_7 : decode cX9_leave 7 = .ok (.invokevirtual 296, 3) := by decide +kernel
theorem dX9_leave_10 : decode cX9_leave 10 = .ok (.ifCond .eq 13, 3) := by decide +kernel
theorem dX9_leave_13 : decode cX9_leave 13 = .ok (.aload_n 0, 1) := by decide +kernel
theorem dX9_leave_14 : decode cX9_leave 14 = .ok (.getfield 119, 3) := by decide +kernel
theorem dX9_leave_17 : decode cX9_leave 17 = .ok (.iload_n 1, 1) := by decide +kernel
theorem dX9_leave_18 : decode cX9_leave 18 = .ok (.iaload, 1) := by decide +kernel
theorem dX9_leave_19 : decode cX9_leave 19 = .ok (.iconst 1, 1) := by decide +kernel
theorem dX9_leave_20 : decode cX9_leave 20 = .ok (.if_icmp .le 5, 3) := by decide +kernel
theorem dX9_leave_23 : decode cX9_leave 23 = .ok (.iconst 0, 1) := by decide +kernel
theorem dX9_leave_24 : decode cX9_leave 24 = .ok (.ireturn, 1) := by decide +kernel
theorem dX9_leave_25 : decode cX9_leave 25 = .ok (.aload_n 0, 1) := by decide +kernel
theorem dX9_leave_26 : decode cX9_leave 26 = .ok (.getfield 122, 3) := by decide +kernel
theorem dX9_leave_29 : decode cX9_leave 29 = .ok (.iload_n 1, 1) := by decide +kernel
theorem dX9_leave_30 : decode cX9_leave 30 = .ok (.iaload, 1) := by decide +kernel
theorem dX9_leave_31 : decode cX9_leave 31 = .ok (.istore_n 2, 1) := by decide +kernel
theorem dX9_leave_32 : decode cX9_leave 32 = .ok (.aload_n 0, 1) := by decide +kernel
theorem dX9_leave_33 : decode cX9_leave 33 = .ok (.getfield 119, 3) := by decide +kernel
theorem dX9_leave_36 : decode cX9_leave 36 = .ok (.iload_n 1, 1) := by decide +kernel
theorem dX9_leave_37 : decode cX9_leave 37 = .ok (.iconst 3, 1) := by decide +kernel
theorem dX9_leave_38 : decode cX9_leave 38 = .ok (.iastore, 1) := by decide +kernel
theorem dX9_leave_39 : decode cX9_leave 39 = .ok (.aload_n 0, 1) := by decide +kernel
theorem dX9_leave_40 : decode cX9_leave 40 = .ok (.getfield 122, 3) := by decide +kernel
theorem dX9_leave_43 : decode cX9_leave 43 = .ok (.iload_n 1, 1) := by decide +kernel
theorem dX9_leave_44 : decode cX9_leave 44 = .ok (.iconst (-1), 1) := by decide +kernel
theorem dX9_leave_45 : decode cX9_leave 45 = .ok (.iastore, 1) := by decide +kernel
theorem dX9_leave_46 : decode cX9_leave 46 = .ok (.iload_n 2, 1) := by decide +kernel
theorem dX9_leave_47 : decode cX9_leave 47 = .ok (.ifCond .lt 9, 3) := by decide +kernel
theorem dX9_leave_50 : decode cX9_leave 50 = .ok (.aload_n 0, 1) := by decide +kernel
theorem dX9_leave_51 : decode cX9_leave 51 = .ok (.iload_n 2, 1) := by decide +kernel
theorem dX9_leave_52 : decode cX9_leave 52 = .ok (.invokevirtual 302, 3) := by decide +kernel
theorem dX9_leave_55 : decode cX9_leave 55 = .ok (.istore_n 3, 1) := by decide +kernel
theorem dX9_leave_56 : decode cX9_leave 56 = .ok (.iconst 1, 1) := by decide +kernel
theorem dX9_leave_57 : decode cX9_leave 57 = .ok (.ireturn, 1) := by decide +kernel
set_option maxRecDepth 20000 in
theorem ggX9_place_X9_isThere : GoodIn wsX9_place wsX9_isThere := goodIn_r _ [13, 14, 15, 16, 12, 17, 4, 22, 23, 24, 25, 26, 27, 28, 29, 30, 31, 32, 33, 34, 35, 36, 37, 38, 39, 40, 41, 42, 43, 44, 45, 46, 47, 48, 49, 50, 51, 52, 53, 54, 55, 56, 57, 58, 59, 60, 61, 62, 63, 64, 65, 66, 67, 68, 69, 70, 71, 72, 73, 74, 75, 76, 77, 78, 79, 80, 81, 82, 83] (by decide +kernel) (by decide +kernel)
set_option maxRecDepth 20000 in
theorem gX9_place_X9_isThere : GoodIn wsX9_place (wsV RX9 262 RX9 yX9_isThere wsX9_isThere) := goodIn_app (goodIn_of _ (by decide +kernel)) ggX9_place_X9_isThere
set_option maxRecDepth 20000 in
theorem ggX9_place_X9_waits : GoodIn wsX9_place wsX9_waits := goodIn_r _ [21, 6, 7, 22, 23, 24, 25, 26, 27, 28, 29, 30, 31, 32, 33, 34, 35, 36, 37, 38, 39, 40, 41, 42, 43, 44, 45, 46, 47, 48, 49, 50, 51, 52, 53, 54, 55, 56, 57, 58, 59, 60, 61, 62, 63, 64, 65, 66, 67, 68, 69, 70, 71, 72, 73, 74, 75, 76, 77, 78, 79, 80, 81, 82, 83] (by decide +kernel) (by decide +kernel)
set_option maxRecDepth 20000 in
theorem gX9_place_X9_waits : GoodIn wsX9_place (wsV RX9 299 RX9 yX9_waits wsX9_waits) := goodIn_app (goodIn_of _ (by decide +kernel)) ggX9_place_X9_waits
theorem dX9_place_0 : decode cX9_place 0 = .ok (.aload_n 0, 1) := by decide +kernel
theorem dX9_place_1 : decode cX9_place 1 = .ok (.iconst 0, 1) := by decide +kernel
theorem dX9_place_2 : decode cX9_place 2 = .ok (.putfield 1, 3) := by decide +kernel
theorem dX9_place_5 : decode cX9_place 5 = .ok (.iload_n 1, 1) := by decide +kernel
theorem dX9_place_6 : decode cX9_place 6 = .ok (.ifCond .lt 42, 3) := by decide +kernel
theorem dX9_place_9 : decode cX9_place 9 = .ok (.iload_n 1, 1) := by decide +kernel
theorem dX9_place_10 : decode cX9_place 10 = .ok (.aload_n 0, 1) := by decide +kernel
theorem dX9_place_11 : decode cX9_place 11 = .ok (.getfield 249, 3) := by decide +kernel
theorem dX9_place_14 : decode cX9_place 14 = .ok (.if_icmp .ge 34, 3) := by decide +kernel
theorem dX9_place_17 : decode cX9_place 17 = .ok (.iload_n 2, 1) := by decide +kernel
theorem dX9_place_18 : decode cX9_place 18 = .ok (.iconst (-1), 1) := by decide +kernel
theorem dX9_place_19 : decode cX9_place 19 = .ok (.if_icmp .lt 29, 3) := by decide +kernel
theorem dX9_place_22 : decode cX9_place 22 = .ok (.iload_n 2, 1) := by decide +kernel
theorem dX9_place_23 : decode cX9_place 23 = .ok (.iconst 5, 1) := by decide +kernel
theorem dX9_place_24 : decode cX9_place 24 = .ok (.if_icmp .gt 24, 3) := by decide +kernel
theorem dX9_place_27 : decode cX9_place 27 = .ok (.iload_n 3, 1) := by decide +kernel
theorem dX9_place_28 : decode cX9_place 28 = .ok (.aload_n 0, 1) := by decide +kernel
theorem dX9_place_29 : decode cX9_place 29 = .ok (.getfield 259, 3) := by decide +kernel
theorem dX9_place_32 : decode cX9_place 32 = .ok (.if_icmp .le 16, 3) := by decide +kernel
theorem dX9_place_35 : decode cX9_place 35 = .ok (.iload 4, 2) := by decide +kernel
theorem dX9_place_37 : decode cX9_place 37 = .ok (.iload_n 3, 1) := by decide +kernel
theorem dX9_place_38 : decode cX9_place 38 = .ok (.if_icmp .lt 10, 3) := by decide +kernel
theorem dX9_place_41 : decode cX9_place 41 = .ok (.iload 4, 2) := by decide +kernel
theorem dX9_place_43 : decode cX9_place 43 = .ok (.bipush 59, 2) := by decide +kernel
theorem dX9_place_45 : decode cX9_place 45 = .ok (.if_icmp .le 5, 3) := by decide +kernel
theorem dX9_place_48 : decode cX9_place 48 = .ok (.iconst (-1), 1) := by decide +kernel
theorem dX9_place_49 : decode cX9_place 49 = .ok (.ireturn, 1) := by decide +kernel
theorem dX9_place_50 : decode cX9_place 50 = .ok (.iload_n 3, 1) := by decide +kernel
theorem dX9_place_51 : decode cX9_place 51 = .ok (.istore 5, 2) := by decide +kernel
theorem dX9_place_53 : decode cX9_place 53 = .ok (.iload 5, 2) := by decide +kernel
theorem dX9_place_55 : decode cX9_place 55 = .ok (.iload 4, 2) := by decide +kernel
theorem dX9_place_57 : decode cX9_place 57 = .ok (.if_icmp .gt 22, 3) := by decide +kernel
theorem dX9_place_60 : decode cX9_place 60 = .ok (.aload_n 0, 1) := by decide +kernel
theorem dX9_place_61 : decode cX9_place 61 = .ok (.getfield 85, 3) := by decide +kernel
theorem dX9_place_64 : decode cX9_place 64 = .ok (.bipush 60, 2) := by decide +kernel
theorem dX9_place_66 : decode cX9_place 66 = .ok (.iload_n 1, 1) := by decide +kernel
theorem dX9_place_67 : decode cX9_place 67 = .ok (.imul, 1) := by decide +kernel
theorem dX9_place_68 : decode cX9_place 68 = .ok (.iload 5, 2) := by decide +kernel
theorem dX9_place_70 : decode cX9_place 70 = .ok (.iadd, 1) := by decide +kernel
theorem dX9_place_71 : decode cX9_place 71 = .ok (.iload_n 2, 1) := by decide +kernel
theorem dX9_place_72 : decode cX9_place 72 = .ok (.iastore, 1) := by decide +kernel
theorem dX9_place_73 : decode cX9_place 73 = .ok (.iinc 5 1, 3) := by decide +kernel
theorem dX9_place_76 : decode cX9_place 76 = .ok (.goto (-23), 3) := by decide +kernel
theorem dX9_place_79 : decode cX9_place 79 = .ok (.iconst 0, 1) := by decide +kernel
theorem dX9_place_80 : decode cX9_place 80 = .ok (.istore 5, 2) := by decide +kernel
theorem dX9_place_82 : decode cX9_place 82 = .ok (.iconst 0, 1) := by decide +kernel
theorem dX9_place_83 : decode cX9_place 83 = .ok (.istore 6, 2) := by decide +kernel
theorem dX9_place_85 : decode cX9_place 85 = .ok (.iload 6, 2) := by decide +kernel
theorem dX9_place_87 : decode cX9_place 87 = .ok (.aload_n 0, 1) := by decide +kernel
theorem dX9_place_88 : decode cX9_place 88 = .ok (.getfield 256, 3) := by decide +kernel
theorem dX9_place_91 : decode cX9_place 91 = .ok (.if_icmp .ge 87, 3) := by decide +kernel
theorem dX9_place_94 : decode cX9_place 94 = .ok (.aload_n 0, 1) := by decide +kernel
theorem dX9_place_95 : decode cX9_place 95 = .ok (.getfield 119, 3) := by decide +kernel
theorem dX9_place_98 : decode cX9_place 98 = .ok (.iload 6, 2) := by decide +kernel
theorem dX9_place_100 : decode cX9_place 100 = .ok (.iaload, 1) := by decide +kernel
theorem dX9_place_101 : decode cX9_place 101 = .ok (.iconst 1, 1) := by decide +kernel
theorem dX9_place_102 : decode cX9_place 102 = .ok (.if_icmp .ne 70, 3) := by decide +kernel
theorem dX9_place_105 : decode cX9_place 105 = .ok (.aload_n 0, 1) := by decide +kernel
theorem dX9_place_106 : decode cX9_place 106 = .ok (.getfield 122, 3) := by decide +kernel
theorem dX9_place_109 : decode cX9_place 109 = .ok (.iload 6, 2) := by decide +kernel
theorem dX9_place_111 : decode cX9_place 111 = .ok (.iaload, 1) := by decide +kernel
theorem dX9_place_112 : decode cX9_place 112 = .ok (.bipush 8, 2) := by decide +kernel
theorem dX9_place_114 : decode cX9_place 114 = .ok (.irem, 1) := by decide +kernel
theorem dX9_place_115 : decode cX9_place 115 = .ok (.iload_n 1, 1) := by decide +kernel
theorem dX9_place_116 : decode cX9_place 116 = .ok (.if_icmp .ne 56, 3) := by decide +kernel
theorem dX9_place_119 : decode cX9_place 119 = .ok (.aload_n 0, 1) := by decide +kernel
theorem dX9_place_120 : decode cX9_place 120 = .ok (.aload_n 0, 1) := by decide +kernel
theorem dX9_place_121 : decode cX9_place 121 = .ok (.getfield 122, 3) := by decide +kernel
theorem dX9_place_124 : decode cX9_place 124 = .ok (.iload 6, 2) := by decide +kernel
theorem dX9_place_126 : decode cX9_place 126 = .ok (.iaload, 1) := by decide +kernel
theorem dX9_place_127 : decode cX9_place 127 = .ok (.invokevirtual 262, 3) := by decide +kernel
theorem dX9_place_130 : decode cX9_place 130 = .ok (.ifCond .eq 33, 3) := by decide +kernel
theorem dX9_place_133 : decode cX9_place 133 = .ok (.aload_n 0, 1) := by decide +kernel
theorem dX9_place_134 : decode cX9_place 134 = .ok (.getfield 85, 3) := by decide +kernel
theorem dX9_place_137 : decode cX9_place 137 = .ok (.bipush 60, 2) := by decide +kernel
theorem dX9_place_139 : decode cX9_place 139 = .ok (.iload_n 1, 1) := by decide +kernel
theorem dX9_place_140 : decode cX9_place 140 = .ok (.imul, 1) := by decide +kernel
theorem dX9_place_141 : decode cX9_place 141 = .ok (.aload_n 0, 1) := by decide +kernel
theorem dX9_place_142 : decode cX9_place 142 = .ok (.getfield 122, 3) := by decide +kernel
theorem dX9_place_145 : decode cX9_place 145 = .ok (.iload 6, 2) := by decide +kernel
theorem dX9_place_147 : decode cX9_place 147 = .ok (.iaload, 1) := by decide +kernel
theorem dX9_place_148 : decode cX9_place 148 = .ok (.bipush 48, 2) := by decide +kernel
theorem dX9_place_150 : decode cX9_place 150 = .ok (.idiv, 1) := by decide +kernel
theorem dX9_place_151 : decode cX9_place 151 = .ok (.iadd, 1) := by decide +kernel
theorem dX9_place_152 : decode cX9_place 152 = .ok (.iaload, 1) := by decide +kernel
theorem dX9_place_153 : decode cX9_place 153 = .ok (.aload_n 0, 1) := by decide +kernel
theorem dX9_place_154 : decode cX9_place 154 = .ok (.getfield 98, 3) := by decide +kernel
theorem dX9_place_157 : decode cX9_place 157 = .ok (.iload 6, 2) := by decide +kernel
theorem dX9_place_159 : decode cX9_place 159 = .ok (.iaload, 1) := by decide +kernel
theorem dX9_place_160 : decode cX9_place 160 = .ok (.if_icmp .eq 12, 3) := by decide +kernel
theorem dX9_place_163 : decode cX9_place 163 = .ok (.aload_n 0, 1) := by decide +kernel
theorem dX9_place_164 : decode cX9_place 164 = .ok (.iload 6, 2) := by decide +kernel
theorem dX9_place_166 : decode cX9_place 166 = .ok (.invokevirtual 299, 3) := by decide +kernel
theorem dX9_place_169 : decode cX9_place 169 = .ok (.iinc 5 1, 3) := by decide +kernel
theorem dX9_place_172 : decode cX9_place 172 = .ok (.iinc 6 1, 3) := by decide +kernel
theorem dX9_place_175 : decode cX9_place 175 = .ok (.goto (-90), 3) := by decide +kernel
theorem dX9_place_178 : decode cX9_place 178 = .ok (.iload 5, 2) := by decide +kernel
theorem dX9_place_180 : decode cX9_place 180 = .ok (.ireturn, 1) := by decide +kernel
set_option maxRecDepth 20000 in
theorem ggX9_shut_X9_waits : GoodIn wsX9_shut wsX9_waits := goodIn_r _ [12, 6, 7, 79, 80, 81, 82, 83, 84, 85, 86, 87, 88, 89, 90, 91, 92, 93, 94, 95, 96, 97, 98, 99, 100, 101, 102, 103, 104, 105, 106, 107, 108, 109, 110, 111, 112, 113, 114, 115, 116, 117, 118, 119, 120, 121, 122, 123, 124, 125, 126, 127, 128, 129, 130, 131, 132, 133, 134, 135, 136, 137, 138, 139, 140] (by decide +kernel) (by decide +kernel)
set_option maxRecDepth 20000 in
theorem gX9_shut_X9_waits : GoodIn wsX9_shut (wsV RX9 299 RX9 yX9_waits wsX9_waits) := goodIn_app (goodIn_of _ (by decide +kernel)) ggX9_shut_X9_waits
set_option maxRecDepth 20000 in
theorem ggX9_shut_X9_deals : GoodIn wsX9_shut wsX9_deals := goodIn_r _ [16, 5, 2, 6, 17, 18, 19, 11, 20, 4, 21, 22, 23, 24, 25, 26, 27, 28, 29, 30, 31, 32, 33, 34, 35, 36, 37, 38, 39, 40, 41, 42, 43, 44, 45, 46, 47, 48, 49, 50, 51, 52, 53, 54, 3, 55, 56, 57, 58, 59, 60, 61, 62, 63, 64, 65, 66, 67, 68, 7, 69, 70, 71, 72, 73, 74, 75, 76, 77, 78, 79, 80, 81, 82, 83, 84, 85, 86, 87, 88, 89, 90, 91, 92, 93, 94, 95, 96, 97, 98, 99, 100, 101, 102, 103, 104, 105, 106, 107, 108, 109, 110, 111, 112, 113, 114, 115, 116, 117, 118, 119, 120, 121, 122, 123, 124, 125, 126, 127, 128, 129, 130, 131, 132, 133, 134, 135, 136, 137, 138, 139, 140] (by decide +kernel) (by decide +kernel)
set_option maxRecDepth 20000 in
theorem gX9_shut_X9_deals : GoodIn wsX9_shut (wsV RX9 293 RX9 yX9_deals wsX9_deals) := goodIn_app (goodIn_of _ (by decide +kernel)) ggX9_shut_X9_deals
theorem dX9_shut_0 : decode cX9_shut 0 = .ok (.aload_n 0, 1) := by decide +kernel
theorem dX9_shut_1 : decode cX9_shut 1 = .ok (.iconst 0, 1) := by decide +kernel
theorem dX9_shut_2 : decode cX9_shut 2 = .ok (.putfield 1, 3) := by decide +kernel
theorem dX9_shut_5 : decode cX9_shut 5 = .ok (.iload_n 1, 1) := by decide +kernel
theorem dX9_shut_6 : decode cX9_shut 6 = .ok (.aload_n 0, 1) := by decide +kernel
theorem dX9_shut_7 : decode cX9_shut 7 = .ok (.getfield 259, 3) := by decide +kernel
theorem dX9_shut_10 : decode cX9_shut 10 = .ok (.if_icmp .le 18, 3) := by decide +kernel
theorem dX9_shut_13 : decode cX9_shut 13 = .ok (.iload_n 1, 1) := by decide +kernel
theorem dX9_shut_14 : decode cX9_shut 14 = .ok (.bipush 59, 2) := by decide +kernel
theorem dX9_shut_16 : decode cX9_shut 16 = .ok (.if_icmp .gt 12, 3) := by decide +kernel
theorem dX9_shut_19 : decode cX9_shut 19 = .ok (.aload_n 0, 1) := by decide +kernel
theorem dX9_shut_20 : decode cX9_shut 20 = .ok (.getfield 88, 3) := by decide +kernel
theorem dX9_shut_23 : decode cX9_shut 23 = .ok (.iload_n 1, 1) := by decide +kernel
theorem dX9_shut_24 : decode cX9_shut 24 = .ok (.baload, 1) := by decide +kernel
theorem dX9_shut_25 : decode cX9_shut 25 = .ok (.ifCond .eq 5, 3) := by decide +kernel
theorem dX9_shut_28 : decode cX9_shut 28 = .ok (.iconst (-1), 1) := by decide +kernel
theorem dX9_shut_29 : decode cX9_shut 29 = .ok (.ireturn, 1) := by decide +kernel
theorem dX9_shut_30 : decode cX9_shut 30 = .ok (.aload_n 0, 1) := by decide +kernel
theorem dX9_shut_31 : decode cX9_shut 31 = .ok (.getfield 88, 3) := by decide +kernel
theorem dX9_shut_34 : decode cX9_shut 34 = .ok (.iload_n 1, 1) := by decide +kernel
theorem dX9_shut_35 : decode cX9_shut 35 = .ok (.iconst 1, 1) := by decide +kernel
theorem dX9_shut_36 : decode cX9_shut 36 = .ok (.bastore, 1) := by decide +kernel
theorem dX9_shut_37 : decode cX9_shut 37 = .ok (.iconst 0, 1) := by decide +kernel
theorem dX9_shut_38 : decode cX9_shut 38 = .ok (.istore_n 2, 1) := by decide +kernel
theorem dX9_shut_39 : decode cX9_shut 39 = .ok (.iconst 0, 1) := by decide +kernel
theorem dX9_shut_40 : decode cX9_shut 40 = .ok (.istore_n 3, 1) := by decide +kernel
theorem dX9_shut_41 : decode cX9_shut 41 = .ok (.iload_n 3, 1) := by decide +kernel
theorem dX9_shut_42 : decode cX9_shut 42 = .ok (.aload_n 0, 1) := by decide +kernel
theorem dX9_shut_43 : decode cX9_shut 43 = .ok (.getfield 256, 3) := by decide +kernel
theorem dX9_shut_46 : decode cX9_shut 46 = .ok (.if_icmp .ge 60, 3) := by decide +kernel
theorem dX9_shut_49 : decode cX9_shut 49 = .ok (.aload_n 0, 1) := by decide +kernel
theorem dX9_shut_50 : decode cX9_shut 50 = .ok (.getfield 134, 3) := by decide +kernel
theorem dX9_shut_53 : decode cX9_shut 53 = .ok (.iload_n 3, 1) := by decide +kernel
theorem dX9_shut_54 : decode cX9_shut 54 = .ok (.aload_n 0, 1) := by decide +kernel
theorem dX9_shut_55 : decode cX9_shut 55 = .ok (.getfield 119, 3) := by decide +kernel
theorem dX9_shut_58 : decode cX9_shut 58 = .ok (.iload_n 3, 1) := by decide +kernel
theorem dX9_shut_59 : decode cX9_shut 59 = .ok (.iaload, 1) := by decide +kernel
theorem dX9_shut_60 : decode cX9_shut 60 = .ok (.iconst 1, 1) := by decide +kernel
theorem dX9_shut_61 : decode cX9_shut 61 = .ok (.if_icmp .ne 20, 3) := by decide +kernel
theorem dX9_shut_64 : decode cX9_shut 64 = .ok (.aload_n 0, 1) := by decide +kernel
theorem dX9_shut_65 : decode cX9_shut 65 = .ok (.getfield 122, 3) := by decide +kernel
theorem dX9_shut_68 : decode cX9_shut 68 = .ok (.iload_n 3, 1) := by decide +kernel
theorem dX9_shut_69 : decode cX9_shut 69 = .ok (.iaload, 1) := by decide +kernel
theorem dX9_shut_70 : decode cX9_shut 70 = .ok (.bipush 48, 2) := by decide +kernel
theorem dX9_shut_72 : decode cX9_shut 72 = .ok (.idiv, 1) := by decide +kernel
theorem dX9_shut_73 : decode cX9_shut 73 = .ok (.iload_n 1, 1) := by decide +kernel
theorem dX9_shut_74 : decode cX9_shut 74 = .ok (.if_icmp .ne 7, 3) := by decide +kernel
theorem dX9_shut_77 : decode cX9_shut 77 = .ok (.iconst 1, 1) := by decide +kernel
theorem dX9_shut_78 : decode cX9_shut 78 = .ok (.goto 4, 3) := by decide +kernel
theorem dX9_shut_81 : decode cX9_shut 81 = .ok (.iconst 0, 1) := by decide +kernel
theorem dX9_shut_82 : decode cX9_shut 82 = .ok (.bastore, 1) := by decide +kernel
theorem dX9_shut_83 : decode cX9_shut 83 = .ok (.aload_n 0, 1) := by decide +kernel
theorem dX9_shut_84 : decode cX9_shut 84 = .ok (.getfield 134, 3) := by decide +kernel
theorem dX9_shut_87 : decode cX9_shut 87 = .ok (.iload_n 3, 1) := by decide +kernel
theorem dX9_shut_88 : decode cX9_shut 88 = .ok (.baload, 1) := by decide +kernel
theorem dX9_shut_89 : decode cX9_shut 89 = .ok (.ifCond .eq 11, 3) := by decide +kernel
theorem dX9_shut_92 : decode cX9_shut 92 = .ok (.aload_n 0, 1) := by decide +kernel
theorem dX9_shut_93 : decode cX9_shut 93 = .ok (.iload_n 3, 1) := by decide +kernel
theorem dX9_shut_94 : decode cX9_shut 94 = .ok (.invokevirtual 299, 3) := by decide +kernel
theorem dX9_shut_97 : decode cX9_shut 97 = .ok (.iinc 2 1, 3) := by decide +kernel
theorem dX9_shut_100 : decode cX9_shut 100 = .ok (.iinc 3 1, 3) := by decide +kernel
theorem dX9_shut_103 : decode cX9_shut 103 = .ok (.goto (-62), 3) := by decide +kernel
theorem dX9_shut_106 : decode cX9_shut 106 = .ok (.iload_n 2, 1) := by decide +kernel
theorem dX9_shut_107 : decode cX9_shut 107 = .ok (.aload_n 0, 1) := by decide +kernel
theorem dX9_shut_108 : decode cX9_shut 108 = .ok (.invokevirtual 293, 3) := by decide +kernel
theorem dX9_shut_111 : decode cX9_shut 111 = .ok (.isub, 1) := by decide +kernel
theorem dX9_shut_112 : decode cX9_shut 112 = .ok (.ireturn, 1) := by decide +kernel
set_option maxRecDepth 20000 in
theorem ggX9_days_X9_waits : GoodIn wsX9_days wsX9_waits := goodIn_r _ [10, 4, 5, 11, 12, 13, 14, 15, 16, 17, 18, 19, 20, 21, 22, 23, 24, 25, 26, 27, 28, 29, 30, 31, 32, 33, 34, 35, 36, 37, 38, 39, 40, 41, 42, 43, 44, 45, 46, 47, 48, 49, 50, 51, 52, 53, 54, 55, 56, 57, 58, 59, 60, 61, 62, 63, 64, 65, 66, 67, 68, 69, 70, 71, 72] (by decide +kernel) (by decide +kernel)
set_option maxRecDepth 20000 in
theorem gX9_days_X9_waits : GoodIn wsX9_days (wsV RX9 299 RX9 yX9_waits wsX9_waits) := goodIn_app (goodIn_of _ (by decide +kernel)) ggX9_days_X9_waits
theorem dX9_days_0 : decode cX9_days 0 = .ok (.aload_n 0, 1) := by decide +kernel
theorem dX9_days_1 : decode cX9_days 1 = .ok (.iconst 0, 1) := by decide +kernel
theorem dX9_days_2 : decode cX9_days 2 = .ok (.putfield 1, 3) := by decide +kernel
theorem dX9_days_5 : decode cX9_days 5 = .ok (.iload_n 1, 1) := by decide +kernel
theorem dX9_days_6 : decode cX9_days 6 = .ok (.iconst 1, 1) := by decide +kernel
theorem dX9_days_7 : decode cX9_days 7 = .ok (.if_icmp .lt 20, 3) := by decide +kernel
theorem dX9_days_10 : decode cX9_days 10 = .ok (.iload_n 1, 1) := by decide +kernel
theorem dX9_days_11 : decode cX9_days 11 = .ok (.bipush 59, 2) := by decide +kernel
theorem dX9_days_13 : decode cX9_days 13 = .ok (.if_icmp .gt 14, 3) := by decide +kernel
theorem dX9_days_16 : decode cX9_days 16 = .ok (.aload_n 0, 1) := by decide +kernel
theorem dX9_days_17 : decode cX9_days 17 = .ok (.getfield 259, 3) := by decide +kernel
theorem dX9_days_20 : decode cX9_days 20 = .ok (.iload_n 1, 1) := by decide +kernel
theorem dX9_days_21 : decode cX9_days 21 = .ok (.iadd, 1) := by decide +kernel
theorem dX9_days_22 : decode cX9_days 22 = .ok (.bipush 59, 2) := by decide +kernel
theorem dX9_days_24 : decode cX9_days 24 = .ok (.if_icmp .le 5, 3) := by decide +kernel
theorem dX9_days_27 : decode cX9_days 27 = .ok (.iconst (-1), 1) := by decide +kernel
theorem dX9_days_28 : decode cX9_days 28 = .ok (.ireturn, 1) := by decide +kernel
theorem dX9_days_29 : decode cX9_days 29 = .ok (.aload_n 0, 1) := by decide +kernel
theorem dX9_days_30 : decode cX9_days 30 = .ok (.dup, 1) := by decide +kernel
theorem dX9_days_31 : decode cX9_days 31 = .ok (.getfield 259, 3) := by decide +kernel
theorem dX9_days_34 : decode cX9_days 34 = .ok (.iload_n 1, 1) := by decide +kernel
theorem dX9_days_35 : decode cX9_days 35 = .ok (.iadd, 1) := by decide +kernel
theorem dX9_days_36 : decode cX9_days 36 = .ok (.putfield 259, 3) := by decide +kernel
theorem dX9_days_39 : decode cX9_days 39 = .ok (.iconst 0, 1) := by decide +kernel
theorem dX9_days_40 : decode cX9_days 40 = .ok (.istore_n 2, 1) := by decide +kernel
theorem dX9_days_41 : decode cX9_days 41 = .ok (.iload_n 2, 1) := by decide +kernel
theorem dX9_days_42 : decode cX9_days 42 = .ok (.aload_n 0, 1) := by decide +kernel
theorem dX9_days_43 : decode cX9_days 43 = .ok (.getfield 256, 3) := by decide +kernel
theorem dX9_days_46 : decode cX9_days 46 = .ok (.if_icmp .ge 40, 3) := by decide +kernel
theorem dX9_days_49 : decode cX9_days 49 = .ok (.aload_n 0, 1) := by decide +kernel
theorem dX9_days_50 : decode cX9_days 50 = .ok (.getfield 119, 3) := by decide +kernel
theorem dX9_days_53 : decode cX9_days 53 = .ok (.iload_n 2, 1) := by decide +kernel
theorem dX9_days_54 : decode cX9_days 54 = .ok (.iaload, 1) := by decide +kernel
theorem dX9_days_55 : decode cX9_days 55 = .ok (.iconst 1, 1) := by decide +kernel
theorem dX9_days_56 : decode cX9_days 56 = .ok (.if_icmp .ne 24, 3) := by decide +kernel
theorem dX9_days_59 : decode cX9_days 59 = .ok (.aload_n 0, 1) := by decide +kernel
theorem dX9_days_60 : decode cX9_days 60 = .ok (.getfield 122, 3) := by decide +kernel
theorem dX9_days_63 : decode cX9_days 63 = .ok (.iload_n 2, 1) := by decide +kernel
theorem dX9_days_64 : decode cX9_days 64 = .ok (.iaload, 1) := by decide +kernel
theorem dX9_days_65 : decode cX9_days 65 = .ok (.bipush 48, 2) := by decide +kernel
theorem dX9_days_67 : decode cX9_days 67 = .ok (.idiv, 1) := by decide +kernel
theorem dX9_days_68 : decode cX9_days 68 = .ok (.aload_n 0, 1) := by decide +kernel
theorem dX9_days_69 : decode cX9_days 69 = .ok (.getfield 259, 3) := by decide +kernel
theorem dX9_days_72 : decode cX9_days 72 = .ok (.if_icmp .ge 8, 3) := by decide +kernel
theorem dX9_days_75 : decode cX9_days 75 = .ok (.aload_n 0, 1) := by decide +kernel
theorem dX9_days_76 : decode cX9_days 76 = .ok (.iload_n 2, 1) := by decide +kernel
theorem dX9_days_77 : decode cX9_days 77 = .ok (.invokevirtual 299, 3) := by decide +kernel
theorem dX9_days_80 : decode cX9_days 80 = .ok (.iinc 2 1, 3) := by decide +kernel
theorem dX9_days_83 : decode cX9_days 83 = .ok (.goto (-42), 3) := by decide +kernel
theorem dX9_days_86 : decode cX9_days 86 = .ok (.aload_n 0, 1) := by decide +kernel
theorem dX9_days_87 : decode cX9_days 87 = .ok (.getfield 259, 3) := by decide +kernel
theorem dX9_days_90 : decode cX9_days 90 = .ok (.ireturn, 1) := by decide +kernel
set_option maxRecDepth 20000 in
theorem ggX9_held_X9_isLearner : GoodIn wsX9_held wsX9_isLearner := goodIn_r _ [13, 14, 19, 20, 21, 22, 23, 24, 25, 26, 27, 28, 29, 30, 31, 32, 33, 34, 35, 36, 37, 38, 39, 40, 41, 42, 43, 44, 45, 46, 47, 48, 49, 50, 51, 52, 53, 54, 55, 56, 57, 58, 59, 60, 61, 62, 63, 64, 65, 66, 67, 68, 69, 70, 71, 72, 73, 74, 75, 76, 77, 78, 79, 80] (by decide +kernel) (by decide +kernel)
set_option maxRecDepth 20000 in
theorem gX9_held_X9_isLearner : GoodIn wsX9_held (wsV RX9 296 RX9 yX9_isLearner wsX9_isLearner) := goodIn_app (goodIn_of _ (by decide +kernel)) ggX9_held_X9_isLearner
set_option maxRecDepth 20000 in
theorem ggX9_held_X9_waits : GoodIn wsX9_held wsX9_waits := goodIn_r _ [18, 2, 3, 19, 20, 21, 22, 23, 24, 25, 26, 27, 28, 29, 30, 31, 32, 33, 34, 35, 36, 37, 38, 39, 40, 41, 42, 43, 44, 45, 46, 47, 48, 49, 50, 51, 52, 53, 54, 55, 56, 57, 58, 59, 60, 61, 62, 63, 64, 65, 66, 67, 68, 69, 70, 71, 72, 73, 74, 75, 76, 77, 78, 79, 80] (by decide +kernel) (by decide +kernel)
set_option maxRecDepth 20000 in
theorem gX9_held_X9_waits : GoodIn wsX9_held (wsV RX9 299 RX9 yX9_waits wsX9_waits) := goodIn_app (goodIn_of _ (by decide +kernel)) ggX9_held_X9_waits
theorem dX9_held_0 : decode cX9_held 0 = .ok (.aload_n 0, 1) := by decide +kernel
theorem dX9_held_1 : decode cX9_held 1 = .ok (.iconst 0, 1) := by decide +kernel
theorem dX9_held_2 : decode cX9_held 2 = .ok (.putfield 1, 3) := by decide +kernel
theorem dX9_held_5 : decode cX9_held 5 = .ok (.aload_n 0, 1) := by decide +kernel
theorem dX9_held_6 : decode cX9_held 6 = .ok (.iload_n 1, 1) := by decide +kernel
theorem dX9_held_7 : decode cX9_held 7 = .ok (.invokevirtual 296, 3) := by decide +kernel
theorem dX9_held_10 : decode cX9_held 10 = .ok (.ifCond .eq 29, 3) := by decide +kernel
theorem dX9_held_13 : decode cX9_held 13 = .ok (.aload_n 0, 1) := by decide +kernel
theorem dX9_held_14 : decode cX9_held 14 = .ok (.getfield 119, 3) := by decide +kernel
theorem dX9_held_17 : decode cX9_held 17 = .ok (.iload_n 1, 1) := by decide +kernel
theorem dX9_held_18 : decode cX9_held 18 = .ok (.iaload, 1) := by decide +kernel
theorem dX9_held_19 : decode cX9_held 19 = .ok (.iconst 1, 1) := by decide +kernel
theorem dX9_held_20 : decode cX9_held 20 = .ok (.if_icmp .ne 19, 3) := by decide +kernel
theorem dX9_held_23 : decode cX9_held 23 = .ok (.aload_n 0, 1) := by decide +kernel
theorem dX9_held_24 : decode cX9_held 24 = .ok (.getfield 122, 3) := by decide +kernel
theorem dX9_held_27 : decode cX9_held 27 = .ok (.iload_n 1, 1) := by decide +kernel
theorem dX9_held_28 : decode cX9_held 28 = .ok (.iaload, 1) := by decide +kernel
theorem dX9_held_29 : decode cX9_held 29 = .ok (.bipush 48, 2) := by decide +kernel
theorem dX9_held_31 : decode cX9_held 31 = .ok (.idiv, 1) := by decide +kernel
theorem dX9_held_32 : decode cX9_held 32 = .ok (.aload_n 0, 1) := by decide +kernel
theorem dX9_held_33 : decode cX9_held 33 = .ok (.getfield 259, 3) := by decide +kernel
theorem dX9_held_36 : decode cX9_held 36 = .ok (.if_icmp .eq 5, 3) := by decide +kernel
theorem dX9_held_39 : decode cX9_held 39 = .ok (.iconst 0, 1) := by decide +kernel
theorem dX9_held_40 : decode cX9_held 40 = .ok (.ireturn, 1) := by decide +kernel
theorem dX9_held_41 : decode cX9_held 41 = .ok (.aload_n 0, 1) := by decide +kernel
theorem dX9_held_42 : decode cX9_held 42 = .ok (.getfield 122, 3) := by decide +kernel
theorem dX9_held_45 : decode cX9_held 45 = .ok (.iload_n 1, 1) := by decide +kernel
theorem dX9_held_46 : decode cX9_held 46 = .ok (.iaload, 1) := by decide +kernel
theorem dX9_held_47 : decode cX9_held 47 = .ok (.bipush 8, 2) := by decide +kernel
theorem dX9_held_49 : decode cX9_held 49 = .ok (.irem, 1) := by decide +kernel
theorem dX9_held_50 : decode cX9_held 50 = .ok (.istore_n 3, 1) := by decide +kernel
theorem dX9_held_51 : decode cX9_held 51 = .ok (.aload_n 0, 1) := by decide +kernel
theorem dX9_held_52 : decode cX9_held 52 = .ok (.getfield 92, 3) := by decide +kernel
theorem dX9_held_55 : decode cX9_held 55 = .ok (.iload_n 3, 1) := by decide +kernel
theorem dX9_held_56 : decode cX9_held 56 = .ok (.dup2, 1) := by decide +kernel
theorem dX9_held_57 : decode cX9_held 57 = .ok (.iaload, 1) := by decide +kernel
theorem dX9_held_58 : decode cX9_held 58 = .ok (.iconst 1, 1) := by decide +kernel
theorem dX9_held_59 : decode cX9_held 59 = .ok (.iadd, 1) := by decide +kernel
theorem dX9_held_60 : decode cX9_held 60 = .ok (.iastore, 1) := by decide +kernel
theorem dX9_held_61 : decode cX9_held 61 = .ok (.aload_n 0, 1) := by decide +kernel
theorem dX9_held_62 : decode cX9_held 62 = .ok (.getfield 95, 3) := by decide +kernel
theorem dX9_held_65 : decode cX9_held 65 = .ok (.iload_n 3, 1) := by decide +kernel
theorem dX9_held_66 : decode cX9_held 66 = .ok (.dup2, 1) := by decide +kernel
theorem dX9_held_67 : decode cX9_held 67 = .ok (.iaload, 1) := by decide +kernel
theorem dX9_held_68 : decode cX9_held 68 = .ok (.iload_n 2, 1) := by decide +kernel
theorem dX9_held_69 : decode cX9_held 69 = .ok (.ifCond .eq 7, 3) := by decide +kernel
theorem dX9_held_72 : decode cX9_held 72 = .ok (.iconst 1, 1) := by decide +kernel
theorem dX9_held_73 : decode cX9_held 73 = .ok (.goto 4, 3) := by decide +kernel
theorem dX9_held_76 : decode cX9_held 76 = .ok (.iconst 0, 1) := by decide +kernel
theorem dX9_held_77 : decode cX9_held 77 = .ok (.iadd, 1) := by decide +kernel
theorem dX9_held_78 : decode cX9_held 78 = .ok (.iastore, 1) := by decide +kernel
theorem dX9_held_79 : decode cX9_held 79 = .ok (.aload_n 0, 1) := by decide +kernel
theorem dX9_held_80 : decode cX9_held 80 = .ok (.dup, 1) := by decide +kernel
theorem dX9_held_81 : decode cX9_held 81 = .ok (.getfield 305, 3) := by decide +kernel
theorem dX9_held_84 : decode cX9_held 84 = .ok (.iconst 1, 1) := by decide +kernel
theorem dX9_held_85 : decode cX9_held 85 = .ok (.iadd, 1) := by decide +kernel
theorem dX9_held_86 : decode cX9_held 86 = .ok (.putfield 305, 3) := by decide +kernel
theorem dX9_held_89 : decode cX9_held 89 = .ok (.aload_n 0, 1) := by decide +kernel
theorem dX9_held_90 : decode cX9_held 90 = .ok (.iload_n 1, 1) := by decide +kernel
theorem dX9_held_91 : decode cX9_held 91 = .ok (.invokevirtual 299, 3) := by decide +kernel
theorem dX9_held_94 : decode cX9_held 94 = .ok (.aload_n 0, 1) := by decide +kernel
theorem dX9_held_95 : decode cX9_held 95 = .ok (.getfield 119, 3) := by decide +kernel
theorem dX9_held_98 : decode cX9_held 98 = .ok (.iload_n 1, 1) := by decide +kernel
theorem dX9_held_99 : decode cX9_held 99 = .ok (.iload_n 2, 1) := by decide +kernel
theorem dX9_held_100 : decode cX9_held 100 = .ok (.ifCond .eq 7, 3) := by decide +kernel
theorem dX9_held_103 : decode cX9_held 103 = .ok (.iconst 2, 1) := by decide +kernel
theorem dX9_held_104 : decode cX9_held 104 = .ok (.goto 4, 3) := by decide +kernel
theorem dX9_held_107 : decode cX9_held 107 = .ok (.iconst 0, 1) := by decide +kernel
theorem dX9_held_108 : decode cX9_held 108 = .ok (.iastore, 1) := by decide +kernel
theorem dX9_held_109 : decode cX9_held 109 = .ok (.aload_n 0, 1) := by decide +kernel
theorem dX9_held_110 : decode cX9_held 110 = .ok (.getfield 125, 3) := by decide +kernel
theorem dX9_held_113 : decode cX9_held 113 = .ok (.iload_n 1, 1) := by decide +kernel
theorem dX9_held_114 : decode cX9_held 114 = .ok (.dup2, 1) := by decide +kernel
theorem dX9_held_115 : decode cX9_held 115 = .ok (.iaload, 1) := by decide +kernel
theorem dX9_held_116 : decode cX9_held 116 = .ok (.iload_n 2, 1) := by decide +kernel
theorem dX9_held_117 : decode cX9_held 117 = .ok (.ifCond .eq 7, 3) := by decide +kernel
theorem dX9_held_120 : decode cX9_held 120 = .ok (.iconst 0, 1) := by decide +kernel
theorem dX9_held_121 : decode cX9_held 121 = .ok (.goto 4, 3) := by decide +kernel
theorem dX9_held_124 : decode cX9_held 124 = .ok (.iconst 1, 1) := by decide +kernel
theorem dX9_held_125 : decode cX9_held 125 = .ok (.iadd, 1) := by decide +kernel
theorem dX9_held_126 : decode cX9_held 126 = .ok (.iastore, 1) := by decide +kernel
theorem dX9_held_127 : decode cX9_held 127 = .ok (.iconst 1, 1) := by decide +kernel
theorem dX9_held_128 : decode cX9_held 128 = .ok (.ireturn, 1) := by decide +kernel
set_option maxRecDepth 20000 in
theorem ggX9_look_X9_isLearner : GoodIn wsX9_look wsX9_isLearner := goodIn_r _ [10, 11, 46, 47, 48, 49, 50, 51, 52, 53, 54, 55, 56, 57, 58, 59, 60, 61, 62, 63, 64, 65, 66, 67, 68, 69, 70, 71, 72, 73, 74, 75, 76, 77, 78, 79, 80, 81, 82, 83, 84, 85, 86, 87, 88, 89, 90, 91, 92, 93, 94, 95, 96, 97, 98, 99, 100, 101, 102, 103, 104, 105, 106, 107] (by decide +kernel) (by decide +kernel)
set_option maxRecDepth 20000 in
theorem gX9_look_X9_isLearner : GoodIn wsX9_look (wsV RX9 296 RX9 yX9_isLearner wsX9_isLearner) := goodIn_app (goodIn_of _ (by decide +kernel)) ggX9_look_X9_isLearner
set_option maxRecDepth 20000 in
theorem ggX9_look_X9_placeOf : GoodIn wsX9_look wsX9_placeOf := goodIn_r _ [15, 2, 11, 16, 17, 18, 9, 19, 20, 21, 22, 23, 24, 25, 26, 27, 28, 29, 4, 30, 31, 32, 33, 34, 35, 36, 37, 38, 39, 40, 41, 42, 43, 44, 45, 46, 47, 48, 49, 50, 51, 52, 53, 54, 55, 56, 57, 58, 59, 60, 61, 62, 63, 64, 65, 66, 67, 68, 69, 70, 71, 72, 73, 74, 75, 76, 77, 78, 79, 80, 81, 82, 83, 84, 85, 86, 87, 88, 89, 90, 91, 92, 93, 94, 95, 96, 97, 98, 99, 100, 101, 102, 103, 104, 105, 106, 107] (by decide +kernel) (by decide +kernel)
set_option maxRecDepth 20000 in
theorem gX9_look_X9_placeOf : GoodIn wsX9_look (wsV RX9 308 RX9 yX9_placeOf wsX9_placeOf) := goodIn_app (goodIn_of _ (by decide +kernel)) ggX9_look_X9_placeOf
theorem dX9_look_0 : decode cX9_look 0 = .ok (.aload_n 0, 1) := by decide +kernel
theorem dX9_look_1 : decode cX9_look 1 = .ok (.aload_n 0, 1) := by decide +kernel
theorem dX9_look_2 : decode cX9_look 2 = .ok (.iload_n 1, 1) := by decide +kernel
theorem dX9_look_3 : decode cX9_look 3 = .ok (.invokevirtual 296, 3) := by decide +kernel
theorem dX9_look_6 : decode cX9_look 6 = .ok (.ifCond .eq 16, 3) := by decide +kernel
theorem dX9_look_9 : decode cX9_look 9 = .ok (.iload_n 2, 1) := by decide +kernel
theorem dX9_look_10 : decode cX9_look 10 = .ok (.ifCond .lt 12, 3) := by decide +kernel
theorem dX9_look_13 : decode cX9_look 13 = .ok (.iload_n 2, 1) := by decide +kernel
theorem dX9_look_14 : decode cX9_look 14 = .ok (.iconst 4, 1) := by decide +kernel
theorem dX9_look_15 : decode cX9_look 15 = .ok (.if_icmp .gt 7, 3) := by decide +kernel
theorem dX9_look_18 : decode cX9_look 18 = .ok (.iconst 0, 1) := by decide +kernel
theorem dX9_look_19 : decode cX9_look 19 = .ok (.goto 4, 3) := by decide +kernel
theorem dX9_look_22 : decode cX9_look 22 = .ok (.iconst 1, 1) := by decide +kernel
theorem dX9_look_23 : decode cX9_look 23 = .ok (.putfield 1, 3) := by decide +kernel
theorem dX9_look_26 : decode cX9_look 26 = .ok (.aload_n 0, 1) := by decide +kernel
theorem dX9_look_27 : decode cX9_look 27 = .ok (.getfield 1, 3) := by decide +kernel
theorem dX9_look_30 : decode cX9_look 30 = .ok (.ifCond .le 5, 3) := by decide +kernel
theorem dX9_look_33 : decode cX9_look 33 = .ok (.iconst 0, 1) := by decide +kernel
theorem dX9_look_34 : decode cX9_look 34 = .ok (.ireturn, 1) := by decide +kernel
theorem dX9_look_35 : decode cX9_look 35 = .ok (.iload_n 2, 1) := by decide +kernel
theorem dX9_look_36 : decode cX9_look 36 = .ok (.tableswitch 59 0 3 #[32, 39, 46, 53], 32) := by decide +kernel
theorem dX9_look_68 : decode cX9_look 68 = .ok (.aload_n 0, 1) := by decide +kernel
theorem dX9_look_69 : decode cX9_look 69 = .ok (.getfield 119, 3) := by decide +kernel
theorem dX9_look_72 : decode cX9_look 72 = .ok (.iload_n 1, 1) := by decide +kernel
theorem dX9_look_73 : decode cX9_look 73 = .ok (.iaload, 1) := by decide +kernel
theorem dX9_look_74 : decode cX9_look 74 = .ok (.ireturn, 1) := by decide +kernel
theorem dX9_look_75 : decode cX9_look 75 = .ok (.aload_n 0, 1) := by decide +kernel
theorem dX9_look_76 : decode cX9_look 76 = .ok (.getfield 122, 3) := by decide +kernel
theorem dX9_look_79 : decode cX9_look 79 = .ok (.iload_n 1, 1) := by decide +kernel
theorem dX9_look_80 : decode cX9_look 80 = .ok (.iaload, 1) := by decide +kernel
theorem dX9_look_81 : decode cX9_look 81 = .ok (.ireturn, 1) := by decide +kernel
theorem dX9_look_82 : decode cX9_look 82 = .ok (.aload_n 0, 1) := by decide +kernel
theorem dX9_look_83 : decode cX9_look 83 = .ok (.getfield 125, 3) := by decide +kernel
theorem dX9_look_86 : decode cX9_look 86 = .ok (.iload_n 1, 1) := by decide +kernel
theorem dX9_look_87 : decode cX9_look 87 = .ok (.iaload, 1) := by decide +kernel
theorem dX9_look_88 : decode cX9_look 88 = .ok (.ireturn, 1) := by decide +kernel
theorem dX9_look_89 : decode cX9_look 89 = .ok (.aload_n 0, 1) := by decide +kernel
theorem dX9_look_90 : decode cX9_look 90 = .ok (.iload_n 1, 1) := by decide +kernel
theorem dX9_look_91 : decode cX9_look 91 = .ok (.invokevirtual 308, 3) := by decide +kernel
theorem dX9_look_94 : decode cX9_look 94 = .ok (.ireturn, 1) := by decide +kernel
theorem dX9_look_95 : decode cX9_look 95 = .ok (.aload_n 0, 1) := by decide +kernel
theorem dX9_look_96 : decode cX9_look 96 = .ok (.getfield 128, 3) := by decide +kernel
theorem dX9_look_99 : decode cX9_look 99 = .ok (.iload_n 1, 1) := by decide +kernel
theorem dX9_look_100 : decode cX9_look 100 = .ok (.iaload, 1) := by decide +kernel
theorem dX9_look_101 : decode cX9_look 101 = .ok (.ireturn, 1) := by decide +kernel
set_option maxRecDepth 20000 in
theorem ggX9_placeOf_X9_findRanks : GoodIn wsX9_placeOf wsX9_findRanks := goodIn_r _ [7, 2, 8, 9, 10, 11, 6, 12, 13, 14, 15, 16, 17, 18, 19, 20, 21, 22, 23, 24, 25, 26, 27, 28, 29, 30, 35, 36, 37, 38, 39, 40, 41, 42, 43, 44, 45, 46, 47, 48, 49, 50, 51, 52, 53, 54, 55, 56, 57, 58, 59, 60, 61, 62, 63, 64, 65, 66, 67, 68, 69, 70, 71, 72, 73, 74, 75, 76, 77, 78, 79, 80, 81, 82, 83, 84, 85, 86, 87, 88, 89, 90, 91, 92, 93, 94, 95, 96] (by decide +kernel) (by decide +kernel)
set_option maxRecDepth 20000 in
theorem gX9_placeOf_X9_findRanks : GoodIn wsX9_placeOf (wsV RX9 274 RX9 yX9_findRanks wsX9_findRanks) := goodIn_app (goodIn_of _ (by decide +kernel)) ggX9_placeOf_X9_findRanks
set_option maxRecDepth 20000 in
theorem ggX9_placeOf_X9_isAhead : GoodIn wsX9_placeOf wsX9_isAhead := goodIn_r _ [34, 8, 35, 36, 37, 38, 39, 40, 41, 42, 43, 44, 45, 46, 47, 48, 49, 50, 51, 52, 53, 54, 55, 56, 57, 58, 59, 60, 61, 62, 63, 64, 65, 66, 67, 68, 69, 70, 71, 72, 73, 74, 75, 76, 77, 78, 79, 80, 81, 82, 83, 84, 85, 86, 87, 88, 89, 90, 91, 92, 93, 94, 95, 96] (by decide +kernel) (by decide +kernel)
set_option maxRecDepth 20000 in
theorem gX9_placeOf_X9_isAhead : GoodIn wsX9_placeOf (wsV RX9 290 RX9 yX9_isAhead wsX9_isAhead) := goodIn_app (goodIn_of _ (by decide +kernel)) ggX9_placeOf_X9_isAhead
theorem dX9_placeOf_0 : decode cX9_placeOf 0 = .ok (.aload_n 0, 1) := by decide +kernel
theorem dX9_placeOf_1 : decode cX9_placeOf 1 = .ok (.getfield 119, 3) := by decide +kernel
theorem dX9_placeOf_4 : decode cX9_placeOf 4 = .ok (.iload_n 1, 1) := by decide +kernel
theorem dX9_placeOf_5 : decode cX9_placeOf 5 = .ok (.iaload, 1) := by decide +kernel
theorem dX9_placeOf_6 : decode cX9_placeOf 6 = .ok (.ifCond .eq 5, 3) := by decide +kernel
theorem dX9_placeOf_9 : decode cX9_placeOf 9 = .ok (.iconst (-1), 1) := by decide +kernel
theorem dX9_placeOf_10 : decode cX9_placeOf 10 = .ok (.ireturn, 1) := by decide +kernel
theorem dX9_placeOf_11 : decode cX9_placeOf 11 = .ok (.aload_n 0, 1) := by decide +kernel
theorem dX9_placeOf_12 : decode cX9_placeOf 12 = .ok (.invokevirtual 274, 3) := by decide +kernel
theorem dX9_placeOf_15 : decode cX9_placeOf 15 = .ok (.iconst 0, 1) := by decide +kernel
theorem dX9_placeOf_16 : decode cX9_placeOf 16 = .ok (.istore_n 2, 1) := by decide +kernel
theorem dX9_placeOf_17 : decode cX9_placeOf 17 = .ok (.iconst 0, 1) := by decide +kernel
theorem dX9_placeOf_18 : decode cX9_placeOf 18 = .ok (.istore_n 3, 1) := by decide +kernel
theorem dX9_placeOf_19 : decode cX9_placeOf 19 = .ok (.iload_n 3, 1) := by decide +kernel
theorem dX9_placeOf_20 : decode cX9_placeOf 20 = .ok (.aload_n 0, 1) := by decide +kernel
theorem dX9_placeOf_21 : decode cX9_placeOf 21 = .ok (.getfield 256, 3) := by decide +kernel
theorem dX9_placeOf_24 : decode cX9_placeOf 24 = .ok (.if_icmp .ge 35, 3) := by decide +kernel
theorem dX9_placeOf_27 : decode cX9_placeOf 27 = .ok (.iload_n 2, 1) := by decide +kernel
theorem dX9_placeOf_28 : decode cX9_placeOf 28 = .ok (.aload_n 0, 1) := by decide +kernel
theorem dX9_placeOf_29 : decode cX9_placeOf 29 = .ok (.getfield 119, 3) := by decide +kernel
theorem dX9_placeOf_32 : decode cX9_placeOf 32 = .ok (.iload_n 3, 1) := by decide +kernel
theorem dX9_placeOf_33 : decode cX9_placeOf 33 = .ok (.iaload, 1) := by decide +kernel
theorem dX9_placeOf_34 : decode cX9_placeOf 34 = .ok (.ifCond .ne 16, 3) := by decide +kernel
theorem dX9_placeOf_37 : decode cX9_placeOf 37 = .ok (.aload_n 0, 1) := by decide +kernel
theorem dX9_placeOf_38 : decode cX9_placeOf 38 = .ok (.iload_n 3, 1) := by decide +kernel
theorem dX9_placeOf_39 : decode cX9_placeOf 39 = .ok (.iload_n 1, 1) := by decide +kernel
theorem dX9_placeOf_40 : decode cX9_placeOf 40 = .ok (.invokevirtual 290, 3) := by decide +kernel
theorem dX9_placeOf_43 : decode cX9_placeOf 43 = .ok (.ifCond .eq 7, 3) := by decide +kernel
theorem dX9_placeOf_46 : decode cX9_placeOf 46 = .ok (.iconst 1, 1) := by decide +kernel
theorem dX9_placeOf_47 : decode cX9_placeOf 47 = .ok (.goto 4, 3) := by decide +kernel
theorem dX9_placeOf_50 : decode cX9_placeOf 50 = .ok (.iconst 0, 1) := by decide +kernel
theorem dX9_placeOf_51 : decode cX9_placeOf 51 = .ok (.iadd, 1) := by decide +kernel
theorem dX9_placeOf_52 : decode cX9_placeOf 52 = .ok (.istore_n 2, 1) := by decide +kernel
theorem dX9_placeOf_53 : decode cX9_placeOf 53 = .ok (.iinc 3 1, 3) := by decide +kernel
theorem dX9_placeOf_56 : decode cX9_placeOf 56 = .ok (.goto (-37), 3) := by decide +kernel
theorem dX9_placeOf_59 : decode cX9_placeOf 59 = .ok (.iload_n 2, 1) := by decide +kernel
theorem dX9_placeOf_60 : decode cX9_placeOf 60 = .ok (.ireturn, 1) := by decide +kernel
set_option maxRecDepth 20000 in
theorem ggX9_at_X9_hasHour : GoodIn wsX9_at wsX9_hasHour := goodIn_r _ [7, 8, 16, 17, 18, 19, 20, 21, 22, 23, 24, 25, 26, 27, 28, 29, 30, 31, 32, 33, 34, 35, 36, 37, 38, 39, 40, 41, 42, 43, 44, 45, 46, 47, 48, 49, 50, 51, 52, 53, 54, 55, 56, 57, 58, 59, 60, 61, 62, 63, 64, 65, 66, 67, 68, 69, 70, 71, 72, 73, 74, 75, 76, 77] (by decide +kernel) (by decide +kernel)
set_option maxRecDepth 20000 in
theorem gX9_at_X9_hasHour : GoodIn wsX9_at (wsV RX9 252 RX9 yX9_hasHour wsX9_hasHour) := goodIn_app (goodIn_of _ (by decide +kernel)) ggX9_at_X9_hasHour
set_option maxRecDepth 20000 in
theorem ggX9_at_X9_bookedAt : GoodIn wsX9_at wsX9_bookedAt := goodIn_r _ [12, 13, 14, 15, 16, 17, 18, 19, 20, 21, 22, 23, 24, 25, 26, 27, 28, 29, 30, 31, 32, 33, 34, 35, 36, 37, 38, 39, 40, 41, 42, 43, 44, 45, 46, 47, 48, 49, 50, 51, 52, 53, 54, 55, 56, 57, 58, 59, 60, 61, 62, 63, 64, 65, 66, 67, 68, 69, 70, 71, 72, 73, 74, 75, 76, 77] (by decide +kernel) (by decide +kernel)
set_option maxRecDepth 20000 in
theorem gX9_at_X9_bookedAt : GoodIn wsX9_at (wsV RX9 265 RX9 yX9_bookedAt wsX9_bookedAt) := goodIn_app (goodIn_of _ (by decide +kernel)) ggX9_at_X9_bookedAt
theorem dX9_at_0 : decode cX9_at 0 = .ok (.aload_n 0, 1) := by decide +kernel
theorem dX9_at_1 : decode cX9_at 1 = .ok (.iconst 0, 1) := by decide +kernel
theorem dX9_at_2 : decode cX9_at 2 = .ok (.putfield 1, 3) := by decide +kernel
theorem dX9_at_5 : decode cX9_at 5 = .ok (.iload_n 1, 1) := by decide +kernel
theorem dX9_at_6 : decode cX9_at 6 = .ok (.ifCond .lt 30, 3) := by decide +kernel
theorem dX9_at_9 : decode cX9_at 9 = .ok (.iload_n 1, 1) := by decide +kernel
theorem dX9_at_10 : decode cX9_at 10 = .ok (.bipush 59, 2) := by decide +kernel
theorem dX9_at_12 : decode cX9_at 12 = .ok (.if_icmp .gt 24, 3) := by decide +kernel
theorem dX9_at_15 : decode cX9_at 15 = .ok (.iload_n 2, 1) := by decide +kernel
theorem dX9_at_16 : decode cX9_at 16 = .ok (.ifCond .lt 20, 3) := by decide +kernel
theorem dX9_at_19 : decode cX9_at 19 = .ok (.iload_n 2, 1) := by decide +kernel
theorem dX9_at_20 : decode cX9_at 20 = .ok (.iconst 5, 1) := by decide +kernel
theorem dX9_at_21 : decode cX9_at 21 = .ok (.if_icmp .gt 15, 3) := by decide +kernel
theorem dX9_at_24 : decode cX9_at 24 = .ok (.iload_n 3, 1) := by decide +kernel
theorem dX9_at_25 : decode cX9_at 25 = .ok (.ifCond .lt 11, 3) := by decide +kernel
theorem dX9_at_28 : decode cX9_at 28 = .ok (.iload_n 3, 1) := by decide +kernel
theorem dX9_at_29 : decode cX9_at 29 = .ok (.aload_n 0, 1) := by decide +kernel
theorem dX9_at_30 : decode cX9_at 30 = .ok (.getfield 249, 3) := by decide +kernel
theorem dX9_at_33 : decode cX9_at 33 = .ok (.if_icmp .lt 6, 3) := by decide +kernel
theorem dX9_at_36 : decode cX9_at 36 = .ok (.bipush (-3), 2) := by decide +kernel
theorem dX9_at_38 : decode cX9_at 38 = .ok (.ireturn, 1) := by decide +kernel
theorem dX9_at_39 : decode cX9_at 39 = .ok (.aload_n 0, 1) := by decide +kernel
theorem dX9_at_40 : decode cX9_at 40 = .ok (.iload_n 3, 1) := by decide +kernel
theorem dX9_at_41 : decode cX9_at 41 = .ok (.iload_n 1, 1) := by decide +kernel
theorem dX9_at_42 : decode cX9_at 42 = .ok (.iload_n 2, 1) := by decide +kernel
theorem dX9_at_43 : decode cX9_at 43 = .ok (.invokevirtual 252, 3) := by decide +kernel
theorem dX9_at_46 : decode cX9_at 46 = .ok (.ifCond .ne 8, 3) := by decide +kernel
theorem dX9_at_49 : decode cX9_at 49 = .ok (.bipush (-2), 2) := by decide +kernel
theorem dX9_at_51 : decode cX9_at 51 = .ok (.goto 18, 3) := by decide +kernel
theorem dX9_at_54 : decode cX9_at 54 = .ok (.aload_n 0, 1) := by decide +kernel
theorem dX9_at_55 : decode cX9_at 55 = .ok (.bipush 48, 2) := by decide +kernel
theorem dX9_at_57 : decode cX9_at 57 = .ok (.iload_n 1, 1) := by decide +kernel
theorem dX9_at_58 : decode cX9_at 58 = .ok (.imul, 1) := by decide +kernel
theorem dX9_at_59 : decode cX9_at 59 = .ok (.bipush 8, 2) := by decide +kernel
theorem dX9_at_61 : decode cX9_at 61 = .ok (.iload_n 2, 1) := by decide +kernel
theorem dX9_at_62 : decode cX9_at 62 = .ok (.imul, 1) := by decide +kernel
theorem dX9_at_63 : decode cX9_at 63 = .ok (.iadd, 1) := by decide +kernel
theorem dX9_at_64 : decode cX9_at 64 = .ok (.iload_n 3, 1) := by decide +kernel
theorem dX9_at_65 : decode cX9_at 65 = .ok (.iadd, 1) := by decide +kernel
theorem dX9_at_66 : decode cX9_at 66 = .ok (.invokevirtual 265, 3) := by decide +kernel
theorem dX9_at_69 : decode cX9_at 69 = .ok (.ireturn, 1) := by decide +kernel
set_option maxRecDepth 20000 in
theorem ggX9_street_X9_streetsAt : GoodIn wsX9_street wsX9_streetsAt := goodIn_r _ [11, 2, 3, 4, 12, 13, 14, 15, 16, 17, 18, 19, 20, 21, 22, 23, 24, 25, 26, 27, 28, 29, 30, 31, 32, 33, 34, 35, 36, 37, 38, 39, 40, 41, 42, 43, 44, 45, 46, 47, 48, 49, 50, 51, 52, 53, 54, 55, 56, 57, 58, 59, 60, 61, 62, 63, 64, 65, 66, 67, 68, 69, 70, 71, 72, 73] (by decide +kernel) (by decide +kernel)
set_option maxRecDepth 20000 in
theorem gX9_street_X9_streetsAt : GoodIn wsX9_street (wsV RX9 314 RX9 yX9_streetsAt wsX9_streetsAt) := goodIn_app (goodIn_of _ (by decide +kernel)) ggX9_street_X9_streetsAt
theorem dX9_street_0 : decode cX9_street 0 = .ok (.aload_n 0, 1) := by decide +kernel
theorem dX9_street_1 : decode cX9_street 1 = .ok (.iconst 0, 1) := by decide +kernel
theorem dX9_street_2 : decode cX9_street 2 = .ok (.putfield 1, 3) := by decide +kernel
theorem dX9_street_5 : decode cX9_street 5 = .ok (.iload_n 1, 1) := by decide +kernel
theorem dX9_street_6 : decode cX9_street 6 = .ok (.ifCond .lt 75, 3) := by decide +kernel
theorem dX9_street_9 : decode cX9_street 9 = .ok (.iload_n 1, 1) := by decide +kernel
theorem dX9_street_10 : decode cX9_street 10 = .ok (.bipush 11, 2) := by decide +kernel
theorem dX9_street_12 : decode cX9_street 12 = .ok (.if_icmp .gt 69, 3) := by decide +kernel
theorem dX9_street_15 : decode cX9_street 15 = .ok (.iload_n 2, 1) := by decide +kernel
theorem dX9_street_16 : decode cX9_street 16 = .ok (.ifCond .lt 65, 3) := by decide +kernel
theorem dX9_street_19 : decode cX9_street 19 = .ok (.iload_n 2, 1) := by decide +kernel
theorem dX9_street_20 : decode cX9_street 20 = .ok (.bipush 11, 2) := by decide +kernel
theorem dX9_street_22 : decode cX9_street 22 = .ok (.if_icmp .gt 59, 3) := by decide +kernel
theorem dX9_street_25 : decode cX9_street 25 = .ok (.iload_n 1, 1) := by decide +kernel
theorem dX9_street_26 : decode cX9_street 26 = .ok (.iload_n 2, 1) := by decide +kernel
theorem dX9_street_27 : decode cX9_street 27 = .ok (.if_icmp .eq 54, 3) := by decide +kernel
theorem dX9_street_30 : decode cX9_street 30 = .ok (.iload_n 3, 1) := by decide +kernel
theorem dX9_street_31 : decode cX9_street 31 = .ok (.iconst 1, 1) := by decide +kernel
theorem dX9_street_32 : decode cX9_street 32 = .ok (.if_icmp .lt 49, 3) := by decide +kernel
theorem dX9_street_35 : decode cX9_street 35 = .ok (.iload_n 3, 1) := by decide +kernel
theorem dX9_street_36 : decode cX9_street 36 = .ok (.bipush 30, 2) := by decide +kernel
theorem dX9_street_38 : decode cX9_street 38 = .ok (.if_icmp .gt 43, 3) := by decide +kernel
theorem dX9_street_41 : decode cX9_street 41 = .ok (.iload 4, 2) := by decide +kernel
theorem dX9_street_43 : decode cX9_street 43 = .ok (.ifCond .lt 38, 3) := by decide +kernel
theorem dX9_street_46 : decode cX9_street 46 = .ok (.iload 4, 2) := by decide +kernel
theorem dX9_street_48 : decode cX9_street 48 = .ok (.sipush 255, 3) := by decide +kernel
theorem dX9_street_51 : decode cX9_street 51 = .ok (.if_icmp .gt 30, 3) := by decide +kernel
theorem dX9_street_54 : decode cX9_street 54 = .ok (.aload_n 0, 1) := by decide +kernel
theorem dX9_street_55 : decode cX9_street 55 = .ok (.getfield 311, 3) := by decide +kernel
theorem dX9_street_58 : decode cX9_street 58 = .ok (.bipush 24, 2) := by decide +kernel
theorem dX9_street_60 : decode cX9_street 60 = .ok (.if_icmp .eq 21, 3) := by decide +kernel
theorem dX9_street_63 : decode cX9_street 63 = .ok (.aload_n 0, 1) := by decide +kernel
theorem dX9_street_64 : decode cX9_street 64 = .ok (.iload_n 1, 1) := by decide +kernel
theorem dX9_street_65 : decode cX9_street 65 = .ok (.invokevirtual 314, 3) := by decide +kernel
theorem dX9_street_68 : decode cX9_street 68 = .ok (.iconst 4, 1) := by decide +kernel
theorem dX9_street_69 : decode cX9_street 69 = .ok (.if_icmp .eq 12, 3) := by decide +kernel
theorem dX9_street_72 : decode cX9_street 72 = .ok (.aload_n 0, 1) := by decide +kernel
theorem dX9_street_73 : decode cX9_street 73 = .ok (.iload_n 2, 1) := by decide +kernel
theorem dX9_street_74 : decode cX9_street 74 = .ok (.invokevirtual 314, 3) := by decide +kernel
theorem dX9_street_77 : decode cX9_street 77 = .ok (.iconst 4, 1) := by decide +kernel
theorem dX9_street_78 : decode cX9_street 78 = .ok (.if_icmp .ne 5, 3) := by decide +kernel
theorem dX9_street_81 : decode cX9_street 81 = .ok (.iconst (-1), 1) := by decide +kernel
theorem dX9_street_82 : decode cX9_street 82 = .ok (.ireturn, 1) := by decide +kernel
theorem dX9_street_83 : decode cX9_street 83 = .ok (.aload_n 0, 1) := by decide +kernel
theorem dX9_street_84 : decode cX9_street 84 = .ok (.getfield 137, 3) := by decide +kernel
theorem dX9_street_87 : decode cX9_street 87 = .ok (.aload_n 0, 1) := by decide +kernel
theorem dX9_street_88 : decode cX9_street 88 = .ok (.getfield 311, 3) := by decide +kernel
theorem dX9_street_91 : decode cX9_street 91 = .ok (.iload_n 1, 1) := by decide +kernel
theorem dX9_street_92 : decode cX9_street 92 = .ok (.iastore, 1) := by decide +kernel
theorem dX9_street_93 : decode cX9_street 93 = .ok (.aload_n 0, 1) := by decide +kernel
theorem dX9_street_94 : decode cX9_street 94 = .ok (.getfield 140, 3) := by decide +kernel
theorem dX9_street_97 : decode cX9_street 97 = .ok (.aload_n 0, 1) := by decide +kernel
theorem dX9_street_98 : decode cX9_street 98 = .ok (.getfield 311, 3) := by decide +kernel
theorem dX9_street_101 : decode cX9_street 101 = .ok (.iload_n 2, 1) := by decide +kernel
theorem dX9_street_102 : decode cX9_street 102 = .ok (.iastore, 1) := by decide +kernel
theorem dX9_street_103 : decode cX9_street 103 = .ok (.aload_n 0, 1) := by decide +kernel
theorem dX9_street_104 : decode cX9_street 104 = .ok (.getfield 143, 3) := by decide +kernel
theorem dX9_street_107 : decode cX9_street 107 = .ok (.aload_n 0, 1) := by decide +kernel
theorem dX9_street_108 : decode cX9_street 108 = .ok (.getfield 311, 3) := by decide +kernel
theorem dX9_street_111 : decode cX9_street 111 = .ok (.iload_n 3, 1) := by decide +kernel
theorem dX9_street_112 : decode cX9_street 112 = .ok (.iastore, 1) := by decide +kernel
theorem dX9_street_113 : decode cX9_street 113 = .ok (.aload_n 0, 1) := by decide +kernel
theorem dX9_street_114 : decode cX9_street 114 = .ok (.getfield 146, 3) := by decide +kernel
theorem dX9_street_117 : decode cX9_street 117 = .ok (.aload_n 0, 1) := by decide +kernel
theorem dX9_street_118 : decode cX9_street 118 = .ok (.getfield 311, 3) := by decide +kernel
theorem dX9_street_121 : decode cX9_street 121 = .ok (.iload 4, 2) := by decide +kernel
theorem dX9_street_123 : decode cX9_street 123 = .ok (.iastore, 1) := by decide +kernel
theorem dX9_street_124 : decode cX9_street 124 = .ok (.aload_n 0, 1) := by decide +kernel
theorem dX9_street_125 : decode cX9_street 125 = .ok (.dup, 1) := by decide +kernel
theorem dX9_street_126 : decode cX9_street 126 = .ok (.getfield 311, 3) := by decide +kernel
theorem dX9_street_129 : decode cX9_street 129 = .ok (.iconst 1, 1) := by decide +kernel
theorem dX9_street_130 : decode cX9_street 130 = .ok (.iadd, 1) := by decide +kernel
theorem dX9_street_131 : decode cX9_street 131 = .ok (.putfield 311, 3) := by decide +kernel
theorem dX9_street_134 : decode cX9_street 134 = .ok (.aload_n 0, 1) := by decide +kernel
theorem dX9_street_135 : decode cX9_street 135 = .ok (.getfield 311, 3) := by decide +kernel
theorem dX9_street_138 : decode cX9_street 138 = .ok (.iconst 1, 1) := by decide +kernel
theorem dX9_street_139 : decode cX9_street 139 = .ok (.isub, 1) := by decide +kernel
theorem dX9_street_140 : decode cX9_street 140 = .ok (.ireturn, 1) := by decide +kernel
theorem dX9_streetsAt_0 : decode cX9_streetsAt 0 = .ok (.iconst 0, 1) := by decide +kernel
theorem dX9_streetsAt_1 : decode cX9_streetsAt 1 = .ok (.istore_n 2, 1) := by decide +kernel
theorem dX9_streetsAt_2 : decode cX9_streetsAt 2 = .ok (.iconst 0, 1) := by decide +kernel
theorem dX9_streetsAt_3 : decode cX9_streetsAt 3 = .ok (.istore_n 3, 1) := by decide +kernel
theorem dX9_streetsAt_4 : decode cX9_streetsAt 4 = .ok (.iload_n 3, 1) := by decide +kernel
theorem dX9_streetsAt_5 : decode cX9_streetsAt 5 = .ok (.aload_n 0, 1) := by decide +kernel
theorem dX9_streetsAt_6 : decode cX9_streetsAt 6 = .ok (.getfield 311, 3) := by decide +kernel
theorem dX9_streetsAt_9 : decode cX9_streetsAt 9 = .ok (.if_icmp .ge 37, 3) := by decide +kernel
theorem dX9_streetsAt_12 : decode cX9_streetsAt 12 = .ok (.iload_n 2, 1) := by decide +kernel
theorem dX9_streetsAt_13 : decode cX9_streetsAt 13 = .ok (.aload_n 0, 1) := by decide +kernel
theorem dX9_streetsAt_14 : decode cX9_streetsAt 14 = .ok (.getfield 137, 3) := by decide +kernel
theorem dX9_streetsAt_17 : decode cX9_streetsAt 17 = .ok (.iload_n 3, 1) := by decide +kernel
theorem dX9_streetsAt_18 : decode cX9_streetsAt 18 = .ok (.iaload, 1) := by decide +kernel
theorem dX9_streetsAt_19 : decode cX9_streetsAt 19 = .ok (.iload_n 1, 1) := by decide +kernel
theorem dX9_streetsAt_20 : decode cX9_streetsAt 20 = .ok (.if_icmp .eq 13, 3) := by decide +kernel
theorem dX9_streetsAt_23 : decode cX9_streetsAt 23 = .ok (.aload_n 0, 1) := by decide +kernel
theorem dX9_streetsAt_24 : decode cX9_streetsAt 24 = .ok (.getfield 140, 3) := by decide +kernel
theorem dX9_streetsAt_27 : decode cX9_streetsAt 27 = .ok (.iload_n 3, 1) := by decide +kernel
theorem dX9_streetsAt_28 : decode cX9_streetsAt 28 = .ok (.iaload, 1) := by decide +kernel
theorem dX9_streetsAt_29 : decode cX9_streetsAt 29 = .ok (.iload_n 1, 1) := by decide +kernel
theorem dX9_streetsAt_30 : decode cX9_streetsAt 30 = .ok (.if_icmp .ne 7, 3) := by decide +kernel
theorem dX9_streetsAt_33 : decode cX9_streetsAt 33 = .ok (.iconst 1, 1) := by decide +kernel
theorem dX9_streetsAt_34 : decode cX9_streetsAt 34 = .ok (.goto 4, 3) := by decide +kernel
theorem dX9_streetsAt_37 : decode cX9_streetsAt 37 = .ok (.iconst 0, 1) := by decide +kernel
theorem dX9_streetsAt_38 : decode cX9_streetsAt 38 = .ok (.iadd, 1) := by decide +kernel
theorem dX9_streetsAt_39 : decode cX9_streetsAt 39 = .ok (.istore_n 2, 1) := by decide +kernel
theorem dX9_streetsAt_40 : decode cX9_streetsAt 40 = .ok (.iinc 3 1, 3) := by decide +kernel
theorem dX9_streetsAt_43 : decode cX9_streetsAt 43 = .ok (.goto (-39), 3) := by decide +kernel
theorem dX9_streetsAt_46 : decode cX9_streetsAt 46 = .ok (.iload_n 2, 1) := by decide +kernel
theorem dX9_streetsAt_47 : decode cX9_streetsAt 47 = .ok (.ireturn, 1) := by decide +kernel
theorem dX9_close_0 : decode cX9_close 0 = .ok (.aload_n 0, 1) := by decide +kernel
theorem dX9_close_1 : decode cX9_close 1 = .ok (.iconst 0, 1) := by decide +kernel
theorem dX9_close_2 : decode cX9_close 2 = .ok (.putfield 1, 3) := by decide +kernel
theorem dX9_close_5 : decode cX9_close 5 = .ok (.iload_n 1, 1) := by decide +kernel
theorem dX9_close_6 : decode cX9_close 6 = .ok (.ifCond .lt 11, 3) := by decide +kernel
theorem dX9_close_9 : decode cX9_close 9 = .ok (.iload_n 1, 1) := by decide +kernel
theorem dX9_close_10 : decode cX9_close 10 = .ok (.aload_n 0, 1) := by decide +kernel
theorem dX9_close_11 : decode cX9_close 11 = .ok (.getfield 311, 3) := by decide +kernel
theorem dX9_close_14 : decode cX9_close 14 = .ok (.if_icmp .lt 5, 3) := by decide +kernel
theorem dX9_close_17 : decode cX9_close 17 = .ok (.iconst 0, 1) := by decide +kernel
theorem dX9_close_18 : decode cX9_close 18 = .ok (.ireturn, 1) := by decide +kernel
theorem dX9_close_19 : decode cX9_close 19 = .ok (.aload_n 0, 1) := by decide +kernel
theorem dX9_close_20 : decode cX9_close 20 = .ok (.getfield 149, 3) := by decide +kernel
theorem dX9_close_23 : decode cX9_close 23 = .ok (.iload_n 1, 1) := by decide +kernel
theorem dX9_close_24 : decode cX9_close 24 = .ok (.iload_n 2, 1) := by decide +kernel
theorem dX9_close_25 : decode cX9_close 25 = .ok (.bastore, 1) := by decide +kernel
theorem dX9_close_26 : decode cX9_close 26 = .ok (.iconst 1, 1) := by decide +kernel
theorem dX9_close_27 : decode cX9_close 27 = .ok (.ireturn, 1) := by decide +kernel
set_option maxRecDepth 20000 in
theorem ggX9_goes_X9_ends : GoodIn wsX9_goes wsX9_ends := goodIn_r _ [14, 1, 15, 16, 17, 18, 19, 20, 21, 22, 7, 26, 27, 28, 29, 30, 31, 32, 33, 34, 35, 36, 37, 38, 39, 40, 41, 42, 43, 44, 45, 46, 47, 48, 49, 50, 51, 52, 53, 54, 55, 56, 57, 58, 59, 60, 61, 62, 63, 64, 65, 66, 67, 68, 69, 70, 71, 72, 73, 74, 75, 76, 77, 78, 79, 80, 81, 82, 83, 84, 85, 86, 87] (by decide +kernel) (by decide +kernel)
set_option maxRecDepth 20000 in
theorem gX9_goes_X9_ends : GoodIn wsX9_goes (wsV RX9 320 RX9 yX9_ends wsX9_ends) := goodIn_app (goodIn_of _ (by decide +kernel)) ggX9_goes_X9_ends
set_option maxRecDepth 20000 in
theorem ggX9_goes_X9_goes : GoodIn wsX9_goes wsX9_goes := goodIn_r _ [0, 1, 2, 3, 4, 5, 6, 7, 8, 9, 10, 11, 12, 13, 14, 15, 16, 17, 18, 19, 20, 21, 22, 23, 24, 25, 26, 27, 28, 29, 30, 31, 32, 33, 34, 35, 36, 37, 38, 39, 40, 41, 42, 43, 44, 45, 46, 47, 48, 49, 50, 51, 52, 53, 54, 55, 56, 57, 58, 59, 60, 61, 62, 63, 64, 65, 66, 67, 68, 69, 70, 71, 72, 73, 74, 75, 76, 77, 78, 79, 80, 81, 82, 83, 84, 85, 86, 87] (by decide +kernel) (by decide +kernel)
set_option maxRecDepth 20000 in
theorem gX9_goes_X9_goes : GoodIn wsX9_goes (wsV RX9 323 RX9 yX9_goes wsX9_goes) := goodIn_app (goodIn_of _ (by decide +kernel)) ggX9_goes_X9_goes
theorem dX9_goes_0 : decode cX9_goes 0 = .ok (.iload_n 1, 1) := by decide +kernel
theorem dX9_goes_1 : decode cX9_goes 1 = .ok (.ifCond .ne 17, 3) := by decide +kernel
theorem dX9_goes_4 : decode cX9_goes 4 = .ok (.aload_n 0, 1) := by decide +kernel
theorem dX9_goes_5 : decode cX9_goes 5 = .ok (.getfield 317, 3) := by decide +kernel
theorem dX9_goes_8 : decode cX9_goes 8 = .ok (.ifCond .le 10, 3) := by decide +kernel
theorem dX9_goes_11 : decode cX9_goes 11 = .ok (.aload_n 0, 1) := by decide +kernel
theorem dX9_goes_12 : decode cX9_goes 12 = .ok (.iload_n 2, 1) := by decide +kernel
theorem dX9_goes_13 : decode cX9_goes 13 = .ok (.iload_n 3, 1) := by decide +kernel
theorem dX9_goes_14 : decode cX9_goes 14 = .ok (.invokevirtual 320, 3) := by decide +kernel
theorem dX9_goes_17 : decode cX9_goes 17 = .ok (.return_, 1) := by decide +kernel
theorem dX9_goes_18 : decode cX9_goes 18 = .ok (.iconst 0, 1) := by decide +kernel
theorem dX9_goes_19 : decode cX9_goes 19 = .ok (.istore 4, 2) := by decide +kernel
theorem dX9_goes_21 : decode cX9_goes 21 = .ok (.iload 4, 2) := by decide +kernel
theorem dX9_goes_23 : decode cX9_goes 23 = .ok (.aload_n 0, 1) := by decide +kernel
theorem dX9_goes_24 : decode cX9_goes 24 = .ok (.getfield 311, 3) := by decide +kernel
theorem dX9_goes_27 : decode cX9_goes 27 = .ok (.if_icmp .ge 157, 3) := by decide +kernel
theorem dX9_goes_30 : decode cX9_goes 30 = .ok (.aload_n 0, 1) := by decide +kernel
theorem dX9_goes_31 : decode cX9_goes 31 = .ok (.getfield 317, 3) := by decide +kernel
theorem dX9_goes_34 : decode cX9_goes 34 = .ok (.bipush 8, 2) := by decide +kernel
theorem dX9_goes_36 : decode cX9_goes 36 = .ok (.if_icmp .ge 148, 3) := by decide +kernel
theorem dX9_goes_39 : decode cX9_goes 39 = .ok (.aload_n 0, 1) := by decide +kernel
theorem dX9_goes_40 : decode cX9_goes 40 = .ok (.getfield 149, 3) := by decide +kernel
theorem dX9_goes_43 : decode cX9_goes 43 = .ok (.iload 4, 2) := by decide +kernel
theorem dX9_goes_45 : decode cX9_goes 45 = .ok (.baload, 1) := by decide +kernel
theorem dX9_goes_46 : decode cX9_goes 46 = .ok (.ifCond .ne 132, 3) := by decide +kernel
theorem dX9_goes_49 : decode cX9_goes 49 = .ok (.aload_n 0, 1) := by decide +kernel
theorem dX9_goes_50 : decode cX9_goes 50 = .ok (.getfield 152, 3) := by decide +kernel
theorem dX9_goes_53 : decode cX9_goes 53 = .ok (.iload 4, 2) := by decide +kernel
theorem dX9_goes_55 : decode cX9_goes 55 = .ok (.baload, 1) := by decide +kernel
theorem dX9_goes_56 : decode cX9_goes 56 = .ok (.ifCond .ne 122, 3) := by decide +kernel
theorem dX9_goes_59 : decode cX9_goes 59 = .ok (.aload_n 0, 1) := by decide +kernel
theorem dX9_goes_60 : decode cX9_goes 60 = .ok (.getfield 137, 3) := by decide +kernel
theorem dX9_goes_63 : decode cX9_goes 63 = .ok (.iload 4, 2) := by decide +kernel
theorem dX9_goes_65 : decode cX9_goes 65 = .ok (.iaload, 1) := by decide +kernel
theorem dX9_goes_66 : decode cX9_goes 66 = .ok (.iload_n 1, 1) := by decide +kernel
theorem dX9_goes_67 : decode cX9_goes 67 = .ok (.if_icmp .eq 14, 3) := by decide +kernel
theorem dX9_goes_70 : decode cX9_goes 70 = .ok (.aload_n 0, 1) := by decide +kernel
theorem dX9_goes_71 : decode cX9_goes 71 = .ok (.getfield 140, 3) := by decide +kernel
theorem dX9_goes_74 : decode cX9_goes 74 = .ok (.iload 4, 2) := by decide +kernel
theorem dX9_goes_76 : decode cX9_goes 76 = .ok (.iaload, 1) := by decide +kernel
theorem dX9_goes_77 : decode cX9_goes 77 = .ok (.iload_n 1, 1) := by decide +kernel
theorem dX9_goes_78 : decode cX9_goes 78 = .ok (.if_icmp .ne 100, 3) := by decide +kernel
theorem dX9_goes_81 : decode cX9_goes 81 = .ok (.aload_n 0, 1) := by decide +kernel
theorem dX9_goes_82 : decode cX9_goes 82 = .ok (.getfield 152, 3) := by decide +kernel
theorem dX9_goes_85 : decode cX9_goes 85 = .ok (.iload 4, 2) := by decide +kernel
theorem dX9_goes_87 : decode cX9_goes 87 = .ok (.iconst 1, 1) := by decide +kernel
theorem dX9_goes_88 : decode cX9_goes 88 = .ok (.bastore, 1) := by decide +kernel
theorem dX9_goes_89 : decode cX9_goes 89 = .ok (.aload_n 0, 1) := by decide +kernel
theorem dX9_goes_90 : decode cX9_goes 90 = .ok (.getfield 155, 3) := by decide +kernel
theorem dX9_goes_93 : decode cX9_goes 93 = .ok (.aload_n 0, 1) := by decide +kernel
theorem dX9_goes_94 : decode cX9_goes 94 = .ok (.getfield 317, 3) := by decide +kernel
theorem dX9_goes_97 : decode cX9_goes 97 = .ok (.iload 4, 2) := by decide +kernel
theorem dX9_goes_99 : decode cX9_goes 99 = .ok (.iastore, 1) := by decide +kernel
theorem dX9_goes_100 : decode cX9_goes 100 = .ok (.aload_n 0, 1) := by decide +kernel
theorem dX9_goes_101 : decode cX9_goes 101 = .ok (.dup, 1) := by decide +kernel
theorem dX9_goes_102 : decode cX9_goes 102 = .ok (.getfield 317, 3) := by decide +kernel
theorem dX9_goes_105 : decode cX9_goes 105 = .ok (.iconst 1, 1) := by decide +kernel
theorem dX9_goes_106 : decode cX9_goes 106 = .ok (.iadd, 1) := by decide +kernel
theorem dX9_goes_107 : decode cX9_goes 107 = .ok (.putfield 317, 3) := by decide +kernel
theorem dX9_goes_110 : decode cX9_goes 110 = .ok (.aload_n 0, 1) := by decide +kernel
theorem dX9_goes_111 : decode cX9_goes 111 = .ok (.aload_n 0, 1) := by decide +kernel
theorem dX9_goes_112 : decode cX9_goes 112 = .ok (.getfield 137, 3) := by decide +kernel
theorem dX9_goes_115 : decode cX9_goes 115 = .ok (.iload 4, 2) := by decide +kernel
theorem dX9_goes_117 : decode cX9_goes 117 = .ok (.iaload, 1) := by decide +kernel
theorem dX9_goes_118 : decode cX9_goes 118 = .ok (.iload_n 1, 1) := by decide +kernel
theorem dX9_goes_119 : decode cX9_goes 119 = .ok (.if_icmp .ne 13, 3) := by decide +kernel
theorem dX9_goes_122 : decode cX9_goes 122 = .ok (.aload_n 0, 1) := by decide +kernel
theorem dX9_goes_123 : decode cX9_goes 123 = .ok (.getfield 140, 3) := by decide +kernel
theorem dX9_goes_126 : decode cX9_goes 126 = .ok (.iload 4, 2) := by decide +kernel
theorem dX9_goes_128 : decode cX9_goes 128 = .ok (.iaload, 1) := by decide +kernel
theorem dX9_goes_129 : decode cX9_goes 129 = .ok (.goto 10, 3) := by decide +kernel
theorem dX9_goes_132 : decode cX9_goes 132 = .ok (.aload_n 0, 1) := by decide +kernel
theorem dX9_goes_133 : decode cX9_goes 133 = .ok (.getfield 137, 3) := by decide +kernel
theorem dX9_goes_136 : decode cX9_goes 136 = .ok (.iload 4, 2) := by decide +kernel
theorem dX9_goes_138 : decode cX9_goes 138 = .ok (.iaload, 1) := by decide +kernel
theorem dX9_goes_139 : decode cX9_goes 139 = .ok (.iload_n 2, 1) := by decide +kernel
theorem dX9_goes_140 : decode cX9_goes 140 = .ok (.aload_n 0, 1) := by decide +kernel
theorem dX9_goes_141 : decode cX9_goes 141 = .ok (.getfield 143, 3) := by decide +kernel
theorem dX9_goes_144 : decode cX9_goes 144 = .ok (.iload 4, 2) := by decide +kernel
theorem dX9_goes_146 : decode cX9_goes 146 = .ok (.iaload, 1) := by decide +kernel
theorem dX9_goes_147 : decode cX9_goes 147 = .ok (.iadd, 1) := by decide +kernel
theorem dX9_goes_148 : decode cX9_goes 148 = .ok (.iload_n 3, 1) := by decide +kernel
theorem dX9_goes_149 : decode cX9_goes 149 = .ok (.aload_n 0, 1) := by decide +kernel
theorem dX9_goes_150 : decode cX9_goes 150 = .ok (.getfield 146, 3) := by decide +kernel
theorem dX9_goes_153 : decode cX9_goes 153 = .ok (.iload 4, 2) := by decide +kernel
theorem dX9_goes_155 : decode cX9_goes 155 = .ok (.iaload, 1) := by decide +kernel
theorem dX9_goes_156 : decode cX9_goes 156 = .ok (.ior, 1) := by decide +kernel
theorem dX9_goes_157 : decode cX9_goes 157 = .ok (.invokevirtual 323, 3) := by decide +kernel
theorem dX9_goes_160 : decode cX9_goes 160 = .ok (.aload_n 0, 1) := by decide +kernel
theorem dX9_goes_161 : decode cX9_goes 161 = .ok (.dup, 1) := by decide +kernel
theorem dX9_goes_162 : decode cX9_goes 162 = .ok (.getfield 317, 3) := by decide +kernel
theorem dX9_goes_165 : decode cX9_goes 165 = .ok (.iconst 1, 1) := by decide +kernel
theorem dX9_goes_166 : decode cX9_goes 166 = .ok (.isub, 1) := by decide +kernel
theorem dX9_goes_167 : decode cX9_goes 167 = .ok (.putfield 317, 3) := by decide +kernel
theorem dX9_goes_170 : decode cX9_goes 170 = .ok (.aload_n 0, 1) := by decide +kernel
theorem dX9_goes_171 : decode cX9_goes 171 = .ok (.getfield 152, 3) := by decide +kernel
theorem dX9_goes_174 : decode cX9_goes 174 = .ok (.iload 4, 2) := by decide +kernel
theorem dX9_goes_176 : decode cX9_goes 176 = .ok (.iconst 0, 1) := by decide +kernel
theorem dX9_goes_177 : decode cX9_goes 177 = .ok (.bastore, 1) := by decide +kernel
theorem dX9_goes_178 : decode cX9_goes 178 = .ok (.iinc 4 1, 3) := by decide +kernel
theorem dX9_goes_181 : decode cX9_goes 181 = .ok (.goto (-160), 3) := by decide +kernel
theorem dX9_goes_184 : decode cX9_goes 184 = .ok (.return_, 1) := by decide +kernel
theorem dX9_ends_0 : decode cX9_ends 0 = .ok (.aload_n 0, 1) := by decide +kernel
theorem dX9_ends_1 : decode cX9_ends 1 = .ok (.getfield 317, 3) := by decide +kernel
theorem dX9_ends_4 : decode cX9_ends 4 = .ok (.iconst 2, 1) := by decide +kernel
theorem dX9_ends_5 : decode cX9_ends 5 = .ok (.if_icmp .lt 32, 3) := by decide +kernel
theorem dX9_ends_8 : decode cX9_ends 8 = .ok (.iload_n 1, 1) := by decide +kernel
theorem dX9_ends_9 : decode cX9_ends 9 = .ok (.aload_n 0, 1) := by decide +kernel
theorem dX9_ends_10 : decode cX9_ends 10 = .ok (.getfield 327, 3) := by decide +kernel
theorem dX9_ends_13 : decode cX9_ends 13 = .ok (.if_icmp .lt 24, 3) := by decide +kernel
theorem dX9_ends_16 : decode cX9_ends 16 = .ok (.iload_n 1, 1) := by decide +kernel
theorem dX9_ends_17 : decode cX9_ends 17 = .ok (.aload_n 0, 1) := by decide +kernel
theorem dX9_ends_18 : decode cX9_ends 18 = .ok (.getfield 330, 3) := by decide +kernel
theorem dX9_ends_21 : decode cX9_ends 21 = .ok (.if_icmp .gt 16, 3) := by decide +kernel
theorem dX9_ends_24 : decode cX9_ends 24 = .ok (.iload_n 2, 1) := by decide +kernel
theorem dX9_ends_25 : decode cX9_ends 25 = .ok (.aload_n 0, 1) := by decide +kernel
theorem dX9_ends_26 : decode cX9_ends 26 = .ok (.getfield 333, 3) := by decide +kernel
theorem dX9_ends_29 : decode cX9_ends 29 = .ok (.iand, 1) := by decide +kernel
theorem dX9_ends_30 : decode cX9_ends 30 = .ok (.aload_n 0, 1) := by decide +kernel
theorem dX9_ends_31 : decode cX9_ends 31 = .ok (.getfield 333, 3) := by decide +kernel
theorem dX9_ends_34 : decode cX9_ends 34 = .ok (.if_icmp .eq 4, 3) := by decide +kernel
theorem dX9_ends_37 : decode cX9_ends 37 = .ok (.return_, 1) := by decide +kernel
theorem dX9_ends_38 : decode cX9_ends 38 = .ok (.aload_n 0, 1) := by decide +kernel
theorem dX9_ends_39 : decode cX9_ends 39 = .ok (.getfield 336, 3) := by decide +kernel
theorem dX9_ends_42 : decode cX9_ends 42 = .ok (.aload_n 0, 1) := by decide +kernel
theorem dX9_ends_43 : decode cX9_ends 43 = .ok (.getfield 339, 3) := by decide +kernel
theorem dX9_ends_46 : decode cX9_ends 46 = .ok (.if_icmp .ne 44, 3) := by decide +kernel
theorem dX9_ends_49 : decode cX9_ends 49 = .ok (.aload_n 0, 1) := by decide +kernel
theorem dX9_ends_50 : decode cX9_ends 50 = .ok (.aload_n 0, 1) := by decide +kernel
theorem dX9_ends_51 : decode cX9_ends 51 = .ok (.getfield 317, 3) := by decide +kernel
theorem dX9_ends_54 : decode cX9_ends 54 = .ok (.putfield 342, 3) := by decide +kernel
theorem dX9_ends_57 : decode cX9_ends 57 = .ok (.aload_n 0, 1) := by decide +kernel
theorem dX9_ends_58 : decode cX9_ends 58 = .ok (.iload_n 1, 1) := by decide +kernel
theorem dX9_ends_59 : decode cX9_ends 59 = .ok (.putfield 345, 3) := by decide +kernel
theorem dX9_ends_62 : decode cX9_ends 62 = .ok (.iconst 0, 1) := by decide +kernel
theorem dX9_ends_63 : decode cX9_ends 63 = .ok (.istore_n 3, 1) := by decide +kernel
theorem dX9_ends_64 : decode cX9_ends 64 = .ok (.iload_n 3, 1) := by decide +kernel
theorem dX9_ends_65 : decode cX9_ends 65 = .ok (.aload_n 0, 1) := by decide +kernel
theorem dX9_ends_66 : decode cX9_ends 66 = .ok (.getfield 317, 3) := by decide +kernel
theorem dX9_ends_69 : decode cX9_ends 69 = .ok (.if_icmp .ge 21, 3) := by decide +kernel
theorem dX9_ends_72 : decode cX9_ends 72 = .ok (.aload_n 0, 1) := by decide +kernel
theorem dX9_ends_73 : decode cX9_ends 73 = .ok (.getfield 158, 3) := by decide +kernel
theorem dX9_ends_76 : decode cX9_ends 76 = .ok (.iload_n 3, 1) := by decide +kernel
theorem dX9_ends_77 : decode cX9_ends 77 = .ok (.aload_n 0, 1) := by decide +kernel
theorem dX9_ends_78 : decode cX9_ends 78 = .ok (.getfield 155, 3) := by decide +kernel
theorem dX9_ends_81 : decode cX9_ends 81 = .ok (.iload_n 3, 1) := by decide +kernel
theorem dX9_ends_82 : decode cX9_ends 82 = .ok (.iaload, 1) := by decide +kernel
theorem dX9_ends_83 : decode cX9_ends 83 = .ok (.iastore, 1) := by decide +kernel
theorem dX9_ends_84 : decode cX9_ends 84 = .ok (.iinc 3 1, 3) := by decide +kernel
theorem dX9_ends_87 : decode cX9_ends 87 = .ok (.goto (-23), 3) := by decide +kernel
theorem dX9_ends_90 : decode cX9_ends 90 = .ok (.aload_n 0, 1) := by decide +kernel
theorem dX9_ends_91 : decode cX9_ends 91 = .ok (.dup, 1) := by decide +kernel
theorem dX9_ends_92 : decode cX9_ends 92 = .ok (.getfield 336, 3) := by decide +kernel
theorem dX9_ends_95 : decode cX9_ends 95 = .ok (.iconst 1, 1) := by decide +kernel
theorem dX9_ends_96 : decode cX9_ends 96 = .ok (.iadd, 1) := by decide +kernel
theorem dX9_ends_97 : decode cX9_ends 97 = .ok (.putfield 336, 3) := by decide +kernel
theorem dX9_ends_100 : decode cX9_ends 100 = .ok (.return_, 1) := by decide +kernel
set_option maxRecDepth 20000 in
theorem ggX9_countAll_X9_goes : GoodIn wsX9_countAll wsX9_goes := goodIn_r _ [11, 6, 12, 13, 14, 15, 16, 17, 18, 19, 20, 21, 22, 10, 23, 1, 2, 3, 5, 4, 24, 25, 26, 7, 8, 9, 27, 28, 29, 30, 31, 32, 33, 34, 35, 36, 37, 38, 39, 40, 41, 42, 43, 44, 45, 46, 47, 48, 49, 50, 51, 52, 53, 54, 55, 56, 57, 58, 59, 60, 61, 62, 63, 64, 65, 66, 67, 68, 69, 70, 71, 72, 73, 74, 75, 76, 77, 78, 79, 80, 81, 82, 83, 84, 85, 86, 87, 88] (by decide +kernel) (by decide +kernel)
set_option maxRecDepth 20000 in
theorem gX9_countAll_X9_goes : GoodIn wsX9_countAll (wsV RX9 323 RX9 yX9_goes wsX9_goes) := goodIn_app (goodIn_of _ (by decide +kernel)) ggX9_countAll_X9_goes
theorem dX9_countAll_0 : decode cX9_countAll 0 = .ok (.aload_n 0, 1) := by decide +kernel
theorem dX9_countAll_1 : decode cX9_countAll 1 = .ok (.iload_n 1, 1) := by decide +kernel
theorem dX9_countAll_2 : decode cX9_countAll 2 = .ok (.putfield 327, 3) := by decide +kernel
theorem dX9_countAll_5 : decode cX9_countAll 5 = .ok (.aload_n 0, 1) := by decide +kernel
theorem dX9_countAll_6 : decode cX9_countAll 6 = .ok (.iload_n 2, 1) := by decide +kernel
theorem dX9_countAll_7 : decode cX9_countAll 7 = .ok (.putfield 330, 3) := by decide +kernel
theorem dX9_countAll_10 : decode cX9_countAll 10 = .ok (.aload_n 0, 1) := by decide +kernel
theorem dX9_countAll_11 : decode cX9_countAll 11 = .ok (.iload_n 3, 1) := by decide +kernel
theorem dX9_countAll_12 : decode cX9_countAll 12 = .ok (.putfield 333, 3) := by decide +kernel
theorem dX9_countAll_15 : decode cX9_countAll 15 = .ok (.aload_n 0, 1) := by decide +kernel
theorem dX9_countAll_16 : decode cX9_countAll 16 = .ok (.iload 4, 2) := by decide +kernel
theorem dX9_countAll_18 : decode cX9_countAll 18 = .ok (.putfield 339, 3) := by decide +kernel
theorem dX9_countAll_21 : decode cX9_countAll 21 = .ok (.aload_n 0, 1) := by decide +kernel
theorem dX9_countAll_22 : decode cX9_countAll 22 = .ok (.iconst 0, 1) := by decide +kernel
theorem dX9_countAll_23 : decode cX9_countAll 23 = .ok (.putfield 336, 3) := by decide +kernel
theorem dX9_countAll_26 : decode cX9_countAll 26 = .ok (.aload_n 0, 1) := by decide +kernel
theorem dX9_countAll_27 : decode cX9_countAll 27 = .ok (.iconst 0, 1) := by decide +kernel
theorem dX9_countAll_28 : decode cX9_countAll 28 = .ok (.putfield 317, 3) := by decide +kernel
theorem dX9_countAll_31 : decode cX9_countAll 31 = .ok (.aload_n 0, 1) := by decide +kernel
theorem dX9_countAll_32 : decode cX9_countAll 32 = .ok (.iconst 0, 1) := by decide +kernel
theorem dX9_countAll_33 : decode cX9_countAll 33 = .ok (.iconst 0, 1) := by decide +kernel
theorem dX9_countAll_34 : decode cX9_countAll 34 = .ok (.iconst 0, 1) := by decide +kernel
theorem dX9_countAll_35 : decode cX9_countAll 35 = .ok (.invokevirtual 323, 3) := by decide +kernel
theorem dX9_countAll_38 : decode cX9_countAll 38 = .ok (.aload_n 0, 1) := by decide +kernel
theorem dX9_countAll_39 : decode cX9_countAll 39 = .ok (.getfield 336, 3) := by decide +kernel
theorem dX9_countAll_42 : decode cX9_countAll 42 = .ok (.ireturn, 1) := by decide +kernel
theorem dX9_areNumbers_0 : decode cX9_areNumbers 0 = .ok (.iload_n 0, 1) := by decide +kernel
theorem dX9_areNumbers_1 : decode cX9_areNumbers 1 = .ok (.ifCond .lt 36, 3) := by decide +kernel
theorem dX9_areNumbers_4 : decode cX9_areNumbers 4 = .ok (.iload_n 0, 1) := by decide +kernel
theorem dX9_areNumbers_5 : decode cX9_areNumbers 5 = .ok (.sipush 240, 3) := by decide +kernel
theorem dX9_areNumbers_8 : decode cX9_areNumbers 8 = .ok (.if_icmp .gt 29, 3) := by decide +kernel
theorem dX9_areNumbers_11 : decode cX9_areNumbers 11 = .ok (.iload_n 1, 1) := by decide +kernel
theorem dX9_areNumbers_12 : decode cX9_areNumbers 12 = .ok (.ifCond .lt 25, 3) := by decide +kernel
theorem dX9_areNumbers_15 : decode cX9_areNumbers 15 = .ok (.iload_n 1, 1) := by decide +kernel
theorem dX9_areNumbers_16 : decode cX9_areNumbers 16 = .ok (.sipush 240, 3) := by decide +kernel
theorem dX9_areNumbers_19 : decode cX9_areNumbers 19 = .ok (.if_icmp .gt 18, 3) := by decide +kernel
theorem dX9_areNumbers_22 : decode cX9_areNumbers 22 = .ok (.iload_n 2, 1) := by decide +kernel
theorem dX9_areNumbers_23 : decode cX9_areNumbers 23 = .ok (.ifCond .lt 14, 3) := by decide +kernel
theorem dX9_areNumbers_26 : decode cX9_areNumbers 26 = .ok (.iload_n 2, 1) := by decide +kernel
theorem dX9_areNumbers_27 : decode cX9_areNumbers 27 = .ok (.sipush 255, 3) := by decide +kernel
theorem dX9_areNumbers_30 : decode cX9_areNumbers 30 = .ok (.if_icmp .gt 7, 3) := by decide +kernel
theorem dX9_areNumbers_33 : decode cX9_areNumbers 33 = .ok (.iconst 1, 1) := by decide +kernel
theorem dX9_areNumbers_34 : decode cX9_areNumbers 34 = .ok (.goto 4, 3) := by decide +kernel
theorem dX9_areNumbers_37 : decode cX9_areNumbers 37 = .ok (.iconst 0, 1) := by decide +kernel
theorem dX9_areNumbers_38 : decode cX9_areNumbers 38 = .ok (.ireturn, 1) := by decide +kernel
set_option maxRecDepth 20000 in
theorem ggX9_routes_X9_areNumbers : GoodIn wsX9_routes wsX9_areNumbers := goodIn_r _ [5] (by decide +kernel) (by decide +kernel)
set_option maxRecDepth 20000 in
theorem gX9_routes_X9_areNumbers : GoodIn wsX9_routes (va_wsS RX9 348 yX9_areNumbers wsX9_areNumbers) := goodIn_app (goodIn_of _ (by decide +kernel)) ggX9_routes_X9_areNumbers
set_option maxRecDepth 20000 in
theorem ggX9_routes_X9_countAll : GoodIn wsX9_routes wsX9_countAll := goodIn_r _ [9, 10, 11, 12, 13, 14, 15, 16, 17, 18, 4, 19, 20, 21, 22, 23, 24, 25, 26, 27, 28, 29, 30, 31, 32, 33, 34, 35, 36, 37, 38, 39, 40, 41, 42, 43, 44, 45, 46, 47, 48, 49, 50, 51, 52, 53, 54, 55, 56, 57, 58, 59, 60, 61, 62, 63, 64, 65, 66, 67, 68, 69, 70, 71, 72, 73, 74, 75, 76, 77, 78, 79, 80, 81, 82, 83, 84, 85, 86, 87, 88, 89, 90, 91, 92, 93, 94, 95, 96] (by decide +kernel) (by decide +kernel)
set_option maxRecDepth 20000 in
theorem gX9_routes_X9_countAll : GoodIn wsX9_routes (wsV RX9 351 RX9 yX9_countAll wsX9_countAll) := goodIn_app (goodIn_of _ (by decide +kernel)) ggX9_routes_X9_countAll
theorem dX9_routes_0 : decode cX9_routes 0 = .ok (.aload_n 0, 1) := by decide +kernel
theorem dX9_routes_1 : decode cX9_routes 1 = .ok (.iconst 0, 1) := by decide +kernel
theorem dX9_routes_2 : decode cX9_routes 2 = .ok (.putfield 1, 3) := by decide +kernel
theorem dX9_routes_5 : decode cX9_routes 5 = .ok (.iload_n 1, 1) := by decide +kernel
theorem dX9_routes_6 : decode cX9_routes 6 = .ok (.iload_n 2, 1) := by decide +kernel
theorem dX9_routes_7 : decode cX9_routes 7 = .ok (.iload_n 3, 1) := by decide +kernel
theorem dX9_routes_8 : decode cX9_routes 8 = .ok (.invokestatic 348, 3) := by decide +kernel
theorem dX9_routes_11 : decode cX9_routes 11 = .ok (.ifCond .eq 14, 3) := by decide +kernel
theorem dX9_routes_14 : decode cX9_routes 14 = .ok (.aload_n 0, 1) := by decide +kernel
theorem dX9_routes_15 : decode cX9_routes 15 = .ok (.iload_n 1, 1) := by decide +kernel
theorem dX9_routes_16 : decode cX9_routes 16 = .ok (.iload_n 2, 1) := by decide +kernel
theorem dX9_routes_17 : decode cX9_routes 17 = .ok (.iload_n 3, 1) := by decide +kernel
theorem dX9_routes_18 : decode cX9_routes 18 = .ok (.iconst (-1), 1) := by decide +kernel
theorem dX9_routes_19 : decode cX9_routes 19 = .ok (.invokevirtual 351, 3) := by decide +kernel
theorem dX9_routes_22 : decode cX9_routes 22 = .ok (.goto 4, 3) := by decide +kernel
theorem dX9_routes_25 : decode cX9_routes 25 = .ok (.iconst (-1), 1) := by decide +kernel
theorem dX9_routes_26 : decode cX9_routes 26 = .ok (.ireturn, 1) := by decide +kernel
set_option maxRecDepth 20000 in
theorem ggX9_route_X9_areNumbers : GoodIn wsX9_route wsX9_areNumbers := goodIn_r _ [6] (by decide +kernel) (by decide +kernel)
set_option maxRecDepth 20000 in
theorem gX9_route_X9_areNumbers : GoodIn wsX9_route (va_wsS RX9 348 yX9_areNumbers wsX9_areNumbers) := goodIn_app (goodIn_of _ (by decide +kernel)) ggX9_route_X9_areNumbers
set_option maxRecDepth 20000 in
theorem ggX9_route_X9_countAll : GoodIn wsX9_route wsX9_countAll := goodIn_r _ [10, 11, 12, 13, 14, 15, 16, 17, 18, 19, 5, 20, 21, 22, 23, 24, 25, 26, 27, 28, 29, 30, 31, 32, 33, 2, 34, 35, 36, 37, 38, 39, 40, 41, 42, 43, 44, 45, 46, 47, 48, 49, 50, 51, 52, 53, 54, 55, 56, 57, 58, 59, 60, 61, 62, 63, 64, 65, 66, 67, 68, 69, 70, 71, 72, 73, 74, 75, 76, 77, 78, 79, 80, 81, 82, 83, 84, 85, 86, 87, 88, 89, 90, 91, 92, 93, 94, 95, 96] (by decide +kernel) (by decide +kernel)
set_option maxRecDepth 20000 in
theorem gX9_route_X9_countAll : GoodIn wsX9_route (wsV RX9 351 RX9 yX9_countAll wsX9_countAll) := goodIn_app (goodIn_of _ (by decide +kernel)) ggX9_route_X9_countAll
theorem dX9_route_0 : decode cX9_route 0 = .ok (.aload_n 0, 1) := by decide +kernel
theorem dX9_route_1 : decode cX9_route 1 = .ok (.iconst 0, 1) := by decide +kernel
theorem dX9_route_2 : decode cX9_route 2 = .ok (.putfield 1, 3) := by decide +kernel
theorem dX9_route_5 : decode cX9_route 5 = .ok (.iload_n 1, 1) := by decide +kernel
theorem dX9_route_6 : decode cX9_route 6 = .ok (.iload_n 2, 1) := by decide +kernel
theorem dX9_route_7 : decode cX9_route 7 = .ok (.iload_n 3, 1) := by decide +kernel
theorem dX9_route_8 : decode cX9_route 8 = .ok (.invokestatic 348, 3) := by decide +kernel
theorem dX9_route_11 : decode cX9_route 11 = .ok (.ifCond .eq 8, 3) := by decide +kernel
theorem dX9_route_14 : decode cX9_route 14 = .ok (.iload 4, 2) := by decide +kernel
theorem dX9_route_16 : decode cX9_route 16 = .ok (.ifCond .ge 5, 3) := by decide +kernel
theorem dX9_route_19 : decode cX9_route 19 = .ok (.iconst (-1), 1) := by decide +kernel
theorem dX9_route_20 : decode cX9_route 20 = .ok (.ireturn, 1) := by decide +kernel
theorem dX9_route_21 : decode cX9_route 21 = .ok (.aload_n 0, 1) := by decide +kernel
theorem dX9_route_22 : decode cX9_route 22 = .ok (.iload_n 1, 1) := by decide +kernel
theorem dX9_route_23 : decode cX9_route 23 = .ok (.iload_n 2, 1) := by decide +kernel
theorem dX9_route_24 : decode cX9_route 24 = .ok (.iload_n 3, 1) := by decide +kernel
theorem dX9_route_25 : decode cX9_route 25 = .ok (.iconst (-1), 1) := by decide +kernel
theorem dX9_route_26 : decode cX9_route 26 = .ok (.invokevirtual 351, 3) := by decide +kernel
theorem dX9_route_29 : decode cX9_route 29 = .ok (.istore 5, 2) := by decide +kernel
theorem dX9_route_31 : decode cX9_route 31 = .ok (.iload 5, 2) := by decide +kernel
theorem dX9_route_33 : decode cX9_route 33 = .ok (.ifCond .ne 5, 3) := by decide +kernel
theorem dX9_route_36 : decode cX9_route 36 = .ok (.iconst (-1), 1) := by decide +kernel
theorem dX9_route_37 : decode cX9_route 37 = .ok (.ireturn, 1) := by decide +kernel
theorem dX9_route_38 : decode cX9_route 38 = .ok (.aload_n 0, 1) := by decide +kernel
theorem dX9_route_39 : decode cX9_route 39 = .ok (.iload_n 1, 1) := by decide +kernel
theorem dX9_route_40 : decode cX9_route 40 = .ok (.iload_n 2, 1) := by decide +kernel
theorem dX9_route_41 : decode cX9_route 41 = .ok (.iload_n 3, 1) := by decide +kernel
theorem dX9_route_42 : decode cX9_route 42 = .ok (.iload 4, 2) := by decide +kernel
theorem dX9_route_44 : decode cX9_route 44 = .ok (.iload 5, 2) := by decide +kernel
theorem dX9_route_46 : decode cX9_route 46 = .ok (.irem, 1) := by decide +kernel
theorem dX9_route_47 : decode cX9_route 47 = .ok (.invokevirtual 351, 3) := by decide +kernel
theorem dX9_route_50 : decode cX9_route 50 = .ok (.istore 6, 2) := by decide +kernel
theorem dX9_route_52 : decode cX9_route 52 = .ok (.aload_n 0, 1) := by decide +kernel
theorem dX9_route_53 : decode cX9_route 53 = .ok (.getfield 345, 3) := by decide +kernel
theorem dX9_route_56 : decode cX9_route 56 = .ok (.ireturn, 1) := by decide +kernel
theorem dX9_part__0 : decode cX9_part_ 0 = .ok (.aload_n 0, 1) := by decide +kernel
theorem dX9_part__1 : decode cX9_part_ 1 = .ok (.iconst 0, 1) := by decide +kernel
theorem dX9_part__2 : decode cX9_part_ 2 = .ok (.putfield 1, 3) := by decide +kernel
theorem dX9_part__5 : decode cX9_part_ 5 = .ok (.iload_n 1, 1) := by decide +kernel
theorem dX9_part__6 : decode cX9_part_ 6 = .ok (.ifCond .lt 11, 3) := by decide +kernel
theorem dX9_part__9 : decode cX9_part_ 9 = .ok (.iload_n 1, 1) := by decide +kernel
theorem dX9_part__10 : decode cX9_part_ 10 = .ok (.aload_n 0, 1) := by decide +kernel
theorem dX9_part__11 : decode cX9_part_ 11 = .ok (.getfield 342, 3) := by decide +kernel
theorem dX9_part__14 : decode cX9_part_ 14 = .ok (.if_icmp .lt 7, 3) := by decide +kernel
theorem dX9_part__17 : decode cX9_part_ 17 = .ok (.iconst (-1), 1) := by decide +kernel
theorem dX9_part__18 : decode cX9_part_ 18 = .ok (.goto 9, 3) := by decide +kernel
theorem dX9_part__21 : decode cX9_part_ 21 = .ok (.aload_n 0, 1) := by decide +kernel
theorem dX9_part__22 : decode cX9_part_ 22 = .ok (.getfield 158, 3) := by decide +kernel
theorem dX9_part__25 : decode cX9_part_ 25 = .ok (.iload_n 1, 1) := by decide +kernel
theorem dX9_part__26 : decode cX9_part_ 26 = .ok (.iaload, 1) := by decide +kernel
theorem dX9_part__27 : decode cX9_part_ 27 = .ok (.ireturn, 1) := by decide +kernel
theorem dX9_differs_0 : decode cX9_differs 0 = .ok (.aload_n 0, 1) := by decide +kernel
theorem dX9_differs_1 : decode cX9_differs 1 = .ok (.iconst 0, 1) := by decide +kernel
theorem dX9_differs_2 : decode cX9_differs 2 = .ok (.putfield 1, 3) := by decide +kernel
theorem dX9_differs_5 : decode cX9_differs 5 = .ok (.iload_n 1, 1) := by decide +kernel
theorem dX9_differs_6 : decode cX9_differs 6 = .ok (.ifCond .lt 21, 3) := by decide +kernel
theorem dX9_differs_9 : decode cX9_differs 9 = .ok (.iload_n 1, 1) := by decide +kernel
theorem dX9_differs_10 : decode cX9_differs 10 = .ok (.aload_n 0, 1) := by decide +kernel
theorem dX9_differs_11 : decode cX9_differs 11 = .ok (.getfield 249, 3) := by decide +kernel
theorem dX9_differs_14 : decode cX9_differs 14 = .ok (.if_icmp .ge 13, 3) := by decide +kernel
theorem dX9_differs_17 : decode cX9_differs 17 = .ok (.iload_n 2, 1) := by decide +kernel
theorem dX9_differs_18 : decode cX9_differs 18 = .ok (.ifCond .lt 9, 3) := by decide +kernel
theorem dX9_differs_21 : decode cX9_differs 21 = .ok (.iload_n 2, 1) := by decide +kernel
theorem dX9_differs_22 : decode cX9_differs 22 = .ok (.bipush 100, 2) := by decide +kernel
theorem dX9_differs_24 : decode cX9_differs 24 = .ok (.if_icmp .le 6, 3) := by decide +kernel
theorem dX9_differs_27 : decode cX9_differs 27 = .ok (.bipush (-2), 2) := by decide +kernel
theorem dX9_differs_29 : decode cX9_differs 29 = .ok (.ireturn, 1) := by decide +kernel
theorem dX9_differs_30 : decode cX9_differs 30 = .ok (.lconst 0, 1) := by decide +kernel
theorem dX9_differs_31 : decode cX9_differs 31 = .ok (.lstore_n 3, 1) := by decide +kernel
theorem dX9_differs_32 : decode cX9_differs 32 = .ok (.lconst 0, 1) := by decide +kernel
theorem dX9_differs_33 : decode cX9_differs 33 = .ok (.lstore 5, 2) := by decide +kernel
theorem dX9_differs_35 : decode cX9_differs 35 = .ok (.iconst 0, 1) := by decide +kernel
theorem dX9_differs_36 : decode cX9_differs 36 = .ok (.istore 7, 2) := by decide +kernel
theorem dX9_differs_38 : decode cX9_differs 38 = .ok (.iload 7, 2) := by decide +kernel
theorem dX9_differs_40 : decode cX9_differs 40 = .ok (.aload_n 0, 1) := by decide +kernel
theorem dX9_differs_41 : decode cX9_differs 41 = .ok (.getfield 249, 3) := by decide +kernel
theorem dX9_differs_44 : decode cX9_differs 44 = .ok (.if_icmp .ge 53, 3) := by decide +kernel
theorem dX9_differs_47 : decode cX9_differs 47 = .ok (.lload_n 3, 1) := by decide +kernel
theorem dX9_differs_48 : decode cX9_differs 48 = .ok (.iload 7, 2) := by decide +kernel
theorem dX9_differs_50 : decode cX9_differs 50 = .ok (.iload_n 1, 1) := by decide +kernel
theorem dX9_differs_51 : decode cX9_differs 51 = .ok (.if_icmp .ne 7, 3) := by decide +kernel
theorem dX9_differs_54 : decode cX9_differs 54 = .ok (.lconst 0, 1) := by decide +kernel
theorem dX9_differs_55 : decode cX9_differs 55 = .ok (.goto 11, 3) := by decide +kernel
theorem dX9_differs_58 : decode cX9_differs 58 = .ok (.aload_n 0, 1) := by decide +kernel
theorem dX9_differs_59 : decode cX9_differs 59 = .ok (.getfield 92, 3) := by decide +kernel
theorem dX9_differs_62 : decode cX9_differs 62 = .ok (.iload 7, 2) := by decide +kernel
theorem dX9_differs_64 : decode cX9_differs 64 = .ok (.iaload, 1) := by decide +kernel
theorem dX9_differs_65 : decode cX9_differs 65 = .ok (.i2l, 1) := by decide +kernel
theorem dX9_differs_66 : decode cX9_differs 66 = .ok (.ladd, 1) := by decide +kernel
theorem dX9_differs_67 : decode cX9_differs 67 = .ok (.lstore_n 3, 1) := by decide +kernel
theorem dX9_differs_68 : decode cX9_differs 68 = .ok (.lload 5, 2) := by decide +kernel
theorem dX9_differs_70 : decode cX9_differs 70 = .ok (.iload 7, 2) := by decide +kernel
theorem dX9_differs_72 : decode cX9_differs 72 = .ok (.iload_n 1, 1) := by decide +kernel
theorem dX9_differs_73 : decode cX9_differs 73 = .ok (.if_icmp .ne 7, 3) := by decide +kernel
theorem dX9_differs_76 : decode cX9_differs 76 = .ok (.lconst 0, 1) := by decide +kernel
theorem dX9_differs_77 : decode cX9_differs 77 = .ok (.goto 11, 3) := by decide +kernel
theorem dX9_differs_80 : decode cX9_differs 80 = .ok (.aload_n 0, 1) := by decide +kernel
theorem dX9_differs_81 : decode cX9_differs 81 = .ok (.getfield 95, 3) := by decide +kernel
theorem dX9_differs_84 : decode cX9_differs 84 = .ok (.iload 7, 2) := by decide +kernel
theorem dX9_differs_86 : decode cX9_differs 86 = .ok (.iaload, 1) := by decide +kernel
theorem dX9_differs_87 : decode cX9_differs 87 = .ok (.i2l, 1) := by decide +kernel
theorem dX9_differs_88 : decode cX9_differs 88 = .ok (.ladd, 1) := by decide +kernel
theorem dX9_differs_89 : decode cX9_differs 89 = .ok (.lstore 5, 2) := by decide +kernel
theorem dX9_differs_91 : decode cX9_differs 91 = .ok (.iinc 7 1, 3) := by decide +kernel
theorem dX9_differs_94 : decode cX9_differs 94 = .ok (.goto (-56), 3) := by decide +kernel
theorem dX9_differs_97 : decode cX9_differs 97 = .ok (.aload_n 0, 1) := by decide +kernel
theorem dX9_differs_98 : decode cX9_differs 98 = .ok (.getfield 95, 3) := by decide +kernel
theorem dX9_differs_101 : decode cX9_differs 101 = .ok (.iload_n 1, 1) := by decide +kernel
theorem dX9_differs_102 : decode cX9_differs 102 = .ok (.iaload, 1) := by decide +kernel
theorem dX9_differs_103 : decode cX9_differs 103 = .ok (.i2l, 1) := by decide +kernel
theorem dX9_differs_104 : decode cX9_differs 104 = .ok (.lload_n 3, 1) := by decide +kernel
theorem dX9_differs_105 : decode cX9_differs 105 = .ok (.lmul, 1) := by decide +kernel
theorem dX9_differs_106 : decode cX9_differs 106 = .ok (.lload 5, 2) := by decide +kernel
theorem dX9_differs_108 : decode cX9_differs 108 = .ok (.aload_n 0, 1) := by decide +kernel
theorem dX9_differs_109 : decode cX9_differs 109 = .ok (.getfield 92, 3) := by decide +kernel
theorem dX9_differs_112 : decode cX9_differs 112 = .ok (.iload_n 1, 1) := by decide +kernel
theorem dX9_differs_113 : decode cX9_differs 113 = .ok (.iaload, 1) := by decide +kernel
theorem dX9_differs_114 : decode cX9_differs 114 = .ok (.i2l, 1) := by decide +kernel
theorem dX9_differs_115 : decode cX9_differs 115 = .ok (.lmul, 1) := by decide +kernel
theorem dX9_differs_116 : decode cX9_differs 116 = .ok (.lsub, 1) := by decide +kernel
theorem dX9_differs_117 : decode cX9_differs 117 = .ok (.ldc2_w 355, 3) := by decide +kernel
theorem dX9_differs_120 : decode cX9_differs 120 = .ok (.lmul, 1) := by decide +kernel
theorem dX9_differs_121 : decode cX9_differs 121 = .ok (.lstore 7, 2) := by decide +kernel
theorem dX9_differs_123 : decode cX9_differs 123 = .ok (.iload_n 2, 1) := by decide +kernel
theorem dX9_differs_124 : decode cX9_differs 124 = .ok (.aload_n 0, 1) := by decide +kernel
theorem dX9_differs_125 : decode cX9_differs 125 = .ok (.getfield 92, 3) := by decide +kernel
theorem dX9_differs_128 : decode cX9_differs 128 = .ok (.iload_n 1, 1) := by decide +kernel
theorem dX9_differs_129 : decode cX9_differs 129 = .ok (.iaload, 1) := by decide +kernel
theorem dX9_differs_130 : decode cX9_differs 130 = .ok (.imul, 1) := by decide +kernel
theorem dX9_differs_131 : decode cX9_differs 131 = .ok (.i2l, 1) := by decide +kernel
theorem dX9_differs_132 : decode cX9_differs 132 = .ok (.lload_n 3, 1) := by decide +kernel
theorem dX9_differs_133 : decode cX9_differs 133 = .ok (.lmul, 1) := by decide +kernel
theorem dX9_differs_134 : decode cX9_differs 134 = .ok (.lstore 9, 2) := by decide +kernel
theorem dX9_differs_136 : decode cX9_differs 136 = .ok (.lload_n 3, 1) := by decide +kernel
theorem dX9_differs_137 : decode cX9_differs 137 = .ok (.lconst 0, 1) := by decide +kernel
theorem dX9_differs_138 : decode cX9_differs 138 = .ok (.lcmp, 1) := by decide +kernel
theorem dX9_differs_139 : decode cX9_differs 139 = .ok (.ifCond .eq 12, 3) := by decide +kernel
theorem dX9_differs_142 : decode cX9_differs 142 = .ok (.aload_n 0, 1) := by decide +kernel
theorem dX9_differs_143 : decode cX9_differs 143 = .ok (.getfield 92, 3) := by decide +kernel
theorem dX9_differs_146 : decode cX9_differs 146 = .ok (.iload_n 1, 1) := by decide +kernel
theorem dX9_differs_147 : decode cX9_differs 147 = .ok (.iaload, 1) := by decide +kernel
theorem dX9_differs_148 : decode cX9_differs 148 = .ok (.ifCond .ne 7, 3) := by decide +kernel
theorem dX9_differs_151 : decode cX9_differs 151 = .ok (.iconst 0, 1) := by decide +kernel
theorem dX9_differs_152 : decode cX9_differs 152 = .ok (.goto 29, 3) := by decide +kernel
theorem dX9_differs_155 : decode cX9_differs 155 = .ok (.lload 7, 2) := by decide +kernel
theorem dX9_differs_157 : decode cX9_differs 157 = .ok (.lload 9, 2) := by decide +kernel
theorem dX9_differs_159 : decode cX9_differs 159 = .ok (.lcmp, 1) := by decide +kernel
theorem dX9_differs_160 : decode cX9_differs 160 = .ok (.ifCond .le 7, 3) := by decide +kernel
theorem dX9_differs_163 : decode cX9_differs 163 = .ok (.iconst 1, 1) := by decide +kernel
theorem dX9_differs_164 : decode cX9_differs 164 = .ok (.goto 17, 3) := by decide +kernel
theorem dX9_differs_167 : decode cX9_differs 167 = .ok (.lload 7, 2) := by decide +kernel
theorem dX9_differs_169 : decode cX9_differs 169 = .ok (.lload 9, 2) := by decide +kernel
theorem dX9_differs_171 : decode cX9_differs 171 = .ok (.lneg, 1) := by decide +kernel
theorem dX9_differs_172 : decode cX9_differs 172 = .ok (.lcmp, 1) := by decide +kernel
theorem dX9_differs_173 : decode cX9_differs 173 = .ok (.ifCond .ge 7, 3) := by decide +kernel
theorem dX9_differs_176 : decode cX9_differs 176 = .ok (.iconst (-1), 1) := by decide +kernel
theorem dX9_differs_177 : decode cX9_differs 177 = .ok (.goto 4, 3) := by decide +kernel
theorem dX9_differs_180 : decode cX9_differs 180 = .ok (.iconst 0, 1) := by decide +kernel
theorem dX9_differs_181 : decode cX9_differs 181 = .ok (.ireturn, 1) := by decide +kernel
theorem dX9_learnersThat_0 : decode cX9_learnersThat 0 = .ok (.iconst 0, 1) := by decide +kernel
theorem dX9_learnersThat_1 : decode cX9_learnersThat 1 = .ok (.istore_n 2, 1) := by decide +kernel
theorem dX9_learnersThat_2 : decode cX9_learnersThat 2 = .ok (.iconst 0, 1) := by decide +kernel
theorem dX9_learnersThat_3 : decode cX9_learnersThat 3 = .ok (.istore_n 3, 1) := by decide +kernel
theorem dX9_learnersThat_4 : decode cX9_learnersThat 4 = .ok (.iload_n 3, 1) := by decide +kernel
theorem dX9_learnersThat_5 : decode cX9_learnersThat 5 = .ok (.aload_n 0, 1) := by decide +kernel
theorem dX9_learnersThat_6 : decode cX9_learnersThat 6 = .ok (.getfield 256, 3) := by decide +kernel
theorem dX9_learnersThat_9 : decode cX9_learnersThat 9 = .ok (.if_icmp .ge 27, 3) := by decide +kernel
theorem dX9_learnersThat_12 : decode cX9_learnersThat 12 = .ok (.iload_n 2, 1) := by decide +kernel
theorem dX9_learnersThat_13 : decode cX9_learnersThat 13 = .ok (.aload_n 0, 1) := by decide +kernel
theorem dX9_learnersThat_14 : decode cX9_learnersThat 14 = .ok (.getfield 119, 3) := by decide +kernel
theorem dX9_learnersThat_17 : decode cX9_learnersThat 17 = .ok (.iload_n 3, 1) := by decide +kernel
theorem dX9_learnersThat_18 : decode cX9_learnersThat 18 = .ok (.iaload, 1) := by decide +kernel
theorem dX9_learnersThat_19 : decode cX9_learnersThat 19 = .ok (.iload_n 1, 1) := by decide +kernel
theorem dX9_learnersThat_20 : decode cX9_learnersThat 20 = .ok (.if_icmp .ne 7, 3) := by decide +kernel
theorem dX9_learnersThat_23 : decode cX9_learnersThat 23 = .ok (.iconst 1, 1) := by decide +kernel
theorem dX9_learnersThat_24 : decode cX9_learnersThat 24 = .ok (.goto 4, 3) := by decide +kernel
theorem dX9_learnersThat_27 : decode cX9_learnersThat 27 = .ok (.iconst 0, 1) := by decide +kernel
theorem dX9_learnersThat_28 : decode cX9_learnersThat 28 = .ok (.iadd, 1) := by decide +kernel
theorem dX9_learnersThat_29 : decode cX9_learnersThat 29 = .ok (.istore_n 2, 1) := by decide +kernel
theorem dX9_learnersThat_30 : decode cX9_learnersThat 30 = .ok (.iinc 3 1, 3) := by decide +kernel
theorem dX9_learnersThat_33 : decode cX9_learnersThat 33 = .ok (.goto (-29), 3) := by decide +kernel
theorem dX9_learnersThat_36 : decode cX9_learnersThat 36 = .ok (.iload_n 2, 1) := by decide +kernel
theorem dX9_learnersThat_37 : decode cX9_learnersThat 37 = .ok (.ireturn, 1) := by decide +kernel
set_option maxRecDepth 20000 in
theorem ggX9_count_X9_learnersThat : GoodIn wsX9_count wsX9_learnersThat := goodIn_r _ [14, 3, 15, 16, 17, 18, 19, 20, 21, 22, 23, 24, 25, 26, 27, 28, 29, 30, 31, 32, 33, 34, 35, 36, 37, 38, 39, 40, 41, 42, 43, 44, 45, 46, 47, 48, 49, 50, 51, 52, 53, 54, 55, 56, 57, 58, 59, 60, 61, 62, 63, 64, 65, 66, 67, 68, 69, 70, 71, 72, 73, 74, 75, 76, 77] (by decide +kernel) (by decide +kernel)
set_option maxRecDepth 20000 in
theorem gX9_count_X9_learnersThat : GoodIn wsX9_count (wsV RX9 357 RX9 yX9_learnersThat wsX9_learnersThat) := goodIn_app (goodIn_of _ (by decide +kernel)) ggX9_count_X9_learnersThat
theorem dX9_count_0 : decode cX9_count 0 = .ok (.aload_n 0, 1) := by decide +kernel
theorem dX9_count_1 : decode cX9_count 1 = .ok (.iconst 0, 1) := by decide +kernel
theorem dX9_count_2 : decode cX9_count 2 = .ok (.putfield 1, 3) := by decide +kernel
theorem dX9_count_5 : decode cX9_count 5 = .ok (.iload_n 1, 1) := by decide +kernel
theorem dX9_count_6 : decode cX9_count 6 = .ok (.tableswitch 122 0 10 #[58, 63, 68, 73, 79, 85, 91, 97, 107, 112, 117], 58) := by decide +kernel
theorem dX9_count_64 : decode cX9_count 64 = .ok (.aload_n 0, 1) := by decide +kernel
theorem dX9_count_65 : decode cX9_count 65 = .ok (.getfield 249, 3) := by decide +kernel
theorem dX9_count_68 : decode cX9_count 68 = .ok (.ireturn, 1) := by decide +kernel
theorem dX9_count_69 : decode cX9_count 69 = .ok (.aload_n 0, 1) := by decide +kernel
theorem dX9_count_70 : decode cX9_count 70 = .ok (.getfield 256, 3) := by decide +kernel
theorem dX9_count_73 : decode cX9_count 73 = .ok (.ireturn, 1) := by decide +kernel
theorem dX9_count_74 : decode cX9_count 74 = .ok (.aload_n 0, 1) := by decide +kernel
theorem dX9_count_75 : decode cX9_count 75 = .ok (.getfield 259, 3) := by decide +kernel
theorem dX9_count_78 : decode cX9_count 78 = .ok (.ireturn, 1) := by decide +kernel
theorem dX9_count_79 : decode cX9_count 79 = .ok (.aload_n 0, 1) := by decide +kernel
theorem dX9_count_80 : decode cX9_count 80 = .ok (.iconst 0, 1) := by decide +kernel
theorem dX9_count_81 : decode cX9_count 81 = .ok (.invokevirtual 357, 3) := by decide +kernel
theorem dX9_count_84 : decode cX9_count 84 = .ok (.ireturn, 1) := by decide +kernel
theorem dX9_count_85 : decode cX9_count 85 = .ok (.aload_n 0, 1) := by decide +kernel
theorem dX9_count_86 : decode cX9_count 86 = .ok (.iconst 1, 1) := by decide +kernel
theorem dX9_count_87 : decode cX9_count 87 = .ok (.invokevirtual 357, 3) := by decide +kernel
theorem dX9_count_90 : decode cX9_count 90 = .ok (.ireturn, 1) := by decide +kernel
theorem dX9_count_91 : decode cX9_count 91 = .ok (.aload_n 0, 1) := by decide +kernel
theorem dX9_count_92 : decode cX9_count 92 = .ok (.iconst 2, 1) := by decide +kernel
theorem dX9_count_93 : decode cX9_count 93 = .ok (.invokevirtual 357, 3) := by decide +kernel
theorem dX9_count_96 : decode cX9_count 96 = .ok (.ireturn, 1) := by decide +kernel
theorem dX9_count_97 : decode cX9_count 97 = .ok (.aload_n 0, 1) := by decide +kernel
theorem dX9_count_98 : decode cX9_count 98 = .ok (.iconst 3, 1) := by decide +kernel
theorem dX9_count_99 : decode cX9_count 99 = .ok (.invokevirtual 357, 3) := by decide +kernel
theorem dX9_count_102 : decode cX9_count 102 = .ok (.ireturn, 1) := by decide +kernel
theorem dX9_count_103 : decode cX9_count 103 = .ok (.aload_n 0, 1) := by decide +kernel
theorem dX9_count_104 : decode cX9_count 104 = .ok (.getfield 55, 3) := by decide +kernel
theorem dX9_count_107 : decode cX9_count 107 = .ok (.aload_n 0, 1) := by decide +kernel
theorem dX9_count_108 : decode cX9_count 108 = .ok (.getfield 211, 3) := by decide +kernel
theorem dX9_count_111 : decode cX9_count 111 = .ok (.iaload, 1) := by decide +kernel
theorem dX9_count_112 : decode cX9_count 112 = .ok (.ireturn, 1) := by decide +kernel
theorem dX9_count_113 : decode cX9_count 113 = .ok (.aload_n 0, 1) := by decide +kernel
theorem dX9_count_114 : decode cX9_count 114 = .ok (.getfield 11, 3) := by decide +kernel
theorem dX9_count_117 : decode cX9_count 117 = .ok (.ireturn, 1) := by decide +kernel
theorem dX9_count_118 : decode cX9_count 118 = .ok (.aload_n 0, 1) := by decide +kernel
theorem dX9_count_119 : decode cX9_count 119 = .ok (.getfield 311, 3) := by decide +kernel
theorem dX9_count_122 : decode cX9_count 122 = .ok (.ireturn, 1) := by decide +kernel
theorem dX9_count_123 : decode cX9_count 123 = .ok (.aload_n 0, 1) := by decide +kernel
theorem dX9_count_124 : decode cX9_count 124 = .ok (.getfield 305, 3) := by decide +kernel
theorem dX9_count_127 : decode cX9_count 127 = .ok (.ireturn, 1) := by decide +kernel
theorem dX9_count_128 : decode cX9_count 128 = .ok (.iconst (-1), 1) := by decide +kernel
theorem dX9_count_129 : decode cX9_count 129 = .ok (.ireturn, 1) := by decide +kernel
theorem dX9_load_0 : decode cX9_load 0 = .ok (.aload_n 0, 1) := by decide +kernel
theorem dX9_load_1 : decode cX9_load 1 = .ok (.iconst 0, 1) := by decide +kernel
theorem dX9_load_2 : decode cX9_load 2 = .ok (.putfield 1, 3) := by decide +kernel
theorem dX9_load_5 : decode cX9_load 5 = .ok (.iload_n 1, 1) := by decide +kernel
theorem dX9_load_6 : decode cX9_load 6 = .ok (.ifCond .lt 11, 3) := by decide +kernel
theorem dX9_load_9 : decode cX9_load 9 = .ok (.iload_n 1, 1) := by decide +kernel
theorem dX9_load_10 : decode cX9_load 10 = .ok (.aload_n 0, 1) := by decide +kernel
theorem dX9_load_11 : decode cX9_load 11 = .ok (.getfield 249, 3) := by decide +kernel
theorem dX9_load_14 : decode cX9_load 14 = .ok (.if_icmp .lt 5, 3) := by decide +kernel
theorem dX9_load_17 : decode cX9_load 17 = .ok (.iconst (-1), 1) := by decide +kernel
theorem dX9_load_18 : decode cX9_load 18 = .ok (.ireturn, 1) := by decide +kernel
theorem dX9_load_19 : decode cX9_load 19 = .ok (.iconst 0, 1) := by decide +kernel
theorem dX9_load_20 : decode cX9_load 20 = .ok (.istore_n 3, 1) := by decide +kernel
theorem dX9_load_21 : decode cX9_load 21 = .ok (.iconst 0, 1) := by decide +kernel
theorem dX9_load_22 : decode cX9_load 22 = .ok (.istore 4, 2) := by decide +kernel
theorem dX9_load_24 : decode cX9_load 24 = .ok (.iload 4, 2) := by decide +kernel
theorem dX9_load_26 : decode cX9_load 26 = .ok (.aload_n 0, 1) := by decide +kernel
theorem dX9_load_27 : decode cX9_load 27 = .ok (.getfield 256, 3) := by decide +kernel
theorem dX9_load_30 : decode cX9_load 30 = .ok (.if_icmp .ge 42, 3) := by decide +kernel
theorem dX9_load_33 : decode cX9_load 33 = .ok (.iload_n 3, 1) := by decide +kernel
theorem dX9_load_34 : decode cX9_load 34 = .ok (.aload_n 0, 1) := by decide +kernel
theorem dX9_load_35 : decode cX9_load 35 = .ok (.getfield 119, 3) := by decide +kernel
theorem dX9_load_38 : decode cX9_load 38 = .ok (.iload 4, 2) := by decide +kernel
theorem dX9_load_40 : decode cX9_load 40 = .ok (.iaload, 1) := by decide +kernel
theorem dX9_load_41 : decode cX9_load 41 = .ok (.iconst 1, 1) := by decide +kernel
theorem dX9_load_42 : decode cX9_load 42 = .ok (.if_icmp .ne 21, 3) := by decide +kernel
theorem dX9_load_45 : decode cX9_load 45 = .ok (.aload_n 0, 1) := by decide +kernel
theorem dX9_load_46 : decode cX9_load 46 = .ok (.getfield 122, 3) := by decide +kernel
theorem dX9_load_49 : decode cX9_load 49 = .ok (.iload 4, 2) := by decide +kernel
theorem dX9_load_51 : decode cX9_load 51 = .ok (.iaload, 1) := by decide +kernel
theorem dX9_load_52 : decode cX9_load 52 = .ok (.bipush 8, 2) := by decide +kernel
theorem dX9_load_54 : decode cX9_load 54 = .ok (.irem, 1) := by decide +kernel
theorem dX9_load_55 : decode cX9_load 55 = .ok (.iload_n 1, 1) := by decide +kernel
theorem dX9_load_56 : decode cX9_load 56 = .ok (.if_icmp .ne 7, 3) := by decide +kernel
theorem dX9_load_59 : decode cX9_load 59 = .ok (.iconst 1, 1) := by decide +kernel
theorem dX9_load_60 : decode cX9_load 60 = .ok (.goto 4, 3) := by decide +kernel
theorem dX9_load_63 : decode cX9_load 63 = .ok (.iconst 0, 1) := by decide +kernel
theorem dX9_load_64 : decode cX9_load 64 = .ok (.iadd, 1) := by decide +kernel
theorem dX9_load_65 : decode cX9_load 65 = .ok (.istore_n 3, 1) := by decide +kernel
theorem dX9_load_66 : decode cX9_load 66 = .ok (.iinc 4 1, 3) := by decide +kernel
theorem dX9_load_69 : decode cX9_load 69 = .ok (.goto (-45), 3) := by decide +kernel
theorem dX9_load_72 : decode cX9_load 72 = .ok (.iload_n 2, 1) := by decide +kernel
theorem dX9_load_73 : decode cX9_load 73 = .ok (.ifCond .ne 12, 3) := by decide +kernel
theorem dX9_load_76 : decode cX9_load 76 = .ok (.aload_n 0, 1) := by decide +kernel
theorem dX9_load_77 : decode cX9_load 77 = .ok (.getfield 92, 3) := by decide +kernel
theorem dX9_load_80 : decode cX9_load 80 = .ok (.iload_n 1, 1) := by decide +kernel
theorem dX9_load_81 : decode cX9_load 81 = .ok (.iaload, 1) := by decide +kernel
theorem dX9_load_82 : decode cX9_load 82 = .ok (.goto 27, 3) := by decide +kernel
theorem dX9_load_85 : decode cX9_load 85 = .ok (.iload_n 2, 1) := by decide +kernel
theorem dX9_load_86 : decode cX9_load 86 = .ok (.iconst 1, 1) := by decide +kernel
theorem dX9_load_87 : decode cX9_load 87 = .ok (.if_icmp .ne 12, 3) := by decide +kernel
theorem dX9_load_90 : decode cX9_load 90 = .ok (.aload_n 0, 1) := by decide +kernel
theorem dX9_load_91 : decode cX9_load 91 = .ok (.getfield 95, 3) := by decide +kernel
theorem dX9_load_94 : decode cX9_load 94 = .ok (.iload_n 1, 1) := by decide +kernel
theorem dX9_load_95 : decode cX9_load 95 = .ok (.iaload, 1) := by decide +kernel
theorem dX9_load_96 : decode cX9_load 96 = .ok (.goto 13, 3) := by decide +kernel
theorem dX9_load_99 : decode cX9_load 99 = .ok (.iload_n 2, 1) := by decide +kernel
theorem dX9_load_100 : decode cX9_load 100 = .ok (.iconst 2, 1) := by decide +kernel
theorem dX9_load_101 : decode cX9_load 101 = .ok (.if_icmp .ne 7, 3) := by decide +kernel
theorem dX9_load_104 : decode cX9_load 104 = .ok (.iload_n 3, 1) := by decide +kernel
theorem dX9_load_105 : decode cX9_load 105 = .ok (.goto 4, 3) := by decide +kernel
theorem dX9_load_108 : decode cX9_load 108 = .ok (.iconst (-1), 1) := by decide +kernel
theorem dX9_load_109 : decode cX9_load 109 = .ok (.ireturn, 1) := by decide +kernel
theorem dJ9_max_7cf53_0 : decode cJ9_max_7cf53 0 = .ok (.iload_n 0, 1) := by decide +kernel
theorem dJ9_max_7cf53_1 : decode cJ9_max_7cf53 1 = .ok (.iload_n 1, 1) := by decide +kernel
theorem dJ9_max_7cf53_2 : decode cJ9_max_7cf53 2 = .ok (.if_icmp .lt 7, 3) := by decide +kernel
theorem dJ9_max_7cf53_5 : decode cJ9_max_7cf53 5 = .ok (.iload_n 0, 1) := by decide +kernel
theorem dJ9_max_7cf53_6 : decode cJ9_max_7cf53 6 = .ok (.goto 4, 3) := by decide +kernel
theorem dJ9_max_7cf53_9 : decode cJ9_max_7cf53 9 = .ok (.iload_n 1, 1) := by decide +kernel
theorem dJ9_max_7cf53_10 : decode cJ9_max_7cf53 10 = .ok (.ireturn, 1) := by decide +kernel
set_option maxRecDepth 20000 in
theorem ggJ0_length_8abf5_J0_coder_7d493 : GoodIn wsJ0_length_8abf5 wsJ0_coder_7d493 := goodIn_r _ [6, 7, 8] (by decide +kernel) (by decide +kernel)
set_option maxRecDepth 20000 in
theorem gJ0_length_8abf5_J0_coder_7d493 : GoodIn wsJ0_length_8abf5 (wsV RJ0 335 RJ0 yJ0_coder_7d493 wsJ0_coder_7d493) := goodIn_app (goodIn_of _ (by decide +kernel)) ggJ0_length_8abf5_J0_coder_7d493
theorem dJ0_length_8abf5_0 : decode cJ0_length_8abf5 0 = .ok (.aload_n 0, 1) := by decide +kernel
theorem dJ0_length_8abf5_1 : decode cJ0_length_8abf5 1 = .ok (.getfield 9, 3) := by decide +kernel
theorem dJ0_length_8abf5_4 : decode cJ0_length_8abf5 4 = .ok (.arraylength, 1) := by decide +kernel
theorem dJ0_length_8abf5_5 : decode cJ0_length_8abf5 5 = .ok (.aload_n 0, 1) := by decide +kernel
theorem dJ0_length_8abf5_6 : decode cJ0_length_8abf5 6 = .ok (.invokevirtual 335, 3) := by decide +kernel
theorem dJ0_length_8abf5_9 : decode cJ0_length_8abf5 9 = .ok (.ishr, 1) := by decide +kernel
theorem dJ0_length_8abf5_10 : decode cJ0_length_8abf5 10 = .ok (.ireturn, 1) := by decide +kernel
set_option maxRecDepth 20000 in
theorem ggJ0_charAt_5068e_J0_isLatin1_aae02 : GoodIn wsJ0_charAt_5068e wsJ0_isLatin1_aae02 := goodIn_r _ [6, 7, 8] (by decide +kernel) (by decide +kernel)
set_option maxRecDepth 20000 in
theorem gJ0_charAt_5068e_J0_isLatin1_aae02 : GoodIn wsJ0_charAt_5068e (wsV RJ0 492 RJ0 yJ0_isLatin1_aae02 wsJ0_isLatin1_aae02) := goodIn_app (goodIn_of _ (by decide +kernel)) ggJ0_charAt_5068e_J0_isLatin1_aae02
set_option maxRecDepth 20000 in
theorem ggJ0_charAt_5068e_J1_charAt_3b067 : GoodIn wsJ0_charAt_5068e wsJ1_charAt_3b067 := goodIn_r _ [12, 13, 14, 5, 15, 16, 17, 18, 19, 20] (by decide +kernel) (by decide +kernel)
set_option maxRecDepth 20000 in
theorem gJ0_charAt_5068e_J1_charAt_3b067 : GoodIn wsJ0_charAt_5068e (va_wsS RJ0 495 yJ1_charAt_3b067 wsJ1_charAt_3b067) := goodIn_app (goodIn_of _ (by decide +kernel)) ggJ0_charAt_5068e_J1_charAt_3b067
set_option maxRecDepth 20000 in
theorem ggJ0_charAt_5068e_J2_charAt_3b067 : GoodIn wsJ0_charAt_5068e wsJ2_charAt_3b067 := goodIn_r _ [24, 25, 26, 23, 27, 28, 29, 30, 31, 14, 5, 15, 16, 17, 18, 19, 20, 32, 33, 34, 35, 36, 37] (by decide +kernel) (by decide +kernel)
set_option maxRecDepth 20000 in
theorem gJ0_charAt_5068e_J2_charAt_3b067 : GoodIn wsJ0_charAt_5068e (va_wsS RJ0 498 yJ2_charAt_3b067 wsJ2_charAt_3b067) := goodIn_app (goodIn_of _ (by decide +kernel)) ggJ0_charAt_5068e_J2_charAt_3b067
theorem dJ0_charAt_5068e_0 : decode cJ0_charAt_5068e 0 = .ok (.aload_n 0, 1) := by decide +kernel
theorem dJ0_charAt_5068e_1 : decode cJ0_charAt_5068e 1 = .ok (.invokevirtual 492, 3) := by decide +kernel
theorem dJ0_charAt_5068e_4 : decode cJ0_charAt_5068e 4 = .ok (.ifCond .eq 12, 3) := by decide +kernel
theorem dJ0_charAt_5068e_7 : decode cJ0_charAt_5068e 7 = .ok (.aload_n 0, 1) := by decide +kernel
theorem dJ0_charAt_5068e_8 : decode cJ0_charAt_5068e 8 = .ok (.getfield 9, 3) := by decide +kernel
theorem dJ0_charAt_5068e_11 : decode cJ0_charAt_5068e 11 = .ok (.iload_n 1, 1) := by decide +kernel
theorem dJ0_charAt_5068e_12 : decode cJ0_charAt_5068e 12 = .ok (.invokestatic 495, 3) := by decide +kernel
theorem dJ0_charAt_5068e_15 : decode cJ0_charAt_5068e 15 = .ok (.ireturn, 1) := by decide +kernel
theorem dJ0_charAt_5068e_16 : decode cJ0_charAt_5068e 16 = .ok (.aload_n 0, 1) := by decide +kernel
theorem dJ0_charAt_5068e_17 : decode cJ0_charAt_5068e 17 = .ok (.getfield 9, 3) := by decide +kernel
theorem dJ0_charAt_5068e_20 : decode cJ0_charAt_5068e 20 = .ok (.iload_n 1, 1) := by decide +kernel
theorem dJ0_charAt_5068e_21 : decode cJ0_charAt_5068e 21 = .ok (.invokestatic 498, 3) := by decide +kernel
theorem dJ0_charAt_5068e_24 : decode cJ0_charAt_5068e 24 = .ok (.ireturn, 1) := by decide +kernel
theorem dJ0_coder_7d493_0 : decode cJ0_coder_7d493 0 = .ok (.getstatic 38, 3) := by decide +kernel
theorem dJ0_coder_7d493_3 : decode cJ0_coder_7d493 3 = .ok (.ifCond .eq 10, 3) := by decide +kernel
theorem dJ0_coder_7d493_6 : decode cJ0_coder_7d493 6 = .ok (.aload_n 0, 1) := by decide +kernel
theorem dJ0_coder_7d493_7 : decode cJ0_coder_7d493 7 = .ok (.getfield 15, 3) := by decide +kernel
theorem dJ0_coder_7d493_10 : decode cJ0_coder_7d493 10 = .ok (.goto 4, 3) := by decide +kernel
theorem dJ0_coder_7d493_13 : decode cJ0_coder_7d493 13 = .ok (.iconst 1, 1) := by decide +kernel
theorem dJ0_coder_7d493_14 : decode cJ0_coder_7d493 14 = .ok (.ireturn, 1) := by decide +kernel
theorem dJ0_isLatin1_aae02_0 : decode cJ0_isLatin1_aae02 0 = .ok (.getstatic 38, 3) := by decide +kernel
theorem dJ0_isLatin1_aae02_3 : decode cJ0_isLatin1_aae02 3 = .ok (.ifCond .eq 14, 3) := by decide +kernel
theorem dJ0_isLatin1_aae02_6 : decode cJ0_isLatin1_aae02 6 = .ok (.aload_n 0, 1) := by decide +kernel
theorem dJ0_isLatin1_aae02_7 : decode cJ0_isLatin1_aae02 7 = .ok (.getfield 15, 3) := by decide +kernel
theorem dJ0_isLatin1_aae02_10 : decode cJ0_isLatin1_aae02 10 = .ok (.ifCond .ne 7, 3) := by decide +kernel
theorem dJ0_isLatin1_aae02_13 : decode cJ0_isLatin1_aae02 13 = .ok (.iconst 1, 1) := by decide +kernel
theorem dJ0_isLatin1_aae02_14 : decode cJ0_isLatin1_aae02 14 = .ok (.goto 4, 3) := by decide +kernel
theorem dJ0_isLatin1_aae02_17 : decode cJ0_isLatin1_aae02 17 = .ok (.iconst 0, 1) := by decide +kernel
theorem dJ0_isLatin1_aae02_18 : decode cJ0_isLatin1_aae02 18 = .ok (.ireturn, 1) := by decide +kernel
set_option maxRecDepth 20000 in
theorem ggJ0_checkIndex_df160_J3_checkIndex_8e157 : GoodIn wsJ0_checkIndex_df160 wsJ3_checkIndex_8e157 := goodIn_r _ [5] (by decide +kernel) (by decide +kernel)
set_option maxRecDepth 20000 in
theorem gJ0_checkIndex_df160_J3_checkIndex_8e157 : GoodIn wsJ0_checkIndex_df160 (va_wsS RJ0 1059 yJ3_checkIndex_8e157 wsJ3_checkIndex_8e157) := goodIn_app (goodIn_of _ (by decide +kernel)) ggJ0_checkIndex_df160_J3_checkIndex_8e157
theorem dJ0_checkIndex_df160_0 : decode cJ0_checkIndex_df160 0 = .ok (.iload_n 0, 1) := by decide +kernel
theorem dJ0_checkIndex_df160_1 : decode cJ0_checkIndex_df160 1 = .ok (.iload_n 1, 1) := by decide +kernel
theorem dJ0_checkIndex_df160_2 : decode cJ0_checkIndex_df160 2 = .ok (.getstatic 1053, 3) := by decide +kernel
theorem dJ0_checkIndex_df160_5 : decode cJ0_checkIndex_df160 5 = .ok (.invokestatic 1059, 3) := by decide +kernel
theorem dJ0_checkIndex_df160_8 : decode cJ0_checkIndex_df160 8 = .ok (.pop, 1) := by decide +kernel
theorem dJ0_checkIndex_df160_9 : decode cJ0_checkIndex_df160 9 = .ok (.return_, 1) := by decide +kernel
set_option maxRecDepth 20000 in
theorem ggJ1_charAt_3b067_J0_checkIndex_df160 : GoodIn wsJ1_charAt_3b067 wsJ0_checkIndex_df160 := goodIn_r _ [4, 5, 6, 7, 8, 9] (by decide +kernel) (by decide +kernel)
set_option maxRecDepth 20000 in
theorem gJ1_charAt_3b067_J0_checkIndex_df160 : GoodIn wsJ1_charAt_3b067 (va_wsS RJ1 9 yJ0_checkIndex_df160 wsJ0_checkIndex_df160) := goodIn_app (goodIn_of _ (by decide +kernel)) ggJ1_charAt_3b067_J0_checkIndex_df160
theorem dJ1_charAt_3b067_0 : decode cJ1_charAt_3b067 0 = .ok (.iload_n 1, 1) := by decide +kernel
theorem dJ1_charAt_3b067_1 : decode cJ1_charAt_3b067 1 = .ok (.aload_n 0, 1) := by decide +kernel
theorem dJ1_charAt_3b067_2 : decode cJ1_charAt_3b067 2 = .ok (.arraylength, 1) := by decide +kernel
theorem dJ1_charAt_3b067_3 : decode cJ1_charAt_3b067 3 = .ok (.invokestatic 9, 3) := by decide +kernel
theorem dJ1_charAt_3b067_6 : decode cJ1_charAt_3b067 6 = .ok (.aload_n 0, 1) := by decide +kernel
theorem dJ1_charAt_3b067_7 : decode cJ1_charAt_3b067 7 = .ok (.iload_n 1, 1) := by decide +kernel
theorem dJ1_charAt_3b067_8 : decode cJ1_charAt_3b067 8 = .ok (.baload, 1) := by decide +kernel
theorem dJ1_charAt_3b067_9 : decode cJ1_charAt_3b067 9 = .ok (.sipush 255, 3) := by decide +kernel
theorem dJ1_charAt_3b067_12 : decode cJ1_charAt_3b067 12 = .ok (.iand, 1) := by decide +kernel
theorem dJ1_charAt_3b067_13 : decode cJ1_charAt_3b067 13 = .ok (.i2c, 1) := by decide +kernel
theorem dJ1_charAt_3b067_14 : decode cJ1_charAt_3b067 14 = .ok (.ireturn, 1) := by decide +kernel
set_option maxRecDepth 20000 in
theorem ggJ2_getChar_3b067_J2_length_9d52b : GoodIn wsJ2_getChar_3b067 wsJ2_length_9d52b := goodIn_r _ [7] (by decide +kernel) (by decide +kernel)
set_option maxRecDepth 20000 in
theorem gJ2_getChar_3b067_J2_length_9d52b : GoodIn wsJ2_getChar_3b067 (va_wsS RJ2 48 yJ2_length_9d52b wsJ2_length_9d52b) := goodIn_app (goodIn_of _ (by decide +kernel)) ggJ2_getChar_3b067_J2_length_9d52b
theorem dJ2_getChar_3b067_0 : decode cJ2_getChar_3b067 0 = .ok (.getstatic 44, 3) := by decide +kernel
theorem dJ2_getChar_3b067_3 : decode cJ2_getChar_3b067 3 = .ok (.ifCond .ne 25, 3) := by decide +kernel
theorem dJ2_getChar_3b067_6 : decode cJ2_getChar_3b067 6 = .ok (.iload_n 1, 1) := by decide +kernel
theorem dJ2_getChar_3b067_7 : decode cJ2_getChar_3b067 7 = .ok (.ifCond .lt 11, 3) := by decide +kernel
theorem dJ2_getChar_3b067_10 : decode cJ2_getChar_3b067 10 = .ok (.iload_n 1, 1) := by decide +kernel
theorem dJ2_getChar_3b067_11 : decode cJ2_getChar_3b067 11 = .ok (.aload_n 0, 1) := by decide +kernel
theorem dJ2_getChar_3b067_12 : decode cJ2_getChar_3b067 12 = .ok (.invokestatic 48, 3) := by decide +kernel
theorem dJ2_getChar_3b067_15 : decode cJ2_getChar_3b067 15 = .ok (.if_icmp .lt 13, 3) := by decide +kernel
theorem dJ2_getChar_3b067_18 : decode cJ2_getChar_3b067 18 = .ok (.new 52, 3) := by decide +kernel
theorem dJ2_getChar_3b067_21 : decode cJ2_getChar_3b067 21 = .ok (.dup, 1) := by decide +kernel
theorem dJ2_getChar_3b067_22 : decode cJ2_getChar_3b067 22 = .ok (.ldc 54, 2) := by decide +kernel
theorem dJ2_getChar_3b067_24 : decode cJ2_getChar_3b067 24 = .ok (.invokespecial 56, 3) := by decide +kernel
theorem dJ2_getChar_3b067_27 : decode cJ2_getChar_3b067 27 = .ok (.athrow, 1) := by decide +kernel
theorem dJ2_getChar_3b067_28 : decode cJ2_getChar_3b067 28 = .ok (.iload_n 1, 1) := by decide +kernel
theorem dJ2_getChar_3b067_29 : decode cJ2_getChar_3b067 29 = .ok (.iconst 1, 1) := by decide +kernel
theorem dJ2_getChar_3b067_30 : decode cJ2_getChar_3b067 30 = .ok (.ishl, 1) := by decide +kernel
theorem dJ2_getChar_3b067_31 : decode cJ2_getChar_3b067 31 = .ok (.istore_n 1, 1) := by decide +kernel
theorem dJ2_getChar_3b067_32 : decode cJ2_getChar_3b067 32 = .ok (.aload_n 0, 1) := by decide +kernel
theorem dJ2_getChar_3b067_33 : decode cJ2_getChar_3b067 33 = .ok (.iload_n 1, 1) := by decide +kernel
theorem dJ2_getChar_3b067_34 : decode cJ2_getChar_3b067 34 = .ok (.iinc 1 1, 3) := by decide +kernel
theorem dJ2_getChar_3b067_37 : decode cJ2_getChar_3b067 37 = .ok (.baload, 1) := by decide +kernel
theorem dJ2_getChar_3b067_38 : decode cJ2_getChar_3b067 38 = .ok (.sipush 255, 3) := by decide +kernel
theorem dJ2_getChar_3b067_41 : decode cJ2_getChar_3b067 41 = .ok (.iand, 1) := by decide +kernel
theorem dJ2_getChar_3b067_42 : decode cJ2_getChar_3b067 42 = .ok (.getstatic 59, 3) := by decide +kernel
theorem dJ2_getChar_3b067_45 : decode cJ2_getChar_3b067 45 = .ok (.ishl, 1) := by decide +kernel
theorem dJ2_getChar_3b067_46 : decode cJ2_getChar_3b067 46 = .ok (.aload_n 0, 1) := by decide +kernel
theorem dJ2_getChar_3b067_47 : decode cJ2_getChar_3b067 47 = .ok (.iload_n 1, 1) := by decide +kernel
theorem dJ2_getChar_3b067_48 : decode cJ2_getChar_3b067 48 = .ok (.baload, 1) := by decide +kernel
theorem dJ2_getChar_3b067_49 : decode cJ2_getChar_3b067 49 = .ok (.sipush 255, 3) := by decide +kernel
theorem dJ2_getChar_3b067_52 : decode cJ2_getChar_3b067 52 = .ok (.iand, 1) := by decide +kernel
theorem dJ2_getChar_3b067_53 : decode cJ2_getChar_3b067 53 = .ok (.getstatic 63, 3) := by decide +kernel
theorem dJ2_getChar_3b067_56 : decode cJ2_getChar_3b067 56 = .ok (.ishl, 1) := by decide +kernel
theorem dJ2_getChar_3b067_57 : decode cJ2_getChar_3b067 57 = .ok (.ior, 1) := by decide +kernel
theorem dJ2_getChar_3b067_58 : decode cJ2_getChar_3b067 58 = .ok (.i2c, 1) := by decide +kernel
theorem dJ2_getChar_3b067_59 : decode cJ2_getChar_3b067 59 = .ok (.ireturn, 1) := by decide +kernel
theorem dJ2_length_9d52b_0 : decode cJ2_length_9d52b 0 = .ok (.aload_n 0, 1) := by decide +kernel
theorem dJ2_length_9d52b_1 : decode cJ2_length_9d52b 1 = .ok (.arraylength, 1) := by decide +kernel
theorem dJ2_length_9d52b_2 : decode cJ2_length_9d52b 2 = .ok (.iconst 1, 1) := by decide +kernel
theorem dJ2_length_9d52b_3 : decode cJ2_length_9d52b 3 = .ok (.ishr, 1) := by decide +kernel
theorem dJ2_length_9d52b_4 : decode cJ2_length_9d52b 4 = .ok (.ireturn, 1) := by decide +kernel
set_option maxRecDepth 20000 in
theorem ggJ2_charAt_3b067_J2_checkIndex_2214a : GoodIn wsJ2_charAt_3b067 wsJ2_checkIndex_2214a := goodIn_r _ [4, 5, 6, 3, 7, 8, 9, 10, 11, 12, 13, 14, 15, 16] (by decide +kernel) (by decide +kernel)
set_option maxRecDepth 20000 in
theorem gJ2_charAt_3b067_J2_checkIndex_2214a : GoodIn wsJ2_charAt_3b067 (va_wsS RJ2 67 yJ2_checkIndex_2214a wsJ2_checkIndex_2214a) := goodIn_app (goodIn_of _ (by decide +kernel)) ggJ2_charAt_3b067_J2_checkIndex_2214a
set_option maxRecDepth 20000 in
theorem ggJ2_charAt_3b067_J2_getChar_3b067 : GoodIn wsJ2_charAt_3b067 wsJ2_getChar_3b067 := goodIn_r _ [19, 20, 21, 22, 5, 6, 3, 7] (by decide +kernel) (by decide +kernel)
set_option maxRecDepth 20000 in
theorem gJ2_charAt_3b067_J2_getChar_3b067 : GoodIn wsJ2_charAt_3b067 (va_wsS RJ2 71 yJ2_getChar_3b067 wsJ2_getChar_3b067) := goodIn_app (goodIn_of _ (by decide +kernel)) ggJ2_charAt_3b067_J2_getChar_3b067
theorem dJ2_charAt_3b067_0 : decode cJ2_charAt_3b067 0 = .ok (.iload_n 1, 1) := by decide +kernel
theorem dJ2_charAt_3b067_1 : decode cJ2_charAt_3b067 1 = .ok (.aload_n 0, 1) := by decide +kernel
theorem dJ2_charAt_3b067_2 : decode cJ2_charAt_3b067 2 = .ok (.invokestatic 67, 3) := by decide +kernel
theorem dJ2_charAt_3b067_5 : decode cJ2_charAt_3b067 5 = .ok (.aload_n 0, 1) := by decide +kernel
theorem dJ2_charAt_3b067_6 : decode cJ2_charAt_3b067 6 = .ok (.iload_n 1, 1) := by decide +kernel
theorem dJ2_charAt_3b067_7 : decode cJ2_charAt_3b067 7 = .ok (.invokestatic 71, 3) := by decide +kernel
theorem dJ2_charAt_3b067_10 : decode cJ2_charAt_3b067 10 = .ok (.ireturn, 1) := by decide +kernel
set_option maxRecDepth 20000 in
theorem ggJ2_checkIndex_2214a_J2_length_9d52b : GoodIn wsJ2_checkIndex_2214a wsJ2_length_9d52b := goodIn_r _ [4] (by decide +kernel) (by decide +kernel)
set_option maxRecDepth 20000 in
theorem gJ2_checkIndex_2214a_J2_length_9d52b : GoodIn wsJ2_checkIndex_2214a (va_wsS RJ2 48 yJ2_length_9d52b wsJ2_length_9d52b) := goodIn_app (goodIn_of _ (by decide +kernel)) ggJ2_checkIndex_2214a_J2_length_9d52b
set_option maxRecDepth 20000 in
theorem ggJ2_checkIndex_2214a_J0_checkIndex_df160 : GoodIn wsJ2_checkIndex_2214a wsJ0_checkIndex_df160 := goodIn_r _ [8, 9, 10, 11, 12, 13] (by decide +kernel) (by decide +kernel)
set_option maxRecDepth 20000 in
theorem gJ2_checkIndex_2214a_J0_checkIndex_df160 : GoodIn wsJ2_checkIndex_2214a (va_wsS RJ2 414 yJ0_checkIndex_df160 wsJ0_checkIndex_df160) := goodIn_app (goodIn_of _ (by decide +kernel)) ggJ2_checkIndex_2214a_J0_checkIndex_df160
theorem dJ2_checkIndex_2214a_0 : decode cJ2_checkIndex_2214a 0 = .ok (.iload_n 0, 1) := by decide +kernel
theorem dJ2_checkIndex_2214a_1 : decode cJ2_checkIndex_2214a 1 = .ok (.aload_n 1, 1) := by decide +kernel
theorem dJ2_checkIndex_2214a_2 : decode cJ2_checkIndex_2214a 2 = .ok (.invokestatic 48, 3) := by decide +kernel
theorem dJ2_checkIndex_2214a_5 : decode cJ2_checkIndex_2214a 5 = .ok (.invokestatic 414, 3) := by decide +kernel
theorem dJ2_checkIndex_2214a_8 : decode cJ2_checkIndex_2214a 8 = .ok (.return_, 1) := by decide +kernel
theorem dJ7_fill_53178_0 : decode cJ7_fill_53178 0 = .ok (.iconst 0, 1) := by decide +kernel
theorem dJ7_fill_53178_1 : decode cJ7_fill_53178 1 = .ok (.istore_n 2, 1) := by decide +kernel
theorem dJ7_fill_53178_2 : decode cJ7_fill_53178 2 = .ok (.aload_n 0, 1) := by decide +kernel
theorem dJ7_fill_53178_3 : decode cJ7_fill_53178 3 = .ok (.arraylength, 1) := by decide +kernel
theorem dJ7_fill_53178_4 : decode cJ7_fill_53178 4 = .ok (.istore_n 3, 1) := by decide +kernel
theorem dJ7_fill_53178_5 : decode cJ7_fill_53178 5 = .ok (.iload_n 2, 1) := by decide +kernel
theorem dJ7_fill_53178_6 : decode cJ7_fill_53178 6 = .ok (.iload_n 3, 1) := by decide +kernel
theorem dJ7_fill_53178_7 : decode cJ7_fill_53178 7 = .ok (.if_icmp .ge 13, 3) := by decide +kernel
theorem dJ7_fill_53178_10 : decode cJ7_fill_53178 10 = .ok (.aload_n 0, 1) := by decide +kernel
theorem dJ7_fill_53178_11 : decode cJ7_fill_53178 11 = .ok (.iload_n 2, 1) := by decide +kernel
theorem dJ7_fill_53178_12 : decode cJ7_fill_53178 12 = .ok (.iload_n 1, 1) := by decide +kernel
theorem dJ7_fill_53178_13 : decode cJ7_fill_53178 13 = .ok (.iastore, 1) := by decide +kernel
theorem dJ7_fill_53178_14 : decode cJ7_fill_53178 14 = .ok (.iinc 2 1, 3) := by decide +kernel
theorem dJ7_fill_53178_17 : decode cJ7_fill_53178 17 = .ok (.goto (-12), 3) := by decide +kernel
theorem dJ7_fill_53178_20 : decode cJ7_fill_53178 20 = .ok (.return_, 1) := by decide +kernel
theorem dJ3_checkIndex_8e157_0 : decode cJ3_checkIndex_8e157 0 = .ok (.iload_n 0, 1) := by decide +kernel
theorem dJ3_checkIndex_8e157_1 : decode cJ3_checkIndex_8e157 1 = .ok (.ifCond .lt 8, 3) := by decide +kernel
theorem dJ3_checkIndex_8e157_4 : decode cJ3_checkIndex_8e157 4 = .ok (.iload_n 0, 1) := by decide +kernel
theorem dJ3_checkIndex_8e157_5 : decode cJ3_checkIndex_8e157 5 = .ok (.iload_n 1, 1) := by decide +kernel
theorem dJ3_checkIndex_8e157_6 : decode cJ3_checkIndex_8e157 6 = .ok (.if_icmp .lt 10, 3) := by decide +kernel
theorem dJ3_checkIndex_8e157_9 : decode cJ3_checkIndex_8e157 9 = .ok (.aload_n 2, 1) := by decide +kernel
theorem dJ3_checkIndex_8e157_10 : decode cJ3_checkIndex_8e157 10 = .ok (.iload_n 0, 1) := by decide +kernel
theorem dJ3_checkIndex_8e157_11 : decode cJ3_checkIndex_8e157 11 = .ok (.iload_n 1, 1) := by decide +kernel
theorem dJ3_checkIndex_8e157_12 : decode cJ3_checkIndex_8e157 12 = .ok (.invokestatic 95, 3) := by decide +kernel
theorem dJ3_checkIndex_8e157_15 : decode cJ3_checkIndex_8e157 15 = .ok (.athrow, 1) := by decide +kernel
theorem dJ3_checkIndex_8e157_16 : decode cJ3_checkIndex_8e157 16 = .ok (.iload_n 0, 1) := by decide +kernel
theorem dJ3_checkIndex_8e157_17 : decode cJ3_checkIndex_8e157 17 = .ok (.ireturn, 1) := by decide +kernel
