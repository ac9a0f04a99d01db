theorem dX2_takePattern_67 : decode cX2_takePattern 67 = .ok (.iload 5, 2) := by decide +kernel
theorem dX2_takePattern_69 : decode cX2_takePattern 69 = .ok (.iload_n 2, 1) := by decide +kernel
theorem dX2_takePattern_70 : decode cX2_takePattern 70 = .ok (.if_icmp .ge 45, 3) := by decide +kernel
theorem dX2_takePattern_73 : decode cX2_takePattern 73 = .ok (.aload_n 0, 1) := by decide +kernel
theorem dX2_takePattern_74 : decode cX2_takePattern 74 = .ok (.getfield 13, 3) := by decide +kernel
theorem dX2_takePattern_77 : decode cX2_takePattern 77 = .ok (.iload 5, 2) := by decide +kernel
theorem dX2_takePattern_79 : decode cX2_takePattern 79 = .ok (.aload_n 0, 1) := by decide +kernel
theorem dX2_takePattern_80 : decode cX2_takePattern 80 = .ok (.getfield 7, 3) := by decide +kernel
theorem dX2_takePattern_83 : decode cX2_takePattern 83 = .ok (.iload_n 1, 1) := by decide +kernel
theorem dX2_takePattern_84 : decode cX2_takePattern 84 = .ok (.iload 5, 2) := by decide +kernel
theorem dX2_takePattern_86 : decode cX2_takePattern 86 = .ok (.iadd, 1) := by decide +kernel
theorem dX2_takePattern_87 : decode cX2_takePattern 87 = .ok (.iaload, 1) := by decide +kernel
theorem dX2_takePattern_88 : decode cX2_takePattern 88 = .ok (.iastore, 1) := by decide +kernel
theorem dX2_takePattern_89 : decode cX2_takePattern 89 = .ok (.iload 4, 2) := by decide +kernel
theorem dX2_takePattern_91 : decode cX2_takePattern 91 = .ok (.aload_n 0, 1) := by decide +kernel
theorem dX2_takePattern_92 : decode cX2_takePattern 92 = .ok (.getfield 13, 3) := by decide +kernel
theorem dX2_takePattern_95 : decode cX2_takePattern 95 = .ok (.iload 5, 2) := by decide +kernel
theorem dX2_takePattern_97 : decode cX2_takePattern 97 = .ok (.iaload, 1) := by decide +kernel
theorem dX2_takePattern_98 : decode cX2_takePattern 98 = .ok (.ifCond .ne 7, 3) := by decide +kernel
theorem dX2_takePattern_101 : decode cX2_takePattern 101 = .ok (.iconst 1, 1) := by decide +kernel
theorem dX2_takePattern_102 : decode cX2_takePattern 102 = .ok (.goto 4, 3) := by decide +kernel
theorem dX2_takePattern_105 : decode cX2_takePattern 105 = .ok (.iconst 0, 1) := by decide +kernel
theorem dX2_takePattern_106 : decode cX2_takePattern 106 = .ok (.iadd, 1) := by decide +kernel
theorem dX2_takePattern_107 : decode cX2_takePattern 107 = .ok (.istore 4, 2) := by decide +kernel
theorem dX2_takePattern_109 : decode cX2_takePattern 109 = .ok (.iinc 5 1, 3) := by decide +kernel
theorem dX2_takePattern_112 : decode cX2_takePattern 112 = .ok (.goto (-45), 3) := by decide +kernel
theorem dX2_takePattern_115 : decode cX2_takePattern 115 = .ok (.iload 4, 2) := by decide +kernel
theorem dX2_takePattern_117 : decode cX2_takePattern 117 = .ok (.ireturn, 1) := by decide +kernel
theorem dX2_clearText_0 : decode cX2_clearText 0 = .ok (.aload_n 0, 1) := by decide +kernel
theorem dX2_clearText_1 : decode cX2_clearText 1 = .ok (.iconst 0, 1) := by decide +kernel
theorem dX2_clearText_2 : decode cX2_clearText 2 = .ok (.putfield 16, 3) := by decide +kernel
theorem dX2_clearText_5 : decode cX2_clearText 5 = .ok (.aload_n 0, 1) := by decide +kernel
theorem dX2_clearText_6 : decode cX2_clearText 6 = .ok (.getfield 24, 3) := by decide +kernel
theorem dX2_clearText_9 : decode cX2_clearText 9 = .ok (.istore_n 1, 1) := by decide +kernel
theorem dX2_clearText_10 : decode cX2_clearText 10 = .ok (.aload_n 0, 1) := by decide +kernel
theorem dX2_clearText_11 : decode cX2_clearText 11 = .ok (.iconst 0, 1) := by decide +kernel
theorem dX2_clearText_12 : decode cX2_clearText 12 = .ok (.putfield 24, 3) := by decide +kernel
theorem dX2_clearText_15 : decode cX2_clearText 15 = .ok (.iload_n 1, 1) := by decide +kernel
theorem dX2_clearText_16 : decode cX2_clearText 16 = .ok (.ireturn, 1) := by decide +kernel
theorem dX2_clearPattern_0 : decode cX2_clearPattern 0 = .ok (.aload_n 0, 1) := by decide +kernel
theorem dX2_clearPattern_1 : decode cX2_clearPattern 1 = .ok (.iconst 0, 1) := by decide +kernel
theorem dX2_clearPattern_2 : decode cX2_clearPattern 2 = .ok (.putfield 16, 3) := by decide +kernel
theorem dX2_clearPattern_5 : decode cX2_clearPattern 5 = .ok (.aload_n 0, 1) := by decide +kernel
theorem dX2_clearPattern_6 : decode cX2_clearPattern 6 = .ok (.getfield 30, 3) := by decide +kernel
theorem dX2_clearPattern_9 : decode cX2_clearPattern 9 = .ok (.istore_n 1, 1) := by decide +kernel
theorem dX2_clearPattern_10 : decode cX2_clearPattern 10 = .ok (.aload_n 0, 1) := by decide +kernel
theorem dX2_clearPattern_11 : decode cX2_clearPattern 11 = .ok (.iconst 0, 1) := by decide +kernel
theorem dX2_clearPattern_12 : decode cX2_clearPattern 12 = .ok (.putfield 30, 3) := by decide +kernel
theorem dX2_clearPattern_15 : decode cX2_clearPattern 15 = .ok (.iload_n 1, 1) := by decide +kernel
theorem dX2_clearPattern_16 : decode cX2_clearPattern 16 = .ok (.ireturn, 1) := by decide +kernel
theorem dX2_textLength_0 : decode cX2_textLength 0 = .ok (.aload_n 0, 1) := by decide +kernel
theorem dX2_textLength_1 : decode cX2_textLength 1 = .ok (.iconst 0, 1) := by decide +kernel
theorem dX2_textLength_2 : decode cX2_textLength 2 = .ok (.putfield 16, 3) := by decide +kernel
theorem dX2_textLength_5 : decode cX2_textLength 5 = .ok (.aload_n 0, 1) := by decide +kernel
theorem dX2_textLength_6 : decode cX2_textLength 6 = .ok (.getfield 24, 3) := by decide +kernel
theorem dX2_textLength_9 : decode cX2_textLength 9 = .ok (.ireturn, 1) := by decide +kernel
theorem dX2_patternLength_0 : decode cX2_patternLength 0 = .ok (.aload_n 0, 1) := by decide +kernel
theorem dX2_patternLength_1 : decode cX2_patternLength 1 = .ok (.iconst 0, 1) := by decide +kernel
theorem dX2_patternLength_2 : decode cX2_patternLength 2 = .ok (.putfield 16, 3) := by decide +kernel
theorem dX2_patternLength_5 : decode cX2_patternLength 5 = .ok (.aload_n 0, 1) := by decide +kernel
theorem dX2_patternLength_6 : decode cX2_patternLength 6 = .ok (.getfield 30, 3) := by decide +kernel
theorem dX2_patternLength_9 : decode cX2_patternLength 9 = .ok (.ireturn, 1) := by decide +kernel
theorem dX2_placeMany_0 : decode cX2_placeMany 0 = .ok (.aload_n 0, 1) := by decide +kernel
theorem dX2_placeMany_1 : decode cX2_placeMany 1 = .ok (.getfield 24, 3) := by decide +kernel
theorem dX2_placeMany_4 : decode cX2_placeMany 4 = .ok (.aload_n 0, 1) := by decide +kernel
theorem dX2_placeMany_5 : decode cX2_placeMany 5 = .ok (.getfield 30, 3) := by decide +kernel
theorem dX2_placeMany_8 : decode cX2_placeMany 8 = .ok (.if_icmp .ge 7, 3) := by decide +kernel
theorem dX2_placeMany_11 : decode cX2_placeMany 11 = .ok (.iconst 0, 1) := by decide +kernel
theorem dX2_placeMany_12 : decode cX2_placeMany 12 = .ok (.goto 14, 3) := by decide +kernel
theorem dX2_placeMany_15 : decode cX2_placeMany 15 = .ok (.aload_n 0, 1) := by decide +kernel
theorem dX2_placeMany_16 : decode cX2_placeMany 16 = .ok (.getfield 24, 3) := by decide +kernel
theorem dX2_placeMany_19 : decode cX2_placeMany 19 = .ok (.aload_n 0, 1) := by decide +kernel
theorem dX2_placeMany_20 : decode cX2_placeMany 20 = .ok (.getfield 30, 3) := by decide +kernel
theorem dX2_placeMany_23 : decode cX2_placeMany 23 = .ok (.isub, 1) := by decide +kernel
theorem dX2_placeMany_24 : decode cX2_placeMany 24 = .ok (.iconst 1, 1) := by decide +kernel
theorem dX2_placeMany_25 : decode cX2_placeMany 25 = .ok (.iadd, 1) := by decide +kernel
theorem dX2_placeMany_26 : decode cX2_placeMany 26 = .ok (.ireturn, 1) := by decide +kernel
set_option maxRecDepth 20000 in
theorem ggX2_isPlace_X2_placeMany : GoodIn wsX2_isPlace wsX2_placeMany := goodIn_r _ [5, 6, 7, 8, 9, 10, 11, 12] (by decide +kernel) (by decide +kernel)
set_option maxRecDepth 20000 in
theorem gX2_isPlace_X2_placeMany : GoodIn wsX2_isPlace (wsV RX2 36 RX2 yX2_placeMany wsX2_placeMany) := goodIn_app (goodIn_of _ (by decide +kernel)) ggX2_isPlace_X2_placeMany
theorem dX2_isPlace_0 : decode cX2_isPlace 0 = .ok (.iload_n 1, 1) := by decide +kernel
theorem dX2_isPlace_1 : decode cX2_isPlace 1 = .ok (.ifCond .lt 15, 3) := by decide +kernel
theorem dX2_isPlace_4 : decode cX2_isPlace 4 = .ok (.iload_n 1, 1) := by decide +kernel
theorem dX2_isPlace_5 : decode cX2_isPlace 5 = .ok (.aload_n 0, 1) := by decide +kernel
theorem dX2_isPlace_6 : decode cX2_isPlace 6 = .ok (.invokevirtual 36, 3) := by decide +kernel
theorem dX2_isPlace_9 : decode cX2_isPlace 9 = .ok (.if_icmp .ge 7, 3) := by decide +kernel
theorem dX2_isPlace_12 : decode cX2_isPlace 12 = .ok (.iconst 1, 1) := by decide +kernel
theorem dX2_isPlace_13 : decode cX2_isPlace 13 = .ok (.goto 4, 3) := by decide +kernel
theorem dX2_isPlace_16 : decode cX2_isPlace 16 = .ok (.iconst 0, 1) := by decide +kernel
theorem dX2_isPlace_17 : decode cX2_isPlace 17 = .ok (.ireturn, 1) := by decide +kernel
set_option maxRecDepth 20000 in
theorem ggX2_places_X2_placeMany : GoodIn wsX2_places wsX2_placeMany := goodIn_r _ [6, 7, 8, 9, 10, 11, 12, 13] (by decide +kernel) (by decide +kernel)
set_option maxRecDepth 20000 in
theorem gX2_places_X2_placeMany : GoodIn wsX2_places (wsV RX2 36 RX2 yX2_placeMany wsX2_placeMany) := goodIn_app (goodIn_of _ (by decide +kernel)) ggX2_places_X2_placeMany
theorem dX2_places_0 : decode cX2_places 0 = .ok (.aload_n 0, 1) := by decide +kernel
theorem dX2_places_1 : decode cX2_places 1 = .ok (.iconst 0, 1) := by decide +kernel
theorem dX2_places_2 : decode cX2_places 2 = .ok (.putfield 16, 3) := by decide +kernel
theorem dX2_places_5 : decode cX2_places 5 = .ok (.aload_n 0, 1) := by decide +kernel
theorem dX2_places_6 : decode cX2_places 6 = .ok (.invokevirtual 36, 3) := by decide +kernel
theorem dX2_places_9 : decode cX2_places 9 = .ok (.ireturn, 1) := by decide +kernel
set_option maxRecDepth 20000 in
theorem ggX2_product_X2_goesWell : GoodIn wsX2_product wsX2_goesWell := goodIn_r _ [9, 10, 11, 12, 13, 14, 15] (by decide +kernel) (by decide +kernel)
set_option maxRecDepth 20000 in
theorem gX2_product_X2_goesWell : GoodIn wsX2_product (wsV RX2 27 RX2 yX2_goesWell wsX2_goesWell) := goodIn_app (goodIn_of _ (by decide +kernel)) ggX2_product_X2_goesWell
theorem dX2_product_0 : decode cX2_product 0 = .ok (.aload_n 0, 1) := by decide +kernel
theorem dX2_product_1 : decode cX2_product 1 = .ok (.iload_n 1, 1) := by decide +kernel
theorem dX2_product_2 : decode cX2_product 2 = .ok (.ifCond .ge 7, 3) := by decide +kernel
theorem dX2_product_5 : decode cX2_product 5 = .ok (.iconst 1, 1) := by decide +kernel
theorem dX2_product_6 : decode cX2_product 6 = .ok (.goto 4, 3) := by decide +kernel
theorem dX2_product_9 : decode cX2_product 9 = .ok (.iconst 0, 1) := by decide +kernel
theorem dX2_product_10 : decode cX2_product 10 = .ok (.invokevirtual 27, 3) := by decide +kernel
theorem dX2_product_13 : decode cX2_product 13 = .ok (.ifCond .ne 5, 3) := by decide +kernel
theorem dX2_product_16 : decode cX2_product 16 = .ok (.iconst 0, 1) := by decide +kernel
theorem dX2_product_17 : decode cX2_product 17 = .ok (.ireturn, 1) := by decide +kernel
theorem dX2_product_18 : decode cX2_product 18 = .ok (.iconst 0, 1) := by decide +kernel
theorem dX2_product_19 : decode cX2_product 19 = .ok (.istore_n 2, 1) := by decide +kernel
theorem dX2_product_20 : decode cX2_product 20 = .ok (.iconst 0, 1) := by decide +kernel
theorem dX2_product_21 : decode cX2_product 21 = .ok (.istore_n 3, 1) := by decide +kernel
theorem dX2_product_22 : decode cX2_product 22 = .ok (.iload_n 3, 1) := by decide +kernel
theorem dX2_product_23 : decode cX2_product 23 = .ok (.aload_n 0, 1) := by decide +kernel
theorem dX2_product_24 : decode cX2_product 24 = .ok (.getfield 30, 3) := by decide +kernel
theorem dX2_product_27 : decode cX2_product 27 = .ok (.if_icmp .ge 56, 3) := by decide +kernel
theorem dX2_product_30 : decode cX2_product 30 = .ok (.iload_n 1, 1) := by decide +kernel
theorem dX2_product_31 : decode cX2_product 31 = .ok (.aload_n 0, 1) := by decide +kernel
theorem dX2_product_32 : decode cX2_product 32 = .ok (.getfield 30, 3) := by decide +kernel
theorem dX2_product_35 : decode cX2_product 35 = .ok (.iconst 1, 1) := by decide +kernel
theorem dX2_product_36 : decode cX2_product 36 = .ok (.isub, 1) := by decide +kernel
theorem dX2_product_37 : decode cX2_product 37 = .ok (.iload_n 3, 1) := by decide +kernel
theorem dX2_product_38 : decode cX2_product 38 = .ok (.isub, 1) := by decide +kernel
theorem dX2_product_39 : decode cX2_product 39 = .ok (.isub, 1) := by decide +kernel
theorem dX2_product_40 : decode cX2_product 40 = .ok (.istore 4, 2) := by decide +kernel
theorem dX2_product_42 : decode cX2_product 42 = .ok (.iload_n 2, 1) := by decide +kernel
theorem dX2_product_43 : decode cX2_product 43 = .ok (.iload 4, 2) := by decide +kernel
theorem dX2_product_45 : decode cX2_product 45 = .ok (.ifCond .lt 29, 3) := by decide +kernel
theorem dX2_product_48 : decode cX2_product 48 = .ok (.iload 4, 2) := by decide +kernel
theorem dX2_product_50 : decode cX2_product 50 = .ok (.aload_n 0, 1) := by decide +kernel
theorem dX2_product_51 : decode cX2_product 51 = .ok (.getfield 24, 3) := by decide +kernel
theorem dX2_product_54 : decode cX2_product 54 = .ok (.if_icmp .ge 20, 3) := by decide +kernel
theorem dX2_product_57 : decode cX2_product 57 = .ok (.aload_n 0, 1) := by decide +kernel
theorem dX2_product_58 : decode cX2_product 58 = .ok (.getfield 7, 3) := by decide +kernel
theorem dX2_product_61 : decode cX2_product 61 = .ok (.iload 4, 2) := by decide +kernel
theorem dX2_product_63 : decode cX2_product 63 = .ok (.iaload, 1) := by decide +kernel
theorem dX2_product_64 : decode cX2_product 64 = .ok (.aload_n 0, 1) := by decide +kernel
theorem dX2_product_65 : decode cX2_product 65 = .ok (.getfield 13, 3) := by decide +kernel
theorem dX2_product_68 : decode cX2_product 68 = .ok (.iload_n 3, 1) := by decide +kernel
theorem dX2_product_69 : decode cX2_product 69 = .ok (.iaload, 1) := by decide +kernel
theorem dX2_product_70 : decode cX2_product 70 = .ok (.imul, 1) := by decide +kernel
theorem dX2_product_71 : decode cX2_product 71 = .ok (.goto 4, 3) := by decide +kernel
theorem dX2_product_74 : decode cX2_product 74 = .ok (.iconst 0, 1) := by decide +kernel
theorem dX2_product_75 : decode cX2_product 75 = .ok (.iadd, 1) := by decide +kernel
theorem dX2_product_76 : decode cX2_product 76 = .ok (.istore_n 2, 1) := by decide +kernel
theorem dX2_product_77 : decode cX2_product 77 = .ok (.iinc 3 1, 3) := by decide +kernel
theorem dX2_product_80 : decode cX2_product 80 = .ok (.goto (-58), 3) := by decide +kernel
theorem dX2_product_83 : decode cX2_product 83 = .ok (.iload_n 2, 1) := by decide +kernel
theorem dX2_product_84 : decode cX2_product 84 = .ok (.ireturn, 1) := by decide +kernel
set_option maxRecDepth 20000 in
theorem ggX2_difference_X2_isPlace : GoodIn wsX2_difference wsX2_isPlace := goodIn_r _ [8, 9, 10, 11, 7, 12, 13, 1, 19, 20, 21, 22, 23] (by decide +kernel) (by decide +kernel)
set_option maxRecDepth 20000 in
theorem gX2_difference_X2_isPlace : GoodIn wsX2_difference (wsV RX2 40 RX2 yX2_isPlace wsX2_isPlace) := goodIn_app (goodIn_of _ (by decide +kernel)) ggX2_difference_X2_isPlace
set_option maxRecDepth 20000 in
theorem ggX2_difference_X2_goesWell : GoodIn wsX2_difference wsX2_goesWell := goodIn_r _ [17, 18, 19, 20, 21, 22, 23] (by decide +kernel) (by decide +kernel)
set_option maxRecDepth 20000 in
theorem gX2_difference_X2_goesWell : GoodIn wsX2_difference (wsV RX2 27 RX2 yX2_goesWell wsX2_goesWell) := goodIn_app (goodIn_of _ (by decide +kernel)) ggX2_difference_X2_goesWell
theorem dX2_difference_0 : decode cX2_difference 0 = .ok (.aload_n 0, 1) := by decide +kernel
theorem dX2_difference_1 : decode cX2_difference 1 = .ok (.aload_n 0, 1) := by decide +kernel
theorem dX2_difference_2 : decode cX2_difference 2 = .ok (.iload_n 1, 1) := by decide +kernel
theorem dX2_difference_3 : decode cX2_difference 3 = .ok (.invokevirtual 40, 3) := by decide +kernel
theorem dX2_difference_6 : decode cX2_difference 6 = .ok (.ifCond .eq 7, 3) := by decide +kernel
theorem dX2_difference_9 : decode cX2_difference 9 = .ok (.iconst 0, 1) := by decide +kernel
theorem dX2_difference_10 : decode cX2_difference 10 = .ok (.goto 4, 3) := by decide +kernel
theorem dX2_difference_13 : decode cX2_difference 13 = .ok (.iconst 1, 1) := by decide +kernel
theorem dX2_difference_14 : decode cX2_difference 14 = .ok (.invokevirtual 27, 3) := by decide +kernel
theorem dX2_difference_17 : decode cX2_difference 17 = .ok (.ifCond .ne 5, 3) := by decide +kernel
theorem dX2_difference_20 : decode cX2_difference 20 = .ok (.iconst 0, 1) := by decide +kernel
theorem dX2_difference_21 : decode cX2_difference 21 = .ok (.ireturn, 1) := by decide +kernel
theorem dX2_difference_22 : decode cX2_difference 22 = .ok (.iconst 0, 1) := by decide +kernel
theorem dX2_difference_23 : decode cX2_difference 23 = .ok (.istore_n 2, 1) := by decide +kernel
theorem dX2_difference_24 : decode cX2_difference 24 = .ok (.iconst 0, 1) := by decide +kernel
theorem dX2_difference_25 : decode cX2_difference 25 = .ok (.istore_n 3, 1) := by decide +kernel
theorem dX2_difference_26 : decode cX2_difference 26 = .ok (.iload_n 3, 1) := by decide +kernel
theorem dX2_difference_27 : decode cX2_difference 27 = .ok (.aload_n 0, 1) := by decide +kernel
theorem dX2_difference_28 : decode cX2_difference 28 = .ok (.getfield 30, 3) := by decide +kernel
theorem dX2_difference_31 : decode cX2_difference 31 = .ok (.if_icmp .ge 50, 3) := by decide +kernel
theorem dX2_difference_34 : decode cX2_difference 34 = .ok (.aload_n 0, 1) := by decide +kernel
theorem dX2_difference_35 : decode cX2_difference 35 = .ok (.getfield 13, 3) := by decide +kernel
theorem dX2_difference_38 : decode cX2_difference 38 = .ok (.iload_n 3, 1) := by decide +kernel
theorem dX2_difference_39 : decode cX2_difference 39 = .ok (.iaload, 1) := by decide +kernel
theorem dX2_difference_40 : decode cX2_difference 40 = .ok (.aload_n 0, 1) := by decide +kernel
theorem dX2_difference_41 : decode cX2_difference 41 = .ok (.getfield 7, 3) := by decide +kernel
theorem dX2_difference_44 : decode cX2_difference 44 = .ok (.iload_n 1, 1) := by decide +kernel
theorem dX2_difference_45 : decode cX2_difference 45 = .ok (.iload_n 3, 1) := by decide +kernel
theorem dX2_difference_46 : decode cX2_difference 46 = .ok (.iadd, 1) := by decide +kernel
theorem dX2_difference_47 : decode cX2_difference 47 = .ok (.iaload, 1) := by decide +kernel
theorem dX2_difference_48 : decode cX2_difference 48 = .ok (.isub, 1) := by decide +kernel
theorem dX2_difference_49 : decode cX2_difference 49 = .ok (.istore 4, 2) := by decide +kernel
theorem dX2_difference_51 : decode cX2_difference 51 = .ok (.iload_n 2, 1) := by decide +kernel
theorem dX2_difference_52 : decode cX2_difference 52 = .ok (.aload_n 0, 1) := by decide +kernel
theorem dX2_difference_53 : decode cX2_difference 53 = .ok (.getfield 13, 3) := by decide +kernel
theorem dX2_difference_56 : decode cX2_difference 56 = .ok (.iload_n 3, 1) := by decide +kernel
theorem dX2_difference_57 : decode cX2_difference 57 = .ok (.iaload, 1) := by decide +kernel
theorem dX2_difference_58 : decode cX2_difference 58 = .ok (.aload_n 0, 1) := by decide +kernel
theorem dX2_difference_59 : decode cX2_difference 59 = .ok (.getfield 7, 3) := by decide +kernel
theorem dX2_difference_62 : decode cX2_difference 62 = .ok (.iload_n 1, 1) := by decide +kernel
theorem dX2_difference_63 : decode cX2_difference 63 = .ok (.iload_n 3, 1) := by decide +kernel
theorem dX2_difference_64 : decode cX2_difference 64 = .ok (.iadd, 1) := by decide +kernel
theorem dX2_difference_65 : decode cX2_difference 65 = .ok (.iaload, 1) := by decide +kernel
theorem dX2_difference_66 : decode cX2_difference 66 = .ok (.imul, 1) := by decide +kernel
theorem dX2_difference_67 : decode cX2_difference 67 = .ok (.iload 4, 2) := by decide +kernel
theorem dX2_difference_69 : decode cX2_difference 69 = .ok (.imul, 1) := by decide +kernel
theorem dX2_difference_70 : decode cX2_difference 70 = .ok (.iload 4, 2) := by decide +kernel
theorem dX2_difference_72 : decode cX2_difference 72 = .ok (.imul, 1) := by decide +kernel
theorem dX2_difference_73 : decode cX2_difference 73 = .ok (.iadd, 1) := by decide +kernel
theorem dX2_difference_74 : decode cX2_difference 74 = .ok (.istore_n 2, 1) := by decide +kernel
theorem dX2_difference_75 : decode cX2_difference 75 = .ok (.iinc 3 1, 3) := by decide +kernel
theorem dX2_difference_78 : decode cX2_difference 78 = .ok (.goto (-52), 3) := by decide +kernel
theorem dX2_difference_81 : decode cX2_difference 81 = .ok (.iload_n 2, 1) := by decide +kernel
theorem dX2_difference_82 : decode cX2_difference 82 = .ok (.ireturn, 1) := by decide +kernel
theorem dX2_agree_0 : decode cX2_agree 0 = .ok (.iload_n 0, 1) := by decide +kernel
theorem dX2_agree_1 : decode cX2_agree 1 = .ok (.iload_n 1, 1) := by decide +kernel
theorem dX2_agree_2 : decode cX2_agree 2 = .ok (.if_icmp .eq 11, 3) := by decide +kernel
theorem dX2_agree_5 : decode cX2_agree 5 = .ok (.iload_n 0, 1) := by decide +kernel
theorem dX2_agree_6 : decode cX2_agree 6 = .ok (.ifCond .eq 7, 3) := by decide +kernel
theorem dX2_agree_9 : decode cX2_agree 9 = .ok (.iload_n 1, 1) := by decide +kernel
theorem dX2_agree_10 : decode cX2_agree 10 = .ok (.ifCond .ne 7, 3) := by decide +kernel
theorem dX2_agree_13 : decode cX2_agree 13 = .ok (.iconst 1, 1) := by decide +kernel
theorem dX2_agree_14 : decode cX2_agree 14 = .ok (.goto 4, 3) := by decide +kernel
theorem dX2_agree_17 : decode cX2_agree 17 = .ok (.iconst 0, 1) := by decide +kernel
theorem dX2_agree_18 : decode cX2_agree 18 = .ok (.ireturn, 1) := by decide +kernel
set_option maxRecDepth 20000 in
theorem ggX2_countAt_X2_agree : GoodIn wsX2_countAt wsX2_agree := goodIn_r _ [7] (by decide +kernel) (by decide +kernel)
set_option maxRecDepth 20000 in
theorem gX2_countAt_X2_agree : GoodIn wsX2_countAt (va_wsS RX2 43 yX2_agree wsX2_agree) := goodIn_app (goodIn_of _ (by decide +kernel)) ggX2_countAt_X2_agree
theorem dX2_countAt_0 : decode cX2_countAt 0 = .ok (.iconst 0, 1) := by decide +kernel
theorem dX2_countAt_1 : decode cX2_countAt 1 = .ok (.istore_n 2, 1) := by decide +kernel
theorem dX2_countAt_2 : decode cX2_countAt 2 = .ok (.iconst 0, 1) := by decide +kernel
theorem dX2_countAt_3 : decode cX2_countAt 3 = .ok (.istore_n 3, 1) := by decide +kernel
theorem dX2_countAt_4 : decode cX2_countAt 4 = .ok (.iload_n 3, 1) := by decide +kernel
theorem dX2_countAt_5 : decode cX2_countAt 5 = .ok (.aload_n 0, 1) := by decide +kernel
theorem dX2_countAt_6 : decode cX2_countAt 6 = .ok (.getfield 30, 3) := by decide +kernel
theorem dX2_countAt_9 : decode cX2_countAt 9 = .ok (.if_icmp .ge 37, 3) := by decide +kernel
theorem dX2_countAt_12 : decode cX2_countAt 12 = .ok (.iload_n 2, 1) := by decide +kernel
theorem dX2_countAt_13 : decode cX2_countAt 13 = .ok (.aload_n 0, 1) := by decide +kernel
theorem dX2_countAt_14 : decode cX2_countAt 14 = .ok (.getfield 13, 3) := by decide +kernel
theorem dX2_countAt_17 : decode cX2_countAt 17 = .ok (.iload_n 3, 1) := by decide +kernel
theorem dX2_countAt_18 : decode cX2_countAt 18 = .ok (.iaload, 1) := by decide +kernel
theorem dX2_countAt_19 : decode cX2_countAt 19 = .ok (.aload_n 0, 1) := by decide +kernel
theorem dX2_countAt_20 : decode cX2_countAt 20 = .ok (.getfield 7, 3) := by decide +kernel
theorem dX2_countAt_23 : decode cX2_countAt 23 = .ok (.iload_n 1, 1) := by decide +kernel
theorem dX2_countAt_24 : decode cX2_countAt 24 = .ok (.iload_n 3, 1) := by decide +kernel
theorem dX2_countAt_25 : decode cX2_countAt 25 = .ok (.iadd, 1) := by decide +kernel
theorem dX2_countAt_26 : decode cX2_countAt 26 = .ok (.iaload, 1) := by decide +kernel
theorem dX2_countAt_27 : decode cX2_countAt 27 = .ok (.invokestatic 43, 3) := by decide +kernel
theorem dX2_countAt_30 : decode cX2_countAt 30 = .ok (.ifCond .eq 7, 3) := by decide +kernel
theorem dX2_countAt_33 : decode cX2_countAt 33 = .ok (.iconst 0, 1) := by decide +kernel
theorem dX2_countAt_34 : decode cX2_countAt 34 = .ok (.goto 4, 3) := by decide +kernel
theorem dX2_countAt_37 : decode cX2_countAt 37 = .ok (.iconst 1, 1) := by decide +kernel
theorem dX2_countAt_38 : decode cX2_countAt 38 = .ok (.iadd, 1) := by decide +kernel
theorem dX2_countAt_39 : decode cX2_countAt 39 = .ok (.istore_n 2, 1) := by decide +kernel
theorem dX2_countAt_40 : decode cX2_countAt 40 = .ok (.iinc 3 1, 3) := by decide +kernel
theorem dX2_countAt_43 : decode cX2_countAt 43 = .ok (.goto (-39), 3) := by decide +kernel
theorem dX2_countAt_46 : decode cX2_countAt 46 = .ok (.iload_n 2, 1) := by decide +kernel
theorem dX2_countAt_47 : decode cX2_countAt 47 = .ok (.ireturn, 1) := by decide +kernel
theorem dX2_sumOf_0 : decode cX2_sumOf 0 = .ok (.iconst 0, 1) := by decide +kernel
theorem dX2_sumOf_1 : decode cX2_sumOf 1 = .ok (.istore_n 2, 1) := by decide +kernel
theorem dX2_sumOf_2 : decode cX2_sumOf 2 = .ok (.iconst 0, 1) := by decide +kernel
theorem dX2_sumOf_3 : decode cX2_sumOf 3 = .ok (.istore_n 3, 1) := by decide +kernel
theorem dX2_sumOf_4 : decode cX2_sumOf 4 = .ok (.iload_n 3, 1) := by decide +kernel
theorem dX2_sumOf_5 : decode cX2_sumOf 5 = .ok (.aload_n 0, 1) := by decide +kernel
theorem dX2_sumOf_6 : decode cX2_sumOf 6 = .ok (.getfield 30, 3) := by decide +kernel
theorem dX2_sumOf_9 : decode cX2_sumOf 9 = .ok (.if_icmp .ge 27, 3) := by decide +kernel
theorem dX2_sumOf_12 : decode cX2_sumOf 12 = .ok (.iload_n 2, 1) := by decide +kernel
theorem dX2_sumOf_13 : decode cX2_sumOf 13 = .ok (.aload_n 0, 1) := by decide +kernel
theorem dX2_sumOf_14 : decode cX2_sumOf 14 = .ok (.getfield 7, 3) := by decide +kernel
theorem dX2_sumOf_17 : decode cX2_sumOf 17 = .ok (.iload_n 1, 1) := by decide +kernel
theorem dX2_sumOf_18 : decode cX2_sumOf 18 = .ok (.iload_n 3, 1) := by decide +kernel
theorem dX2_sumOf_19 : decode cX2_sumOf 19 = .ok (.iadd, 1) := by decide +kernel
theorem dX2_sumOf_20 : decode cX2_sumOf 20 = .ok (.iaload, 1) := by decide +kernel
theorem dX2_sumOf_21 : decode cX2_sumOf 21 = .ok (.aload_n 0, 1) := by decide +kernel
theorem dX2_sumOf_22 : decode cX2_sumOf 22 = .ok (.getfield 13, 3) := by decide +kernel
theorem dX2_sumOf_25 : decode cX2_sumOf 25 = .ok (.iload_n 3, 1) := by decide +kernel
theorem dX2_sumOf_26 : decode cX2_sumOf 26 = .ok (.iaload, 1) := by decide +kernel
theorem dX2_sumOf_27 : decode cX2_sumOf 27 = .ok (.isub, 1) := by decide +kernel
theorem dX2_sumOf_28 : decode cX2_sumOf 28 = .ok (.iadd, 1) := by decide +kernel
theorem dX2_sumOf_29 : decode cX2_sumOf 29 = .ok (.istore_n 2, 1) := by decide +kernel
theorem dX2_sumOf_30 : decode cX2_sumOf 30 = .ok (.iinc 3 1, 3) := by decide +kernel
theorem dX2_sumOf_33 : decode cX2_sumOf 33 = .ok (.goto (-29), 3) := by decide +kernel
theorem dX2_sumOf_36 : decode cX2_sumOf 36 = .ok (.iload_n 2, 1) := by decide +kernel
theorem dX2_sumOf_37 : decode cX2_sumOf 37 = .ok (.ireturn, 1) := by decide +kernel
theorem dX2_sign_0 : decode cX2_sign 0 = .ok (.iload_n 0, 1) := by decide +kernel
theorem dX2_sign_1 : decode cX2_sign 1 = .ok (.ifCond .ge 7, 3) := by decide +kernel
theorem dX2_sign_4 : decode cX2_sign 4 = .ok (.iconst (-1), 1) := by decide +kernel
theorem dX2_sign_5 : decode cX2_sign 5 = .ok (.goto 12, 3) := by decide +kernel
theorem dX2_sign_8 : decode cX2_sign 8 = .ok (.iload_n 0, 1) := by decide +kernel
theorem dX2_sign_9 : decode cX2_sign 9 = .ok (.ifCond .le 7, 3) := by decide +kernel
theorem dX2_sign_12 : decode cX2_sign 12 = .ok (.iconst 1, 1) := by decide +kernel
theorem dX2_sign_13 : decode cX2_sign 13 = .ok (.goto 4, 3) := by decide +kernel
theorem dX2_sign_16 : decode cX2_sign 16 = .ok (.iconst 0, 1) := by decide +kernel
theorem dX2_sign_17 : decode cX2_sign 17 = .ok (.ireturn, 1) := by decide +kernel
set_option maxRecDepth 20000 in
theorem ggX2_isOrdered_X2_sign : GoodIn wsX2_isOrdered wsX2_sign := goodIn_r _ [7] (by decide +kernel) (by decide +kernel)
set_option maxRecDepth 20000 in
theorem gX2_isOrdered_X2_sign : GoodIn wsX2_isOrdered (va_wsS RX2 47 yX2_sign wsX2_sign) := goodIn_app (goodIn_of _ (by decide +kernel)) ggX2_isOrdered_X2_sign
theorem dX2_isOrdered_0 : decode cX2_isOrdered 0 = .ok (.iconst 1, 1) := by decide +kernel
theorem dX2_isOrdered_1 : decode cX2_isOrdered 1 = .ok (.istore_n 2, 1) := by decide +kernel
theorem dX2_isOrdered_2 : decode cX2_isOrdered 2 = .ok (.iconst 0, 1) := by decide +kernel
theorem dX2_isOrdered_3 : decode cX2_isOrdered 3 = .ok (.istore_n 3, 1) := by decide +kernel
theorem dX2_isOrdered_4 : decode cX2_isOrdered 4 = .ok (.iload_n 3, 1) := by decide +kernel
theorem dX2_isOrdered_5 : decode cX2_isOrdered 5 = .ok (.aload_n 0, 1) := by decide +kernel
theorem dX2_isOrdered_6 : decode cX2_isOrdered 6 = .ok (.getfield 30, 3) := by decide +kernel
theorem dX2_isOrdered_9 : decode cX2_isOrdered 9 = .ok (.if_icmp .ge 75, 3) := by decide +kernel
theorem dX2_isOrdered_12 : decode cX2_isOrdered 12 = .ok (.iconst 0, 1) := by decide +kernel
theorem dX2_isOrdered_13 : decode cX2_isOrdered 13 = .ok (.istore 4, 2) := by decide +kernel
theorem dX2_isOrdered_15 : decode cX2_isOrdered 15 = .ok (.iload 4, 2) := by decide +kernel
theorem dX2_isOrdered_17 : decode cX2_isOrdered 17 = .ok (.iload_n 3, 1) := by decide +kernel
theorem dX2_isOrdered_18 : decode cX2_isOrdered 18 = .ok (.if_icmp .ge 60, 3) := by decide +kernel
theorem dX2_isOrdered_21 : decode cX2_isOrdered 21 = .ok (.iload_n 2, 1) := by decide +kernel
theorem dX2_isOrdered_22 : decode cX2_isOrdered 22 = .ok (.ifCond .eq 48, 3) := by decide +kernel
theorem dX2_isOrdered_25 : decode cX2_isOrdered 25 = .ok (.aload_n 0, 1) := by decide +kernel
theorem dX2_isOrdered_26 : decode cX2_isOrdered 26 = .ok (.getfield 13, 3) := by decide +kernel
theorem dX2_isOrdered_29 : decode cX2_isOrdered 29 = .ok (.iload_n 3, 1) := by decide +kernel
theorem dX2_isOrdered_30 : decode cX2_isOrdered 30 = .ok (.iaload, 1) := by decide +kernel
theorem dX2_isOrdered_31 : decode cX2_isOrdered 31 = .ok (.aload_n 0, 1) := by decide +kernel
theorem dX2_isOrdered_32 : decode cX2_isOrdered 32 = .ok (.getfield 13, 3) := by decide +kernel
theorem dX2_isOrdered_35 : decode cX2_isOrdered 35 = .ok (.iload 4, 2) := by decide +kernel
theorem dX2_isOrdered_37 : decode cX2_isOrdered 37 = .ok (.iaload, 1) := by decide +kernel
theorem dX2_isOrdered_38 : decode cX2_isOrdered 38 = .ok (.isub, 1) := by decide +kernel
theorem dX2_isOrdered_39 : decode cX2_isOrdered 39 = .ok (.invokestatic 47, 3) := by decide +kernel
theorem dX2_isOrdered_42 : decode cX2_isOrdered 42 = .ok (.aload_n 0, 1) := by decide +kernel
theorem dX2_isOrdered_43 : decode cX2_isOrdered 43 = .ok (.getfield 7, 3) := by decide +kernel
theorem dX2_isOrdered_46 : decode cX2_isOrdered 46 = .ok (.iload_n 1, 1) := by decide +kernel
theorem dX2_isOrdered_47 : decode cX2_isOrdered 47 = .ok (.iload_n 3, 1) := by decide +kernel
theorem dX2_isOrdered_48 : decode cX2_isOrdered 48 = .ok (.iadd, 1) := by decide +kernel
theorem dX2_isOrdered_49 : decode cX2_isOrdered 49 = .ok (.iaload, 1) := by decide +kernel
theorem dX2_isOrdered_50 : decode cX2_isOrdered 50 = .ok (.aload_n 0, 1) := by decide +kernel
theorem dX2_isOrdered_51 : decode cX2_isOrdered 51 = .ok (.getfield 7, 3) := by decide +kernel
theorem dX2_isOrdered_54 : decode cX2_isOrdered 54 = .ok (.iload_n 1, 1) := by decide +kernel
theorem dX2_isOrdered_55 : decode cX2_isOrdered 55 = .ok (.iload 4, 2) := by decide +kernel
theorem dX2_isOrdered_57 : decode cX2_isOrdered 57 = .ok (.iadd, 1) := by decide +kernel
theorem dX2_isOrdered_58 : decode cX2_isOrdered 58 = .ok (.iaload, 1) := by decide +kernel
theorem dX2_isOrdered_59 : decode cX2_isOrdered 59 = .ok (.isub, 1) := by decide +kernel
theorem dX2_isOrdered_60 : decode cX2_isOrdered 60 = .ok (.invokestatic 47, 3) := by decide +kernel
theorem dX2_isOrdered_63 : decode cX2_isOrdered 63 = .ok (.if_icmp .ne 7, 3) := by decide +kernel
theorem dX2_isOrdered_66 : decode cX2_isOrdered 66 = .ok (.iconst 1, 1) := by decide +kernel
theorem dX2_isOrdered_67 : decode cX2_isOrdered 67 = .ok (.goto 4, 3) := by decide +kernel
theorem dX2_isOrdered_70 : decode cX2_isOrdered 70 = .ok (.iconst 0, 1) := by decide +kernel
theorem dX2_isOrdered_71 : decode cX2_isOrdered 71 = .ok (.istore_n 2, 1) := by decide +kernel
theorem dX2_isOrdered_72 : decode cX2_isOrdered 72 = .ok (.iinc 4 1, 3) := by decide +kernel
theorem dX2_isOrdered_75 : decode cX2_isOrdered 75 = .ok (.goto (-60), 3) := by decide +kernel
theorem dX2_isOrdered_78 : decode cX2_isOrdered 78 = .ok (.iinc 3 1, 3) := by decide +kernel
theorem dX2_isOrdered_81 : decode cX2_isOrdered 81 = .ok (.goto (-77), 3) := by decide +kernel
theorem dX2_isOrdered_84 : decode cX2_isOrdered 84 = .ok (.iload_n 2, 1) := by decide +kernel
theorem dX2_isOrdered_85 : decode cX2_isOrdered 85 = .ok (.ireturn, 1) := by decide +kernel
set_option maxRecDepth 20000 in
theorem ggX2_isWanted_X2_countAt : GoodIn wsX2_isWanted wsX2_countAt := goodIn_r _ [5, 6, 7, 8, 9, 10, 4, 11, 23, 24, 25, 26, 27] (by decide +kernel) (by decide +kernel)
set_option maxRecDepth 20000 in
theorem gX2_isWanted_X2_countAt : GoodIn wsX2_isWanted (wsV RX2 51 RX2 yX2_countAt wsX2_countAt) := goodIn_app (goodIn_of _ (by decide +kernel)) ggX2_isWanted_X2_countAt
set_option maxRecDepth 20000 in
theorem ggX2_isWanted_X2_sumOf : GoodIn wsX2_isWanted wsX2_sumOf := goodIn_r _ [15, 6, 8, 7, 23, 24, 25, 26, 27] (by decide +kernel) (by decide +kernel)
set_option maxRecDepth 20000 in
theorem gX2_isWanted_X2_sumOf : GoodIn wsX2_isWanted (wsV RX2 54 RX2 yX2_sumOf wsX2_sumOf) := goodIn_app (goodIn_of _ (by decide +kernel)) ggX2_isWanted_X2_sumOf
set_option maxRecDepth 20000 in
theorem ggX2_isWanted_X2_isOrdered : GoodIn wsX2_isWanted wsX2_isOrdered := goodIn_r _ [19, 6, 7, 8, 20, 21, 4, 22, 23, 24, 25, 26, 27] (by decide +kernel) (by decide +kernel)
set_option maxRecDepth 20000 in
theorem gX2_isWanted_X2_isOrdered : GoodIn wsX2_isWanted (wsV RX2 57 RX2 yX2_isOrdered wsX2_isOrdered) := goodIn_app (goodIn_of _ (by decide +kernel)) ggX2_isWanted_X2_isOrdered
theorem dX2_isWanted_0 : decode cX2_isWanted 0 = .ok (.iload_n 1, 1) := by decide +kernel
theorem dX2_isWanted_1 : decode cX2_isWanted 1 = .ok (.ifCond .ne 19, 3) := by decide +kernel
theorem dX2_isWanted_4 : decode cX2_isWanted 4 = .ok (.aload_n 0, 1) := by decide +kernel
theorem dX2_isWanted_5 : decode cX2_isWanted 5 = .ok (.iload_n 2, 1) := by decide +kernel
theorem dX2_isWanted_6 : decode cX2_isWanted 6 = .ok (.invokevirtual 51, 3) := by decide +kernel
theorem dX2_isWanted_9 : decode cX2_isWanted 9 = .ok (.ifCond .ne 7, 3) := by decide +kernel
theorem dX2_isWanted_12 : decode cX2_isWanted 12 = .ok (.iconst 1, 1) := by decide +kernel
theorem dX2_isWanted_13 : decode cX2_isWanted 13 = .ok (.goto 33, 3) := by decide +kernel
theorem dX2_isWanted_16 : decode cX2_isWanted 16 = .ok (.iconst 0, 1) := by decide +kernel
theorem dX2_isWanted_17 : decode cX2_isWanted 17 = .ok (.goto 29, 3) := by decide +kernel
theorem dX2_isWanted_20 : decode cX2_isWanted 20 = .ok (.iload_n 1, 1) := by decide +kernel
theorem dX2_isWanted_21 : decode cX2_isWanted 21 = .ok (.iconst 1, 1) := by decide +kernel
theorem dX2_isWanted_22 : decode cX2_isWanted 22 = .ok (.if_icmp .ne 19, 3) := by decide +kernel
theorem dX2_isWanted_25 : decode cX2_isWanted 25 = .ok (.aload_n 0, 1) := by decide +kernel
theorem dX2_isWanted_26 : decode cX2_isWanted 26 = .ok (.iload_n 2, 1) := by decide +kernel
theorem dX2_isWanted_27 : decode cX2_isWanted 27 = .ok (.invokevirtual 54, 3) := by decide +kernel
theorem dX2_isWanted_30 : decode cX2_isWanted 30 = .ok (.ifCond .ne 7, 3) := by decide +kernel
theorem dX2_isWanted_33 : decode cX2_isWanted 33 = .ok (.iconst 1, 1) := by decide +kernel
theorem dX2_isWanted_34 : decode cX2_isWanted 34 = .ok (.goto 12, 3) := by decide +kernel
theorem dX2_isWanted_37 : decode cX2_isWanted 37 = .ok (.iconst 0, 1) := by decide +kernel
theorem dX2_isWanted_38 : decode cX2_isWanted 38 = .ok (.goto 8, 3) := by decide +kernel
theorem dX2_isWanted_41 : decode cX2_isWanted 41 = .ok (.aload_n 0, 1) := by decide +kernel
theorem dX2_isWanted_42 : decode cX2_isWanted 42 = .ok (.iload_n 2, 1) := by decide +kernel
theorem dX2_isWanted_43 : decode cX2_isWanted 43 = .ok (.invokevirtual 57, 3) := by decide +kernel
theorem dX2_isWanted_46 : decode cX2_isWanted 46 = .ok (.ireturn, 1) := by decide +kernel
set_option maxRecDepth 20000 in
theorem ggX2_wanted_X2_placeMany : GoodIn wsX2_wanted wsX2_placeMany := goodIn_r _ [5, 6, 7, 32, 33, 34, 35, 36] (by decide +kernel) (by decide +kernel)
set_option maxRecDepth 20000 in
theorem gX2_wanted_X2_placeMany : GoodIn wsX2_wanted (wsV RX2 36 RX2 yX2_placeMany wsX2_placeMany) := goodIn_app (goodIn_of _ (by decide +kernel)) ggX2_wanted_X2_placeMany
set_option maxRecDepth 20000 in
theorem ggX2_wanted_X2_isWanted : GoodIn wsX2_wanted wsX2_isWanted := goodIn_r _ [11, 12, 13, 14, 4, 15, 7, 16, 17, 18, 19, 20, 21, 22, 23, 24, 25, 26, 27, 28, 29, 30, 31, 32, 33, 34, 35, 36] (by decide +kernel) (by decide +kernel)
set_option maxRecDepth 20000 in
theorem gX2_wanted_X2_isWanted : GoodIn wsX2_wanted (wsV RX2 60 RX2 yX2_isWanted wsX2_isWanted) := goodIn_app (goodIn_of _ (by decide +kernel)) ggX2_wanted_X2_isWanted
theorem dX2_wanted_0 : decode cX2_wanted 0 = .ok (.iconst 0, 1) := by decide +kernel
theorem dX2_wanted_1 : decode cX2_wanted 1 = .ok (.istore_n 2, 1) := by decide +kernel
theorem dX2_wanted_2 : decode cX2_wanted 2 = .ok (.iconst 0, 1) := by decide +kernel
theorem dX2_wanted_3 : decode cX2_wanted 3 = .ok (.istore_n 3, 1) := by decide +kernel
theorem dX2_wanted_4 : decode cX2_wanted 4 = .ok (.iload_n 3, 1) := by decide +kernel
theorem dX2_wanted_5 : decode cX2_wanted 5 = .ok (.aload_n 0, 1) := by decide +kernel
theorem dX2_wanted_6 : decode cX2_wanted 6 = .ok (.invokevirtual 36, 3) := by decide +kernel
theorem dX2_wanted_9 : decode cX2_wanted 9 = .ok (.if_icmp .ge 26, 3) := by decide +kernel
theorem dX2_wanted_12 : decode cX2_wanted 12 = .ok (.iload_n 2, 1) := by decide +kernel
theorem dX2_wanted_13 : decode cX2_wanted 13 = .ok (.aload_n 0, 1) := by decide +kernel
theorem dX2_wanted_14 : decode cX2_wanted 14 = .ok (.iload_n 1, 1) := by decide +kernel
theorem dX2_wanted_15 : decode cX2_wanted 15 = .ok (.iload_n 3, 1) := by decide +kernel
theorem dX2_wanted_16 : decode cX2_wanted 16 = .ok (.invokevirtual 60, 3) := by decide +kernel
theorem dX2_wanted_19 : decode cX2_wanted 19 = .ok (.ifCond .eq 7, 3) := by decide +kernel
theorem dX2_wanted_22 : decode cX2_wanted 22 = .ok (.iconst 1, 1) := by decide +kernel
theorem dX2_wanted_23 : decode cX2_wanted 23 = .ok (.goto 4, 3) := by decide +kernel
theorem dX2_wanted_26 : decode cX2_wanted 26 = .ok (.iconst 0, 1) := by decide +kernel
theorem dX2_wanted_27 : decode cX2_wanted 27 = .ok (.iadd, 1) := by decide +kernel
theorem dX2_wanted_28 : decode cX2_wanted 28 = .ok (.istore_n 2, 1) := by decide +kernel
theorem dX2_wanted_29 : decode cX2_wanted 29 = .ok (.iinc 3 1, 3) := by decide +kernel
theorem dX2_wanted_32 : decode cX2_wanted 32 = .ok (.goto (-28), 3) := by decide +kernel
theorem dX2_wanted_35 : decode cX2_wanted 35 = .ok (.iload_n 2, 1) := by decide +kernel
theorem dX2_wanted_36 : decode cX2_wanted 36 = .ok (.ireturn, 1) := by decide +kernel
set_option maxRecDepth 20000 in
theorem ggX2_find_X2_isWanted : GoodIn wsX2_find wsX2_isWanted := goodIn_r _ [5, 6, 7, 8, 4, 9, 10, 11, 12, 13, 14, 15, 16, 17, 18, 19, 20, 21, 22, 23, 24, 25, 26, 27, 28, 29, 30, 31] (by decide +kernel) (by decide +kernel)
set_option maxRecDepth 20000 in
theorem gX2_find_X2_isWanted : GoodIn wsX2_find (wsV RX2 60 RX2 yX2_isWanted wsX2_isWanted) := goodIn_app (goodIn_of _ (by decide +kernel)) ggX2_find_X2_isWanted
theorem dX2_find_0 : decode cX2_find 0 = .ok (.iload_n 2, 1) := by decide +kernel
theorem dX2_find_1 : decode cX2_find 1 = .ok (.istore_n 3, 1) := by decide +kernel
theorem dX2_find_2 : decode cX2_find 2 = .ok (.iconst 0, 1) := by decide +kernel
theorem dX2_find_3 : decode cX2_find 3 = .ok (.istore 4, 2) := by decide +kernel
theorem dX2_find_5 : decode cX2_find 5 = .ok (.iload_n 3, 1) := by decide +kernel
theorem dX2_find_6 : decode cX2_find 6 = .ok (.ifCond .gt 13, 3) := by decide +kernel
theorem dX2_find_9 : decode cX2_find 9 = .ok (.aload_n 0, 1) := by decide +kernel
theorem dX2_find_10 : decode cX2_find 10 = .ok (.iload_n 1, 1) := by decide +kernel
theorem dX2_find_11 : decode cX2_find 11 = .ok (.iload 4, 2) := by decide +kernel
theorem dX2_find_13 : decode cX2_find 13 = .ok (.invokevirtual 60, 3) := by decide +kernel
theorem dX2_find_16 : decode cX2_find 16 = .ok (.ifCond .ne 27, 3) := by decide +kernel
theorem dX2_find_19 : decode cX2_find 19 = .ok (.iload_n 3, 1) := by decide +kernel
theorem dX2_find_20 : decode cX2_find 20 = .ok (.aload_n 0, 1) := by decide +kernel
theorem dX2_find_21 : decode cX2_find 21 = .ok (.iload_n 1, 1) := by decide +kernel
theorem dX2_find_22 : decode cX2_find 22 = .ok (.iload 4, 2) := by decide +kernel
theorem dX2_find_24 : decode cX2_find 24 = .ok (.invokevirtual 60, 3) := by decide +kernel
theorem dX2_find_27 : decode cX2_find 27 = .ok (.ifCond .eq 7, 3) := by decide +kernel
theorem dX2_find_30 : decode cX2_find 30 = .ok (.iconst 1, 1) := by decide +kernel
theorem dX2_find_31 : decode cX2_find 31 = .ok (.goto 4, 3) := by decide +kernel
theorem dX2_find_34 : decode cX2_find 34 = .ok (.iconst 0, 1) := by decide +kernel
theorem dX2_find_35 : decode cX2_find 35 = .ok (.isub, 1) := by decide +kernel
theorem dX2_find_36 : decode cX2_find 36 = .ok (.istore_n 3, 1) := by decide +kernel
theorem dX2_find_37 : decode cX2_find 37 = .ok (.iinc 4 1, 3) := by decide +kernel
theorem dX2_find_40 : decode cX2_find 40 = .ok (.goto (-35), 3) := by decide +kernel
theorem dX2_find_43 : decode cX2_find 43 = .ok (.iload 4, 2) := by decide +kernel
theorem dX2_find_45 : decode cX2_find 45 = .ok (.ireturn, 1) := by decide +kernel
set_option maxRecDepth 20000 in
theorem ggX2_isNumber_X2_wanted : GoodIn wsX2_isNumber wsX2_wanted := goodIn_r _ [5, 6, 7, 8, 4, 9, 10, 11, 12, 13, 14, 15, 16, 17, 18, 19, 20, 21, 22, 23, 24, 25, 26, 27, 28, 29, 30, 31, 32, 33, 34, 35, 36, 37, 38, 39, 40] (by decide +kernel) (by decide +kernel)
set_option maxRecDepth 20000 in
theorem gX2_isNumber_X2_wanted : GoodIn wsX2_isNumber (wsV RX2 63 RX2 yX2_wanted wsX2_wanted) := goodIn_app (goodIn_of _ (by decide +kernel)) ggX2_isNumber_X2_wanted
theorem dX2_isNumber_0 : decode cX2_isNumber 0 = .ok (.iload_n 2, 1) := by decide +kernel
theorem dX2_isNumber_1 : decode cX2_isNumber 1 = .ok (.ifCond .lt 16, 3) := by decide +kernel
theorem dX2_isNumber_4 : decode cX2_isNumber 4 = .ok (.iload_n 2, 1) := by decide +kernel
theorem dX2_isNumber_5 : decode cX2_isNumber 5 = .ok (.aload_n 0, 1) := by decide +kernel
theorem dX2_isNumber_6 : decode cX2_isNumber 6 = .ok (.iload_n 1, 1) := by decide +kernel
theorem dX2_isNumber_7 : decode cX2_isNumber 7 = .ok (.invokevirtual 63, 3) := by decide +kernel
theorem dX2_isNumber_10 : decode cX2_isNumber 10 = .ok (.if_icmp .ge 7, 3) := by decide +kernel
theorem dX2_isNumber_13 : decode cX2_isNumber 13 = .ok (.iconst 1, 1) := by decide +kernel
theorem dX2_isNumber_14 : decode cX2_isNumber 14 = .ok (.goto 4, 3) := by decide +kernel
theorem dX2_isNumber_17 : decode cX2_isNumber 17 = .ok (.iconst 0, 1) := by decide +kernel
theorem dX2_isNumber_18 : decode cX2_isNumber 18 = .ok (.ireturn, 1) := by decide +kernel
set_option maxRecDepth 20000 in
theorem ggX2_matches_X2_wanted : GoodIn wsX2_matches wsX2_wanted := goodIn_r _ [6, 7, 8, 9, 5, 10, 11, 12, 13, 14, 15, 16, 17, 18, 19, 20, 21, 22, 23, 24, 25, 26, 27, 28, 29, 30, 31, 32, 33, 34, 35, 36, 37, 38, 39, 40, 41] (by decide +kernel) (by decide +kernel)
set_option maxRecDepth 20000 in
theorem gX2_matches_X2_wanted : GoodIn wsX2_matches (wsV RX2 63 RX2 yX2_wanted wsX2_wanted) := goodIn_app (goodIn_of _ (by decide +kernel)) ggX2_matches_X2_wanted
theorem dX2_matches_0 : decode cX2_matches 0 = .ok (.aload_n 0, 1) := by decide +kernel
theorem dX2_matches_1 : decode cX2_matches 1 = .ok (.iconst 0, 1) := by decide +kernel
theorem dX2_matches_2 : decode cX2_matches 2 = .ok (.putfield 16, 3) := by decide +kernel
theorem dX2_matches_5 : decode cX2_matches 5 = .ok (.aload_n 0, 1) := by decide +kernel
theorem dX2_matches_6 : decode cX2_matches 6 = .ok (.iconst 0, 1) := by decide +kernel
theorem dX2_matches_7 : decode cX2_matches 7 = .ok (.invokevirtual 63, 3) := by decide +kernel
theorem dX2_matches_10 : decode cX2_matches 10 = .ok (.ireturn, 1) := by decide +kernel
set_option maxRecDepth 20000 in
theorem ggX2_match_X2_isNumber : GoodIn wsX2_match wsX2_isNumber := goodIn_r _ [5, 6, 7, 8, 4, 9, 10, 11, 12, 13, 14, 15, 16, 17, 18, 19, 20, 21, 22, 23, 24, 25, 26, 27, 28, 29, 30, 31, 32, 33, 34, 35, 36, 37, 38, 39, 49, 50, 51, 52, 53] (by decide +kernel) (by decide +kernel)
set_option maxRecDepth 20000 in
theorem gX2_match_X2_isNumber : GoodIn wsX2_match (wsV RX2 66 RX2 yX2_isNumber wsX2_isNumber) := goodIn_app (goodIn_of _ (by decide +kernel)) ggX2_match_X2_isNumber
set_option maxRecDepth 20000 in
theorem ggX2_match_X2_goesWell : GoodIn wsX2_match wsX2_goesWell := goodIn_r _ [43, 44, 49, 50, 51, 52, 53] (by decide +kernel) (by decide +kernel)
set_option maxRecDepth 20000 in
theorem gX2_match_X2_goesWell : GoodIn wsX2_match (wsV RX2 27 RX2 yX2_goesWell wsX2_goesWell) := goodIn_app (goodIn_of _ (by decide +kernel)) ggX2_match_X2_goesWell
set_option maxRecDepth 20000 in
theorem ggX2_match_X2_find : GoodIn wsX2_match wsX2_find := goodIn_r _ [48, 16, 17, 18, 4, 19, 20, 21, 22, 23, 15, 24, 25, 26, 27, 28, 29, 30, 31, 32, 33, 34, 35, 36, 37, 38, 39, 49, 50, 51, 52, 53] (by decide +kernel) (by decide +kernel)
set_option maxRecDepth 20000 in
theorem gX2_match_X2_find : GoodIn wsX2_match (wsV RX2 69 RX2 yX2_find wsX2_find) := goodIn_app (goodIn_of _ (by decide +kernel)) ggX2_match_X2_find
theorem dX2_match_0 : decode cX2_match 0 = .ok (.aload_n 0, 1) := by decide +kernel
theorem dX2_match_1 : decode cX2_match 1 = .ok (.aload_n 0, 1) := by decide +kernel
theorem dX2_match_2 : decode cX2_match 2 = .ok (.iconst 0, 1) := by decide +kernel
theorem dX2_match_3 : decode cX2_match 3 = .ok (.iload_n 1, 1) := by decide +kernel
theorem dX2_match_4 : decode cX2_match 4 = .ok (.invokevirtual 66, 3) := by decide +kernel
theorem dX2_match_7 : decode cX2_match 7 = .ok (.ifCond .eq 7, 3) := by decide +kernel
theorem dX2_match_10 : decode cX2_match 10 = .ok (.iconst 0, 1) := by decide +kernel
theorem dX2_match_11 : decode cX2_match 11 = .ok (.goto 4, 3) := by decide +kernel
theorem dX2_match_14 : decode cX2_match 14 = .ok (.iconst 1, 1) := by decide +kernel
theorem dX2_match_15 : decode cX2_match 15 = .ok (.invokevirtual 27, 3) := by decide +kernel
theorem dX2_match_18 : decode cX2_match 18 = .ok (.ifCond .eq 12, 3) := by decide +kernel
theorem dX2_match_21 : decode cX2_match 21 = .ok (.aload_n 0, 1) := by decide +kernel
theorem dX2_match_22 : decode cX2_match 22 = .ok (.iconst 0, 1) := by decide +kernel
theorem dX2_match_23 : decode cX2_match 23 = .ok (.iload_n 1, 1) := by decide +kernel
theorem dX2_match_24 : decode cX2_match 24 = .ok (.invokevirtual 69, 3) := by decide +kernel
theorem dX2_match_27 : decode cX2_match 27 = .ok (.goto 4, 3) := by decide +kernel
theorem dX2_match_30 : decode cX2_match 30 = .ok (.iconst 0, 1) := by decide +kernel
theorem dX2_match_31 : decode cX2_match 31 = .ok (.ireturn, 1) := by decide +kernel
set_option maxRecDepth 20000 in
theorem ggX2_apart_X2_placeMany : GoodIn wsX2_apart wsX2_placeMany := goodIn_r _ [7, 8, 2, 33, 34, 35, 36, 37] (by decide +kernel) (by decide +kernel)
set_option maxRecDepth 20000 in
theorem gX2_apart_X2_placeMany : GoodIn wsX2_apart (wsV RX2 36 RX2 yX2_placeMany wsX2_placeMany) := goodIn_app (goodIn_of _ (by decide +kernel)) ggX2_apart_X2_placeMany
set_option maxRecDepth 20000 in
theorem ggX2_apart_X2_isWanted : GoodIn wsX2_apart wsX2_isWanted := goodIn_r _ [12, 13, 14, 15, 6, 16, 2, 17, 18, 19, 20, 21, 22, 23, 24, 25, 26, 27, 28, 29, 30, 31, 32, 33, 34, 35, 36, 37] (by decide +kernel) (by decide +kernel)
set_option maxRecDepth 20000 in
theorem gX2_apart_X2_isWanted : GoodIn wsX2_apart (wsV RX2 60 RX2 yX2_isWanted wsX2_isWanted) := goodIn_app (goodIn_of _ (by decide +kernel)) ggX2_apart_X2_isWanted
theorem dX2_apart_0 : decode cX2_apart 0 = .ok (.aload_n 0, 1) := by decide +kernel
theorem dX2_apart_1 : decode cX2_apart 1 = .ok (.iconst 0, 1) := by decide +kernel
theorem dX2_apart_2 : decode cX2_apart 2 = .ok (.putfield 16, 3) := by decide +kernel
theorem dX2_apart_5 : decode cX2_apart 5 = .ok (.iconst 0, 1) := by decide +kernel
theorem dX2_apart_6 : decode cX2_apart 6 = .ok (.istore_n 1, 1) := by decide +kernel
theorem dX2_apart_7 : decode cX2_apart 7 = .ok (.iconst 0, 1) := by decide +kernel
theorem dX2_apart_8 : decode cX2_apart 8 = .ok (.istore_n 2, 1) := by decide +kernel
theorem dX2_apart_9 : decode cX2_apart 9 = .ok (.iconst 0, 1) := by decide +kernel
theorem dX2_apart_10 : decode cX2_apart 10 = .ok (.istore_n 3, 1) := by decide +kernel
theorem dX2_apart_11 : decode cX2_apart 11 = .ok (.iload_n 3, 1) := by decide +kernel
theorem dX2_apart_12 : decode cX2_apart 12 = .ok (.aload_n 0, 1) := by decide +kernel
theorem dX2_apart_13 : decode cX2_apart 13 = .ok (.invokevirtual 36, 3) := by decide +kernel
theorem dX2_apart_16 : decode cX2_apart 16 = .ok (.if_icmp .ge 33, 3) := by decide +kernel
theorem dX2_apart_19 : decode cX2_apart 19 = .ok (.iload_n 3, 1) := by decide +kernel
theorem dX2_apart_20 : decode cX2_apart 20 = .ok (.iload_n 2, 1) := by decide +kernel
theorem dX2_apart_21 : decode cX2_apart 21 = .ok (.if_icmp .lt 22, 3) := by decide +kernel
theorem dX2_apart_24 : decode cX2_apart 24 = .ok (.aload_n 0, 1) := by decide +kernel
theorem dX2_apart_25 : decode cX2_apart 25 = .ok (.iconst 0, 1) := by decide +kernel
theorem dX2_apart_26 : decode cX2_apart 26 = .ok (.iload_n 3, 1) := by decide +kernel
theorem dX2_apart_27 : decode cX2_apart 27 = .ok (.invokevirtual 60, 3) := by decide +kernel
theorem dX2_apart_30 : decode cX2_apart 30 = .ok (.ifCond .eq 13, 3) := by decide +kernel
theorem dX2_apart_33 : decode cX2_apart 33 = .ok (.iinc 1 1, 3) := by decide +kernel
theorem dX2_apart_36 : decode cX2_apart 36 = .ok (.iload_n 3, 1) := by decide +kernel
theorem dX2_apart_37 : decode cX2_apart 37 = .ok (.aload_n 0, 1) := by decide +kernel
theorem dX2_apart_38 : decode cX2_apart 38 = .ok (.getfield 30, 3) := by decide +kernel
theorem dX2_apart_41 : decode cX2_apart 41 = .ok (.iadd, 1) := by decide +kernel
theorem dX2_apart_42 : decode cX2_apart 42 = .ok (.istore_n 2, 1) := by decide +kernel
theorem dX2_apart_43 : decode cX2_apart 43 = .ok (.iinc 3 1, 3) := by decide +kernel
theorem dX2_apart_46 : decode cX2_apart 46 = .ok (.goto (-35), 3) := by decide +kernel
theorem dX2_apart_49 : decode cX2_apart 49 = .ok (.iload_n 1, 1) := by decide +kernel
theorem dX2_apart_50 : decode cX2_apart 50 = .ok (.ireturn, 1) := by decide +kernel
set_option maxRecDepth 20000 in
theorem ggX2_mismatches_X2_isPlace : GoodIn wsX2_mismatches wsX2_isPlace := goodIn_r _ [5, 6, 7, 8, 4, 9, 10, 11, 26, 27, 28, 29, 30] (by decide +kernel) (by decide +kernel)
set_option maxRecDepth 20000 in
theorem gX2_mismatches_X2_isPlace : GoodIn wsX2_mismatches (wsV RX2 40 RX2 yX2_isPlace wsX2_isPlace) := goodIn_app (goodIn_of _ (by decide +kernel)) ggX2_mismatches_X2_isPlace
set_option maxRecDepth 20000 in
theorem ggX2_mismatches_X2_goesWell : GoodIn wsX2_mismatches wsX2_goesWell := goodIn_r _ [15, 16, 26, 27, 28, 29, 30] (by decide +kernel) (by decide +kernel)
set_option maxRecDepth 20000 in
theorem gX2_mismatches_X2_goesWell : GoodIn wsX2_mismatches (wsV RX2 27 RX2 yX2_goesWell wsX2_goesWell) := goodIn_app (goodIn_of _ (by decide +kernel)) ggX2_mismatches_X2_goesWell
set_option maxRecDepth 20000 in
theorem ggX2_mismatches_X2_countAt : GoodIn wsX2_mismatches wsX2_countAt := goodIn_r _ [20, 11, 21, 22, 23, 24, 4, 25, 26, 27, 28, 29, 30] (by decide +kernel) (by decide +kernel)
set_option maxRecDepth 20000 in
theorem gX2_mismatches_X2_countAt : GoodIn wsX2_mismatches (wsV RX2 51 RX2 yX2_countAt wsX2_countAt) := goodIn_app (goodIn_of _ (by decide +kernel)) ggX2_mismatches_X2_countAt
theorem dX2_mismatches_0 : decode cX2_mismatches 0 = .ok (.aload_n 0, 1) := by decide +kernel
theorem dX2_mismatches_1 : decode cX2_mismatches 1 = .ok (.aload_n 0, 1) := by decide +kernel
theorem dX2_mismatches_2 : decode cX2_mismatches 2 = .ok (.iload_n 1, 1) := by decide +kernel
theorem dX2_mismatches_3 : decode cX2_mismatches 3 = .ok (.invokevirtual 40, 3) := by decide +kernel
theorem dX2_mismatches_6 : decode cX2_mismatches 6 = .ok (.ifCond .eq 7, 3) := by decide +kernel
theorem dX2_mismatches_9 : decode cX2_mismatches 9 = .ok (.iconst 0, 1) := by decide +kernel
theorem dX2_mismatches_10 : decode cX2_mismatches 10 = .ok (.goto 4, 3) := by decide +kernel
theorem dX2_mismatches_13 : decode cX2_mismatches 13 = .ok (.iconst 1, 1) := by decide +kernel
theorem dX2_mismatches_14 : decode cX2_mismatches 14 = .ok (.invokevirtual 27, 3) := by decide +kernel
theorem dX2_mismatches_17 : decode cX2_mismatches 17 = .ok (.ifCond .eq 11, 3) := by decide +kernel
theorem dX2_mismatches_20 : decode cX2_mismatches 20 = .ok (.aload_n 0, 1) := by decide +kernel
theorem dX2_mismatches_21 : decode cX2_mismatches 21 = .ok (.iload_n 1, 1) := by decide +kernel
theorem dX2_mismatches_22 : decode cX2_mismatches 22 = .ok (.invokevirtual 51, 3) := by decide +kernel
theorem dX2_mismatches_25 : decode cX2_mismatches 25 = .ok (.goto 4, 3) := by decide +kernel
theorem dX2_mismatches_28 : decode cX2_mismatches 28 = .ok (.iconst 0, 1) := by decide +kernel
theorem dX2_mismatches_29 : decode cX2_mismatches 29 = .ok (.ireturn, 1) := by decide +kernel
set_option maxRecDepth 20000 in
theorem ggX2_mismatchesOf_X2_isPlace : GoodIn wsX2_mismatchesOf wsX2_isPlace := goodIn_r _ [8, 9, 10, 11, 7, 12, 13, 1, 22, 23, 24, 25, 26] (by decide +kernel) (by decide +kernel)
set_option maxRecDepth 20000 in
theorem gX2_mismatchesOf_X2_isPlace : GoodIn wsX2_mismatchesOf (wsV RX2 40 RX2 yX2_isPlace wsX2_isPlace) := goodIn_app (goodIn_of _ (by decide +kernel)) ggX2_mismatchesOf_X2_isPlace
set_option maxRecDepth 20000 in
theorem ggX2_mismatchesOf_X2_goesWell : GoodIn wsX2_mismatchesOf wsX2_goesWell := goodIn_r _ [17, 18, 22, 23, 24, 25, 26] (by decide +kernel) (by decide +kernel)
set_option maxRecDepth 20000 in
theorem gX2_mismatchesOf_X2_goesWell : GoodIn wsX2_mismatchesOf (wsV RX2 27 RX2 yX2_goesWell wsX2_goesWell) := goodIn_app (goodIn_of _ (by decide +kernel)) ggX2_mismatchesOf_X2_goesWell
set_option maxRecDepth 20000 in
theorem ggX2_mismatchesOf_X2_agree : GoodIn wsX2_mismatchesOf wsX2_agree := goodIn_r _ [21] (by decide +kernel) (by decide +kernel)
set_option maxRecDepth 20000 in
theorem gX2_mismatchesOf_X2_agree : GoodIn wsX2_mismatchesOf (va_wsS RX2 43 yX2_agree wsX2_agree) := goodIn_app (goodIn_of _ (by decide +kernel)) ggX2_mismatchesOf_X2_agree
theorem dX2_mismatchesOf_0 : decode cX2_mismatchesOf 0 = .ok (.aload_n 0, 1) := by decide +kernel
theorem dX2_mismatchesOf_1 : decode cX2_mismatchesOf 1 = .ok (.iload_n 2, 1) := by decide +kernel
theorem dX2_mismatchesOf_2 : decode cX2_mismatchesOf 2 = .ok (.iconst 1, 1) := by decide +kernel
theorem dX2_mismatchesOf_3 : decode cX2_mismatchesOf 3 = .ok (.if_icmp .lt 9, 3) := by decide +kernel
theorem dX2_mismatchesOf_6 : decode cX2_mismatchesOf 6 = .ok (.iload_n 2, 1) := by decide +kernel
theorem dX2_mismatchesOf_7 : decode cX2_mismatchesOf 7 = .ok (.bipush 26, 2) := by decide +kernel
theorem dX2_mismatchesOf_9 : decode cX2_mismatchesOf 9 = .ok (.if_icmp .le 7, 3) := by decide +kernel
theorem dX2_mismatchesOf_12 : decode cX2_mismatchesOf 12 = .ok (.iconst 1, 1) := by decide +kernel
theorem dX2_mismatchesOf_13 : decode cX2_mismatchesOf 13 = .ok (.goto 16, 3) := by decide +kernel
theorem dX2_mismatchesOf_16 : decode cX2_mismatchesOf 16 = .ok (.aload_n 0, 1) := by decide +kernel
theorem dX2_mismatchesOf_17 : decode cX2_mismatchesOf 17 = .ok (.iload_n 1, 1) := by decide +kernel
theorem dX2_mismatchesOf_18 : decode cX2_mismatchesOf 18 = .ok (.invokevirtual 40, 3) := by decide +kernel
theorem dX2_mismatchesOf_21 : decode cX2_mismatchesOf 21 = .ok (.ifCond .eq 7, 3) := by decide +kernel
theorem dX2_mismatchesOf_24 : decode cX2_mismatchesOf 24 = .ok (.iconst 0, 1) := by decide +kernel
theorem dX2_mismatchesOf_25 : decode cX2_mismatchesOf 25 = .ok (.goto 4, 3) := by decide +kernel
theorem dX2_mismatchesOf_28 : decode cX2_mismatchesOf 28 = .ok (.iconst 2, 1) := by decide +kernel
theorem dX2_mismatchesOf_29 : decode cX2_mismatchesOf 29 = .ok (.invokevirtual 27, 3) := by decide +kernel
theorem dX2_mismatchesOf_32 : decode cX2_mismatchesOf 32 = .ok (.ifCond .ne 5, 3) := by decide +kernel
theorem dX2_mismatchesOf_35 : decode cX2_mismatchesOf 35 = .ok (.iconst 0, 1) := by decide +kernel
theorem dX2_mismatchesOf_36 : decode cX2_mismatchesOf 36 = .ok (.ireturn, 1) := by decide +kernel
theorem dX2_mismatchesOf_37 : decode cX2_mismatchesOf 37 = .ok (.iconst 0, 1) := by decide +kernel
theorem dX2_mismatchesOf_38 : decode cX2_mismatchesOf 38 = .ok (.istore_n 3, 1) := by decide +kernel
theorem dX2_mismatchesOf_39 : decode cX2_mismatchesOf 39 = .ok (.iconst 0, 1) := by decide +kernel
theorem dX2_mismatchesOf_40 : decode cX2_mismatchesOf 40 = .ok (.istore 4, 2) := by decide +kernel
theorem dX2_mismatchesOf_42 : decode cX2_mismatchesOf 42 = .ok (.iload 4, 2) := by decide +kernel
theorem dX2_mismatchesOf_44 : decode cX2_mismatchesOf 44 = .ok (.aload_n 0, 1) := by decide +kernel
theorem dX2_mismatchesOf_45 : decode cX2_mismatchesOf 45 = .ok (.getfield 30, 3) := by decide +kernel
theorem dX2_mismatchesOf_48 : decode cX2_mismatchesOf 48 = .ok (.if_icmp .ge 44, 3) := by decide +kernel
theorem dX2_mismatchesOf_51 : decode cX2_mismatchesOf 51 = .ok (.iload_n 3, 1) := by decide +kernel
theorem dX2_mismatchesOf_52 : decode cX2_mismatchesOf 52 = .ok (.aload_n 0, 1) := by decide +kernel
theorem dX2_mismatchesOf_53 : decode cX2_mismatchesOf 53 = .ok (.getfield 13, 3) := by decide +kernel
theorem dX2_mismatchesOf_56 : decode cX2_mismatchesOf 56 = .ok (.iload 4, 2) := by decide +kernel
theorem dX2_mismatchesOf_58 : decode cX2_mismatchesOf 58 = .ok (.iaload, 1) := by decide +kernel
theorem dX2_mismatchesOf_59 : decode cX2_mismatchesOf 59 = .ok (.iload_n 2, 1) := by decide +kernel
theorem dX2_mismatchesOf_60 : decode cX2_mismatchesOf 60 = .ok (.if_icmp .ne 23, 3) := by decide +kernel
theorem dX2_mismatchesOf_63 : decode cX2_mismatchesOf 63 = .ok (.iload_n 2, 1) := by decide +kernel
theorem dX2_mismatchesOf_64 : decode cX2_mismatchesOf 64 = .ok (.aload_n 0, 1) := by decide +kernel
theorem dX2_mismatchesOf_65 : decode cX2_mismatchesOf 65 = .ok (.getfield 7, 3) := by decide +kernel
theorem dX2_mismatchesOf_68 : decode cX2_mismatchesOf 68 = .ok (.iload_n 1, 1) := by decide +kernel
theorem dX2_mismatchesOf_69 : decode cX2_mismatchesOf 69 = .ok (.iload 4, 2) := by decide +kernel
theorem dX2_mismatchesOf_71 : decode cX2_mismatchesOf 71 = .ok (.iadd, 1) := by decide +kernel
theorem dX2_mismatchesOf_72 : decode cX2_mismatchesOf 72 = .ok (.iaload, 1) := by decide +kernel
theorem dX2_mismatchesOf_73 : decode cX2_mismatchesOf 73 = .ok (.invokestatic 43, 3) := by decide +kernel
theorem dX2_mismatchesOf_76 : decode cX2_mismatchesOf 76 = .ok (.ifCond .ne 7, 3) := by decide +kernel
theorem dX2_mismatchesOf_79 : decode cX2_mismatchesOf 79 = .ok (.iconst 1, 1) := by decide +kernel
theorem dX2_mismatchesOf_80 : decode cX2_mismatchesOf 80 = .ok (.goto 4, 3) := by decide +kernel
theorem dX2_mismatchesOf_83 : decode cX2_mismatchesOf 83 = .ok (.iconst 0, 1) := by decide +kernel
theorem dX2_mismatchesOf_84 : decode cX2_mismatchesOf 84 = .ok (.iadd, 1) := by decide +kernel
theorem dX2_mismatchesOf_85 : decode cX2_mismatchesOf 85 = .ok (.istore_n 3, 1) := by decide +kernel
theorem dX2_mismatchesOf_86 : decode cX2_mismatchesOf 86 = .ok (.iinc 4 1, 3) := by decide +kernel
theorem dX2_mismatchesOf_89 : decode cX2_mismatchesOf 89 = .ok (.goto (-47), 3) := by decide +kernel
theorem dX2_mismatchesOf_92 : decode cX2_mismatchesOf 92 = .ok (.iload_n 3, 1) := by decide +kernel
theorem dX2_mismatchesOf_93 : decode cX2_mismatchesOf 93 = .ok (.ireturn, 1) := by decide +kernel
set_option maxRecDepth 20000 in
theorem ggX2_nextMismatch_X2_isPlace : GoodIn wsX2_nextMismatch wsX2_isPlace := goodIn_r _ [8, 9, 10, 11, 7, 12, 13, 1, 22, 23, 24, 25, 26] (by decide +kernel) (by decide +kernel)
set_option maxRecDepth 20000 in
theorem gX2_nextMismatch_X2_isPlace : GoodIn wsX2_nextMismatch (wsV RX2 40 RX2 yX2_isPlace wsX2_isPlace) := goodIn_app (goodIn_of _ (by decide +kernel)) ggX2_nextMismatch_X2_isPlace
set_option maxRecDepth 20000 in
theorem ggX2_nextMismatch_X2_goesWell : GoodIn wsX2_nextMismatch wsX2_goesWell := goodIn_r _ [17, 18, 22, 23, 24, 25, 26] (by decide +kernel) (by decide +kernel)
set_option maxRecDepth 20000 in
theorem gX2_nextMismatch_X2_goesWell : GoodIn wsX2_nextMismatch (wsV RX2 27 RX2 yX2_goesWell wsX2_goesWell) := goodIn_app (goodIn_of _ (by decide +kernel)) ggX2_nextMismatch_X2_goesWell
set_option maxRecDepth 20000 in
theorem ggX2_nextMismatch_X2_agree : GoodIn wsX2_nextMismatch wsX2_agree := goodIn_r _ [21] (by decide +kernel) (by decide +kernel)
set_option maxRecDepth 20000 in
theorem gX2_nextMismatch_X2_agree : GoodIn wsX2_nextMismatch (va_wsS RX2 43 yX2_agree wsX2_agree) := goodIn_app (goodIn_of _ (by decide +kernel)) ggX2_nextMismatch_X2_agree
theorem dX2_nextMismatch_0 : decode cX2_nextMismatch 0 = .ok (.aload_n 0, 1) := by decide +kernel
theorem dX2_nextMismatch_1 : decode cX2_nextMismatch 1 = .ok (.iload_n 2, 1) := by decide +kernel
theorem dX2_nextMismatch_2 : decode cX2_nextMismatch 2 = .ok (.ifCond .ge 7, 3) := by decide +kernel
theorem dX2_nextMismatch_5 : decode cX2_nextMismatch 5 = .ok (.iconst 1, 1) := by decide +kernel
theorem dX2_nextMismatch_6 : decode cX2_nextMismatch 6 = .ok (.goto 16, 3) := by decide +kernel
theorem dX2_nextMismatch_9 : decode cX2_nextMismatch 9 = .ok (.aload_n 0, 1) := by decide +kernel
theorem dX2_nextMismatch_10 : decode cX2_nextMismatch 10 = .ok (.iload_n 1, 1) := by decide +kernel
theorem dX2_nextMismatch_11 : decode cX2_nextMismatch 11 = .ok (.invokevirtual 40, 3) := by decide +kernel
theorem dX2_nextMismatch_14 : decode cX2_nextMismatch 14 = .ok (.ifCond .eq 7, 3) := by decide +kernel
theorem dX2_nextMismatch_17 : decode cX2_nextMismatch 17 = .ok (.iconst 0, 1) := by decide +kernel
theorem dX2_nextMismatch_18 : decode cX2_nextMismatch 18 = .ok (.goto 4, 3) := by decide +kernel
theorem dX2_nextMismatch_21 : decode cX2_nextMismatch 21 = .ok (.iconst 2, 1) := by decide +kernel
theorem dX2_nextMismatch_22 : decode cX2_nextMismatch 22 = .ok (.invokevirtual 27, 3) := by decide +kernel
theorem dX2_nextMismatch_25 : decode cX2_nextMismatch 25 = .ok (.ifCond .ne 5, 3) := by decide +kernel
theorem dX2_nextMismatch_28 : decode cX2_nextMismatch 28 = .ok (.iconst 0, 1) := by decide +kernel
theorem dX2_nextMismatch_29 : decode cX2_nextMismatch 29 = .ok (.ireturn, 1) := by decide +kernel
theorem dX2_nextMismatch_30 : decode cX2_nextMismatch 30 = .ok (.iload_n 2, 1) := by decide +kernel
theorem dX2_nextMismatch_31 : decode cX2_nextMismatch 31 = .ok (.istore_n 3, 1) := by decide +kernel
theorem dX2_nextMismatch_32 : decode cX2_nextMismatch 32 = .ok (.iload_n 3, 1) := by decide +kernel
theorem dX2_nextMismatch_33 : decode cX2_nextMismatch 33 = .ok (.aload_n 0, 1) := by decide +kernel
theorem dX2_nextMismatch_34 : decode cX2_nextMismatch 34 = .ok (.getfield 30, 3) := by decide +kernel
theorem dX2_nextMismatch_37 : decode cX2_nextMismatch 37 = .ok (.if_icmp .ge 31, 3) := by decide +kernel
theorem dX2_nextMismatch_40 : decode cX2_nextMismatch 40 = .ok (.aload_n 0, 1) := by decide +kernel
theorem dX2_nextMismatch_41 : decode cX2_nextMismatch 41 = .ok (.getfield 13, 3) := by decide +kernel
theorem dX2_nextMismatch_44 : decode cX2_nextMismatch 44 = .ok (.iload_n 3, 1) := by decide +kernel
theorem dX2_nextMismatch_45 : decode cX2_nextMismatch 45 = .ok (.iaload, 1) := by decide +kernel
theorem dX2_nextMismatch_46 : decode cX2_nextMismatch 46 = .ok (.aload_n 0, 1) := by decide +kernel
theorem dX2_nextMismatch_47 : decode cX2_nextMismatch 47 = .ok (.getfield 7, 3) := by decide +kernel
theorem dX2_nextMismatch_50 : decode cX2_nextMismatch 50 = .ok (.iload_n 1, 1) := by decide +kernel
theorem dX2_nextMismatch_51 : decode cX2_nextMismatch 51 = .ok (.iload_n 3, 1) := by decide +kernel
theorem dX2_nextMismatch_52 : decode cX2_nextMismatch 52 = .ok (.iadd, 1) := by decide +kernel
theorem dX2_nextMismatch_53 : decode cX2_nextMismatch 53 = .ok (.iaload, 1) := by decide +kernel
theorem dX2_nextMismatch_54 : decode cX2_nextMismatch 54 = .ok (.invokestatic 43, 3) := by decide +kernel
theorem dX2_nextMismatch_57 : decode cX2_nextMismatch 57 = .ok (.ifCond .ne 5, 3) := by decide +kernel
theorem dX2_nextMismatch_60 : decode cX2_nextMismatch 60 = .ok (.iload_n 3, 1) := by decide +kernel
theorem dX2_nextMismatch_61 : decode cX2_nextMismatch 61 = .ok (.ireturn, 1) := by decide +kernel
theorem dX2_nextMismatch_62 : decode cX2_nextMismatch 62 = .ok (.iinc 3 1, 3) := by decide +kernel
theorem dX2_nextMismatch_65 : decode cX2_nextMismatch 65 = .ok (.goto (-33), 3) := by decide +kernel
theorem dX2_nextMismatch_68 : decode cX2_nextMismatch 68 = .ok (.iconst (-1), 1) := by decide +kernel
theorem dX2_nextMismatch_69 : decode cX2_nextMismatch 69 = .ok (.ireturn, 1) := by decide +kernel
set_option maxRecDepth 20000 in
theorem ggX2_agreement_X2_goesWell : GoodIn wsX2_agreement wsX2_goesWell := goodIn_r _ [9, 10, 14, 15, 16, 17, 18] (by decide +kernel) (by decide +kernel)
set_option maxRecDepth 20000 in
theorem gX2_agreement_X2_goesWell : GoodIn wsX2_agreement (wsV RX2 27 RX2 yX2_goesWell wsX2_goesWell) := goodIn_app (goodIn_of _ (by decide +kernel)) ggX2_agreement_X2_goesWell
set_option maxRecDepth 20000 in
theorem ggX2_agreement_X2_agree : GoodIn wsX2_agreement wsX2_agree := goodIn_r _ [13] (by decide +kernel) (by decide +kernel)
set_option maxRecDepth 20000 in
theorem gX2_agreement_X2_agree : GoodIn wsX2_agreement (va_wsS RX2 43 yX2_agree wsX2_agree) := goodIn_app (goodIn_of _ (by decide +kernel)) ggX2_agreement_X2_agree
theorem dX2_agreement_0 : decode cX2_agreement 0 = .ok (.iload_n 1, 1) := by decide +kernel
theorem dX2_agreement_1 : decode cX2_agreement 1 = .ok (.ifCond .lt 27, 3) := by decide +kernel
theorem dX2_agreement_4 : decode cX2_agreement 4 = .ok (.iload_n 1, 1) := by decide +kernel
theorem dX2_agreement_5 : decode cX2_agreement 5 = .ok (.aload_n 0, 1) := by decide +kernel
theorem dX2_agreement_6 : decode cX2_agreement 6 = .ok (.getfield 24, 3) := by decide +kernel
theorem dX2_agreement_9 : decode cX2_agreement 9 = .ok (.if_icmp .gt 19, 3) := by decide +kernel
theorem dX2_agreement_12 : decode cX2_agreement 12 = .ok (.iload_n 2, 1) := by decide +kernel
theorem dX2_agreement_13 : decode cX2_agreement 13 = .ok (.ifCond .lt 15, 3) := by decide +kernel
theorem dX2_agreement_16 : decode cX2_agreement 16 = .ok (.iload_n 2, 1) := by decide +kernel
theorem dX2_agreement_17 : decode cX2_agreement 17 = .ok (.aload_n 0, 1) := by decide +kernel
theorem dX2_agreement_18 : decode cX2_agreement 18 = .ok (.getfield 30, 3) := by decide +kernel
theorem dX2_agreement_21 : decode cX2_agreement 21 = .ok (.if_icmp .gt 7, 3) := by decide +kernel
theorem dX2_agreement_24 : decode cX2_agreement 24 = .ok (.iconst 1, 1) := by decide +kernel
theorem dX2_agreement_25 : decode cX2_agreement 25 = .ok (.goto 4, 3) := by decide +kernel
theorem dX2_agreement_28 : decode cX2_agreement 28 = .ok (.iconst 0, 1) := by decide +kernel
theorem dX2_agreement_29 : decode cX2_agreement 29 = .ok (.istore_n 3, 1) := by decide +kernel
theorem dX2_agreement_30 : decode cX2_agreement 30 = .ok (.aload_n 0, 1) := by decide +kernel
theorem dX2_agreement_31 : decode cX2_agreement 31 = .ok (.iload_n 3, 1) := by decide +kernel
theorem dX2_agreement_32 : decode cX2_agreement 32 = .ok (.ifCond .eq 7, 3) := by decide +kernel
theorem dX2_agreement_35 : decode cX2_agreement 35 = .ok (.iconst 0, 1) := by decide +kernel
theorem dX2_agreement_36 : decode cX2_agreement 36 = .ok (.goto 4, 3) := by decide +kernel
theorem dX2_agreement_39 : decode cX2_agreement 39 = .ok (.iconst 1, 1) := by decide +kernel
theorem dX2_agreement_40 : decode cX2_agreement 40 = .ok (.invokevirtual 27, 3) := by decide +kernel
theorem dX2_agreement_43 : decode cX2_agreement 43 = .ok (.ifCond .ne 5, 3) := by decide +kernel
theorem dX2_agreement_46 : decode cX2_agreement 46 = .ok (.iconst 0, 1) := by decide +kernel
theorem dX2_agreement_47 : decode cX2_agreement 47 = .ok (.ireturn, 1) := by decide +kernel
theorem dX2_agreement_48 : decode cX2_agreement 48 = .ok (.iconst 0, 1) := by decide +kernel
theorem dX2_agreement_49 : decode cX2_agreement 49 = .ok (.istore 4, 2) := by decide +kernel
theorem dX2_agreement_51 : decode cX2_agreement 51 = .ok (.iload_n 1, 1) := by decide +kernel
theorem dX2_agreement_52 : decode cX2_agreement 52 = .ok (.iload 4, 2) := by decide +kernel
theorem dX2_agreement_54 : decode cX2_agreement 54 = .ok (.iadd, 1) := by decide +kernel
theorem dX2_agreement_55 : decode cX2_agreement 55 = .ok (.aload_n 0, 1) := by decide +kernel
theorem dX2_agreement_56 : decode cX2_agreement 56 = .ok (.getfield 24, 3) := by decide +kernel
theorem dX2_agreement_59 : decode cX2_agreement 59 = .ok (.if_icmp .ge 44, 3) := by decide +kernel
theorem dX2_agreement_62 : decode cX2_agreement 62 = .ok (.iload_n 2, 1) := by decide +kernel
theorem dX2_agreement_63 : decode cX2_agreement 63 = .ok (.iload 4, 2) := by decide +kernel
theorem dX2_agreement_65 : decode cX2_agreement 65 = .ok (.iadd, 1) := by decide +kernel
theorem dX2_agreement_66 : decode cX2_agreement 66 = .ok (.aload_n 0, 1) := by decide +kernel
theorem dX2_agreement_67 : decode cX2_agreement 67 = .ok (.getfield 30, 3) := by decide +kernel
theorem dX2_agreement_70 : decode cX2_agreement 70 = .ok (.if_icmp .ge 33, 3) := by decide +kernel
theorem dX2_agreement_73 : decode cX2_agreement 73 = .ok (.aload_n 0, 1) := by decide +kernel
theorem dX2_agreement_74 : decode cX2_agreement 74 = .ok (.getfield 7, 3) := by decide +kernel
theorem dX2_agreement_77 : decode cX2_agreement 77 = .ok (.iload_n 1, 1) := by decide +kernel
theorem dX2_agreement_78 : decode cX2_agreement 78 = .ok (.iload 4, 2) := by decide +kernel
theorem dX2_agreement_80 : decode cX2_agreement 80 = .ok (.iadd, 1) := by decide +kernel
theorem dX2_agreement_81 : decode cX2_agreement 81 = .ok (.iaload, 1) := by decide +kernel
theorem dX2_agreement_82 : decode cX2_agreement 82 = .ok (.aload_n 0, 1) := by decide +kernel
theorem dX2_agreement_83 : decode cX2_agreement 83 = .ok (.getfield 13, 3) := by decide +kernel
theorem dX2_agreement_86 : decode cX2_agreement 86 = .ok (.iload_n 2, 1) := by decide +kernel
theorem dX2_agreement_87 : decode cX2_agreement 87 = .ok (.iload 4, 2) := by decide +kernel
theorem dX2_agreement_89 : decode cX2_agreement 89 = .ok (.iadd, 1) := by decide +kernel
theorem dX2_agreement_90 : decode cX2_agreement 90 = .ok (.iaload, 1) := by decide +kernel
theorem dX2_agreement_91 : decode cX2_agreement 91 = .ok (.invokestatic 43, 3) := by decide +kernel
theorem dX2_agreement_94 : decode cX2_agreement 94 = .ok (.ifCond .eq 9, 3) := by decide +kernel
theorem dX2_agreement_97 : decode cX2_agreement 97 = .ok (.iinc 4 1, 3) := by decide +kernel
theorem dX2_agreement_100 : decode cX2_agreement 100 = .ok (.goto (-49), 3) := by decide +kernel
theorem dX2_agreement_103 : decode cX2_agreement 103 = .ok (.iload 4, 2) := by decide +kernel
theorem dX2_agreement_105 : decode cX2_agreement 105 = .ok (.ireturn, 1) := by decide +kernel
set_option maxRecDepth 20000 in
theorem ggX2_within_X2_goesWell : GoodIn wsX2_within wsX2_goesWell := goodIn_r _ [5, 6, 22, 23, 24, 25, 26] (by decide +kernel) (by decide +kernel)
set_option maxRecDepth 20000 in
theorem gX2_within_X2_goesWell : GoodIn wsX2_within (wsV RX2 27 RX2 yX2_goesWell wsX2_goesWell) := goodIn_app (goodIn_of _ (by decide +kernel)) ggX2_within_X2_goesWell
set_option maxRecDepth 20000 in
theorem ggX2_within_X2_placeMany : GoodIn wsX2_within wsX2_placeMany := goodIn_r _ [10, 11, 12, 22, 23, 24, 25, 26] (by decide +kernel) (by decide +kernel)
set_option maxRecDepth 20000 in
theorem gX2_within_X2_placeMany : GoodIn wsX2_within (wsV RX2 36 RX2 yX2_placeMany wsX2_placeMany) := goodIn_app (goodIn_of _ (by decide +kernel)) ggX2_within_X2_placeMany
set_option maxRecDepth 20000 in
theorem ggX2_within_X2_countAt : GoodIn wsX2_within wsX2_countAt := goodIn_r _ [16, 12, 17, 18, 19, 20, 4, 21, 22, 23, 24, 25, 26] (by decide +kernel) (by decide +kernel)
set_option maxRecDepth 20000 in
theorem gX2_within_X2_countAt : GoodIn wsX2_within (wsV RX2 51 RX2 yX2_countAt wsX2_countAt) := goodIn_app (goodIn_of _ (by decide +kernel)) ggX2_within_X2_countAt
theorem dX2_within_0 : decode cX2_within 0 = .ok (.aload_n 0, 1) := by decide +kernel
theorem dX2_within_1 : decode cX2_within 1 = .ok (.iload_n 1, 1) := by decide +kernel
theorem dX2_within_2 : decode cX2_within 2 = .ok (.ifCond .ge 7, 3) := by decide +kernel
theorem dX2_within_5 : decode cX2_within 5 = .ok (.iconst 1, 1) := by decide +kernel
theorem dX2_within_6 : decode cX2_within 6 = .ok (.goto 4, 3) := by decide +kernel
theorem dX2_within_9 : decode cX2_within 9 = .ok (.iconst 0, 1) := by decide +kernel
theorem dX2_within_10 : decode cX2_within 10 = .ok (.invokevirtual 27, 3) := by decide +kernel
theorem dX2_within_13 : decode cX2_within 13 = .ok (.ifCond .ne 5, 3) := by decide +kernel
theorem dX2_within_16 : decode cX2_within 16 = .ok (.iconst 0, 1) := by decide +kernel
theorem dX2_within_17 : decode cX2_within 17 = .ok (.ireturn, 1) := by decide +kernel
theorem dX2_within_18 : decode cX2_within 18 = .ok (.iconst 0, 1) := by decide +kernel
theorem dX2_within_19 : decode cX2_within 19 = .ok (.istore_n 2, 1) := by decide +kernel
theorem dX2_within_20 : decode cX2_within 20 = .ok (.iconst 0, 1) := by decide +kernel
theorem dX2_within_21 : decode cX2_within 21 = .ok (.istore_n 3, 1) := by decide +kernel
theorem dX2_within_22 : decode cX2_within 22 = .ok (.iload_n 3, 1) := by decide +kernel
theorem dX2_within_23 : decode cX2_within 23 = .ok (.aload_n 0, 1) := by decide +kernel
theorem dX2_within_24 : decode cX2_within 24 = .ok (.invokevirtual 36, 3) := by decide +kernel
theorem dX2_within_27 : decode cX2_within 27 = .ok (.if_icmp .ge 26, 3) := by decide +kernel
theorem dX2_within_30 : decode cX2_within 30 = .ok (.iload_n 2, 1) := by decide +kernel
theorem dX2_within_31 : decode cX2_within 31 = .ok (.aload_n 0, 1) := by decide +kernel
theorem dX2_within_32 : decode cX2_within 32 = .ok (.iload_n 3, 1) := by decide +kernel
theorem dX2_within_33 : decode cX2_within 33 = .ok (.invokevirtual 51, 3) := by decide +kernel
theorem dX2_within_36 : decode cX2_within 36 = .ok (.iload_n 1, 1) := by decide +kernel
theorem dX2_within_37 : decode cX2_within 37 = .ok (.if_icmp .gt 7, 3) := by decide +kernel
theorem dX2_within_40 : decode cX2_within 40 = .ok (.iconst 1, 1) := by decide +kernel
theorem dX2_within_41 : decode cX2_within 41 = .ok (.goto 4, 3) := by decide +kernel
theorem dX2_within_44 : decode cX2_within 44 = .ok (.iconst 0, 1) := by decide +kernel
theorem dX2_within_45 : decode cX2_within 45 = .ok (.iadd, 1) := by decide +kernel
theorem dX2_within_46 : decode cX2_within 46 = .ok (.istore_n 2, 1) := by decide +kernel
theorem dX2_within_47 : decode cX2_within 47 = .ok (.iinc 3 1, 3) := by decide +kernel
theorem dX2_within_50 : decode cX2_within 50 = .ok (.goto (-28), 3) := by decide +kernel
theorem dX2_within_53 : decode cX2_within 53 = .ok (.iload_n 2, 1) := by decide +kernel
theorem dX2_within_54 : decode cX2_within 54 = .ok (.ireturn, 1) := by decide +kernel
set_option maxRecDepth 20000 in
theorem ggX2_ranked_X2_isPlace : GoodIn wsX2_ranked wsX2_isPlace := goodIn_r _ [5, 6, 7, 8, 4, 9, 10, 11, 26, 27, 28, 29, 30] (by decide +kernel) (by decide +kernel)
set_option maxRecDepth 20000 in
theorem gX2_ranked_X2_isPlace : GoodIn wsX2_ranked (wsV RX2 40 RX2 yX2_isPlace wsX2_isPlace) := goodIn_app (goodIn_of _ (by decide +kernel)) ggX2_ranked_X2_isPlace
set_option maxRecDepth 20000 in
theorem ggX2_ranked_X2_goesWell : GoodIn wsX2_ranked wsX2_goesWell := goodIn_r _ [15, 16, 26, 27, 28, 29, 30] (by decide +kernel) (by decide +kernel)
set_option maxRecDepth 20000 in
theorem gX2_ranked_X2_goesWell : GoodIn wsX2_ranked (wsV RX2 27 RX2 yX2_goesWell wsX2_goesWell) := goodIn_app (goodIn_of _ (by decide +kernel)) ggX2_ranked_X2_goesWell
set_option maxRecDepth 20000 in
theorem ggX2_ranked_X2_placeMany : GoodIn wsX2_ranked wsX2_placeMany := goodIn_r _ [9, 10, 11, 26, 27, 28, 29, 30] (by decide +kernel) (by decide +kernel)
set_option maxRecDepth 20000 in
theorem gX2_ranked_X2_placeMany : GoodIn wsX2_ranked (wsV RX2 36 RX2 yX2_placeMany wsX2_placeMany) := goodIn_app (goodIn_of _ (by decide +kernel)) ggX2_ranked_X2_placeMany
set_option maxRecDepth 20000 in
theorem ggX2_ranked_X2_countAt : GoodIn wsX2_ranked wsX2_countAt := goodIn_r _ [20, 11, 21, 22, 23, 24, 4, 25, 26, 27, 28, 29, 30] (by decide +kernel) (by decide +kernel)
set_option maxRecDepth 20000 in
theorem gX2_ranked_X2_countAt : GoodIn wsX2_ranked (wsV RX2 51 RX2 yX2_countAt wsX2_countAt) := goodIn_app (goodIn_of _ (by decide +kernel)) ggX2_ranked_X2_countAt
theorem dX2_ranked_0 : decode cX2_ranked 0 = .ok (.aload_n 0, 1) := by decide +kernel
theorem dX2_ranked_1 : decode cX2_ranked 1 = .ok (.aload_n 0, 1) := by decide +kernel
theorem dX2_ranked_2 : decode cX2_ranked 2 = .ok (.iload_n 1, 1) := by decide +kernel
theorem dX2_ranked_3 : decode cX2_ranked 3 = .ok (.invokevirtual 40, 3) := by decide +kernel
theorem dX2_ranked_6 : decode cX2_ranked 6 = .ok (.ifCond .eq 7, 3) := by decide +kernel
theorem dX2_ranked_9 : decode cX2_ranked 9 = .ok (.iconst 0, 1) := by decide +kernel
theorem dX2_ranked_10 : decode cX2_ranked 10 = .ok (.goto 4, 3) := by decide +kernel
theorem dX2_ranked_13 : decode cX2_ranked 13 = .ok (.iconst 1, 1) := by decide +kernel
theorem dX2_ranked_14 : decode cX2_ranked 14 = .ok (.invokevirtual 27, 3) := by decide +kernel
theorem dX2_ranked_17 : decode cX2_ranked 17 = .ok (.ifCond .ne 5, 3) := by decide +kernel
theorem dX2_ranked_20 : decode cX2_ranked 20 = .ok (.iconst 0, 1) := by decide +kernel
theorem dX2_ranked_21 : decode cX2_ranked 21 = .ok (.ireturn, 1) := by decide +kernel
theorem dX2_ranked_22 : decode cX2_ranked 22 = .ok (.iconst 0, 1) := by decide +kernel
theorem dX2_ranked_23 : decode cX2_ranked 23 = .ok (.istore_n 2, 1) := by decide +kernel
theorem dX2_ranked_24 : decode cX2_ranked 24 = .ok (.iload_n 2, 1) := by decide +kernel
theorem dX2_ranked_25 : decode cX2_ranked 25 = .ok (.aload_n 0, 1) := by decide +kernel
theorem dX2_ranked_26 : decode cX2_ranked 26 = .ok (.invokevirtual 36, 3) := by decide +kernel
theorem dX2_ranked_29 : decode cX2_ranked 29 = .ok (.if_icmp .ge 78, 3) := by decide +kernel
theorem dX2_ranked_32 : decode cX2_ranked 32 = .ok (.iconst 0, 1) := by decide +kernel
theorem dX2_ranked_33 : decode cX2_ranked 33 = .ok (.istore_n 3, 1) := by decide +kernel
theorem dX2_ranked_34 : decode cX2_ranked 34 = .ok (.iconst 0, 1) := by decide +kernel
theorem dX2_ranked_35 : decode cX2_ranked 35 = .ok (.istore 4, 2) := by decide +kernel
theorem dX2_ranked_37 : decode cX2_ranked 37 = .ok (.iload 4, 2) := by decide +kernel
theorem dX2_ranked_39 : decode cX2_ranked 39 = .ok (.aload_n 0, 1) := by decide +kernel
theorem dX2_ranked_40 : decode cX2_ranked 40 = .ok (.invokevirtual 36, 3) := by decide +kernel
theorem dX2_ranked_43 : decode cX2_ranked 43 = .ok (.if_icmp .ge 51, 3) := by decide +kernel
theorem dX2_ranked_46 : decode cX2_ranked 46 = .ok (.iload_n 3, 1) := by decide +kernel
theorem dX2_ranked_47 : decode cX2_ranked 47 = .ok (.aload_n 0, 1) := by decide +kernel
theorem dX2_ranked_48 : decode cX2_ranked 48 = .ok (.iload 4, 2) := by decide +kernel
theorem dX2_ranked_50 : decode cX2_ranked 50 = .ok (.invokevirtual 51, 3) := by decide +kernel
theorem dX2_ranked_53 : decode cX2_ranked 53 = .ok (.aload_n 0, 1) := by decide +kernel
theorem dX2_ranked_54 : decode cX2_ranked 54 = .ok (.iload_n 2, 1) := by decide +kernel
theorem dX2_ranked_55 : decode cX2_ranked 55 = .ok (.invokevirtual 51, 3) := by decide +kernel
theorem dX2_ranked_58 : decode cX2_ranked 58 = .ok (.if_icmp .lt 23, 3) := by decide +kernel
theorem dX2_ranked_61 : decode cX2_ranked 61 = .ok (.aload_n 0, 1) := by decide +kernel
theorem dX2_ranked_62 : decode cX2_ranked 62 = .ok (.iload 4, 2) := by decide +kernel
theorem dX2_ranked_64 : decode cX2_ranked 64 = .ok (.invokevirtual 51, 3) := by decide +kernel
theorem dX2_ranked_67 : decode cX2_ranked 67 = .ok (.aload_n 0, 1) := by decide +kernel
theorem dX2_ranked_68 : decode cX2_ranked 68 = .ok (.iload_n 2, 1) := by decide +kernel
theorem dX2_ranked_69 : decode cX2_ranked 69 = .ok (.invokevirtual 51, 3) := by decide +kernel
theorem dX2_ranked_72 : decode cX2_ranked 72 = .ok (.if_icmp .ne 13, 3) := by decide +kernel
theorem dX2_ranked_75 : decode cX2_ranked 75 = .ok (.iload 4, 2) := by decide +kernel
theorem dX2_ranked_77 : decode cX2_ranked 77 = .ok (.iload_n 2, 1) := by decide +kernel
theorem dX2_ranked_78 : decode cX2_ranked 78 = .ok (.if_icmp .ge 7, 3) := by decide +kernel
theorem dX2_ranked_81 : decode cX2_ranked 81 = .ok (.iconst 1, 1) := by decide +kernel
theorem dX2_ranked_82 : decode cX2_ranked 82 = .ok (.goto 4, 3) := by decide +kernel
theorem dX2_ranked_85 : decode cX2_ranked 85 = .ok (.iconst 0, 1) := by decide +kernel
theorem dX2_ranked_86 : decode cX2_ranked 86 = .ok (.iadd, 1) := by decide +kernel
theorem dX2_ranked_87 : decode cX2_ranked 87 = .ok (.istore_n 3, 1) := by decide +kernel
theorem dX2_ranked_88 : decode cX2_ranked 88 = .ok (.iinc 4 1, 3) := by decide +kernel
theorem dX2_ranked_91 : decode cX2_ranked 91 = .ok (.goto (-54), 3) := by decide +kernel
theorem dX2_ranked_94 : decode cX2_ranked 94 = .ok (.iload_n 3, 1) := by decide +kernel
theorem dX2_ranked_95 : decode cX2_ranked 95 = .ok (.iload_n 1, 1) := by decide +kernel
theorem dX2_ranked_96 : decode cX2_ranked 96 = .ok (.if_icmp .ne 5, 3) := by decide +kernel
theorem dX2_ranked_99 : decode cX2_ranked 99 = .ok (.iload_n 2, 1) := by decide +kernel
theorem dX2_ranked_100 : decode cX2_ranked 100 = .ok (.ireturn, 1) := by decide +kernel
theorem dX2_ranked_101 : decode cX2_ranked 101 = .ok (.iinc 2 1, 3) := by decide +kernel
theorem dX2_ranked_104 : decode cX2_ranked 104 = .ok (.goto (-80), 3) := by decide +kernel
theorem dX2_ranked_107 : decode cX2_ranked 107 = .ok (.iconst (-1), 1) := by decide +kernel
theorem dX2_ranked_108 : decode cX2_ranked 108 = .ok (.ireturn, 1) := by decide +kernel
set_option maxRecDepth 20000 in
theorem ggX2_bestLetter_X2_isInPattern : GoodIn wsX2_bestLetter wsX2_isInPattern := goodIn_r _ [6, 7, 21, 22, 23, 24, 25] (by decide +kernel) (by decide +kernel)
set_option maxRecDepth 20000 in
theorem gX2_bestLetter_X2_isInPattern : GoodIn wsX2_bestLetter (wsV RX2 33 RX2 yX2_isInPattern wsX2_isInPattern) := goodIn_app (goodIn_of _ (by decide +kernel)) ggX2_bestLetter_X2_isInPattern
set_option maxRecDepth 20000 in
theorem ggX2_bestLetter_X2_goesWell : GoodIn wsX2_bestLetter wsX2_goesWell := goodIn_r _ [11, 12, 21, 22, 23, 24, 25] (by decide +kernel) (by decide +kernel)
set_option maxRecDepth 20000 in
theorem gX2_bestLetter_X2_goesWell : GoodIn wsX2_bestLetter (wsV RX2 27 RX2 yX2_goesWell wsX2_goesWell) := goodIn_app (goodIn_of _ (by decide +kernel)) ggX2_bestLetter_X2_goesWell
set_option maxRecDepth 20000 in
theorem ggX2_bestLetter_X2_placeMany : GoodIn wsX2_bestLetter wsX2_placeMany := goodIn_r _ [16, 17, 7, 21, 22, 23, 24, 25] (by decide +kernel) (by decide +kernel)
set_option maxRecDepth 20000 in
theorem gX2_bestLetter_X2_placeMany : GoodIn wsX2_bestLetter (wsV RX2 36 RX2 yX2_placeMany wsX2_placeMany) := goodIn_app (goodIn_of _ (by decide +kernel)) ggX2_bestLetter_X2_placeMany
set_option maxRecDepth 20000 in
theorem ggX2_bestLetter_X2_agree : GoodIn wsX2_bestLetter wsX2_agree := goodIn_r _ [20] (by decide +kernel) (by decide +kernel)
set_option maxRecDepth 20000 in
theorem gX2_bestLetter_X2_agree : GoodIn wsX2_bestLetter (va_wsS RX2 43 yX2_agree wsX2_agree) := goodIn_app (goodIn_of _ (by decide +kernel)) ggX2_bestLetter_X2_agree
theorem dX2_bestLetter_0 : decode cX2_bestLetter 0 = .ok (.aload_n 0, 1) := by decide +kernel
theorem dX2_bestLetter_1 : decode cX2_bestLetter 1 = .ok (.aload_n 0, 1) := by decide +kernel
theorem dX2_bestLetter_2 : decode cX2_bestLetter 2 = .ok (.iload_n 1, 1) := by decide +kernel
theorem dX2_bestLetter_3 : decode cX2_bestLetter 3 = .ok (.invokevirtual 33, 3) := by decide +kernel
theorem dX2_bestLetter_6 : decode cX2_bestLetter 6 = .ok (.ifCond .eq 7, 3) := by decide +kernel
theorem dX2_bestLetter_9 : decode cX2_bestLetter 9 = .ok (.iconst 0, 1) := by decide +kernel
theorem dX2_bestLetter_10 : decode cX2_bestLetter 10 = .ok (.goto 4, 3) := by decide +kernel
theorem dX2_bestLetter_13 : decode cX2_bestLetter 13 = .ok (.iconst 1, 1) := by decide +kernel
theorem dX2_bestLetter_14 : decode cX2_bestLetter 14 = .ok (.invokevirtual 27, 3) := by decide +kernel
theorem dX2_bestLetter_17 : decode cX2_bestLetter 17 = .ok (.ifCond .ne 5, 3) := by decide +kernel
theorem dX2_bestLetter_20 : decode cX2_bestLetter 20 = .ok (.iconst 0, 1) := by decide +kernel
theorem dX2_bestLetter_21 : decode cX2_bestLetter 21 = .ok (.ireturn, 1) := by decide +kernel
theorem dX2_bestLetter_22 : decode cX2_bestLetter 22 = .ok (.iconst 0, 1) := by decide +kernel
theorem dX2_bestLetter_23 : decode cX2_bestLetter 23 = .ok (.istore_n 2, 1) := by decide +kernel
theorem dX2_bestLetter_24 : decode cX2_bestLetter 24 = .ok (.iconst 0, 1) := by decide +kernel
theorem dX2_bestLetter_25 : decode cX2_bestLetter 25 = .ok (.istore_n 3, 1) := by decide +kernel
theorem dX2_bestLetter_26 : decode cX2_bestLetter 26 = .ok (.iconst 1, 1) := by decide +kernel
theorem dX2_bestLetter_27 : decode cX2_bestLetter 27 = .ok (.istore 4, 2) := by decide +kernel
theorem dX2_bestLetter_29 : decode cX2_bestLetter 29 = .ok (.iload 4, 2) := by decide +kernel
theorem dX2_bestLetter_31 : decode cX2_bestLetter 31 = .ok (.bipush 26, 2) := by decide +kernel
theorem dX2_bestLetter_33 : decode cX2_bestLetter 33 = .ok (.if_icmp .gt 73, 3) := by decide +kernel
theorem dX2_bestLetter_36 : decode cX2_bestLetter 36 = .ok (.iconst 0, 1) := by decide +kernel
theorem dX2_bestLetter_37 : decode cX2_bestLetter 37 = .ok (.istore 5, 2) := by decide +kernel
theorem dX2_bestLetter_39 : decode cX2_bestLetter 39 = .ok (.iconst 0, 1) := by decide +kernel
theorem dX2_bestLetter_40 : decode cX2_bestLetter 40 = .ok (.istore 6, 2) := by decide +kernel
theorem dX2_bestLetter_42 : decode cX2_bestLetter 42 = .ok (.iload 6, 2) := by decide +kernel
theorem dX2_bestLetter_44 : decode cX2_bestLetter 44 = .ok (.aload_n 0, 1) := by decide +kernel
theorem dX2_bestLetter_45 : decode cX2_bestLetter 45 = .ok (.invokevirtual 36, 3) := by decide +kernel
theorem dX2_bestLetter_48 : decode cX2_bestLetter 48 = .ok (.if_icmp .ge 36, 3) := by decide +kernel
theorem dX2_bestLetter_51 : decode cX2_bestLetter 51 = .ok (.iload 5, 2) := by decide +kernel
theorem dX2_bestLetter_53 : decode cX2_bestLetter 53 = .ok (.iload 4, 2) := by decide +kernel
theorem dX2_bestLetter_55 : decode cX2_bestLetter 55 = .ok (.aload_n 0, 1) := by decide +kernel
theorem dX2_bestLetter_56 : decode cX2_bestLetter 56 = .ok (.getfield 7, 3) := by decide +kernel
theorem dX2_bestLetter_59 : decode cX2_bestLetter 59 = .ok (.iload 6, 2) := by decide +kernel
theorem dX2_bestLetter_61 : decode cX2_bestLetter 61 = .ok (.iload_n 1, 1) := by decide +kernel
theorem dX2_bestLetter_62 : decode cX2_bestLetter 62 = .ok (.iadd, 1) := by decide +kernel
theorem dX2_bestLetter_63 : decode cX2_bestLetter 63 = .ok (.iaload, 1) := by decide +kernel
theorem dX2_bestLetter_64 : decode cX2_bestLetter 64 = .ok (.invokestatic 43, 3) := by decide +kernel
theorem dX2_bestLetter_67 : decode cX2_bestLetter 67 = .ok (.ifCond .eq 7, 3) := by decide +kernel
theorem dX2_bestLetter_70 : decode cX2_bestLetter 70 = .ok (.iconst 0, 1) := by decide +kernel
theorem dX2_bestLetter_71 : decode cX2_bestLetter 71 = .ok (.goto 4, 3) := by decide +kernel
theorem dX2_bestLetter_74 : decode cX2_bestLetter 74 = .ok (.iconst 1, 1) := by decide +kernel
theorem dX2_bestLetter_75 : decode cX2_bestLetter 75 = .ok (.iadd, 1) := by decide +kernel
theorem dX2_bestLetter_76 : decode cX2_bestLetter 76 = .ok (.istore 5, 2) := by decide +kernel
theorem dX2_bestLetter_78 : decode cX2_bestLetter 78 = .ok (.iinc 6 1, 3) := by decide +kernel
theorem dX2_bestLetter_81 : decode cX2_bestLetter 81 = .ok (.goto (-39), 3) := by decide +kernel
theorem dX2_bestLetter_84 : decode cX2_bestLetter 84 = .ok (.iload_n 2, 1) := by decide +kernel
theorem dX2_bestLetter_85 : decode cX2_bestLetter 85 = .ok (.ifCond .eq 9, 3) := by decide +kernel
theorem dX2_bestLetter_88 : decode cX2_bestLetter 88 = .ok (.iload 5, 2) := by decide +kernel
theorem dX2_bestLetter_90 : decode cX2_bestLetter 90 = .ok (.iload_n 3, 1) := by decide +kernel
theorem dX2_bestLetter_91 : decode cX2_bestLetter 91 = .ok (.if_icmp .ge 9, 3) := by decide +kernel
theorem dX2_bestLetter_94 : decode cX2_bestLetter 94 = .ok (.iload 4, 2) := by decide +kernel
theorem dX2_bestLetter_96 : decode cX2_bestLetter 96 = .ok (.istore_n 2, 1) := by decide +kernel
theorem dX2_bestLetter_97 : decode cX2_bestLetter 97 = .ok (.iload 5, 2) := by decide +kernel
theorem dX2_bestLetter_99 : decode cX2_bestLetter 99 = .ok (.istore_n 3, 1) := by decide +kernel
theorem dX2_bestLetter_100 : decode cX2_bestLetter 100 = .ok (.iinc 4 1, 3) := by decide +kernel
theorem dX2_bestLetter_103 : decode cX2_bestLetter 103 = .ok (.goto (-74), 3) := by decide +kernel
theorem dX2_bestLetter_106 : decode cX2_bestLetter 106 = .ok (.iload_n 2, 1) := by decide +kernel
theorem dX2_bestLetter_107 : decode cX2_bestLetter 107 = .ok (.ireturn, 1) := by decide +kernel
set_option maxRecDepth 20000 in
theorem ggX2_sumMatches_X2_wanted : GoodIn wsX2_sumMatches wsX2_wanted := goodIn_r _ [6, 7, 8, 9, 5, 10, 11, 12, 13, 14, 15, 16, 17, 18, 19, 20, 21, 22, 23, 24, 25, 26, 27, 28, 29, 30, 31, 32, 33, 34, 35, 36, 37, 38, 39, 40, 41] (by decide +kernel) (by decide +kernel)
set_option maxRecDepth 20000 in
theorem gX2_sumMatches_X2_wanted : GoodIn wsX2_sumMatches (wsV RX2 63 RX2 yX2_wanted wsX2_wanted) := goodIn_app (goodIn_of _ (by decide +kernel)) ggX2_sumMatches_X2_wanted
theorem dX2_sumMatches_0 : decode cX2_sumMatches 0 = .ok (.aload_n 0, 1) := by decide +kernel
theorem dX2_sumMatches_1 : decode cX2_sumMatches 1 = .ok (.iconst 0, 1) := by decide +kernel
theorem dX2_sumMatches_2 : decode cX2_sumMatches 2 = .ok (.putfield 16, 3) := by decide +kernel
theorem dX2_sumMatches_5 : decode cX2_sumMatches 5 = .ok (.aload_n 0, 1) := by decide +kernel
theorem dX2_sumMatches_6 : decode cX2_sumMatches 6 = .ok (.iconst 1, 1) := by decide +kernel
theorem dX2_sumMatches_7 : decode cX2_sumMatches 7 = .ok (.invokevirtual 63, 3) := by decide +kernel
theorem dX2_sumMatches_10 : decode cX2_sumMatches 10 = .ok (.ireturn, 1) := by decide +kernel
set_option maxRecDepth 20000 in
theorem ggX2_sumMatch_X2_isNumber : GoodIn wsX2_sumMatch wsX2_isNumber := goodIn_r _ [5, 6, 7, 8, 4, 9, 10, 11, 12, 13, 14, 15, 16, 17, 18, 19, 20, 21, 22, 23, 24, 25, 26, 27, 28, 29, 30, 31, 32, 33, 34, 35, 36, 37, 38, 39, 49, 50, 51, 52, 53] (by decide +kernel) (by decide +kernel)
set_option maxRecDepth 20000 in
theorem gX2_sumMatch_X2_isNumber : GoodIn wsX2_sumMatch (wsV RX2 66 RX2 yX2_isNumber wsX2_isNumber) := goodIn_app (goodIn_of _ (by decide +kernel)) ggX2_sumMatch_X2_isNumber
set_option maxRecDepth 20000 in
theorem ggX2_sumMatch_X2_goesWell : GoodIn wsX2_sumMatch wsX2_goesWell := goodIn_r _ [43, 44, 49, 50, 51, 52, 53] (by decide +kernel) (by decide +kernel)
set_option maxRecDepth 20000 in
theorem gX2_sumMatch_X2_goesWell : GoodIn wsX2_sumMatch (wsV RX2 27 RX2 yX2_goesWell wsX2_goesWell) := goodIn_app (goodIn_of _ (by decide +kernel)) ggX2_sumMatch_X2_goesWell
set_option maxRecDepth 20000 in
theorem ggX2_sumMatch_X2_find : GoodIn wsX2_sumMatch wsX2_find := goodIn_r _ [48, 16, 17, 18, 4, 19, 20, 21, 22, 23, 15, 24, 25, 26, 27, 28, 29, 30, 31, 32, 33, 34, 35, 36, 37, 38, 39, 49, 50, 51, 52, 53] (by decide +kernel) (by decide +kernel)
set_option maxRecDepth 20000 in
theorem gX2_sumMatch_X2_find : GoodIn wsX2_sumMatch (wsV RX2 69 RX2 yX2_find wsX2_find) := goodIn_app (goodIn_of _ (by decide +kernel)) ggX2_sumMatch_X2_find
theorem dX2_sumMatch_0 : decode cX2_sumMatch 0 = .ok (.aload_n 0, 1) := by decide +kernel
theorem dX2_sumMatch_1 : decode cX2_sumMatch 1 = .ok (.aload_n 0, 1) := by decide +kernel
theorem dX2_sumMatch_2 : decode cX2_sumMatch 2 = .ok (.iconst 1, 1) := by decide +kernel
theorem dX2_sumMatch_3 : decode cX2_sumMatch 3 = .ok (.iload_n 1, 1) := by decide +kernel
theorem dX2_sumMatch_4 : decode cX2_sumMatch 4 = .ok (.invokevirtual 66, 3) := by decide +kernel
theorem dX2_sumMatch_7 : decode cX2_sumMatch 7 = .ok (.ifCond .eq 7, 3) := by decide +kernel
theorem dX2_sumMatch_10 : decode cX2_sumMatch 10 = .ok (.iconst 0, 1) := by decide +kernel
theorem dX2_sumMatch_11 : decode cX2_sumMatch 11 = .ok (.goto 4, 3) := by decide +kernel
theorem dX2_sumMatch_14 : decode cX2_sumMatch 14 = .ok (.iconst 1, 1) := by decide +kernel
theorem dX2_sumMatch_15 : decode cX2_sumMatch 15 = .ok (.invokevirtual 27, 3) := by decide +kernel
theorem dX2_sumMatch_18 : decode cX2_sumMatch 18 = .ok (.ifCond .eq 12, 3) := by decide +kernel
theorem dX2_sumMatch_21 : decode cX2_sumMatch 21 = .ok (.aload_n 0, 1) := by decide +kernel
theorem dX2_sumMatch_22 : decode cX2_sumMatch 22 = .ok (.iconst 1, 1) := by decide +kernel
theorem dX2_sumMatch_23 : decode cX2_sumMatch 23 = .ok (.iload_n 1, 1) := by decide +kernel
theorem dX2_sumMatch_24 : decode cX2_sumMatch 24 = .ok (.invokevirtual 69, 3) := by decide +kernel
theorem dX2_sumMatch_27 : decode cX2_sumMatch 27 = .ok (.goto 4, 3) := by decide +kernel
theorem dX2_sumMatch_30 : decode cX2_sumMatch 30 = .ok (.iconst 0, 1) := by decide +kernel
theorem dX2_sumMatch_31 : decode cX2_sumMatch 31 = .ok (.ireturn, 1) := by decide +kernel
set_option maxRecDepth 20000 in
theorem ggX2_orderMatches_X2_wanted : GoodIn wsX2_orderMatches wsX2_wanted := goodIn_r _ [6, 7, 8, 9, 5, 10, 11, 12, 13, 14, 15, 16, 17, 18, 19, 20, 21, 22, 23, 24, 25, 26, 27, 28, 29, 30, 31, 32, 33, 34, 35, 36, 37, 38, 39, 40, 41] (by decide +kernel) (by decide +kernel)
set_option maxRecDepth 20000 in
theorem gX2_orderMatches_X2_wanted : GoodIn wsX2_orderMatches (wsV RX2 63 RX2 yX2_wanted wsX2_wanted) := goodIn_app (goodIn_of _ (by decide +kernel)) ggX2_orderMatches_X2_wanted
theorem dX2_orderMatches_0 : decode cX2_orderMatches 0 = .ok (.aload_n 0, 1) := by decide +kernel
theorem dX2_orderMatches_1 : decode cX2_orderMatches 1 = .ok (.iconst 0, 1) := by decide +kernel
theorem dX2_orderMatches_2 : decode cX2_orderMatches 2 = .ok (.putfield 16, 3) := by decide +kernel
theorem dX2_orderMatches_5 : decode cX2_orderMatches 5 = .ok (.aload_n 0, 1) := by decide +kernel
theorem dX2_orderMatches_6 : decode cX2_orderMatches 6 = .ok (.iconst 2, 1) := by decide +kernel
theorem dX2_orderMatches_7 : decode cX2_orderMatches 7 = .ok (.invokevirtual 63, 3) := by decide +kernel
theorem dX2_orderMatches_10 : decode cX2_orderMatches 10 = .ok (.ireturn, 1) := by decide +kernel
set_option maxRecDepth 20000 in
theorem ggX2_orderMatch_X2_isNumber : GoodIn wsX2_orderMatch wsX2_isNumber := goodIn_r _ [5, 6, 7, 8, 4, 9, 10, 11, 12, 13, 14, 15, 16, 17, 18, 19, 20, 21, 22, 23, 24, 25, 26, 27, 28, 29, 30, 31, 32, 33, 34, 35, 36, 37, 38, 39, 49, 50, 51, 52, 53] (by decide +kernel) (by decide +kernel)
set_option maxRecDepth 20000 in
theorem gX2_orderMatch_X2_isNumber : GoodIn wsX2_orderMatch (wsV RX2 66 RX2 yX2_isNumber wsX2_isNumber) := goodIn_app (goodIn_of _ (by decide +kernel)) ggX2_orderMatch_X2_isNumber
set_option maxRecDepth 20000 in
theorem ggX2_orderMatch_X2_goesWell : GoodIn wsX2_orderMatch wsX2_goesWell := goodIn_r _ [43, 44, 49, 50, 51, 52, 53] (by decide +kernel) (by decide +kernel)
set_option maxRecDepth 20000 in
theorem gX2_orderMatch_X2_goesWell : GoodIn wsX2_orderMatch (wsV RX2 27 RX2 yX2_goesWell wsX2_goesWell) := goodIn_app (goodIn_of _ (by decide +kernel)) ggX2_orderMatch_X2_goesWell
set_option maxRecDepth 20000 in
theorem ggX2_orderMatch_X2_find : GoodIn wsX2_orderMatch wsX2_find := goodIn_r _ [48, 16, 17, 18, 4, 19, 20, 21, 22, 23, 15, 24, 25, 26, 27, 28, 29, 30, 31, 32, 33, 34, 35, 36, 37, 38, 39, 49, 50, 51, 52, 53] (by decide +kernel) (by decide +kernel)
set_option maxRecDepth 20000 in
theorem gX2_orderMatch_X2_find : GoodIn wsX2_orderMatch (wsV RX2 69 RX2 yX2_find wsX2_find) := goodIn_app (goodIn_of _ (by decide +kernel)) ggX2_orderMatch_X2_find
theorem dX2_orderMatch_0 : decode cX2_orderMatch 0 = .ok (.aload_n 0, 1) := by decide +kernel
theorem dX2_orderMatch_1 : decode cX2_orderMatch 1 = .ok (.aload_n 0, 1) := by decide +kernel
theorem dX2_orderMatch_2 : decode cX2_orderMatch 2 = .ok (.iconst 2, 1) := by decide +kernel
theorem dX2_orderMatch_3 : decode cX2_orderMatch 3 = .ok (.iload_n 1, 1) := by decide +kernel
theorem dX2_orderMatch_4 : decode cX2_orderMatch 4 = .ok (.invokevirtual 66, 3) := by decide +kernel
theorem dX2_orderMatch_7 : decode cX2_orderMatch 7 = .ok (.ifCond .eq 7, 3) := by decide +kernel
theorem dX2_orderMatch_10 : decode cX2_orderMatch 10 = .ok (.iconst 0, 1) := by decide +kernel
theorem dX2_orderMatch_11 : decode cX2_orderMatch 11 = .ok (.goto 4, 3) := by decide +kernel
theorem dX2_orderMatch_14 : decode cX2_orderMatch 14 = .ok (.iconst 1, 1) := by decide +kernel
theorem dX2_orderMatch_15 : decode cX2_orderMatch 15 = .ok (.invokevirtual 27, 3) := by decide +kernel
theorem dX2_orderMatch_18 : decode cX2_orderMatch 18 = .ok (.ifCond .eq 12, 3) := by decide +kernel
theorem dX2_orderMatch_21 : decode cX2_orderMatch 21 = .ok (.aload_n 0, 1) := by decide +kernel
theorem dX2_orderMatch_22 : decode cX2_orderMatch 22 = .ok (.iconst 2, 1) := by decide +kernel
theorem dX2_orderMatch_23 : decode cX2_orderMatch 23 = .ok (.iload_n 1, 1) := by decide +kernel
theorem dX2_orderMatch_24 : decode cX2_orderMatch 24 = .ok (.invokevirtual 69, 3) := by decide +kernel
theorem dX2_orderMatch_27 : decode cX2_orderMatch 27 = .ok (.goto 4, 3) := by decide +kernel
theorem dX2_orderMatch_30 : decode cX2_orderMatch 30 = .ok (.iconst 0, 1) := by decide +kernel
theorem dX2_orderMatch_31 : decode cX2_orderMatch 31 = .ok (.ireturn, 1) := by decide +kernel
set_option maxRecDepth 20000 in
theorem ggX2_comesAgain_X2_agree : GoodIn wsX2_comesAgain wsX2_agree := goodIn_r _ [6] (by decide +kernel) (by decide +kernel)
set_option maxRecDepth 20000 in
theorem gX2_comesAgain_X2_agree : GoodIn wsX2_comesAgain (va_wsS RX2 43 yX2_agree wsX2_agree) := goodIn_app (goodIn_of _ (by decide +kernel)) ggX2_comesAgain_X2_agree
theorem dX2_comesAgain_0 : decode cX2_comesAgain 0 = .ok (.iconst 1, 1) := by decide +kernel
theorem dX2_comesAgain_1 : decode cX2_comesAgain 1 = .ok (.istore_n 2, 1) := by decide +kernel
theorem dX2_comesAgain_2 : decode cX2_comesAgain 2 = .ok (.iconst 0, 1) := by decide +kernel
theorem dX2_comesAgain_3 : decode cX2_comesAgain 3 = .ok (.istore_n 3, 1) := by decide +kernel
theorem dX2_comesAgain_4 : decode cX2_comesAgain 4 = .ok (.iload_n 3, 1) := by decide +kernel
theorem dX2_comesAgain_5 : decode cX2_comesAgain 5 = .ok (.aload_n 0, 1) := by decide +kernel
theorem dX2_comesAgain_6 : decode cX2_comesAgain 6 = .ok (.getfield 24, 3) := by decide +kernel
theorem dX2_comesAgain_9 : decode cX2_comesAgain 9 = .ok (.iload_n 1, 1) := by decide +kernel
theorem dX2_comesAgain_10 : decode cX2_comesAgain 10 = .ok (.isub, 1) := by decide +kernel
theorem dX2_comesAgain_11 : decode cX2_comesAgain 11 = .ok (.if_icmp .ge 39, 3) := by decide +kernel
theorem dX2_comesAgain_14 : decode cX2_comesAgain 14 = .ok (.iload_n 2, 1) := by decide +kernel
theorem dX2_comesAgain_15 : decode cX2_comesAgain 15 = .ok (.ifCond .eq 27, 3) := by decide +kernel
theorem dX2_comesAgain_18 : decode cX2_comesAgain 18 = .ok (.aload_n 0, 1) := by decide +kernel
theorem dX2_comesAgain_19 : decode cX2_comesAgain 19 = .ok (.getfield 7, 3) := by decide +kernel
theorem dX2_comesAgain_22 : decode cX2_comesAgain 22 = .ok (.iload_n 3, 1) := by decide +kernel
theorem dX2_comesAgain_23 : decode cX2_comesAgain 23 = .ok (.iaload, 1) := by decide +kernel
theorem dX2_comesAgain_24 : decode cX2_comesAgain 24 = .ok (.aload_n 0, 1) := by decide +kernel
theorem dX2_comesAgain_25 : decode cX2_comesAgain 25 = .ok (.getfield 7, 3) := by decide +kernel
theorem dX2_comesAgain_28 : decode cX2_comesAgain 28 = .ok (.iload_n 3, 1) := by decide +kernel
theorem dX2_comesAgain_29 : decode cX2_comesAgain 29 = .ok (.iload_n 1, 1) := by decide +kernel
theorem dX2_comesAgain_30 : decode cX2_comesAgain 30 = .ok (.iadd, 1) := by decide +kernel
theorem dX2_comesAgain_31 : decode cX2_comesAgain 31 = .ok (.iaload, 1) := by decide +kernel
theorem dX2_comesAgain_32 : decode cX2_comesAgain 32 = .ok (.invokestatic 43, 3) := by decide +kernel
theorem dX2_comesAgain_35 : decode cX2_comesAgain 35 = .ok (.ifCond .eq 7, 3) := by decide +kernel
theorem dX2_comesAgain_38 : decode cX2_comesAgain 38 = .ok (.iconst 1, 1) := by decide +kernel
theorem dX2_comesAgain_39 : decode cX2_comesAgain 39 = .ok (.goto 4, 3) := by decide +kernel
theorem dX2_comesAgain_42 : decode cX2_comesAgain 42 = .ok (.iconst 0, 1) := by decide +kernel
theorem dX2_comesAgain_43 : decode cX2_comesAgain 43 = .ok (.istore_n 2, 1) := by decide +kernel
theorem dX2_comesAgain_44 : decode cX2_comesAgain 44 = .ok (.iinc 3 1, 3) := by decide +kernel
theorem dX2_comesAgain_47 : decode cX2_comesAgain 47 = .ok (.goto (-43), 3) := by decide +kernel
theorem dX2_comesAgain_50 : decode cX2_comesAgain 50 = .ok (.iload_n 2, 1) := by decide +kernel
theorem dX2_comesAgain_51 : decode cX2_comesAgain 51 = .ok (.ireturn, 1) := by decide +kernel
set_option maxRecDepth 20000 in
theorem ggX2_hasPeriod_X2_goesWell : GoodIn wsX2_hasPeriod wsX2_goesWell := goodIn_r _ [5, 6, 16, 17, 18, 19, 20] (by decide +kernel) (by decide +kernel)
set_option maxRecDepth 20000 in
theorem gX2_hasPeriod_X2_goesWell : GoodIn wsX2_hasPeriod (wsV RX2 27 RX2 yX2_goesWell wsX2_goesWell) := goodIn_app (goodIn_of _ (by decide +kernel)) ggX2_hasPeriod_X2_goesWell
set_option maxRecDepth 20000 in
theorem ggX2_hasPeriod_X2_comesAgain : GoodIn wsX2_hasPeriod wsX2_comesAgain := goodIn_r _ [10, 11, 12, 13, 14, 4, 15, 16, 17, 18, 19, 20] (by decide +kernel) (by decide +kernel)
set_option maxRecDepth 20000 in
theorem gX2_hasPeriod_X2_comesAgain : GoodIn wsX2_hasPeriod (wsV RX2 73 RX2 yX2_comesAgain wsX2_comesAgain) := goodIn_app (goodIn_of _ (by decide +kernel)) ggX2_hasPeriod_X2_comesAgain
theorem dX2_hasPeriod_0 : decode cX2_hasPeriod 0 = .ok (.aload_n 0, 1) := by decide +kernel
theorem dX2_hasPeriod_1 : decode cX2_hasPeriod 1 = .ok (.iload_n 1, 1) := by decide +kernel
theorem dX2_hasPeriod_2 : decode cX2_hasPeriod 2 = .ok (.iconst 1, 1) := by decide +kernel
theorem dX2_hasPeriod_3 : decode cX2_hasPeriod 3 = .ok (.if_icmp .ge 7, 3) := by decide +kernel
theorem dX2_hasPeriod_6 : decode cX2_hasPeriod 6 = .ok (.iconst 1, 1) := by decide +kernel
theorem dX2_hasPeriod_7 : decode cX2_hasPeriod 7 = .ok (.goto 4, 3) := by decide +kernel
theorem dX2_hasPeriod_10 : decode cX2_hasPeriod 10 = .ok (.iconst 0, 1) := by decide +kernel
theorem dX2_hasPeriod_11 : decode cX2_hasPeriod 11 = .ok (.invokevirtual 27, 3) := by decide +kernel
theorem dX2_hasPeriod_14 : decode cX2_hasPeriod 14 = .ok (.ifCond .eq 15, 3) := by decide +kernel
theorem dX2_hasPeriod_17 : decode cX2_hasPeriod 17 = .ok (.aload_n 0, 1) := by decide +kernel
theorem dX2_hasPeriod_18 : decode cX2_hasPeriod 18 = .ok (.iload_n 1, 1) := by decide +kernel
theorem dX2_hasPeriod_19 : decode cX2_hasPeriod 19 = .ok (.invokevirtual 73, 3) := by decide +kernel
theorem dX2_hasPeriod_22 : decode cX2_hasPeriod 22 = .ok (.ifCond .eq 7, 3) := by decide +kernel
theorem dX2_hasPeriod_25 : decode cX2_hasPeriod 25 = .ok (.iconst 1, 1) := by decide +kernel
theorem dX2_hasPeriod_26 : decode cX2_hasPeriod 26 = .ok (.goto 4, 3) := by decide +kernel
theorem dX2_hasPeriod_29 : decode cX2_hasPeriod 29 = .ok (.iconst 0, 1) := by decide +kernel
theorem dX2_hasPeriod_30 : decode cX2_hasPeriod 30 = .ok (.ireturn, 1) := by decide +kernel
set_option maxRecDepth 20000 in
theorem ggX2_leastPeriod_X2_comesAgain : GoodIn wsX2_leastPeriod wsX2_comesAgain := goodIn_r _ [6, 7, 8, 9, 10, 5, 11, 12, 13, 14, 15, 16] (by decide +kernel) (by decide +kernel)
set_option maxRecDepth 20000 in
theorem gX2_leastPeriod_X2_comesAgain : GoodIn wsX2_leastPeriod (wsV RX2 73 RX2 yX2_comesAgain wsX2_comesAgain) := goodIn_app (goodIn_of _ (by decide +kernel)) ggX2_leastPeriod_X2_comesAgain
theorem dX2_leastPeriod_0 : decode cX2_leastPeriod 0 = .ok (.aload_n 0, 1) := by decide +kernel
theorem dX2_leastPeriod_1 : decode cX2_leastPeriod 1 = .ok (.iconst 0, 1) := by decide +kernel
theorem dX2_leastPeriod_2 : decode cX2_leastPeriod 2 = .ok (.putfield 16, 3) := by decide +kernel
theorem dX2_leastPeriod_5 : decode cX2_leastPeriod 5 = .ok (.iconst 1, 1) := by decide +kernel
theorem dX2_leastPeriod_6 : decode cX2_leastPeriod 6 = .ok (.istore_n 1, 1) := by decide +kernel
theorem dX2_leastPeriod_7 : decode cX2_leastPeriod 7 = .ok (.aload_n 0, 1) := by decide +kernel
theorem dX2_leastPeriod_8 : decode cX2_leastPeriod 8 = .ok (.iload_n 1, 1) := by decide +kernel
theorem dX2_leastPeriod_9 : decode cX2_leastPeriod 9 = .ok (.invokevirtual 73, 3) := by decide +kernel
theorem dX2_leastPeriod_12 : decode cX2_leastPeriod 12 = .ok (.ifCond .ne 9, 3) := by decide +kernel
theorem dX2_leastPeriod_15 : decode cX2_leastPeriod 15 = .ok (.iinc 1 1, 3) := by decide +kernel
theorem dX2_leastPeriod_18 : decode cX2_leastPeriod 18 = .ok (.goto (-11), 3) := by decide +kernel
theorem dX2_leastPeriod_21 : decode cX2_leastPeriod 21 = .ok (.iload_n 1, 1) := by decide +kernel
theorem dX2_leastPeriod_22 : decode cX2_leastPeriod 22 = .ok (.ireturn, 1) := by decide +kernel
