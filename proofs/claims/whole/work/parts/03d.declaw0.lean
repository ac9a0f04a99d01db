theorem dJ9_max_7cf53_0 : decode cJ9_max_7cf53 0 = .ok (.iload_n 0, 1) := by decide +kernel
theorem dJ9_max_7cf53_1 : decode cJ9_max_7cf53 1 = .ok (.iload_n 1, 1) := by decide +kernel
theorem dJ9_max_7cf53_2 : decode cJ9_max_7cf53 2 = .ok (.if_icmp .lt 7, 3) := by decide +kernel
theorem dJ9_max_7cf53_5 : decode cJ9_max_7cf53 5 = .ok (.iload_n 0, 1) := by decide +kernel
theorem dJ9_max_7cf53_6 : decode cJ9_max_7cf53 6 = .ok (.goto 4, 3) := by decide +kernel
theorem dJ9_max_7cf53_9 : decode cJ9_max_7cf53 9 = .ok (.iload_n 1, 1) := by decide +kernel
theorem dJ9_max_7cf53_10 : decode cJ9_max_7cf53 10 = .ok (.ireturn, 1) := by decide +kernel
theorem dJ9_min_7cf53_0 : decode cJ9_min_7cf53 0 = .ok (.iload_n 0, 1) := by decide +kernel
theorem dJ9_min_7cf53_1 : decode cJ9_min_7cf53 1 = .ok (.iload_n 1, 1) := by decide +kernel
theorem dJ9_min_7cf53_2 : decode cJ9_min_7cf53 2 = .ok (.if_icmp .gt 7, 3) := by decide +kernel
theorem dJ9_min_7cf53_5 : decode cJ9_min_7cf53 5 = .ok (.iload_n 0, 1) := by decide +kernel
theorem dJ9_min_7cf53_6 : decode cJ9_min_7cf53 6 = .ok (.goto 4, 3) := by decide +kernel
theorem dJ9_min_7cf53_9 : decode cJ9_min_7cf53 9 = .ok (.iload_n 1, 1) := by decide +kernel
theorem dJ9_min_7cf53_10 : decode cJ9_min_7cf53 10 = .ok (.ireturn, 1) := by decide +kernel
set_option maxRecDepth 20000 in
theorem ggL_appendText_X1_appendText : GoodIn wsL_appendText wsX1_appendText := goodIn_ca (goodIn_ca (goodIn_r _ [7, 8, 9, 10, 11, 12, 13, 6, 14, 15, 16, 17, 18, 19, 20, 21] (by decide +kernel) (by decide +kernel)) (goodIn_sub (fun _ h => List.mem_cons_of_mem _ (List.mem_append_left _ (List.mem_append_right _ h))) (by decide +kernel))) (goodIn_sub (fun _ h => List.mem_cons_of_mem _ (List.mem_append_right _ h)) (by decide +kernel))
set_option maxRecDepth 20000 in
theorem gL_appendText_X1_appendText : GoodIn wsL_appendText (wsV RL 7 RX1 yX1_appendText wsX1_appendText) := goodIn_app (goodIn_of _ (by decide +kernel)) ggL_appendText_X1_appendText
theorem dL_appendText_0 : decode cL_appendText 0 = .ok (.aload_n 2, 1) := by decide +kernel
theorem dL_appendText_1 : decode cL_appendText 1 = .ok (.iconst 0, 1) := by decide +kernel
theorem dL_appendText_2 : decode cL_appendText 2 = .ok (.aload_n 0, 1) := by decide +kernel
theorem dL_appendText_3 : decode cL_appendText 3 = .ok (.iload_n 1, 1) := by decide +kernel
theorem dL_appendText_4 : decode cL_appendText 4 = .ok (.invokevirtual 7, 3) := by decide +kernel
theorem dL_appendText_7 : decode cL_appendText 7 = .ok (.i2l, 1) := by decide +kernel
theorem dL_appendText_8 : decode cL_appendText 8 = .ok (.lastore, 1) := by decide +kernel
theorem dL_appendText_9 : decode cL_appendText 9 = .ok (.goto 9, 3) := by decide +kernel
theorem dL_appendText_12 : decode cL_appendText 12 = .ok (.astore_n 3, 1) := by decide +kernel
theorem dL_appendText_13 : decode cL_appendText 13 = .ok (.iconst 1, 1) := by decide +kernel
theorem dL_appendText_14 : decode cL_appendText 14 = .ok (.ireturn, 1) := by decide +kernel
theorem dL_appendText_15 : decode cL_appendText 15 = .ok (.astore_n 3, 1) := by decide +kernel
theorem dL_appendText_16 : decode cL_appendText 16 = .ok (.iconst 2, 1) := by decide +kernel
theorem dL_appendText_17 : decode cL_appendText 17 = .ok (.ireturn, 1) := by decide +kernel
theorem dL_appendText_18 : decode cL_appendText 18 = .ok (.iconst 0, 1) := by decide +kernel
theorem dL_appendText_19 : decode cL_appendText 19 = .ok (.ireturn, 1) := by decide +kernel
set_option maxRecDepth 20000 in
theorem ggL_repeatText_X1_repeatText : GoodIn wsL_repeatText wsX1_repeatText := goodIn_ca (goodIn_ca (goodIn_ca (goodIn_r _ [8, 9, 10, 11, 12, 13, 14, 15, 16, 17, 18, 19, 20, 21, 7, 22, 23, 24, 25, 26, 27, 28, 29] (by decide +kernel) (by decide +kernel)) (goodIn_sub (fun _ h => List.mem_cons_of_mem _ (List.mem_append_left _ (List.mem_append_left _ (List.mem_append_right _ h)))) (by decide +kernel))) (goodIn_sub (fun _ h => List.mem_cons_of_mem _ (List.mem_append_left _ (List.mem_append_right _ h))) (by decide +kernel))) (goodIn_sub (fun _ h => List.mem_cons_of_mem _ (List.mem_append_right _ h)) (by decide +kernel))
set_option maxRecDepth 20000 in
theorem gL_repeatText_X1_repeatText : GoodIn wsL_repeatText (wsV RL 17 RX1 yX1_repeatText wsX1_repeatText) := goodIn_app (goodIn_of _ (by decide +kernel)) ggL_repeatText_X1_repeatText
theorem dL_repeatText_0 : decode cL_repeatText 0 = .ok (.aload_n 3, 1) := by decide +kernel
theorem dL_repeatText_1 : decode cL_repeatText 1 = .ok (.iconst 0, 1) := by decide +kernel
theorem dL_repeatText_2 : decode cL_repeatText 2 = .ok (.aload_n 0, 1) := by decide +kernel
theorem dL_repeatText_3 : decode cL_repeatText 3 = .ok (.iload_n 1, 1) := by decide +kernel
theorem dL_repeatText_4 : decode cL_repeatText 4 = .ok (.iload_n 2, 1) := by decide +kernel
theorem dL_repeatText_5 : decode cL_repeatText 5 = .ok (.invokevirtual 17, 3) := by decide +kernel
theorem dL_repeatText_8 : decode cL_repeatText 8 = .ok (.i2l, 1) := by decide +kernel
theorem dL_repeatText_9 : decode cL_repeatText 9 = .ok (.lastore, 1) := by decide +kernel
theorem dL_repeatText_10 : decode cL_repeatText 10 = .ok (.goto 15, 3) := by decide +kernel
theorem dL_repeatText_13 : decode cL_repeatText 13 = .ok (.astore 4, 2) := by decide +kernel
theorem dL_repeatText_15 : decode cL_repeatText 15 = .ok (.iconst 1, 1) := by decide +kernel
theorem dL_repeatText_16 : decode cL_repeatText 16 = .ok (.ireturn, 1) := by decide +kernel
theorem dL_repeatText_17 : decode cL_repeatText 17 = .ok (.astore 4, 2) := by decide +kernel
theorem dL_repeatText_19 : decode cL_repeatText 19 = .ok (.iconst 2, 1) := by decide +kernel
theorem dL_repeatText_20 : decode cL_repeatText 20 = .ok (.ireturn, 1) := by decide +kernel
theorem dL_repeatText_21 : decode cL_repeatText 21 = .ok (.astore 4, 2) := by decide +kernel
theorem dL_repeatText_23 : decode cL_repeatText 23 = .ok (.iconst 3, 1) := by decide +kernel
theorem dL_repeatText_24 : decode cL_repeatText 24 = .ok (.ireturn, 1) := by decide +kernel
theorem dL_repeatText_25 : decode cL_repeatText 25 = .ok (.iconst 0, 1) := by decide +kernel
theorem dL_repeatText_26 : decode cL_repeatText 26 = .ok (.ireturn, 1) := by decide +kernel
set_option maxRecDepth 20000 in
theorem ggL_setText_X1_setText : GoodIn wsL_setText wsX1_setText := goodIn_ca (goodIn_ca (goodIn_r _ [7, 8, 9, 10, 11, 12, 13, 6, 14, 15, 16, 17, 18, 19, 20, 21] (by decide +kernel) (by decide +kernel)) (goodIn_sub (fun _ h => List.mem_cons_of_mem _ (List.mem_append_left _ (List.mem_append_right _ h))) (by decide +kernel))) (goodIn_sub (fun _ h => List.mem_cons_of_mem _ (List.mem_append_right _ h)) (by decide +kernel))
set_option maxRecDepth 20000 in
theorem gL_setText_X1_setText : GoodIn wsL_setText (wsV RL 23 RX1 yX1_setText wsX1_setText) := goodIn_app (goodIn_of _ (by decide +kernel)) ggL_setText_X1_setText
theorem dL_setText_0 : decode cL_setText 0 = .ok (.aload_n 3, 1) := by decide +kernel
theorem dL_setText_1 : decode cL_setText 1 = .ok (.iconst 0, 1) := by decide +kernel
theorem dL_setText_2 : decode cL_setText 2 = .ok (.aload_n 0, 1) := by decide +kernel
theorem dL_setText_3 : decode cL_setText 3 = .ok (.iload_n 1, 1) := by decide +kernel
theorem dL_setText_4 : decode cL_setText 4 = .ok (.iload_n 2, 1) := by decide +kernel
theorem dL_setText_5 : decode cL_setText 5 = .ok (.invokevirtual 23, 3) := by decide +kernel
theorem dL_setText_8 : decode cL_setText 8 = .ok (.i2l, 1) := by decide +kernel
theorem dL_setText_9 : decode cL_setText 9 = .ok (.lastore, 1) := by decide +kernel
theorem dL_setText_10 : decode cL_setText 10 = .ok (.goto 11, 3) := by decide +kernel
theorem dL_setText_13 : decode cL_setText 13 = .ok (.astore 4, 2) := by decide +kernel
theorem dL_setText_15 : decode cL_setText 15 = .ok (.iconst 1, 1) := by decide +kernel
theorem dL_setText_16 : decode cL_setText 16 = .ok (.ireturn, 1) := by decide +kernel
theorem dL_setText_17 : decode cL_setText 17 = .ok (.astore 4, 2) := by decide +kernel
theorem dL_setText_19 : decode cL_setText 19 = .ok (.iconst 2, 1) := by decide +kernel
theorem dL_setText_20 : decode cL_setText 20 = .ok (.ireturn, 1) := by decide +kernel
theorem dL_setText_21 : decode cL_setText 21 = .ok (.iconst 0, 1) := by decide +kernel
theorem dL_setText_22 : decode cL_setText 22 = .ok (.ireturn, 1) := by decide +kernel
set_option maxRecDepth 20000 in
theorem ggL_appendPattern_X1_appendPattern : GoodIn wsL_appendPattern wsX1_appendPattern := goodIn_ca (goodIn_ca (goodIn_r _ [7, 8, 9, 10, 11, 12, 13, 6, 14, 15, 16, 17, 18, 19, 20, 21] (by decide +kernel) (by decide +kernel)) (goodIn_sub (fun _ h => List.mem_cons_of_mem _ (List.mem_append_left _ (List.mem_append_right _ h))) (by decide +kernel))) (goodIn_sub (fun _ h => List.mem_cons_of_mem _ (List.mem_append_right _ h)) (by decide +kernel))
set_option maxRecDepth 20000 in
theorem gL_appendPattern_X1_appendPattern : GoodIn wsL_appendPattern (wsV RL 26 RX1 yX1_appendPattern wsX1_appendPattern) := goodIn_app (goodIn_of _ (by decide +kernel)) ggL_appendPattern_X1_appendPattern
theorem dL_appendPattern_0 : decode cL_appendPattern 0 = .ok (.aload_n 2, 1) := by decide +kernel
theorem dL_appendPattern_1 : decode cL_appendPattern 1 = .ok (.iconst 0, 1) := by decide +kernel
theorem dL_appendPattern_2 : decode cL_appendPattern 2 = .ok (.aload_n 0, 1) := by decide +kernel
theorem dL_appendPattern_3 : decode cL_appendPattern 3 = .ok (.iload_n 1, 1) := by decide +kernel
theorem dL_appendPattern_4 : decode cL_appendPattern 4 = .ok (.invokevirtual 26, 3) := by decide +kernel
theorem dL_appendPattern_7 : decode cL_appendPattern 7 = .ok (.i2l, 1) := by decide +kernel
theorem dL_appendPattern_8 : decode cL_appendPattern 8 = .ok (.lastore, 1) := by decide +kernel
theorem dL_appendPattern_9 : decode cL_appendPattern 9 = .ok (.goto 9, 3) := by decide +kernel
theorem dL_appendPattern_12 : decode cL_appendPattern 12 = .ok (.astore_n 3, 1) := by decide +kernel
theorem dL_appendPattern_13 : decode cL_appendPattern 13 = .ok (.iconst 1, 1) := by decide +kernel
theorem dL_appendPattern_14 : decode cL_appendPattern 14 = .ok (.ireturn, 1) := by decide +kernel
theorem dL_appendPattern_15 : decode cL_appendPattern 15 = .ok (.astore_n 3, 1) := by decide +kernel
theorem dL_appendPattern_16 : decode cL_appendPattern 16 = .ok (.iconst 2, 1) := by decide +kernel
theorem dL_appendPattern_17 : decode cL_appendPattern 17 = .ok (.ireturn, 1) := by decide +kernel
theorem dL_appendPattern_18 : decode cL_appendPattern 18 = .ok (.iconst 0, 1) := by decide +kernel
theorem dL_appendPattern_19 : decode cL_appendPattern 19 = .ok (.ireturn, 1) := by decide +kernel
set_option maxRecDepth 20000 in
theorem ggL_setPattern_X1_setPattern : GoodIn wsL_setPattern wsX1_setPattern := goodIn_ca (goodIn_ca (goodIn_r _ [7, 8, 9, 10, 11, 6, 12, 13, 14, 15, 16, 17, 18, 19, 20, 21, 22, 23, 24, 25] (by decide +kernel) (by decide +kernel)) (goodIn_sub (fun _ h => List.mem_cons_of_mem _ (List.mem_append_left _ (List.mem_append_right _ h))) (by decide +kernel))) (goodIn_sub (fun _ h => List.mem_cons_of_mem _ (List.mem_append_right _ h)) (by decide +kernel))
set_option maxRecDepth 20000 in
theorem gL_setPattern_X1_setPattern : GoodIn wsL_setPattern (wsV RL 29 RX1 yX1_setPattern wsX1_setPattern) := goodIn_app (goodIn_of _ (by decide +kernel)) ggL_setPattern_X1_setPattern
theorem dL_setPattern_0 : decode cL_setPattern 0 = .ok (.aload_n 3, 1) := by decide +kernel
theorem dL_setPattern_1 : decode cL_setPattern 1 = .ok (.iconst 0, 1) := by decide +kernel
theorem dL_setPattern_2 : decode cL_setPattern 2 = .ok (.aload_n 0, 1) := by decide +kernel
theorem dL_setPattern_3 : decode cL_setPattern 3 = .ok (.iload_n 1, 1) := by decide +kernel
theorem dL_setPattern_4 : decode cL_setPattern 4 = .ok (.iload_n 2, 1) := by decide +kernel
theorem dL_setPattern_5 : decode cL_setPattern 5 = .ok (.invokevirtual 29, 3) := by decide +kernel
theorem dL_setPattern_8 : decode cL_setPattern 8 = .ok (.i2l, 1) := by decide +kernel
theorem dL_setPattern_9 : decode cL_setPattern 9 = .ok (.lastore, 1) := by decide +kernel
theorem dL_setPattern_10 : decode cL_setPattern 10 = .ok (.goto 11, 3) := by decide +kernel
theorem dL_setPattern_13 : decode cL_setPattern 13 = .ok (.astore 4, 2) := by decide +kernel
theorem dL_setPattern_15 : decode cL_setPattern 15 = .ok (.iconst 1, 1) := by decide +kernel
theorem dL_setPattern_16 : decode cL_setPattern 16 = .ok (.ireturn, 1) := by decide +kernel
theorem dL_setPattern_17 : decode cL_setPattern 17 = .ok (.astore 4, 2) := by decide +kernel
theorem dL_setPattern_19 : decode cL_setPattern 19 = .ok (.iconst 2, 1) := by decide +kernel
theorem dL_setPattern_20 : decode cL_setPattern 20 = .ok (.ireturn, 1) := by decide +kernel
theorem dL_setPattern_21 : decode cL_setPattern 21 = .ok (.iconst 0, 1) := by decide +kernel
theorem dL_setPattern_22 : decode cL_setPattern 22 = .ok (.ireturn, 1) := by decide +kernel
set_option maxRecDepth 20000 in
theorem ggL_takePattern_X1_takePattern : GoodIn wsL_takePattern wsX1_takePattern := goodIn_ca (goodIn_ca (goodIn_r _ [7, 8, 9, 10, 11, 12, 13, 14, 15, 16, 17, 18, 19, 6, 20, 21, 22, 23, 24, 25, 26, 27, 28, 29, 30, 31, 32] (by decide +kernel) (by decide +kernel)) (goodIn_sub (fun _ h => List.mem_cons_of_mem _ (List.mem_append_left _ (List.mem_append_right _ h))) (by decide +kernel))) (goodIn_sub (fun _ h => List.mem_cons_of_mem _ (List.mem_append_right _ h)) (by decide +kernel))
set_option maxRecDepth 20000 in
theorem gL_takePattern_X1_takePattern : GoodIn wsL_takePattern (wsV RL 32 RX1 yX1_takePattern wsX1_takePattern) := goodIn_app (goodIn_of _ (by decide +kernel)) ggL_takePattern_X1_takePattern
theorem dL_takePattern_0 : decode cL_takePattern 0 = .ok (.aload_n 3, 1) := by decide +kernel
theorem dL_takePattern_1 : decode cL_takePattern 1 = .ok (.iconst 0, 1) := by decide +kernel
theorem dL_takePattern_2 : decode cL_takePattern 2 = .ok (.aload_n 0, 1) := by decide +kernel
theorem dL_takePattern_3 : decode cL_takePattern 3 = .ok (.iload_n 1, 1) := by decide +kernel
theorem dL_takePattern_4 : decode cL_takePattern 4 = .ok (.iload_n 2, 1) := by decide +kernel
theorem dL_takePattern_5 : decode cL_takePattern 5 = .ok (.invokevirtual 32, 3) := by decide +kernel
theorem dL_takePattern_8 : decode cL_takePattern 8 = .ok (.i2l, 1) := by decide +kernel
theorem dL_takePattern_9 : decode cL_takePattern 9 = .ok (.lastore, 1) := by decide +kernel
theorem dL_takePattern_10 : decode cL_takePattern 10 = .ok (.goto 11, 3) := by decide +kernel
theorem dL_takePattern_13 : decode cL_takePattern 13 = .ok (.astore 4, 2) := by decide +kernel
theorem dL_takePattern_15 : decode cL_takePattern 15 = .ok (.iconst 1, 1) := by decide +kernel
theorem dL_takePattern_16 : decode cL_takePattern 16 = .ok (.ireturn, 1) := by decide +kernel
theorem dL_takePattern_17 : decode cL_takePattern 17 = .ok (.astore 4, 2) := by decide +kernel
theorem dL_takePattern_19 : decode cL_takePattern 19 = .ok (.iconst 2, 1) := by decide +kernel
theorem dL_takePattern_20 : decode cL_takePattern 20 = .ok (.ireturn, 1) := by decide +kernel
theorem dL_takePattern_21 : decode cL_takePattern 21 = .ok (.iconst 0, 1) := by decide +kernel
theorem dL_takePattern_22 : decode cL_takePattern 22 = .ok (.ireturn, 1) := by decide +kernel
set_option maxRecDepth 20000 in
theorem ggL_product_X1_product : GoodIn wsL_product wsX1_product := goodIn_ca (goodIn_r _ [6, 7, 8, 9, 10, 11, 12, 13, 14, 15, 16, 17] (by decide +kernel) (by decide +kernel)) (goodIn_sub (fun _ h => List.mem_cons_of_mem _ (List.mem_append_right _ h)) (by decide +kernel))
set_option maxRecDepth 20000 in
theorem gL_product_X1_product : GoodIn wsL_product (wsV RL 35 RX1 yX1_product wsX1_product) := goodIn_app (goodIn_of _ (by decide +kernel)) ggL_product_X1_product
theorem dL_product_0 : decode cL_product 0 = .ok (.aload_n 2, 1) := by decide +kernel
theorem dL_product_1 : decode cL_product 1 = .ok (.iconst 0, 1) := by decide +kernel
theorem dL_product_2 : decode cL_product 2 = .ok (.aload_n 0, 1) := by decide +kernel
theorem dL_product_3 : decode cL_product 3 = .ok (.iload_n 1, 1) := by decide +kernel
theorem dL_product_4 : decode cL_product 4 = .ok (.invokevirtual 35, 3) := by decide +kernel
theorem dL_product_7 : decode cL_product 7 = .ok (.i2l, 1) := by decide +kernel
theorem dL_product_8 : decode cL_product 8 = .ok (.lastore, 1) := by decide +kernel
theorem dL_product_9 : decode cL_product 9 = .ok (.goto 6, 3) := by decide +kernel
theorem dL_product_12 : decode cL_product 12 = .ok (.astore_n 3, 1) := by decide +kernel
theorem dL_product_13 : decode cL_product 13 = .ok (.iconst 1, 1) := by decide +kernel
theorem dL_product_14 : decode cL_product 14 = .ok (.ireturn, 1) := by decide +kernel
theorem dL_product_15 : decode cL_product 15 = .ok (.iconst 0, 1) := by decide +kernel
theorem dL_product_16 : decode cL_product 16 = .ok (.ireturn, 1) := by decide +kernel
set_option maxRecDepth 20000 in
theorem ggL_difference_X1_difference : GoodIn wsL_difference wsX1_difference := goodIn_ca (goodIn_r _ [6, 7, 8, 9, 10, 11, 12, 5, 13, 14, 15, 16, 17, 18, 19, 20, 21, 22, 23, 24, 25] (by decide +kernel) (by decide +kernel)) (goodIn_sub (fun _ h => List.mem_cons_of_mem _ (List.mem_append_right _ h)) (by decide +kernel))
set_option maxRecDepth 20000 in
theorem gL_difference_X1_difference : GoodIn wsL_difference (wsV RL 38 RX1 yX1_difference wsX1_difference) := goodIn_app (goodIn_of _ (by decide +kernel)) ggL_difference_X1_difference
theorem dL_difference_0 : decode cL_difference 0 = .ok (.aload_n 2, 1) := by decide +kernel
theorem dL_difference_1 : decode cL_difference 1 = .ok (.iconst 0, 1) := by decide +kernel
theorem dL_difference_2 : decode cL_difference 2 = .ok (.aload_n 0, 1) := by decide +kernel
theorem dL_difference_3 : decode cL_difference 3 = .ok (.iload_n 1, 1) := by decide +kernel
theorem dL_difference_4 : decode cL_difference 4 = .ok (.invokevirtual 38, 3) := by decide +kernel
theorem dL_difference_7 : decode cL_difference 7 = .ok (.i2l, 1) := by decide +kernel
theorem dL_difference_8 : decode cL_difference 8 = .ok (.lastore, 1) := by decide +kernel
theorem dL_difference_9 : decode cL_difference 9 = .ok (.goto 6, 3) := by decide +kernel
theorem dL_difference_12 : decode cL_difference 12 = .ok (.astore_n 3, 1) := by decide +kernel
theorem dL_difference_13 : decode cL_difference 13 = .ok (.iconst 1, 1) := by decide +kernel
theorem dL_difference_14 : decode cL_difference 14 = .ok (.ireturn, 1) := by decide +kernel
theorem dL_difference_15 : decode cL_difference 15 = .ok (.iconst 0, 1) := by decide +kernel
theorem dL_difference_16 : decode cL_difference 16 = .ok (.ireturn, 1) := by decide +kernel
set_option maxRecDepth 20000 in
theorem ggL_match_X1_match : GoodIn wsL_match wsX1_match := goodIn_ca (goodIn_r _ [6, 7, 8, 9, 10, 5, 11, 12, 13, 14, 15, 16, 17, 18, 19, 20, 21, 22, 23, 24, 25, 26, 27, 28, 29, 30, 31, 32, 33, 34, 35, 36, 37, 38, 39, 40, 41, 42, 43, 44, 45, 46, 47, 48, 49, 50, 51, 52, 53, 54, 55, 56, 57, 58, 59] (by decide +kernel) (by decide +kernel)) (goodIn_sub (fun _ h => List.mem_cons_of_mem _ (List.mem_append_right _ h)) (by decide +kernel))
set_option maxRecDepth 20000 in
theorem gL_match_X1_match : GoodIn wsL_match (wsV RL 41 RX1 yX1_match wsX1_match) := goodIn_app (goodIn_of _ (by decide +kernel)) ggL_match_X1_match
theorem dL_match_0 : decode cL_match 0 = .ok (.aload_n 2, 1) := by decide +kernel
theorem dL_match_1 : decode cL_match 1 = .ok (.iconst 0, 1) := by decide +kernel
theorem dL_match_2 : decode cL_match 2 = .ok (.aload_n 0, 1) := by decide +kernel
theorem dL_match_3 : decode cL_match 3 = .ok (.iload_n 1, 1) := by decide +kernel
theorem dL_match_4 : decode cL_match 4 = .ok (.invokevirtual 41, 3) := by decide +kernel
theorem dL_match_7 : decode cL_match 7 = .ok (.i2l, 1) := by decide +kernel
theorem dL_match_8 : decode cL_match 8 = .ok (.lastore, 1) := by decide +kernel
theorem dL_match_9 : decode cL_match 9 = .ok (.goto 6, 3) := by decide +kernel
theorem dL_match_12 : decode cL_match 12 = .ok (.astore_n 3, 1) := by decide +kernel
theorem dL_match_13 : decode cL_match 13 = .ok (.iconst 1, 1) := by decide +kernel
theorem dL_match_14 : decode cL_match 14 = .ok (.ireturn, 1) := by decide +kernel
theorem dL_match_15 : decode cL_match 15 = .ok (.iconst 0, 1) := by decide +kernel
theorem dL_match_16 : decode cL_match 16 = .ok (.ireturn, 1) := by decide +kernel
set_option maxRecDepth 20000 in
theorem ggL_mismatches_X1_mismatches : GoodIn wsL_mismatches wsX1_mismatches := goodIn_ca (goodIn_r _ [6, 7, 8, 9, 5, 10, 11, 12, 13, 14, 15, 16, 17, 18, 19, 20, 21, 22, 23, 24, 25, 26, 27, 28, 29, 30, 31, 32] (by decide +kernel) (by decide +kernel)) (goodIn_sub (fun _ h => List.mem_cons_of_mem _ (List.mem_append_right _ h)) (by decide +kernel))
set_option maxRecDepth 20000 in
theorem gL_mismatches_X1_mismatches : GoodIn wsL_mismatches (wsV RL 44 RX1 yX1_mismatches wsX1_mismatches) := goodIn_app (goodIn_of _ (by decide +kernel)) ggL_mismatches_X1_mismatches
theorem dL_mismatches_0 : decode cL_mismatches 0 = .ok (.aload_n 2, 1) := by decide +kernel
theorem dL_mismatches_1 : decode cL_mismatches 1 = .ok (.iconst 0, 1) := by decide +kernel
theorem dL_mismatches_2 : decode cL_mismatches 2 = .ok (.aload_n 0, 1) := by decide +kernel
theorem dL_mismatches_3 : decode cL_mismatches 3 = .ok (.iload_n 1, 1) := by decide +kernel
theorem dL_mismatches_4 : decode cL_mismatches 4 = .ok (.invokevirtual 44, 3) := by decide +kernel
theorem dL_mismatches_7 : decode cL_mismatches 7 = .ok (.i2l, 1) := by decide +kernel
theorem dL_mismatches_8 : decode cL_mismatches 8 = .ok (.lastore, 1) := by decide +kernel
theorem dL_mismatches_9 : decode cL_mismatches 9 = .ok (.goto 6, 3) := by decide +kernel
theorem dL_mismatches_12 : decode cL_mismatches 12 = .ok (.astore_n 3, 1) := by decide +kernel
theorem dL_mismatches_13 : decode cL_mismatches 13 = .ok (.iconst 1, 1) := by decide +kernel
theorem dL_mismatches_14 : decode cL_mismatches 14 = .ok (.ireturn, 1) := by decide +kernel
theorem dL_mismatches_15 : decode cL_mismatches 15 = .ok (.iconst 0, 1) := by decide +kernel
theorem dL_mismatches_16 : decode cL_mismatches 16 = .ok (.ireturn, 1) := by decide +kernel
set_option maxRecDepth 20000 in
theorem ggL_mismatchesOf_X1_mismatchesOf : GoodIn wsL_mismatchesOf wsX1_mismatchesOf := goodIn_ca (goodIn_ca (goodIn_r _ [7, 8, 9, 10, 11, 12, 13, 14, 15, 6, 16, 17, 18, 19, 20, 21, 22, 23, 24, 25, 26, 27, 28, 29, 30, 31] (by decide +kernel) (by decide +kernel)) (goodIn_sub (fun _ h => List.mem_cons_of_mem _ (List.mem_append_left _ (List.mem_append_right _ h))) (by decide +kernel))) (goodIn_sub (fun _ h => List.mem_cons_of_mem _ (List.mem_append_right _ h)) (by decide +kernel))
set_option maxRecDepth 20000 in
theorem gL_mismatchesOf_X1_mismatchesOf : GoodIn wsL_mismatchesOf (wsV RL 47 RX1 yX1_mismatchesOf wsX1_mismatchesOf) := goodIn_app (goodIn_of _ (by decide +kernel)) ggL_mismatchesOf_X1_mismatchesOf
theorem dL_mismatchesOf_0 : decode cL_mismatchesOf 0 = .ok (.aload_n 3, 1) := by decide +kernel
theorem dL_mismatchesOf_1 : decode cL_mismatchesOf 1 = .ok (.iconst 0, 1) := by decide +kernel
theorem dL_mismatchesOf_2 : decode cL_mismatchesOf 2 = .ok (.aload_n 0, 1) := by decide +kernel
theorem dL_mismatchesOf_3 : decode cL_mismatchesOf 3 = .ok (.iload_n 1, 1) := by decide +kernel
theorem dL_mismatchesOf_4 : decode cL_mismatchesOf 4 = .ok (.iload_n 2, 1) := by decide +kernel
theorem dL_mismatchesOf_5 : decode cL_mismatchesOf 5 = .ok (.invokevirtual 47, 3) := by decide +kernel
theorem dL_mismatchesOf_8 : decode cL_mismatchesOf 8 = .ok (.i2l, 1) := by decide +kernel
theorem dL_mismatchesOf_9 : decode cL_mismatchesOf 9 = .ok (.lastore, 1) := by decide +kernel
theorem dL_mismatchesOf_10 : decode cL_mismatchesOf 10 = .ok (.goto 11, 3) := by decide +kernel
theorem dL_mismatchesOf_13 : decode cL_mismatchesOf 13 = .ok (.astore 4, 2) := by decide +kernel
theorem dL_mismatchesOf_15 : decode cL_mismatchesOf 15 = .ok (.iconst 1, 1) := by decide +kernel
theorem dL_mismatchesOf_16 : decode cL_mismatchesOf 16 = .ok (.ireturn, 1) := by decide +kernel
theorem dL_mismatchesOf_17 : decode cL_mismatchesOf 17 = .ok (.astore 4, 2) := by decide +kernel
theorem dL_mismatchesOf_19 : decode cL_mismatchesOf 19 = .ok (.iconst 2, 1) := by decide +kernel
theorem dL_mismatchesOf_20 : decode cL_mismatchesOf 20 = .ok (.ireturn, 1) := by decide +kernel
theorem dL_mismatchesOf_21 : decode cL_mismatchesOf 21 = .ok (.iconst 0, 1) := by decide +kernel
theorem dL_mismatchesOf_22 : decode cL_mismatchesOf 22 = .ok (.ireturn, 1) := by decide +kernel
set_option maxRecDepth 20000 in
theorem ggL_nextMismatch_X1_nextMismatch : GoodIn wsL_nextMismatch wsX1_nextMismatch := goodIn_ca (goodIn_ca (goodIn_r _ [7, 8, 9, 10, 11, 12, 6, 13, 14, 15, 16, 17, 18, 19, 20, 21, 22, 23, 24, 25, 26, 27, 28, 29, 30, 31, 32, 33, 34, 35] (by decide +kernel) (by decide +kernel)) (goodIn_sub (fun _ h => List.mem_cons_of_mem _ (List.mem_append_left _ (List.mem_append_right _ h))) (by decide +kernel))) (goodIn_sub (fun _ h => List.mem_cons_of_mem _ (List.mem_append_right _ h)) (by decide +kernel))
set_option maxRecDepth 20000 in
theorem gL_nextMismatch_X1_nextMismatch : GoodIn wsL_nextMismatch (wsV RL 50 RX1 yX1_nextMismatch wsX1_nextMismatch) := goodIn_app (goodIn_of _ (by decide +kernel)) ggL_nextMismatch_X1_nextMismatch
theorem dL_nextMismatch_0 : decode cL_nextMismatch 0 = .ok (.aload_n 3, 1) := by decide +kernel
theorem dL_nextMismatch_1 : decode cL_nextMismatch 1 = .ok (.iconst 0, 1) := by decide +kernel
theorem dL_nextMismatch_2 : decode cL_nextMismatch 2 = .ok (.aload_n 0, 1) := by decide +kernel
theorem dL_nextMismatch_3 : decode cL_nextMismatch 3 = .ok (.iload_n 1, 1) := by decide +kernel
theorem dL_nextMismatch_4 : decode cL_nextMismatch 4 = .ok (.iload_n 2, 1) := by decide +kernel
theorem dL_nextMismatch_5 : decode cL_nextMismatch 5 = .ok (.invokevirtual 50, 3) := by decide +kernel
theorem dL_nextMismatch_8 : decode cL_nextMismatch 8 = .ok (.i2l, 1) := by decide +kernel
theorem dL_nextMismatch_9 : decode cL_nextMismatch 9 = .ok (.lastore, 1) := by decide +kernel
theorem dL_nextMismatch_10 : decode cL_nextMismatch 10 = .ok (.goto 11, 3) := by decide +kernel
theorem dL_nextMismatch_13 : decode cL_nextMismatch 13 = .ok (.astore 4, 2) := by decide +kernel
theorem dL_nextMismatch_15 : decode cL_nextMismatch 15 = .ok (.iconst 1, 1) := by decide +kernel
theorem dL_nextMismatch_16 : decode cL_nextMismatch 16 = .ok (.ireturn, 1) := by decide +kernel
theorem dL_nextMismatch_17 : decode cL_nextMismatch 17 = .ok (.astore 4, 2) := by decide +kernel
theorem dL_nextMismatch_19 : decode cL_nextMismatch 19 = .ok (.iconst 2, 1) := by decide +kernel
theorem dL_nextMismatch_20 : decode cL_nextMismatch 20 = .ok (.ireturn, 1) := by decide +kernel
theorem dL_nextMismatch_21 : decode cL_nextMismatch 21 = .ok (.iconst 0, 1) := by decide +kernel
theorem dL_nextMismatch_22 : decode cL_nextMismatch 22 = .ok (.ireturn, 1) := by decide +kernel
set_option maxRecDepth 20000 in
theorem ggL_agreement_X1_agreement : GoodIn wsL_agreement wsX1_agreement := goodIn_ca (goodIn_r _ [6, 7, 8, 9, 10, 11, 12, 13, 14, 15, 16, 17, 18, 5, 19, 20, 21, 22, 23, 24] (by decide +kernel) (by decide +kernel)) (goodIn_sub (fun _ h => List.mem_cons_of_mem _ (List.mem_append_right _ h)) (by decide +kernel))
set_option maxRecDepth 20000 in
theorem gL_agreement_X1_agreement : GoodIn wsL_agreement (wsV RL 53 RX1 yX1_agreement wsX1_agreement) := goodIn_app (goodIn_of _ (by decide +kernel)) ggL_agreement_X1_agreement
theorem dL_agreement_0 : decode cL_agreement 0 = .ok (.aload_n 3, 1) := by decide +kernel
theorem dL_agreement_1 : decode cL_agreement 1 = .ok (.iconst 0, 1) := by decide +kernel
theorem dL_agreement_2 : decode cL_agreement 2 = .ok (.aload_n 0, 1) := by decide +kernel
theorem dL_agreement_3 : decode cL_agreement 3 = .ok (.iload_n 1, 1) := by decide +kernel
theorem dL_agreement_4 : decode cL_agreement 4 = .ok (.iload_n 2, 1) := by decide +kernel
theorem dL_agreement_5 : decode cL_agreement 5 = .ok (.invokevirtual 53, 3) := by decide +kernel
theorem dL_agreement_8 : decode cL_agreement 8 = .ok (.i2l, 1) := by decide +kernel
theorem dL_agreement_9 : decode cL_agreement 9 = .ok (.lastore, 1) := by decide +kernel
theorem dL_agreement_10 : decode cL_agreement 10 = .ok (.goto 7, 3) := by decide +kernel
theorem dL_agreement_13 : decode cL_agreement 13 = .ok (.astore 4, 2) := by decide +kernel
theorem dL_agreement_15 : decode cL_agreement 15 = .ok (.iconst 1, 1) := by decide +kernel
theorem dL_agreement_16 : decode cL_agreement 16 = .ok (.ireturn, 1) := by decide +kernel
theorem dL_agreement_17 : decode cL_agreement 17 = .ok (.iconst 0, 1) := by decide +kernel
theorem dL_agreement_18 : decode cL_agreement 18 = .ok (.ireturn, 1) := by decide +kernel
set_option maxRecDepth 20000 in
theorem ggL_within_X1_within : GoodIn wsL_within wsX1_within := goodIn_ca (goodIn_r _ [6, 7, 8, 9, 10, 11, 5, 12, 13, 14, 15, 16, 17, 18, 19, 20, 21, 22, 23, 24, 25, 26, 27, 28] (by decide +kernel) (by decide +kernel)) (goodIn_sub (fun _ h => List.mem_cons_of_mem _ (List.mem_append_right _ h)) (by decide +kernel))
set_option maxRecDepth 20000 in
theorem gL_within_X1_within : GoodIn wsL_within (wsV RL 56 RX1 yX1_within wsX1_within) := goodIn_app (goodIn_of _ (by decide +kernel)) ggL_within_X1_within
theorem dL_within_0 : decode cL_within 0 = .ok (.aload_n 2, 1) := by decide +kernel
theorem dL_within_1 : decode cL_within 1 = .ok (.iconst 0, 1) := by decide +kernel
theorem dL_within_2 : decode cL_within 2 = .ok (.aload_n 0, 1) := by decide +kernel
theorem dL_within_3 : decode cL_within 3 = .ok (.iload_n 1, 1) := by decide +kernel
theorem dL_within_4 : decode cL_within 4 = .ok (.invokevirtual 56, 3) := by decide +kernel
theorem dL_within_7 : decode cL_within 7 = .ok (.i2l, 1) := by decide +kernel
theorem dL_within_8 : decode cL_within 8 = .ok (.lastore, 1) := by decide +kernel
theorem dL_within_9 : decode cL_within 9 = .ok (.goto 6, 3) := by decide +kernel
theorem dL_within_12 : decode cL_within 12 = .ok (.astore_n 3, 1) := by decide +kernel
theorem dL_within_13 : decode cL_within 13 = .ok (.iconst 1, 1) := by decide +kernel
theorem dL_within_14 : decode cL_within 14 = .ok (.ireturn, 1) := by decide +kernel
theorem dL_within_15 : decode cL_within 15 = .ok (.iconst 0, 1) := by decide +kernel
theorem dL_within_16 : decode cL_within 16 = .ok (.ireturn, 1) := by decide +kernel
set_option maxRecDepth 20000 in
theorem ggL_ranked_X1_ranked : GoodIn wsL_ranked wsX1_ranked := goodIn_ca (goodIn_r _ [6, 7, 8, 9, 10, 11, 12, 5, 13, 14, 15, 16, 17, 18, 19, 20, 21, 22, 23, 24, 25, 26, 27, 28, 29, 30, 31, 32, 33] (by decide +kernel) (by decide +kernel)) (goodIn_sub (fun _ h => List.mem_cons_of_mem _ (List.mem_append_right _ h)) (by decide +kernel))
set_option maxRecDepth 20000 in
theorem gL_ranked_X1_ranked : GoodIn wsL_ranked (wsV RL 59 RX1 yX1_ranked wsX1_ranked) := goodIn_app (goodIn_of _ (by decide +kernel)) ggL_ranked_X1_ranked
theorem dL_ranked_0 : decode cL_ranked 0 = .ok (.aload_n 2, 1) := by decide +kernel
theorem dL_ranked_1 : decode cL_ranked 1 = .ok (.iconst 0, 1) := by decide +kernel
theorem dL_ranked_2 : decode cL_ranked 2 = .ok (.aload_n 0, 1) := by decide +kernel
theorem dL_ranked_3 : decode cL_ranked 3 = .ok (.iload_n 1, 1) := by decide +kernel
theorem dL_ranked_4 : decode cL_ranked 4 = .ok (.invokevirtual 59, 3) := by decide +kernel
theorem dL_ranked_7 : decode cL_ranked 7 = .ok (.i2l, 1) := by decide +kernel
theorem dL_ranked_8 : decode cL_ranked 8 = .ok (.lastore, 1) := by decide +kernel
theorem dL_ranked_9 : decode cL_ranked 9 = .ok (.goto 6, 3) := by decide +kernel
theorem dL_ranked_12 : decode cL_ranked 12 = .ok (.astore_n 3, 1) := by decide +kernel
theorem dL_ranked_13 : decode cL_ranked 13 = .ok (.iconst 1, 1) := by decide +kernel
theorem dL_ranked_14 : decode cL_ranked 14 = .ok (.ireturn, 1) := by decide +kernel
theorem dL_ranked_15 : decode cL_ranked 15 = .ok (.iconst 0, 1) := by decide +kernel
theorem dL_ranked_16 : decode cL_ranked 16 = .ok (.ireturn, 1) := by decide +kernel
set_option maxRecDepth 20000 in
theorem ggL_bestLetter_X1_bestLetter : GoodIn wsL_bestLetter wsX1_bestLetter := goodIn_ca (goodIn_r _ [6, 7, 8, 9, 5, 10, 11, 12, 13, 14, 15, 16, 17, 18, 19, 20, 21, 22, 23, 24, 25, 26, 27, 28] (by decide +kernel) (by decide +kernel)) (goodIn_sub (fun _ h => List.mem_cons_of_mem _ (List.mem_append_right _ h)) (by decide +kernel))
set_option maxRecDepth 20000 in
theorem gL_bestLetter_X1_bestLetter : GoodIn wsL_bestLetter (wsV RL 62 RX1 yX1_bestLetter wsX1_bestLetter) := goodIn_app (goodIn_of _ (by decide +kernel)) ggL_bestLetter_X1_bestLetter
theorem dL_bestLetter_0 : decode cL_bestLetter 0 = .ok (.aload_n 2, 1) := by decide +kernel
theorem dL_bestLetter_1 : decode cL_bestLetter 1 = .ok (.iconst 0, 1) := by decide +kernel
theorem dL_bestLetter_2 : decode cL_bestLetter 2 = .ok (.aload_n 0, 1) := by decide +kernel
theorem dL_bestLetter_3 : decode cL_bestLetter 3 = .ok (.iload_n 1, 1) := by decide +kernel
theorem dL_bestLetter_4 : decode cL_bestLetter 4 = .ok (.invokevirtual 62, 3) := by decide +kernel
theorem dL_bestLetter_7 : decode cL_bestLetter 7 = .ok (.i2l, 1) := by decide +kernel
theorem dL_bestLetter_8 : decode cL_bestLetter 8 = .ok (.lastore, 1) := by decide +kernel
theorem dL_bestLetter_9 : decode cL_bestLetter 9 = .ok (.goto 6, 3) := by decide +kernel
theorem dL_bestLetter_12 : decode cL_bestLetter 12 = .ok (.astore_n 3, 1) := by decide +kernel
theorem dL_bestLetter_13 : decode cL_bestLetter 13 = .ok (.iconst 1, 1) := by decide +kernel
theorem dL_bestLetter_14 : decode cL_bestLetter 14 = .ok (.ireturn, 1) := by decide +kernel
theorem dL_bestLetter_15 : decode cL_bestLetter 15 = .ok (.iconst 0, 1) := by decide +kernel
theorem dL_bestLetter_16 : decode cL_bestLetter 16 = .ok (.ireturn, 1) := by decide +kernel
set_option maxRecDepth 20000 in
theorem ggL_sumMatch_X1_sumMatch : GoodIn wsL_sumMatch wsX1_sumMatch := goodIn_ca (goodIn_r _ [6, 7, 8, 9, 10, 5, 11, 12, 13, 14, 15, 16, 17, 18, 19, 20, 21, 22, 23, 24, 25, 26, 27, 28, 29, 30, 31, 32, 33, 34, 35, 36, 37, 38, 39, 40, 41, 42, 43, 44, 45, 46, 47, 48, 49, 50, 51, 52, 53, 54, 55, 56, 57, 58] (by decide +kernel) (by decide +kernel)) (goodIn_sub (fun _ h => List.mem_cons_of_mem _ (List.mem_append_right _ h)) (by decide +kernel))
set_option maxRecDepth 20000 in
theorem gL_sumMatch_X1_sumMatch : GoodIn wsL_sumMatch (wsV RL 65 RX1 yX1_sumMatch wsX1_sumMatch) := goodIn_app (goodIn_of _ (by decide +kernel)) ggL_sumMatch_X1_sumMatch
theorem dL_sumMatch_0 : decode cL_sumMatch 0 = .ok (.aload_n 2, 1) := by decide +kernel
theorem dL_sumMatch_1 : decode cL_sumMatch 1 = .ok (.iconst 0, 1) := by decide +kernel
theorem dL_sumMatch_2 : decode cL_sumMatch 2 = .ok (.aload_n 0, 1) := by decide +kernel
theorem dL_sumMatch_3 : decode cL_sumMatch 3 = .ok (.iload_n 1, 1) := by decide +kernel
theorem dL_sumMatch_4 : decode cL_sumMatch 4 = .ok (.invokevirtual 65, 3) := by decide +kernel
theorem dL_sumMatch_7 : decode cL_sumMatch 7 = .ok (.i2l, 1) := by decide +kernel
theorem dL_sumMatch_8 : decode cL_sumMatch 8 = .ok (.lastore, 1) := by decide +kernel
theorem dL_sumMatch_9 : decode cL_sumMatch 9 = .ok (.goto 6, 3) := by decide +kernel
theorem dL_sumMatch_12 : decode cL_sumMatch 12 = .ok (.astore_n 3, 1) := by decide +kernel
theorem dL_sumMatch_13 : decode cL_sumMatch 13 = .ok (.iconst 1, 1) := by decide +kernel
theorem dL_sumMatch_14 : decode cL_sumMatch 14 = .ok (.ireturn, 1) := by decide +kernel
theorem dL_sumMatch_15 : decode cL_sumMatch 15 = .ok (.iconst 0, 1) := by decide +kernel
theorem dL_sumMatch_16 : decode cL_sumMatch 16 = .ok (.ireturn, 1) := by decide +kernel
set_option maxRecDepth 20000 in
theorem ggL_orderMatch_X1_orderMatch : GoodIn wsL_orderMatch wsX1_orderMatch := goodIn_ca (goodIn_r _ [6, 7, 8, 9, 10, 5, 11, 12, 13, 14, 15, 16, 17, 18, 19, 20, 21, 22, 23, 24, 25, 26, 27, 28, 29, 30, 31, 32, 33, 34, 35, 36, 37, 38, 39, 40, 41, 42, 43, 44, 45, 46, 47, 48, 49, 50, 51, 52, 53, 54, 55, 56, 57, 58] (by decide +kernel) (by decide +kernel)) (goodIn_sub (fun _ h => List.mem_cons_of_mem _ (List.mem_append_right _ h)) (by decide +kernel))
set_option maxRecDepth 20000 in
theorem gL_orderMatch_X1_orderMatch : GoodIn wsL_orderMatch (wsV RL 68 RX1 yX1_orderMatch wsX1_orderMatch) := goodIn_app (goodIn_of _ (by decide +kernel)) ggL_orderMatch_X1_orderMatch
theorem dL_orderMatch_0 : decode cL_orderMatch 0 = .ok (.aload_n 2, 1) := by decide +kernel
theorem dL_orderMatch_1 : decode cL_orderMatch 1 = .ok (.iconst 0, 1) := by decide +kernel
theorem dL_orderMatch_2 : decode cL_orderMatch 2 = .ok (.aload_n 0, 1) := by decide +kernel
theorem dL_orderMatch_3 : decode cL_orderMatch 3 = .ok (.iload_n 1, 1) := by decide +kernel
theorem dL_orderMatch_4 : decode cL_orderMatch 4 = .ok (.invokevirtual 68, 3) := by decide +kernel
theorem dL_orderMatch_7 : decode cL_orderMatch 7 = .ok (.i2l, 1) := by decide +kernel
theorem dL_orderMatch_8 : decode cL_orderMatch 8 = .ok (.lastore, 1) := by decide +kernel
theorem dL_orderMatch_9 : decode cL_orderMatch 9 = .ok (.goto 6, 3) := by decide +kernel
theorem dL_orderMatch_12 : decode cL_orderMatch 12 = .ok (.astore_n 3, 1) := by decide +kernel
theorem dL_orderMatch_13 : decode cL_orderMatch 13 = .ok (.iconst 1, 1) := by decide +kernel
theorem dL_orderMatch_14 : decode cL_orderMatch 14 = .ok (.ireturn, 1) := by decide +kernel
theorem dL_orderMatch_15 : decode cL_orderMatch 15 = .ok (.iconst 0, 1) := by decide +kernel
theorem dL_orderMatch_16 : decode cL_orderMatch 16 = .ok (.ireturn, 1) := by decide +kernel
set_option maxRecDepth 20000 in
theorem ggL_hasPeriod_X1_hasPeriod : GoodIn wsL_hasPeriod wsX1_hasPeriod := goodIn_ca (goodIn_r _ [6, 7, 8, 9, 10, 11, 5, 12, 13, 14, 15, 16, 17, 18, 19, 20, 21, 22] (by decide +kernel) (by decide +kernel)) (goodIn_sub (fun _ h => List.mem_cons_of_mem _ (List.mem_append_right _ h)) (by decide +kernel))
set_option maxRecDepth 20000 in
theorem gL_hasPeriod_X1_hasPeriod : GoodIn wsL_hasPeriod (wsV RL 71 RX1 yX1_hasPeriod wsX1_hasPeriod) := goodIn_app (goodIn_of _ (by decide +kernel)) ggL_hasPeriod_X1_hasPeriod
theorem dL_hasPeriod_0 : decode cL_hasPeriod 0 = .ok (.aload_n 2, 1) := by decide +kernel
theorem dL_hasPeriod_1 : decode cL_hasPeriod 1 = .ok (.iconst 0, 1) := by decide +kernel
theorem dL_hasPeriod_2 : decode cL_hasPeriod 2 = .ok (.aload_n 0, 1) := by decide +kernel
theorem dL_hasPeriod_3 : decode cL_hasPeriod 3 = .ok (.iload_n 1, 1) := by decide +kernel
theorem dL_hasPeriod_4 : decode cL_hasPeriod 4 = .ok (.invokevirtual 71, 3) := by decide +kernel
theorem dL_hasPeriod_7 : decode cL_hasPeriod 7 = .ok (.ifCond .eq 7, 3) := by decide +kernel
theorem dL_hasPeriod_10 : decode cL_hasPeriod 10 = .ok (.lconst 1, 1) := by decide +kernel
theorem dL_hasPeriod_11 : decode cL_hasPeriod 11 = .ok (.goto 4, 3) := by decide +kernel
theorem dL_hasPeriod_14 : decode cL_hasPeriod 14 = .ok (.lconst 0, 1) := by decide +kernel
theorem dL_hasPeriod_15 : decode cL_hasPeriod 15 = .ok (.lastore, 1) := by decide +kernel
theorem dL_hasPeriod_16 : decode cL_hasPeriod 16 = .ok (.goto 6, 3) := by decide +kernel
theorem dL_hasPeriod_19 : decode cL_hasPeriod 19 = .ok (.astore_n 3, 1) := by decide +kernel
theorem dL_hasPeriod_20 : decode cL_hasPeriod 20 = .ok (.iconst 1, 1) := by decide +kernel
theorem dL_hasPeriod_21 : decode cL_hasPeriod 21 = .ok (.ireturn, 1) := by decide +kernel
theorem dL_hasPeriod_22 : decode cL_hasPeriod 22 = .ok (.iconst 0, 1) := by decide +kernel
theorem dL_hasPeriod_23 : decode cL_hasPeriod 23 = .ok (.ireturn, 1) := by decide +kernel
set_option maxRecDepth 20000 in
theorem ggL_law_X1_init : GoodIn wsL_law wsX1_init := goodIn_r _ [9, 10, 11, 12, 13, 14, 15, 16, 17, 18, 477, 478, 479, 480, 481] (by decide +kernel) (by decide +kernel)
set_option maxRecDepth 20000 in
theorem gL_law_X1_init : GoodIn wsL_law (wsX1_init) := ggL_law_X1_init
set_option maxRecDepth 20000 in
theorem ggL_law_X2_init : GoodIn wsL_law wsX2_init := goodIn_r _ [21, 22, 11, 12, 13, 23, 24, 482, 483, 484, 485, 486] (by decide +kernel) (by decide +kernel)
set_option maxRecDepth 20000 in
theorem gL_law_X2_init : GoodIn wsL_law (wsX2_init) := ggL_law_X2_init
set_option maxRecDepth 20000 in
theorem ggL_law_L_appendText : GoodIn wsL_law wsL_appendText := goodIn_ca (goodIn_ca (goodIn_r _ [28, 29, 30, 31, 32, 33, 2, 34, 35, 36, 17, 14, 37, 38, 39, 40, 41, 477, 478, 479, 480, 481] (by decide +kernel) (by decide +kernel)) (goodIn_sub (fun _ h => List.mem_append_left _ (List.mem_append_left _ (List.mem_append_right _ h))) (by decide +kernel))) (goodIn_sub (fun _ h => List.mem_append_left _ (List.mem_append_right _ h)) (by decide +kernel))
set_option maxRecDepth 20000 in
theorem gL_law_L_appendText : GoodIn wsL_law (va_wsS RL 79 yL_appendText wsL_appendText) := goodIn_app (goodIn_of _ (by decide +kernel)) ggL_law_L_appendText
set_option maxRecDepth 20000 in
theorem ggL_law_X2_appendText : GoodIn wsL_law wsX2_appendText := goodIn_r _ [45, 46, 23, 47, 48, 5, 49, 50, 51, 52, 53, 54, 482, 483, 484, 485, 486] (by decide +kernel) (by decide +kernel)
set_option maxRecDepth 20000 in
theorem gL_law_X2_appendText : GoodIn wsL_law (wsV RL 84 RX2 yX2_appendText wsX2_appendText) := goodIn_app (goodIn_of _ (by decide +kernel)) ggL_law_X2_appendText
set_option maxRecDepth 20000 in
theorem ggL_law_X2_thrown : GoodIn wsL_law wsX2_thrown := goodIn_r _ [58, 54, 482, 483, 484, 485, 486] (by decide +kernel) (by decide +kernel)
set_option maxRecDepth 20000 in
theorem gL_law_X2_thrown : GoodIn wsL_law (wsV RL 85 RX2 yX2_thrown wsX2_thrown) := goodIn_app (goodIn_of _ (by decide +kernel)) ggL_law_X2_thrown
set_option maxRecDepth 20000 in
theorem ggL_law_L_repeatText : GoodIn wsL_law wsL_repeatText := goodIn_ca (goodIn_ca (goodIn_ca (goodIn_r _ [61, 29, 62, 30, 63, 64, 65, 2, 66, 40, 41, 35, 36, 17, 14, 67, 68, 69, 70, 71, 72, 73, 74, 75, 76, 477, 478, 479, 480, 481] (by decide +kernel) (by decide +kernel)) (goodIn_sub (fun _ h => List.mem_append_left _ (List.mem_append_right _ h)) (by decide +kernel))) (goodIn_sub (fun _ h => List.mem_append_left _ (List.mem_append_left _ (List.mem_append_right _ h))) (by decide +kernel))) (goodIn_sub (fun _ h => List.mem_append_right _ h) (by decide +kernel))
set_option maxRecDepth 20000 in
theorem gL_law_L_repeatText : GoodIn wsL_law (va_wsS RL 89 yL_repeatText wsL_repeatText) := goodIn_app (goodIn_of _ (by decide +kernel)) ggL_law_L_repeatText
set_option maxRecDepth 20000 in
theorem ggL_law_X2_repeatText : GoodIn wsL_law wsX2_repeatText := goodIn_r _ [80, 46, 23, 50, 51, 52, 5, 53, 54, 482, 483, 484, 485, 486] (by decide +kernel) (by decide +kernel)
set_option maxRecDepth 20000 in
theorem gL_law_X2_repeatText : GoodIn wsL_law (wsV RL 92 RX2 yX2_repeatText wsX2_repeatText) := goodIn_app (goodIn_of _ (by decide +kernel)) ggL_law_X2_repeatText
set_option maxRecDepth 20000 in
theorem ggL_law_L_setText : GoodIn wsL_law wsL_setText := goodIn_ca (goodIn_ca (goodIn_r _ [83, 62, 29, 84, 85, 86, 2, 87, 75, 76, 17, 14, 37, 38, 39, 40, 41, 477, 478, 479, 480, 481] (by decide +kernel) (by decide +kernel)) (goodIn_sub (fun _ h => List.mem_append_right _ h) (by decide +kernel))) (goodIn_sub (fun _ h => List.mem_append_left _ (List.mem_append_right _ h)) (by decide +kernel))
set_option maxRecDepth 20000 in
theorem gL_law_L_setText : GoodIn wsL_law (va_wsS RL 93 yL_setText wsL_setText) := goodIn_app (goodIn_of _ (by decide +kernel)) ggL_law_L_setText
set_option maxRecDepth 20000 in
theorem ggL_law_X2_setText : GoodIn wsL_law wsX2_setText := goodIn_r _ [91, 46, 23, 47, 48, 5, 49, 50, 51, 52, 53, 54, 482, 483, 484, 485, 486] (by decide +kernel) (by decide +kernel)
set_option maxRecDepth 20000 in
theorem gL_law_X2_setText : GoodIn wsL_law (wsV RL 95 RX2 yX2_setText wsX2_setText) := goodIn_app (goodIn_of _ (by decide +kernel)) ggL_law_X2_setText
set_option maxRecDepth 20000 in
theorem ggL_law_L_appendPattern : GoodIn wsL_law wsL_appendPattern := goodIn_ca (goodIn_ca (goodIn_r _ [94, 29, 30, 95, 96, 97, 2, 98, 35, 36, 18, 15, 37, 38, 39, 40, 41, 477, 478, 479, 480, 481] (by decide +kernel) (by decide +kernel)) (goodIn_sub (fun _ h => List.mem_append_left _ (List.mem_append_left _ (List.mem_append_right _ h))) (by decide +kernel))) (goodIn_sub (fun _ h => List.mem_append_left _ (List.mem_append_right _ h)) (by decide +kernel))
set_option maxRecDepth 20000 in
theorem gL_law_L_appendPattern : GoodIn wsL_law (va_wsS RL 96 yL_appendPattern wsL_appendPattern) := goodIn_app (goodIn_of _ (by decide +kernel)) ggL_law_L_appendPattern
set_option maxRecDepth 20000 in
theorem ggL_law_X2_appendPattern : GoodIn wsL_law wsX2_appendPattern := goodIn_r _ [102, 103, 24, 47, 48, 5, 49, 50, 51, 52, 53, 54, 482, 483, 484, 485, 486] (by decide +kernel) (by decide +kernel)
set_option maxRecDepth 20000 in
theorem gL_law_X2_appendPattern : GoodIn wsL_law (wsV RL 98 RX2 yX2_appendPattern wsX2_appendPattern) := goodIn_app (goodIn_of _ (by decide +kernel)) ggL_law_X2_appendPattern
set_option maxRecDepth 20000 in
theorem ggL_law_L_setPattern : GoodIn wsL_law wsL_setPattern := goodIn_ca (goodIn_ca (goodIn_r _ [106, 62, 29, 107, 108, 109, 2, 110, 15, 111, 112, 113, 114, 75, 76, 18, 37, 38, 39, 40, 41, 477, 478, 479, 480, 481] (by decide +kernel) (by decide +kernel)) (goodIn_sub (fun _ h => List.mem_append_right _ h) (by decide +kernel))) (goodIn_sub (fun _ h => List.mem_append_left _ (List.mem_append_right _ h)) (by decide +kernel))
set_option maxRecDepth 20000 in
theorem gL_law_L_setPattern : GoodIn wsL_law (va_wsS RL 99 yL_setPattern wsL_setPattern) := goodIn_app (goodIn_of _ (by decide +kernel)) ggL_law_L_setPattern
set_option maxRecDepth 20000 in
theorem ggL_law_X2_setPattern : GoodIn wsL_law wsX2_setPattern := goodIn_r _ [118, 24, 119, 120, 121, 5, 122, 103, 47, 48, 49, 50, 51, 52, 53, 54, 482, 483, 484, 485, 486] (by decide +kernel) (by decide +kernel)
set_option maxRecDepth 20000 in
theorem gL_law_X2_setPattern : GoodIn wsL_law (wsV RL 101 RX2 yX2_setPattern wsX2_setPattern) := goodIn_app (goodIn_of _ (by decide +kernel)) ggL_law_X2_setPattern
set_option maxRecDepth 20000 in
theorem ggL_law_L_takePattern : GoodIn wsL_law wsL_takePattern := goodIn_ca (goodIn_ca (goodIn_r _ [125, 29, 62, 126, 127, 128, 2, 129, 40, 41, 14, 15, 67, 68, 69, 70, 18, 71, 72, 73, 74, 75, 76, 17, 130, 131, 132, 133, 477, 478, 479, 480, 481] (by decide +kernel) (by decide +kernel)) (goodIn_sub (fun _ h => List.mem_append_left _ (List.mem_append_right _ h)) (by decide +kernel))) (goodIn_sub (fun _ h => List.mem_append_right _ h) (by decide +kernel))
set_option maxRecDepth 20000 in
theorem gL_law_L_takePattern : GoodIn wsL_law (va_wsS RL 102 yL_takePattern wsL_takePattern) := goodIn_app (goodIn_of _ (by decide +kernel)) ggL_law_L_takePattern
set_option maxRecDepth 20000 in
theorem ggL_law_X2_takePattern : GoodIn wsL_law wsX2_takePattern := goodIn_r _ [137, 46, 103, 24, 23, 50, 51, 52, 5, 53, 54, 482, 483, 484, 485, 486] (by decide +kernel) (by decide +kernel)
set_option maxRecDepth 20000 in
theorem gL_law_X2_takePattern : GoodIn wsL_law (wsV RL 104 RX2 yX2_takePattern wsX2_takePattern) := goodIn_app (goodIn_of _ (by decide +kernel)) ggL_law_X2_takePattern
set_option maxRecDepth 20000 in
theorem ggL_law_X1_clearText : GoodIn wsL_law wsX1_clearText := goodIn_r _ [141, 17, 477, 478, 479, 480, 481] (by decide +kernel) (by decide +kernel)
set_option maxRecDepth 20000 in
theorem gL_law_X1_clearText : GoodIn wsL_law (wsV RL 105 RX1 yX1_clearText wsX1_clearText) := goodIn_app (goodIn_of _ (by decide +kernel)) ggL_law_X1_clearText
set_option maxRecDepth 20000 in
theorem ggL_law_X2_clearText : GoodIn wsL_law wsX2_clearText := goodIn_r _ [145, 54, 46, 482, 483, 484, 485, 486] (by decide +kernel) (by decide +kernel)
set_option maxRecDepth 20000 in
theorem gL_law_X2_clearText : GoodIn wsL_law (wsV RL 108 RX2 yX2_clearText wsX2_clearText) := goodIn_app (goodIn_of _ (by decide +kernel)) ggL_law_X2_clearText
set_option maxRecDepth 20000 in
theorem ggL_law_X1_clearPattern : GoodIn wsL_law wsX1_clearPattern := goodIn_r _ [149, 18, 477, 478, 479, 480, 481] (by decide +kernel) (by decide +kernel)
set_option maxRecDepth 20000 in
theorem gL_law_X1_clearPattern : GoodIn wsL_law (wsV RL 109 RX1 yX1_clearPattern wsX1_clearPattern) := goodIn_app (goodIn_of _ (by decide +kernel)) ggL_law_X1_clearPattern
set_option maxRecDepth 20000 in
theorem ggL_law_X2_clearPattern : GoodIn wsL_law wsX2_clearPattern := goodIn_r _ [153, 54, 103, 482, 483, 484, 485, 486] (by decide +kernel) (by decide +kernel)
set_option maxRecDepth 20000 in
theorem gL_law_X2_clearPattern : GoodIn wsL_law (wsV RL 112 RX2 yX2_clearPattern wsX2_clearPattern) := goodIn_app (goodIn_of _ (by decide +kernel)) ggL_law_X2_clearPattern
set_option maxRecDepth 20000 in
theorem ggL_law_X1_textLength : GoodIn wsL_law wsX1_textLength := goodIn_r _ [157, 17, 477, 478, 479, 480, 481] (by decide +kernel) (by decide +kernel)
set_option maxRecDepth 20000 in
theorem gL_law_X1_textLength : GoodIn wsL_law (wsV RL 113 RX1 yX1_textLength wsX1_textLength) := goodIn_app (goodIn_of _ (by decide +kernel)) ggL_law_X1_textLength
set_option maxRecDepth 20000 in
theorem ggL_law_X2_textLength : GoodIn wsL_law wsX2_textLength := goodIn_r _ [161, 54, 46, 482, 483, 484, 485, 486] (by decide +kernel) (by decide +kernel)
set_option maxRecDepth 20000 in
theorem gL_law_X2_textLength : GoodIn wsL_law (wsV RL 116 RX2 yX2_textLength wsX2_textLength) := goodIn_app (goodIn_of _ (by decide +kernel)) ggL_law_X2_textLength
set_option maxRecDepth 20000 in
theorem ggL_law_X1_patternLength : GoodIn wsL_law wsX1_patternLength := goodIn_r _ [165, 18, 477, 478, 479, 480, 481] (by decide +kernel) (by decide +kernel)
set_option maxRecDepth 20000 in
theorem gL_law_X1_patternLength : GoodIn wsL_law (wsV RL 117 RX1 yX1_patternLength wsX1_patternLength) := goodIn_app (goodIn_of _ (by decide +kernel)) ggL_law_X1_patternLength
set_option maxRecDepth 20000 in
theorem ggL_law_X2_patternLength : GoodIn wsL_law wsX2_patternLength := goodIn_r _ [169, 54, 103, 482, 483, 484, 485, 486] (by decide +kernel) (by decide +kernel)
set_option maxRecDepth 20000 in
theorem gL_law_X2_patternLength : GoodIn wsL_law (wsV RL 120 RX2 yX2_patternLength wsX2_patternLength) := goodIn_app (goodIn_of _ (by decide +kernel)) ggL_law_X2_patternLength
set_option maxRecDepth 20000 in
theorem ggL_law_X1_places : GoodIn wsL_law wsX1_places := goodIn_r _ [173, 18, 17, 477, 478, 479, 480, 481] (by decide +kernel) (by decide +kernel)
set_option maxRecDepth 20000 in
theorem gL_law_X1_places : GoodIn wsL_law (wsV RL 121 RX1 yX1_places wsX1_places) := goodIn_app (goodIn_of _ (by decide +kernel)) ggL_law_X1_places
set_option maxRecDepth 20000 in
theorem ggL_law_X2_places : GoodIn wsL_law wsX2_places := goodIn_r _ [177, 54, 178, 179, 180, 5, 181, 46, 103, 482, 483, 484, 485, 486] (by decide +kernel) (by decide +kernel)
set_option maxRecDepth 20000 in
theorem gL_law_X2_places : GoodIn wsL_law (wsV RL 124 RX2 yX2_places wsX2_places) := goodIn_app (goodIn_of _ (by decide +kernel)) ggL_law_X2_places
set_option maxRecDepth 20000 in
theorem ggL_law_L_product : GoodIn wsL_law wsL_product := goodIn_ca (goodIn_r _ [184, 29, 185, 186, 187, 2, 188, 40, 41, 17, 18, 14, 15, 477, 478, 479, 480, 481] (by decide +kernel) (by decide +kernel)) (goodIn_sub (fun _ h => List.mem_append_left _ (List.mem_append_right _ h)) (by decide +kernel))
set_option maxRecDepth 20000 in
theorem gL_law_L_product : GoodIn wsL_law (va_wsS RL 125 yL_product wsL_product) := goodIn_app (goodIn_of _ (by decide +kernel)) ggL_law_L_product
set_option maxRecDepth 20000 in
theorem ggL_law_X2_product : GoodIn wsL_law wsX2_product := goodIn_r _ [192, 103, 46, 23, 24, 50, 51, 52, 5, 53, 54, 482, 483, 484, 485, 486] (by decide +kernel) (by decide +kernel)
set_option maxRecDepth 20000 in
theorem gL_law_X2_product : GoodIn wsL_law (wsV RL 127 RX2 yX2_product wsX2_product) := goodIn_app (goodIn_of _ (by decide +kernel)) ggL_law_X2_product
set_option maxRecDepth 20000 in
theorem ggL_law_L_difference : GoodIn wsL_law wsL_difference := goodIn_ca (goodIn_r _ [195, 62, 196, 197, 198, 2, 199, 18, 15, 14, 200, 201, 202, 203, 75, 76, 204, 171, 172, 173, 17, 477, 478, 479, 480, 481] (by decide +kernel) (by decide +kernel)) (goodIn_sub (fun _ h => List.mem_append_right _ h) (by decide +kernel))
set_option maxRecDepth 20000 in
theorem gL_law_L_difference : GoodIn wsL_law (va_wsS RL 128 yL_difference wsL_difference) := goodIn_app (goodIn_of _ (by decide +kernel)) ggL_law_L_difference
set_option maxRecDepth 20000 in
theorem ggL_law_X2_difference : GoodIn wsL_law wsX2_difference := goodIn_r _ [208, 103, 24, 23, 209, 210, 211, 5, 212, 178, 179, 180, 181, 46, 50, 51, 52, 53, 54, 482, 483, 484, 485, 486] (by decide +kernel) (by decide +kernel)
set_option maxRecDepth 20000 in
theorem gL_law_X2_difference : GoodIn wsL_law (wsV RL 130 RX2 yX2_difference wsX2_difference) := goodIn_app (goodIn_of _ (by decide +kernel)) ggL_law_X2_difference
set_option maxRecDepth 20000 in
theorem ggL_law_X1_matches : GoodIn wsL_law wsX1_matches := goodIn_r _ [216, 217, 218, 219, 220, 2, 221, 204, 171, 172, 173, 18, 17, 222, 223, 224, 225, 226, 227, 228, 229, 230, 231, 14, 15, 232, 233, 234, 235, 236, 237, 238, 239, 240, 241, 242, 243, 244, 245, 246, 247, 248, 249, 250, 477, 478, 479, 480, 481] (by decide +kernel) (by decide +kernel)
set_option maxRecDepth 20000 in
theorem gL_law_X1_matches : GoodIn wsL_law (wsV RL 131 RX1 yX1_matches wsX1_matches) := goodIn_app (goodIn_of _ (by decide +kernel)) ggL_law_X1_matches
set_option maxRecDepth 20000 in
theorem ggL_law_X2_matches : GoodIn wsL_law wsX2_matches := goodIn_r _ [254, 54, 255, 256, 257, 5, 258, 178, 179, 180, 181, 46, 103, 259, 260, 261, 262, 263, 264, 265, 266, 24, 23, 267, 268, 269, 270, 271, 272, 273, 274, 275, 276, 277, 278, 279, 280, 482, 483, 484, 485, 486] (by decide +kernel) (by decide +kernel)
set_option maxRecDepth 20000 in
theorem gL_law_X2_matches : GoodIn wsL_law (wsV RL 134 RX2 yX2_matches wsX2_matches) := goodIn_app (goodIn_of _ (by decide +kernel)) ggL_law_X2_matches
set_option maxRecDepth 20000 in
theorem ggL_law_L_match : GoodIn wsL_law wsL_match := goodIn_ca (goodIn_r _ [283, 62, 284, 285, 286, 2, 287, 217, 288, 289, 290, 291, 75, 76, 292, 293, 294, 295, 204, 171, 172, 173, 18, 17, 222, 223, 224, 225, 226, 227, 228, 229, 230, 231, 14, 15, 232, 233, 234, 235, 236, 237, 238, 239, 240, 241, 242, 243, 244, 245, 246, 247, 248, 249, 250, 477, 478, 479, 480, 481] (by decide +kernel) (by decide +kernel)) (goodIn_sub (fun _ h => List.mem_append_right _ h) (by decide +kernel))
set_option maxRecDepth 20000 in
theorem gL_law_L_match : GoodIn wsL_law (va_wsS RL 135 yL_match wsL_match) := goodIn_app (goodIn_of _ (by decide +kernel)) ggL_law_L_match
set_option maxRecDepth 20000 in
theorem ggL_law_X2_match : GoodIn wsL_law wsX2_match := goodIn_r _ [299, 300, 301, 302, 5, 303, 255, 256, 257, 258, 178, 179, 180, 181, 46, 103, 259, 260, 261, 262, 263, 264, 265, 266, 24, 23, 267, 268, 269, 270, 271, 272, 273, 274, 275, 276, 277, 278, 279, 280, 50, 51, 52, 53, 54, 304, 305, 306, 307, 482, 483, 484, 485, 486] (by decide +kernel) (by decide +kernel)
set_option maxRecDepth 20000 in
theorem gL_law_X2_match : GoodIn wsL_law (wsV RL 137 RX2 yX2_match wsX2_match) := goodIn_app (goodIn_of _ (by decide +kernel)) ggL_law_X2_match
set_option maxRecDepth 20000 in
theorem ggL_law_X1_apart : GoodIn wsL_law wsX1_apart := goodIn_r _ [311, 18, 312, 313, 314, 315, 204, 171, 172, 2, 173, 17, 240, 241, 242, 243, 244, 245, 246, 247, 15, 14, 248, 249, 250, 477, 478, 479, 480, 481] (by decide +kernel) (by decide +kernel)
set_option maxRecDepth 20000 in
theorem gL_law_X1_apart : GoodIn wsL_law (wsV RL 138 RX1 yX1_apart wsX1_apart) := goodIn_app (goodIn_of _ (by decide +kernel)) ggL_law_X1_apart
set_option maxRecDepth 20000 in
theorem ggL_law_X2_apart : GoodIn wsL_law wsX2_apart := goodIn_r _ [319, 54, 103, 178, 179, 180, 5, 181, 46, 259, 260, 261, 262, 263, 264, 265, 266, 24, 23, 267, 268, 269, 270, 271, 272, 273, 274, 275, 276, 277, 278, 279, 280, 482, 483, 484, 485, 486] (by decide +kernel) (by decide +kernel)
set_option maxRecDepth 20000 in
theorem gL_law_X2_apart : GoodIn wsL_law (wsV RL 141 RX2 yX2_apart wsX2_apart) := goodIn_app (goodIn_of _ (by decide +kernel)) ggL_law_X2_apart
set_option maxRecDepth 20000 in
theorem ggL_law_L_mismatches : GoodIn wsL_law wsL_mismatches := goodIn_ca (goodIn_r _ [322, 62, 323, 324, 325, 2, 326, 200, 201, 202, 203, 75, 76, 204, 171, 172, 173, 18, 17, 327, 328, 329, 330, 15, 14, 248, 249, 250, 477, 478, 479, 480, 481] (by decide +kernel) (by decide +kernel)) (goodIn_sub (fun _ h => List.mem_append_right _ h) (by decide +kernel))
set_option maxRecDepth 20000 in
theorem gL_law_L_mismatches : GoodIn wsL_law (va_wsS RL 142 yL_mismatches wsL_mismatches) := goodIn_app (goodIn_of _ (by decide +kernel)) ggL_law_L_mismatches
set_option maxRecDepth 20000 in
theorem ggL_law_X2_mismatches : GoodIn wsL_law wsX2_mismatches := goodIn_r _ [334, 209, 210, 211, 5, 212, 178, 179, 180, 181, 46, 103, 50, 51, 52, 53, 54, 263, 264, 265, 266, 24, 23, 267, 268, 269, 482, 483, 484, 485, 486] (by decide +kernel) (by decide +kernel)
set_option maxRecDepth 20000 in
theorem gL_law_X2_mismatches : GoodIn wsL_law (wsV RL 144 RX2 yX2_mismatches wsX2_mismatches) := goodIn_app (goodIn_of _ (by decide +kernel)) ggL_law_X2_mismatches
set_option maxRecDepth 20000 in
theorem ggL_law_L_mismatchesOf : GoodIn wsL_law wsL_mismatchesOf := goodIn_ca (goodIn_ca (goodIn_r _ [337, 29, 62, 338, 339, 340, 2, 341, 40, 41, 18, 15, 14, 200, 201, 202, 203, 75, 76, 204, 171, 172, 173, 17, 248, 249, 250, 477, 478, 479, 480, 481] (by decide +kernel) (by decide +kernel)) (goodIn_sub (fun _ h => List.mem_append_left _ (List.mem_append_right _ h)) (by decide +kernel))) (goodIn_sub (fun _ h => List.mem_append_right _ h) (by decide +kernel))
set_option maxRecDepth 20000 in
theorem gL_law_L_mismatchesOf : GoodIn wsL_law (va_wsS RL 145 yL_mismatchesOf wsL_mismatchesOf) := goodIn_app (goodIn_of _ (by decide +kernel)) ggL_law_L_mismatchesOf
set_option maxRecDepth 20000 in
theorem ggL_law_X2_mismatchesOf : GoodIn wsL_law wsX2_mismatchesOf := goodIn_r _ [345, 103, 24, 23, 209, 210, 211, 5, 212, 178, 179, 180, 181, 46, 50, 51, 52, 53, 54, 267, 268, 269, 482, 483, 484, 485, 486] (by decide +kernel) (by decide +kernel)
set_option maxRecDepth 20000 in
theorem gL_law_X2_mismatchesOf : GoodIn wsL_law (wsV RL 147 RX2 yX2_mismatchesOf wsX2_mismatchesOf) := goodIn_app (goodIn_of _ (by decide +kernel)) ggL_law_X2_mismatchesOf
set_option maxRecDepth 20000 in
theorem ggL_law_L_nextMismatch : GoodIn wsL_law wsL_nextMismatch := goodIn_ca (goodIn_ca (goodIn_r _ [348, 29, 62, 349, 350, 351, 2, 352, 40, 41, 200, 201, 202, 203, 75, 76, 204, 171, 172, 173, 18, 17, 244, 245, 246, 247, 15, 14, 248, 249, 250, 477, 478, 479, 480, 481] (by decide +kernel) (by decide +kernel)) (goodIn_sub (fun _ h => List.mem_append_left _ (List.mem_append_right _ h)) (by decide +kernel))) (goodIn_sub (fun _ h => List.mem_append_right _ h) (by decide +kernel))
set_option maxRecDepth 20000 in
theorem gL_law_L_nextMismatch : GoodIn wsL_law (va_wsS RL 148 yL_nextMismatch wsL_nextMismatch) := goodIn_app (goodIn_of _ (by decide +kernel)) ggL_law_L_nextMismatch
set_option maxRecDepth 20000 in
theorem ggL_law_X2_nextMismatch : GoodIn wsL_law wsX2_nextMismatch := goodIn_r _ [356, 103, 24, 23, 209, 210, 211, 5, 212, 178, 179, 180, 181, 46, 50, 51, 52, 53, 54, 267, 268, 269, 482, 483, 484, 485, 486] (by decide +kernel) (by decide +kernel)
set_option maxRecDepth 20000 in
theorem gL_law_X2_nextMismatch : GoodIn wsL_law (wsV RL 150 RX2 yX2_nextMismatch wsX2_nextMismatch) := goodIn_app (goodIn_of _ (by decide +kernel)) ggL_law_X2_nextMismatch
set_option maxRecDepth 20000 in
theorem ggL_law_L_agreement : GoodIn wsL_law wsL_agreement := goodIn_ca (goodIn_r _ [359, 29, 360, 361, 362, 2, 363, 40, 41, 17, 18, 364, 365, 314, 366, 14, 15, 248, 249, 250, 477, 478, 479, 480, 481] (by decide +kernel) (by decide +kernel)) (goodIn_sub (fun _ h => List.mem_append_left _ (List.mem_append_right _ h)) (by decide +kernel))
set_option maxRecDepth 20000 in
theorem gL_law_L_agreement : GoodIn wsL_law (va_wsS RL 151 yL_agreement wsL_agreement) := goodIn_app (goodIn_of _ (by decide +kernel)) ggL_law_L_agreement
set_option maxRecDepth 20000 in
theorem ggL_law_X2_agreement : GoodIn wsL_law wsX2_agreement := goodIn_r _ [370, 46, 103, 23, 24, 50, 51, 52, 5, 53, 54, 267, 268, 269, 482, 483, 484, 485, 486] (by decide +kernel) (by decide +kernel)
set_option maxRecDepth 20000 in
theorem gL_law_X2_agreement : GoodIn wsL_law (wsV RL 153 RX2 yX2_agreement wsX2_agreement) := goodIn_app (goodIn_of _ (by decide +kernel)) ggL_law_X2_agreement
set_option maxRecDepth 20000 in
theorem ggL_law_L_within : GoodIn wsL_law wsL_within := goodIn_ca (goodIn_r _ [373, 29, 374, 375, 376, 2, 377, 40, 41, 204, 171, 172, 173, 18, 17, 327, 328, 329, 330, 15, 14, 248, 249, 250, 477, 478, 479, 480, 481] (by decide +kernel) (by decide +kernel)) (goodIn_sub (fun _ h => List.mem_append_left _ (List.mem_append_right _ h)) (by decide +kernel))
set_option maxRecDepth 20000 in
theorem gL_law_L_within : GoodIn wsL_law (va_wsS RL 154 yL_within wsL_within) := goodIn_app (goodIn_of _ (by decide +kernel)) ggL_law_L_within
set_option maxRecDepth 20000 in
theorem ggL_law_X2_within : GoodIn wsL_law wsX2_within := goodIn_r _ [381, 50, 51, 52, 5, 53, 54, 178, 179, 180, 181, 46, 103, 263, 264, 265, 266, 24, 23, 267, 268, 269, 482, 483, 484, 485, 486] (by decide +kernel) (by decide +kernel)
set_option maxRecDepth 20000 in
theorem gL_law_X2_within : GoodIn wsL_law (wsV RL 156 RX2 yX2_within wsX2_within) := goodIn_app (goodIn_of _ (by decide +kernel)) ggL_law_X2_within
set_option maxRecDepth 20000 in
theorem ggL_law_L_ranked : GoodIn wsL_law wsL_ranked := goodIn_ca (goodIn_r _ [384, 62, 385, 386, 387, 2, 388, 75, 76, 16, 204, 171, 172, 173, 18, 17, 327, 328, 329, 330, 15, 14, 248, 249, 250, 389, 390, 391, 392, 477, 478, 479, 480, 481] (by decide +kernel) (by decide +kernel)) (goodIn_sub (fun _ h => List.mem_append_right _ h) (by decide +kernel))
set_option maxRecDepth 20000 in
theorem gL_law_L_ranked : GoodIn wsL_law (va_wsS RL 157 yL_ranked wsL_ranked) := goodIn_app (goodIn_of _ (by decide +kernel)) ggL_law_L_ranked
set_option maxRecDepth 20000 in
theorem ggL_law_X2_ranked : GoodIn wsL_law wsX2_ranked := goodIn_r _ [396, 209, 210, 211, 5, 212, 178, 179, 180, 181, 46, 103, 50, 51, 52, 53, 54, 263, 264, 265, 266, 24, 23, 267, 268, 269, 482, 483, 484, 485, 486] (by decide +kernel) (by decide +kernel)
set_option maxRecDepth 20000 in
theorem gL_law_X2_ranked : GoodIn wsL_law (wsV RL 159 RX2 yX2_ranked wsX2_ranked) := goodIn_app (goodIn_of _ (by decide +kernel)) ggL_law_X2_ranked
set_option maxRecDepth 20000 in
theorem ggL_law_L_bestLetter : GoodIn wsL_law wsL_bestLetter := goodIn_ca (goodIn_r _ [399, 62, 400, 401, 402, 2, 403, 111, 112, 113, 114, 75, 76, 18, 404, 405, 406, 407, 14, 204, 171, 172, 173, 17, 477, 478, 479, 480, 481] (by decide +kernel) (by decide +kernel)) (goodIn_sub (fun _ h => List.mem_append_right _ h) (by decide +kernel))
set_option maxRecDepth 20000 in
theorem gL_law_L_bestLetter : GoodIn wsL_law (va_wsS RL 160 yL_bestLetter wsL_bestLetter) := goodIn_app (goodIn_of _ (by decide +kernel)) ggL_law_L_bestLetter
set_option maxRecDepth 20000 in
theorem ggL_law_X2_bestLetter : GoodIn wsL_law wsX2_bestLetter := goodIn_r _ [411, 23, 119, 120, 121, 5, 122, 103, 50, 51, 52, 53, 54, 178, 179, 180, 181, 46, 267, 268, 269, 482, 483, 484, 485, 486] (by decide +kernel) (by decide +kernel)
set_option maxRecDepth 20000 in
theorem gL_law_X2_bestLetter : GoodIn wsL_law (wsV RL 162 RX2 yX2_bestLetter wsX2_bestLetter) := goodIn_app (goodIn_of _ (by decide +kernel)) ggL_law_X2_bestLetter
set_option maxRecDepth 20000 in
theorem ggL_law_X1_sumMatches : GoodIn wsL_law wsX1_sumMatches := goodIn_r _ [415, 226, 218, 219, 220, 2, 221, 204, 171, 172, 173, 18, 17, 222, 223, 224, 225, 227, 228, 229, 230, 231, 14, 15, 232, 233, 234, 235, 236, 237, 238, 239, 240, 241, 242, 243, 244, 245, 246, 247, 248, 249, 250, 477, 478, 479, 480, 481] (by decide +kernel) (by decide +kernel)
set_option maxRecDepth 20000 in
theorem gL_law_X1_sumMatches : GoodIn wsL_law (wsV RL 163 RX1 yX1_sumMatches wsX1_sumMatches) := goodIn_app (goodIn_of _ (by decide +kernel)) ggL_law_X1_sumMatches
set_option maxRecDepth 20000 in
theorem ggL_law_X2_sumMatches : GoodIn wsL_law wsX2_sumMatches := goodIn_r _ [419, 54, 255, 256, 257, 5, 258, 178, 179, 180, 181, 46, 103, 259, 260, 261, 262, 263, 264, 265, 266, 24, 23, 267, 268, 269, 270, 271, 272, 273, 274, 275, 276, 277, 278, 279, 280, 482, 483, 484, 485, 486] (by decide +kernel) (by decide +kernel)
set_option maxRecDepth 20000 in
theorem gL_law_X2_sumMatches : GoodIn wsL_law (wsV RL 166 RX2 yX2_sumMatches wsX2_sumMatches) := goodIn_app (goodIn_of _ (by decide +kernel)) ggL_law_X2_sumMatches
set_option maxRecDepth 20000 in
theorem ggL_law_L_sumMatch : GoodIn wsL_law wsL_sumMatch := goodIn_ca (goodIn_r _ [422, 62, 423, 424, 425, 2, 426, 226, 288, 289, 290, 291, 75, 76, 292, 293, 294, 295, 204, 171, 172, 173, 18, 17, 222, 223, 224, 225, 227, 228, 229, 230, 231, 14, 15, 232, 233, 234, 235, 236, 237, 238, 239, 240, 241, 242, 243, 244, 245, 246, 247, 248, 249, 250, 477, 478, 479, 480, 481] (by decide +kernel) (by decide +kernel)) (goodIn_sub (fun _ h => List.mem_append_right _ h) (by decide +kernel))
set_option maxRecDepth 20000 in
theorem gL_law_L_sumMatch : GoodIn wsL_law (va_wsS RL 167 yL_sumMatch wsL_sumMatch) := goodIn_app (goodIn_of _ (by decide +kernel)) ggL_law_L_sumMatch
set_option maxRecDepth 20000 in
theorem ggL_law_X2_sumMatch : GoodIn wsL_law wsX2_sumMatch := goodIn_r _ [430, 300, 301, 302, 5, 303, 255, 256, 257, 258, 178, 179, 180, 181, 46, 103, 259, 260, 261, 262, 263, 264, 265, 266, 24, 23, 267, 268, 269, 270, 271, 272, 273, 274, 275, 276, 277, 278, 279, 280, 50, 51, 52, 53, 54, 304, 305, 306, 307, 482, 483, 484, 485, 486] (by decide +kernel) (by decide +kernel)
set_option maxRecDepth 20000 in
theorem gL_law_X2_sumMatch : GoodIn wsL_law (wsV RL 169 RX2 yX2_sumMatch wsX2_sumMatch) := goodIn_app (goodIn_of _ (by decide +kernel)) ggL_law_X2_sumMatch
set_option maxRecDepth 20000 in
theorem ggL_law_X1_orderMatches : GoodIn wsL_law wsX1_orderMatches := goodIn_r _ [434, 227, 218, 219, 220, 2, 221, 204, 171, 172, 173, 18, 17, 222, 223, 224, 225, 226, 228, 229, 230, 231, 14, 15, 232, 233, 234, 235, 236, 237, 238, 239, 240, 241, 242, 243, 244, 245, 246, 247, 248, 249, 250, 477, 478, 479, 480, 481] (by decide +kernel) (by decide +kernel)
set_option maxRecDepth 20000 in
theorem gL_law_X1_orderMatches : GoodIn wsL_law (wsV RL 170 RX1 yX1_orderMatches wsX1_orderMatches) := goodIn_app (goodIn_of _ (by decide +kernel)) ggL_law_X1_orderMatches
set_option maxRecDepth 20000 in
theorem ggL_law_X2_orderMatches : GoodIn wsL_law wsX2_orderMatches := goodIn_r _ [438, 54, 255, 256, 257, 5, 258, 178, 179, 180, 181, 46, 103, 259, 260, 261, 262, 263, 264, 265, 266, 24, 23, 267, 268, 269, 270, 271, 272, 273, 274, 275, 276, 277, 278, 279, 280, 482, 483, 484, 485, 486] (by decide +kernel) (by decide +kernel)
set_option maxRecDepth 20000 in
theorem gL_law_X2_orderMatches : GoodIn wsL_law (wsV RL 173 RX2 yX2_orderMatches wsX2_orderMatches) := goodIn_app (goodIn_of _ (by decide +kernel)) ggL_law_X2_orderMatches
set_option maxRecDepth 20000 in
theorem ggL_law_L_orderMatch : GoodIn wsL_law wsL_orderMatch := goodIn_ca (goodIn_r _ [441, 62, 442, 443, 444, 2, 445, 227, 288, 289, 290, 291, 75, 76, 292, 293, 294, 295, 204, 171, 172, 173, 18, 17, 222, 223, 224, 225, 226, 228, 229, 230, 231, 14, 15, 232, 233, 234, 235, 236, 237, 238, 239, 240, 241, 242, 243, 244, 245, 246, 247, 248, 249, 250, 477, 478, 479, 480, 481] (by decide +kernel) (by decide +kernel)) (goodIn_sub (fun _ h => List.mem_append_right _ h) (by decide +kernel))
set_option maxRecDepth 20000 in
theorem gL_law_L_orderMatch : GoodIn wsL_law (va_wsS RL 174 yL_orderMatch wsL_orderMatch) := goodIn_app (goodIn_of _ (by decide +kernel)) ggL_law_L_orderMatch
set_option maxRecDepth 20000 in
theorem ggL_law_X2_orderMatch : GoodIn wsL_law wsX2_orderMatch := goodIn_r _ [449, 300, 301, 302, 5, 303, 255, 256, 257, 258, 178, 179, 180, 181, 46, 103, 259, 260, 261, 262, 263, 264, 265, 266, 24, 23, 267, 268, 269, 270, 271, 272, 273, 274, 275, 276, 277, 278, 279, 280, 50, 51, 52, 53, 54, 304, 305, 306, 307, 482, 483, 484, 485, 486] (by decide +kernel) (by decide +kernel)
set_option maxRecDepth 20000 in
theorem gL_law_X2_orderMatch : GoodIn wsL_law (wsV RL 176 RX2 yX2_orderMatch wsX2_orderMatch) := goodIn_app (goodIn_of _ (by decide +kernel)) ggL_law_X2_orderMatch
set_option maxRecDepth 20000 in
theorem ggL_law_L_hasPeriod : GoodIn wsL_law wsL_hasPeriod := goodIn_ca (goodIn_r _ [452, 29, 453, 454, 455, 2, 456, 40, 41, 457, 458, 459, 460, 17, 14, 248, 249, 250, 477, 478, 479, 480, 481] (by decide +kernel) (by decide +kernel)) (goodIn_sub (fun _ h => List.mem_append_left _ (List.mem_append_right _ h)) (by decide +kernel))
set_option maxRecDepth 20000 in
theorem gL_law_L_hasPeriod : GoodIn wsL_law (va_wsS RL 177 yL_hasPeriod wsL_hasPeriod) := goodIn_app (goodIn_of _ (by decide +kernel)) ggL_law_L_hasPeriod
set_option maxRecDepth 20000 in
theorem ggL_law_X2_hasPeriod : GoodIn wsL_law wsX2_hasPeriod := goodIn_r _ [464, 50, 51, 52, 5, 53, 54, 465, 466, 467, 468, 46, 23, 267, 268, 269, 482, 483, 484, 485, 486] (by decide +kernel) (by decide +kernel)
set_option maxRecDepth 20000 in
theorem gL_law_X2_hasPeriod : GoodIn wsL_law (wsV RL 179 RX2 yX2_hasPeriod wsX2_hasPeriod) := goodIn_app (goodIn_of _ (by decide +kernel)) ggL_law_X2_hasPeriod
set_option maxRecDepth 20000 in
theorem ggL_law_X1_leastPeriod : GoodIn wsL_law wsX1_leastPeriod := goodIn_r _ [472, 17, 312, 313, 314, 315, 457, 458, 459, 2, 460, 14, 248, 249, 250, 477, 478, 479, 480, 481] (by decide +kernel) (by decide +kernel)
set_option maxRecDepth 20000 in
theorem gL_law_X1_leastPeriod : GoodIn wsL_law (wsV RL 180 RX1 yX1_leastPeriod wsX1_leastPeriod) := goodIn_app (goodIn_of _ (by decide +kernel)) ggL_law_X1_leastPeriod
set_option maxRecDepth 20000 in
theorem ggL_law_X2_leastPeriod : GoodIn wsL_law wsX2_leastPeriod := goodIn_r _ [476, 54, 465, 466, 467, 5, 468, 46, 23, 267, 268, 269, 482, 483, 484, 485, 486] (by decide +kernel) (by decide +kernel)
set_option maxRecDepth 20000 in
theorem gL_law_X2_leastPeriod : GoodIn wsL_law (wsV RL 183 RX2 yX2_leastPeriod wsX2_leastPeriod) := goodIn_app (goodIn_of _ (by decide +kernel)) ggL_law_X2_leastPeriod
theorem dL_law_0 : decode cL_law 0 = .ok (.new 8, 3) := by decide +kernel
theorem dL_law_3 : decode cL_law 3 = .ok (.dup, 1) := by decide +kernel
theorem dL_law_4 : decode cL_law 4 = .ok (.invokespecial 75, 3) := by decide +kernel
theorem dL_law_7 : decode cL_law 7 = .ok (.astore_n 1, 1) := by decide +kernel
theorem dL_law_8 : decode cL_law 8 = .ok (.new 76, 3) := by decide +kernel
theorem dL_law_11 : decode cL_law 11 = .ok (.dup, 1) := by decide +kernel
theorem dL_law_12 : decode cL_law 12 = .ok (.invokespecial 78, 3) := by decide +kernel
theorem dL_law_15 : decode cL_law 15 = .ok (.astore_n 2, 1) := by decide +kernel
theorem dL_law_16 : decode cL_law 16 = .ok (.iconst 1, 1) := by decide +kernel
theorem dL_law_17 : decode cL_law 17 = .ok (.newarray .long, 2) := by decide +kernel
theorem dL_law_19 : decode cL_law 19 = .ok (.astore_n 3, 1) := by decide +kernel
theorem dL_law_20 : decode cL_law 20 = .ok (.iconst 0, 1) := by decide +kernel
theorem dL_law_21 : decode cL_law 21 = .ok (.istore 4, 2) := by decide +kernel
theorem dL_law_23 : decode cL_law 23 = .ok (.iload 4, 2) := by decide +kernel
theorem dL_law_25 : decode cL_law 25 = .ok (.aload_n 0, 1) := by decide +kernel
theorem dL_law_26 : decode cL_law 26 = .ok (.arraylength, 1) := by decide +kernel
theorem dL_law_27 : decode cL_law 27 = .ok (.iconst 3, 1) := by decide +kernel
theorem dL_law_28 : decode cL_law 28 = .ok (.isub, 1) := by decide +kernel
theorem dL_law_29 : decode cL_law 29 = .ok (.if_icmp .gt 1430, 3) := by decide +kernel
theorem dL_law_32 : decode cL_law 32 = .ok (.aload_n 0, 1) := by decide +kernel
theorem dL_law_33 : decode cL_law 33 = .ok (.iload 4, 2) := by decide +kernel
theorem dL_law_35 : decode cL_law 35 = .ok (.iaload, 1) := by decide +kernel
theorem dL_law_36 : decode cL_law 36 = .ok (.bipush 31, 2) := by decide +kernel
theorem dL_law_38 : decode cL_law 38 = .ok (.iand, 1) := by decide +kernel
theorem dL_law_39 : decode cL_law 39 = .ok (.tableswitch 1414 0 28 #[129, 185, 253, 321, 377, 445, 513, 526, 539, 552, 565, 578, 634, 690, 703, 759, 772, 828, 896, 964, 1032, 1088, 1144, 1200, 1213, 1269, 1282, 1338, 1401], 129) := by decide +kernel
theorem dL_law_168 : decode cL_law 168 = .ok (.aload_n 1, 1) := by decide +kernel
theorem dL_law_169 : decode cL_law 169 = .ok (.aload_n 0, 1) := by decide +kernel
theorem dL_law_170 : decode cL_law 170 = .ok (.iload 4, 2) := by decide +kernel
theorem dL_law_172 : decode cL_law 172 = .ok (.iconst 1, 1) := by decide +kernel
theorem dL_law_173 : decode cL_law 173 = .ok (.iadd, 1) := by decide +kernel
theorem dL_law_174 : decode cL_law 174 = .ok (.iaload, 1) := by decide +kernel
theorem dL_law_175 : decode cL_law 175 = .ok (.aload_n 3, 1) := by decide +kernel
theorem dL_law_176 : decode cL_law 176 = .ok (.invokestatic 79, 3) := by decide +kernel
theorem dL_law_179 : decode cL_law 179 = .ok (.istore 5, 2) := by decide +kernel
theorem dL_law_181 : decode cL_law 181 = .ok (.aload_n 2, 1) := by decide +kernel
theorem dL_law_182 : decode cL_law 182 = .ok (.aload_n 0, 1) := by decide +kernel
theorem dL_law_183 : decode cL_law 183 = .ok (.iload 4, 2) := by decide +kernel
theorem dL_law_185 : decode cL_law 185 = .ok (.iconst 1, 1) := by decide +kernel
theorem dL_law_186 : decode cL_law 186 = .ok (.iadd, 1) := by decide +kernel
theorem dL_law_187 : decode cL_law 187 = .ok (.iaload, 1) := by decide +kernel
theorem dL_law_188 : decode cL_law 188 = .ok (.invokevirtual 84, 3) := by decide +kernel
theorem dL_law_191 : decode cL_law 191 = .ok (.istore 6, 2) := by decide +kernel
theorem dL_law_193 : decode cL_law 193 = .ok (.aload_n 2, 1) := by decide +kernel
theorem dL_law_194 : decode cL_law 194 = .ok (.invokevirtual 85, 3) := by decide +kernel
theorem dL_law_197 : decode cL_law 197 = .ok (.iload 5, 2) := by decide +kernel
theorem dL_law_199 : decode cL_law 199 = .ok (.if_icmp .eq 5, 3) := by decide +kernel
theorem dL_law_202 : decode cL_law 202 = .ok (.iconst 0, 1) := by decide +kernel
theorem dL_law_203 : decode cL_law 203 = .ok (.ireturn, 1) := by decide +kernel
theorem dL_law_204 : decode cL_law 204 = .ok (.iload 5, 2) := by decide +kernel
theorem dL_law_206 : decode cL_law 206 = .ok (.ifCond .ne 15, 3) := by decide +kernel
theorem dL_law_209 : decode cL_law 209 = .ok (.aload_n 3, 1) := by decide +kernel
theorem dL_law_210 : decode cL_law 210 = .ok (.iconst 0, 1) := by decide +kernel
theorem dL_law_211 : decode cL_law 211 = .ok (.laload, 1) := by decide +kernel
theorem dL_law_212 : decode cL_law 212 = .ok (.iload 6, 2) := by decide +kernel
theorem dL_law_214 : decode cL_law 214 = .ok (.i2l, 1) := by decide +kernel
theorem dL_law_215 : decode cL_law 215 = .ok (.lcmp, 1) := by decide +kernel
theorem dL_law_216 : decode cL_law 216 = .ok (.ifCond .eq 5, 3) := by decide +kernel
theorem dL_law_219 : decode cL_law 219 = .ok (.iconst 0, 1) := by decide +kernel
theorem dL_law_220 : decode cL_law 220 = .ok (.ireturn, 1) := by decide +kernel
theorem dL_law_221 : decode cL_law 221 = .ok (.goto 1232, 3) := by decide +kernel
theorem dL_law_224 : decode cL_law 224 = .ok (.aload_n 1, 1) := by decide +kernel
theorem dL_law_225 : decode cL_law 225 = .ok (.aload_n 0, 1) := by decide +kernel
theorem dL_law_226 : decode cL_law 226 = .ok (.iload 4, 2) := by decide +kernel
theorem dL_law_228 : decode cL_law 228 = .ok (.iconst 1, 1) := by decide +kernel
theorem dL_law_229 : decode cL_law 229 = .ok (.iadd, 1) := by decide +kernel
theorem dL_law_230 : decode cL_law 230 = .ok (.iaload, 1) := by decide +kernel
theorem dL_law_231 : decode cL_law 231 = .ok (.aload_n 0, 1) := by decide +kernel
theorem dL_law_232 : decode cL_law 232 = .ok (.iload 4, 2) := by decide +kernel
theorem dL_law_234 : decode cL_law 234 = .ok (.iconst 2, 1) := by decide +kernel
theorem dL_law_235 : decode cL_law 235 = .ok (.iadd, 1) := by decide +kernel
theorem dL_law_236 : decode cL_law 236 = .ok (.iaload, 1) := by decide +kernel
theorem dL_law_237 : decode cL_law 237 = .ok (.aload_n 3, 1) := by decide +kernel
theorem dL_law_238 : decode cL_law 238 = .ok (.invokestatic 89, 3) := by decide +kernel
theorem dL_law_241 : decode cL_law 241 = .ok (.istore 5, 2) := by decide +kernel
theorem dL_law_243 : decode cL_law 243 = .ok (.aload_n 2, 1) := by decide +kernel
theorem dL_law_244 : decode cL_law 244 = .ok (.aload_n 0, 1) := by decide +kernel
theorem dL_law_245 : decode cL_law 245 = .ok (.iload 4, 2) := by decide +kernel
theorem dL_law_247 : decode cL_law 247 = .ok (.iconst 1, 1) := by decide +kernel
theorem dL_law_248 : decode cL_law 248 = .ok (.iadd, 1) := by decide +kernel
theorem dL_law_249 : decode cL_law 249 = .ok (.iaload, 1) := by decide +kernel
theorem dL_law_250 : decode cL_law 250 = .ok (.aload_n 0, 1) := by decide +kernel
theorem dL_law_251 : decode cL_law 251 = .ok (.iload 4, 2) := by decide +kernel
theorem dL_law_253 : decode cL_law 253 = .ok (.iconst 2, 1) := by decide +kernel
theorem dL_law_254 : decode cL_law 254 = .ok (.iadd, 1) := by decide +kernel
theorem dL_law_255 : decode cL_law 255 = .ok (.iaload, 1) := by decide +kernel
theorem dL_law_256 : decode cL_law 256 = .ok (.invokevirtual 92, 3) := by decide +kernel
theorem dL_law_259 : decode cL_law 259 = .ok (.istore 6, 2) := by decide +kernel
theorem dL_law_261 : decode cL_law 261 = .ok (.aload_n 2, 1) := by decide +kernel
theorem dL_law_262 : decode cL_law 262 = .ok (.invokevirtual 85, 3) := by decide +kernel
theorem dL_law_265 : decode cL_law 265 = .ok (.iload 5, 2) := by decide +kernel
theorem dL_law_267 : decode cL_law 267 = .ok (.if_icmp .eq 5, 3) := by decide +kernel
theorem dL_law_270 : decode cL_law 270 = .ok (.iconst 0, 1) := by decide +kernel
theorem dL_law_271 : decode cL_law 271 = .ok (.ireturn, 1) := by decide +kernel
theorem dL_law_272 : decode cL_law 272 = .ok (.iload 5, 2) := by decide +kernel
theorem dL_law_274 : decode cL_law 274 = .ok (.ifCond .ne 15, 3) := by decide +kernel
theorem dL_law_277 : decode cL_law 277 = .ok (.aload_n 3, 1) := by decide +kernel
theorem dL_law_278 : decode cL_law 278 = .ok (.iconst 0, 1) := by decide +kernel
theorem dL_law_279 : decode cL_law 279 = .ok (.laload, 1) := by decide +kernel
theorem dL_law_280 : decode cL_law 280 = .ok (.iload 6, 2) := by decide +kernel
theorem dL_law_282 : decode cL_law 282 = .ok (.i2l, 1) := by decide +kernel
theorem dL_law_283 : decode cL_law 283 = .ok (.lcmp, 1) := by decide +kernel
theorem dL_law_284 : decode cL_law 284 = .ok (.ifCond .eq 5, 3) := by decide +kernel
theorem dL_law_287 : decode cL_law 287 = .ok (.iconst 0, 1) := by decide +kernel
theorem dL_law_288 : decode cL_law 288 = .ok (.ireturn, 1) := by decide +kernel
theorem dL_law_289 : decode cL_law 289 = .ok (.goto 1164, 3) := by decide +kernel
theorem dL_law_292 : decode cL_law 292 = .ok (.aload_n 1, 1) := by decide +kernel
theorem dL_law_293 : decode cL_law 293 = .ok (.aload_n 0, 1) := by decide +kernel
theorem dL_law_294 : decode cL_law 294 = .ok (.iload 4, 2) := by decide +kernel
theorem dL_law_296 : decode cL_law 296 = .ok (.iconst 1, 1) := by decide +kernel
theorem dL_law_297 : decode cL_law 297 = .ok (.iadd, 1) := by decide +kernel
theorem dL_law_298 : decode cL_law 298 = .ok (.iaload, 1) := by decide +kernel
theorem dL_law_299 : decode cL_law 299 = .ok (.aload_n 0, 1) := by decide +kernel
theorem dL_law_300 : decode cL_law 300 = .ok (.iload 4, 2) := by decide +kernel
theorem dL_law_302 : decode cL_law 302 = .ok (.iconst 2, 1) := by decide +kernel
theorem dL_law_303 : decode cL_law 303 = .ok (.iadd, 1) := by decide +kernel
theorem dL_law_304 : decode cL_law 304 = .ok (.iaload, 1) := by decide +kernel
theorem dL_law_305 : decode cL_law 305 = .ok (.aload_n 3, 1) := by decide +kernel
theorem dL_law_306 : decode cL_law 306 = .ok (.invokestatic 93, 3) := by decide +kernel
theorem dL_law_309 : decode cL_law 309 = .ok (.istore 5, 2) := by decide +kernel
theorem dL_law_311 : decode cL_law 311 = .ok (.aload_n 2, 1) := by decide +kernel
theorem dL_law_312 : decode cL_law 312 = .ok (.aload_n 0, 1) := by decide +kernel
theorem dL_law_313 : decode cL_law 313 = .ok (.iload 4, 2) := by decide +kernel
theorem dL_law_315 : decode cL_law 315 = .ok (.iconst 1, 1) := by decide +kernel
theorem dL_law_316 : decode cL_law 316 = .ok (.iadd, 1) := by decide +kernel
theorem dL_law_317 : decode cL_law 317 = .ok (.iaload, 1) := by decide +kernel
theorem dL_law_318 : decode cL_law 318 = .ok (.aload_n 0, 1) := by decide +kernel
theorem dL_law_319 : decode cL_law 319 = .ok (.iload 4, 2) := by decide +kernel
theorem dL_law_321 : decode cL_law 321 = .ok (.iconst 2, 1) := by decide +kernel
theorem dL_law_322 : decode cL_law 322 = .ok (.iadd, 1) := by decide +kernel
theorem dL_law_323 : decode cL_law 323 = .ok (.iaload, 1) := by decide +kernel
theorem dL_law_324 : decode cL_law 324 = .ok (.invokevirtual 95, 3) := by decide +kernel
theorem dL_law_327 : decode cL_law 327 = .ok (.istore 6, 2) := by decide +kernel
theorem dL_law_329 : decode cL_law 329 = .ok (.aload_n 2, 1) := by decide +kernel
theorem dL_law_330 : decode cL_law 330 = .ok (.invokevirtual 85, 3) := by decide +kernel
theorem dL_law_333 : decode cL_law 333 = .ok (.iload 5, 2) := by decide +kernel
theorem dL_law_335 : decode cL_law 335 = .ok (.if_icmp .eq 5, 3) := by decide +kernel
theorem dL_law_338 : decode cL_law 338 = .ok (.iconst 0, 1) := by decide +kernel
theorem dL_law_339 : decode cL_law 339 = .ok (.ireturn, 1) := by decide +kernel
theorem dL_law_340 : decode cL_law 340 = .ok (.iload 5, 2) := by decide +kernel
theorem dL_law_342 : decode cL_law 342 = .ok (.ifCond .ne 15, 3) := by decide +kernel
theorem dL_law_345 : decode cL_law 345 = .ok (.aload_n 3, 1) := by decide +kernel
theorem dL_law_346 : decode cL_law 346 = .ok (.iconst 0, 1) := by decide +kernel
theorem dL_law_347 : decode cL_law 347 = .ok (.laload, 1) := by decide +kernel
theorem dL_law_348 : decode cL_law 348 = .ok (.iload 6, 2) := by decide +kernel
theorem dL_law_350 : decode cL_law 350 = .ok (.i2l, 1) := by decide +kernel
theorem dL_law_351 : decode cL_law 351 = .ok (.lcmp, 1) := by decide +kernel
theorem dL_law_352 : decode cL_law 352 = .ok (.ifCond .eq 5, 3) := by decide +kernel
theorem dL_law_355 : decode cL_law 355 = .ok (.iconst 0, 1) := by decide +kernel
theorem dL_law_356 : decode cL_law 356 = .ok (.ireturn, 1) := by decide +kernel
theorem dL_law_357 : decode cL_law 357 = .ok (.goto 1096, 3) := by decide +kernel
theorem dL_law_360 : decode cL_law 360 = .ok (.aload_n 1, 1) := by decide +kernel
theorem dL_law_361 : decode cL_law 361 = .ok (.aload_n 0, 1) := by decide +kernel
theorem dL_law_362 : decode cL_law 362 = .ok (.iload 4, 2) := by decide +kernel
theorem dL_law_364 : decode cL_law 364 = .ok (.iconst 1, 1) := by decide +kernel
theorem dL_law_365 : decode cL_law 365 = .ok (.iadd, 1) := by decide +kernel
theorem dL_law_366 : decode cL_law 366 = .ok (.iaload, 1) := by decide +kernel
theorem dL_law_367 : decode cL_law 367 = .ok (.aload_n 3, 1) := by decide +kernel
theorem dL_law_368 : decode cL_law 368 = .ok (.invokestatic 96, 3) := by decide +kernel
theorem dL_law_371 : decode cL_law 371 = .ok (.istore 5, 2) := by decide +kernel
theorem dL_law_373 : decode cL_law 373 = .ok (.aload_n 2, 1) := by decide +kernel
theorem dL_law_374 : decode cL_law 374 = .ok (.aload_n 0, 1) := by decide +kernel
theorem dL_law_375 : decode cL_law 375 = .ok (.iload 4, 2) := by decide +kernel
theorem dL_law_377 : decode cL_law 377 = .ok (.iconst 1, 1) := by decide +kernel
theorem dL_law_378 : decode cL_law 378 = .ok (.iadd, 1) := by decide +kernel
theorem dL_law_379 : decode cL_law 379 = .ok (.iaload, 1) := by decide +kernel
theorem dL_law_380 : decode cL_law 380 = .ok (.invokevirtual 98, 3) := by decide +kernel
theorem dL_law_383 : decode cL_law 383 = .ok (.istore 6, 2) := by decide +kernel
theorem dL_law_385 : decode cL_law 385 = .ok (.aload_n 2, 1) := by decide +kernel
theorem dL_law_386 : decode cL_law 386 = .ok (.invokevirtual 85, 3) := by decide +kernel
theorem dL_law_389 : decode cL_law 389 = .ok (.iload 5, 2) := by decide +kernel
theorem dL_law_391 : decode cL_law 391 = .ok (.if_icmp .eq 5, 3) := by decide +kernel
theorem dL_law_394 : decode cL_law 394 = .ok (.iconst 0, 1) := by decide +kernel
theorem dL_law_395 : decode cL_law 395 = .ok (.ireturn, 1) := by decide +kernel
theorem dL_law_396 : decode cL_law 396 = .ok (.iload 5, 2) := by decide +kernel
theorem dL_law_398 : decode cL_law 398 = .ok (.ifCond .ne 15, 3) := by decide +kernel
theorem dL_law_401 : decode cL_law 401 = .ok (.aload_n 3, 1) := by decide +kernel
theorem dL_law_402 : decode cL_law 402 = .ok (.iconst 0, 1) := by decide +kernel
theorem dL_law_403 : decode cL_law 403 = .ok (.laload, 1) := by decide +kernel
theorem dL_law_404 : decode cL_law 404 = .ok (.iload 6, 2) := by decide +kernel
theorem dL_law_406 : decode cL_law 406 = .ok (.i2l, 1) := by decide +kernel
theorem dL_law_407 : decode cL_law 407 = .ok (.lcmp, 1) := by decide +kernel
theorem dL_law_408 : decode cL_law 408 = .ok (.ifCond .eq 5, 3) := by decide +kernel
theorem dL_law_411 : decode cL_law 411 = .ok (.iconst 0, 1) := by decide +kernel
theorem dL_law_412 : decode cL_law 412 = .ok (.ireturn, 1) := by decide +kernel
theorem dL_law_413 : decode cL_law 413 = .ok (.goto 1040, 3) := by decide +kernel
theorem dL_law_416 : decode cL_law 416 = .ok (.aload_n 1, 1) := by decide +kernel
theorem dL_law_417 : decode cL_law 417 = .ok (.aload_n 0, 1) := by decide +kernel
theorem dL_law_418 : decode cL_law 418 = .ok (.iload 4, 2) := by decide +kernel
theorem dL_law_420 : decode cL_law 420 = .ok (.iconst 1, 1) := by decide +kernel
theorem dL_law_421 : decode cL_law 421 = .ok (.iadd, 1) := by decide +kernel
theorem dL_law_422 : decode cL_law 422 = .ok (.iaload, 1) := by decide +kernel
theorem dL_law_423 : decode cL_law 423 = .ok (.aload_n 0, 1) := by decide +kernel
theorem dL_law_424 : decode cL_law 424 = .ok (.iload 4, 2) := by decide +kernel
theorem dL_law_426 : decode cL_law 426 = .ok (.iconst 2, 1) := by decide +kernel
theorem dL_law_427 : decode cL_law 427 = .ok (.iadd, 1) := by decide +kernel
theorem dL_law_428 : decode cL_law 428 = .ok (.iaload, 1) := by decide +kernel
theorem dL_law_429 : decode cL_law 429 = .ok (.aload_n 3, 1) := by decide +kernel
theorem dL_law_430 : decode cL_law 430 = .ok (.invokestatic 99, 3) := by decide +kernel
theorem dL_law_433 : decode cL_law 433 = .ok (.istore 5, 2) := by decide +kernel
theorem dL_law_435 : decode cL_law 435 = .ok (.aload_n 2, 1) := by decide +kernel
theorem dL_law_436 : decode cL_law 436 = .ok (.aload_n 0, 1) := by decide +kernel
theorem dL_law_437 : decode cL_law 437 = .ok (.iload 4, 2) := by decide +kernel
theorem dL_law_439 : decode cL_law 439 = .ok (.iconst 1, 1) := by decide +kernel
theorem dL_law_440 : decode cL_law 440 = .ok (.iadd, 1) := by decide +kernel
theorem dL_law_441 : decode cL_law 441 = .ok (.iaload, 1) := by decide +kernel
theorem dL_law_442 : decode cL_law 442 = .ok (.aload_n 0, 1) := by decide +kernel
theorem dL_law_443 : decode cL_law 443 = .ok (.iload 4, 2) := by decide +kernel
theorem dL_law_445 : decode cL_law 445 = .ok (.iconst 2, 1) := by decide +kernel
theorem dL_law_446 : decode cL_law 446 = .ok (.iadd, 1) := by decide +kernel
theorem dL_law_447 : decode cL_law 447 = .ok (.iaload, 1) := by decide +kernel
theorem dL_law_448 : decode cL_law 448 = .ok (.invokevirtual 101, 3) := by decide +kernel
theorem dL_law_451 : decode cL_law 451 = .ok (.istore 6, 2) := by decide +kernel
theorem dL_law_453 : decode cL_law 453 = .ok (.aload_n 2, 1) := by decide +kernel
theorem dL_law_454 : decode cL_law 454 = .ok (.invokevirtual 85, 3) := by decide +kernel
theorem dL_law_457 : decode cL_law 457 = .ok (.iload 5, 2) := by decide +kernel
theorem dL_law_459 : decode cL_law 459 = .ok (.if_icmp .eq 5, 3) := by decide +kernel
theorem dL_law_462 : decode cL_law 462 = .ok (.iconst 0, 1) := by decide +kernel
theorem dL_law_463 : decode cL_law 463 = .ok (.ireturn, 1) := by decide +kernel
theorem dL_law_464 : decode cL_law 464 = .ok (.iload 5, 2) := by decide +kernel
theorem dL_law_466 : decode cL_law 466 = .ok (.ifCond .ne 15, 3) := by decide +kernel
theorem dL_law_469 : decode cL_law 469 = .ok (.aload_n 3, 1) := by decide +kernel
theorem dL_law_470 : decode cL_law 470 = .ok (.iconst 0, 1) := by decide +kernel
theorem dL_law_471 : decode cL_law 471 = .ok (.laload, 1) := by decide +kernel
theorem dL_law_472 : decode cL_law 472 = .ok (.iload 6, 2) := by decide +kernel
theorem dL_law_474 : decode cL_law 474 = .ok (.i2l, 1) := by decide +kernel
theorem dL_law_475 : decode cL_law 475 = .ok (.lcmp, 1) := by decide +kernel
theorem dL_law_476 : decode cL_law 476 = .ok (.ifCond .eq 5, 3) := by decide +kernel
theorem dL_law_479 : decode cL_law 479 = .ok (.iconst 0, 1) := by decide +kernel
theorem dL_law_480 : decode cL_law 480 = .ok (.ireturn, 1) := by decide +kernel
theorem dL_law_481 : decode cL_law 481 = .ok (.goto 972, 3) := by decide +kernel
theorem dL_law_484 : decode cL_law 484 = .ok (.aload_n 1, 1) := by decide +kernel
theorem dL_law_485 : decode cL_law 485 = .ok (.aload_n 0, 1) := by decide +kernel
theorem dL_law_486 : decode cL_law 486 = .ok (.iload 4, 2) := by decide +kernel
theorem dL_law_488 : decode cL_law 488 = .ok (.iconst 1, 1) := by decide +kernel
theorem dL_law_489 : decode cL_law 489 = .ok (.iadd, 1) := by decide +kernel
theorem dL_law_490 : decode cL_law 490 = .ok (.iaload, 1) := by decide +kernel
theorem dL_law_491 : decode cL_law 491 = .ok (.aload_n 0, 1) := by decide +kernel
theorem dL_law_492 : decode cL_law 492 = .ok (.iload 4, 2) := by decide +kernel
theorem dL_law_494 : decode cL_law 494 = .ok (.iconst 2, 1) := by decide +kernel
theorem dL_law_495 : decode cL_law 495 = .ok (.iadd, 1) := by decide +kernel
theorem dL_law_496 : decode cL_law 496 = .ok (.iaload, 1) := by decide +kernel
theorem dL_law_497 : decode cL_law 497 = .ok (.aload_n 3, 1) := by decide +kernel
theorem dL_law_498 : decode cL_law 498 = .ok (.invokestatic 102, 3) := by decide +kernel
theorem dL_law_501 : decode cL_law 501 = .ok (.istore 5, 2) := by decide +kernel
theorem dL_law_503 : decode cL_law 503 = .ok (.aload_n 2, 1) := by decide +kernel
theorem dL_law_504 : decode cL_law 504 = .ok (.aload_n 0, 1) := by decide +kernel
theorem dL_law_505 : decode cL_law 505 = .ok (.iload 4, 2) := by decide +kernel
theorem dL_law_507 : decode cL_law 507 = .ok (.iconst 1, 1) := by decide +kernel
theorem dL_law_508 : decode cL_law 508 = .ok (.iadd, 1) := by decide +kernel
theorem dL_law_509 : decode cL_law 509 = .ok (.iaload, 1) := by decide +kernel
theorem dL_law_510 : decode cL_law 510 = .ok (.aload_n 0, 1) := by decide +kernel
theorem dL_law_511 : decode cL_law 511 = .ok (.iload 4, 2) := by decide +kernel
theorem dL_law_513 : decode cL_law 513 = .ok (.iconst 2, 1) := by decide +kernel
theorem dL_law_514 : decode cL_law 514 = .ok (.iadd, 1) := by decide +kernel
theorem dL_law_515 : decode cL_law 515 = .ok (.iaload, 1) := by decide +kernel
theorem dL_law_516 : decode cL_law 516 = .ok (.invokevirtual 104, 3) := by decide +kernel
theorem dL_law_519 : decode cL_law 519 = .ok (.istore 6, 2) := by decide +kernel
theorem dL_law_521 : decode cL_law 521 = .ok (.aload_n 2, 1) := by decide +kernel
theorem dL_law_522 : decode cL_law 522 = .ok (.invokevirtual 85, 3) := by decide +kernel
theorem dL_law_525 : decode cL_law 525 = .ok (.iload 5, 2) := by decide +kernel
theorem dL_law_527 : decode cL_law 527 = .ok (.if_icmp .eq 5, 3) := by decide +kernel
theorem dL_law_530 : decode cL_law 530 = .ok (.iconst 0, 1) := by decide +kernel
theorem dL_law_531 : decode cL_law 531 = .ok (.ireturn, 1) := by decide +kernel
theorem dL_law_532 : decode cL_law 532 = .ok (.iload 5, 2) := by decide +kernel
theorem dL_law_534 : decode cL_law 534 = .ok (.ifCond .ne 15, 3) := by decide +kernel
theorem dL_law_537 : decode cL_law 537 = .ok (.aload_n 3, 1) := by decide +kernel
theorem dL_law_538 : decode cL_law 538 = .ok (.iconst 0, 1) := by decide +kernel
theorem dL_law_539 : decode cL_law 539 = .ok (.laload, 1) := by decide +kernel
theorem dL_law_540 : decode cL_law 540 = .ok (.iload 6, 2) := by decide +kernel
theorem dL_law_542 : decode cL_law 542 = .ok (.i2l, 1) := by decide +kernel
theorem dL_law_543 : decode cL_law 543 = .ok (.lcmp, 1) := by decide +kernel
theorem dL_law_544 : decode cL_law 544 = .ok (.ifCond .eq 5, 3) := by decide +kernel
theorem dL_law_547 : decode cL_law 547 = .ok (.iconst 0, 1) := by decide +kernel
theorem dL_law_548 : decode cL_law 548 = .ok (.ireturn, 1) := by decide +kernel
theorem dL_law_549 : decode cL_law 549 = .ok (.goto 904, 3) := by decide +kernel
theorem dL_law_552 : decode cL_law 552 = .ok (.aload_n 1, 1) := by decide +kernel
theorem dL_law_553 : decode cL_law 553 = .ok (.invokevirtual 105, 3) := by decide +kernel
theorem dL_law_556 : decode cL_law 556 = .ok (.aload_n 2, 1) := by decide +kernel
theorem dL_law_557 : decode cL_law 557 = .ok (.invokevirtual 108, 3) := by decide +kernel
theorem dL_law_560 : decode cL_law 560 = .ok (.if_icmp .eq 893, 3) := by decide +kernel
theorem dL_law_563 : decode cL_law 563 = .ok (.iconst 0, 1) := by decide +kernel
theorem dL_law_564 : decode cL_law 564 = .ok (.ireturn, 1) := by decide +kernel
theorem dL_law_565 : decode cL_law 565 = .ok (.aload_n 1, 1) := by decide +kernel
theorem dL_law_566 : decode cL_law 566 = .ok (.invokevirtual 109, 3) := by decide +kernel
theorem dL_law_569 : decode cL_law 569 = .ok (.aload_n 2, 1) := by decide +kernel
theorem dL_law_570 : decode cL_law 570 = .ok (.invokevirtual 112, 3) := by decide +kernel
theorem dL_law_573 : decode cL_law 573 = .ok (.if_icmp .eq 880, 3) := by decide +kernel
theorem dL_law_576 : decode cL_law 576 = .ok (.iconst 0, 1) := by decide +kernel
theorem dL_law_577 : decode cL_law 577 = .ok (.ireturn, 1) := by decide +kernel
theorem dL_law_578 : decode cL_law 578 = .ok (.aload_n 1, 1) := by decide +kernel
theorem dL_law_579 : decode cL_law 579 = .ok (.invokevirtual 113, 3) := by decide +kernel
theorem dL_law_582 : decode cL_law 582 = .ok (.aload_n 2, 1) := by decide +kernel
theorem dL_law_583 : decode cL_law 583 = .ok (.invokevirtual 116, 3) := by decide +kernel
theorem dL_law_586 : decode cL_law 586 = .ok (.if_icmp .eq 867, 3) := by decide +kernel
theorem dL_law_589 : decode cL_law 589 = .ok (.iconst 0, 1) := by decide +kernel
theorem dL_law_590 : decode cL_law 590 = .ok (.ireturn, 1) := by decide +kernel
theorem dL_law_591 : decode cL_law 591 = .ok (.aload_n 1, 1) := by decide +kernel
theorem dL_law_592 : decode cL_law 592 = .ok (.invokevirtual 117, 3) := by decide +kernel
theorem dL_law_595 : decode cL_law 595 = .ok (.aload_n 2, 1) := by decide +kernel
theorem dL_law_596 : decode cL_law 596 = .ok (.invokevirtual 120, 3) := by decide +kernel
theorem dL_law_599 : decode cL_law 599 = .ok (.if_icmp .eq 854, 3) := by decide +kernel
theorem dL_law_602 : decode cL_law 602 = .ok (.iconst 0, 1) := by decide +kernel
theorem dL_law_603 : decode cL_law 603 = .ok (.ireturn, 1) := by decide +kernel
theorem dL_law_604 : decode cL_law 604 = .ok (.aload_n 1, 1) := by decide +kernel
theorem dL_law_605 : decode cL_law 605 = .ok (.invokevirtual 121, 3) := by decide +kernel
theorem dL_law_608 : decode cL_law 608 = .ok (.aload_n 2, 1) := by decide +kernel
theorem dL_law_609 : decode cL_law 609 = .ok (.invokevirtual 124, 3) := by decide +kernel
theorem dL_law_612 : decode cL_law 612 = .ok (.if_icmp .eq 841, 3) := by decide +kernel
theorem dL_law_615 : decode cL_law 615 = .ok (.iconst 0, 1) := by decide +kernel
theorem dL_law_616 : decode cL_law 616 = .ok (.ireturn, 1) := by decide +kernel
theorem dL_law_617 : decode cL_law 617 = .ok (.aload_n 1, 1) := by decide +kernel
theorem dL_law_618 : decode cL_law 618 = .ok (.aload_n 0, 1) := by decide +kernel
theorem dL_law_619 : decode cL_law 619 = .ok (.iload 4, 2) := by decide +kernel
theorem dL_law_621 : decode cL_law 621 = .ok (.iconst 1, 1) := by decide +kernel
theorem dL_law_622 : decode cL_law 622 = .ok (.iadd, 1) := by decide +kernel
theorem dL_law_623 : decode cL_law 623 = .ok (.iaload, 1) := by decide +kernel
theorem dL_law_624 : decode cL_law 624 = .ok (.aload_n 3, 1) := by decide +kernel
theorem dL_law_625 : decode cL_law 625 = .ok (.invokestatic 125, 3) := by decide +kernel
theorem dL_law_628 : decode cL_law 628 = .ok (.istore 5, 2) := by decide +kernel
theorem dL_law_630 : decode cL_law 630 = .ok (.aload_n 2, 1) := by decide +kernel
theorem dL_law_631 : decode cL_law 631 = .ok (.aload_n 0, 1) := by decide +kernel
theorem dL_law_632 : decode cL_law 632 = .ok (.iload 4, 2) := by decide +kernel
theorem dL_law_634 : decode cL_law 634 = .ok (.iconst 1, 1) := by decide +kernel
theorem dL_law_635 : decode cL_law 635 = .ok (.iadd, 1) := by decide +kernel
theorem dL_law_636 : decode cL_law 636 = .ok (.iaload, 1) := by decide +kernel
theorem dL_law_637 : decode cL_law 637 = .ok (.invokevirtual 127, 3) := by decide +kernel
theorem dL_law_640 : decode cL_law 640 = .ok (.istore 6, 2) := by decide +kernel
theorem dL_law_642 : decode cL_law 642 = .ok (.aload_n 2, 1) := by decide +kernel
theorem dL_law_643 : decode cL_law 643 = .ok (.invokevirtual 85, 3) := by decide +kernel
theorem dL_law_646 : decode cL_law 646 = .ok (.iload 5, 2) := by decide +kernel
theorem dL_law_648 : decode cL_law 648 = .ok (.if_icmp .eq 5, 3) := by decide +kernel
theorem dL_law_651 : decode cL_law 651 = .ok (.iconst 0, 1) := by decide +kernel
theorem dL_law_652 : decode cL_law 652 = .ok (.ireturn, 1) := by decide +kernel
theorem dL_law_653 : decode cL_law 653 = .ok (.iload 5, 2) := by decide +kernel
theorem dL_law_655 : decode cL_law 655 = .ok (.ifCond .ne 15, 3) := by decide +kernel
theorem dL_law_658 : decode cL_law 658 = .ok (.aload_n 3, 1) := by decide +kernel
theorem dL_law_659 : decode cL_law 659 = .ok (.iconst 0, 1) := by decide +kernel
theorem dL_law_660 : decode cL_law 660 = .ok (.laload, 1) := by decide +kernel
theorem dL_law_661 : decode cL_law 661 = .ok (.iload 6, 2) := by decide +kernel
theorem dL_law_663 : decode cL_law 663 = .ok (.i2l, 1) := by decide +kernel
theorem dL_law_664 : decode cL_law 664 = .ok (.lcmp, 1) := by decide +kernel
theorem dL_law_665 : decode cL_law 665 = .ok (.ifCond .eq 5, 3) := by decide +kernel
theorem dL_law_668 : decode cL_law 668 = .ok (.iconst 0, 1) := by decide +kernel
theorem dL_law_669 : decode cL_law 669 = .ok (.ireturn, 1) := by decide +kernel
theorem dL_law_670 : decode cL_law 670 = .ok (.goto 783, 3) := by decide +kernel
theorem dL_law_673 : decode cL_law 673 = .ok (.aload_n 1, 1) := by decide +kernel
theorem dL_law_674 : decode cL_law 674 = .ok (.aload_n 0, 1) := by decide +kernel
theorem dL_law_675 : decode cL_law 675 = .ok (.iload 4, 2) := by decide +kernel
theorem dL_law_677 : decode cL_law 677 = .ok (.iconst 1, 1) := by decide +kernel
theorem dL_law_678 : decode cL_law 678 = .ok (.iadd, 1) := by decide +kernel
theorem dL_law_679 : decode cL_law 679 = .ok (.iaload, 1) := by decide +kernel
theorem dL_law_680 : decode cL_law 680 = .ok (.aload_n 3, 1) := by decide +kernel
theorem dL_law_681 : decode cL_law 681 = .ok (.invokestatic 128, 3) := by decide +kernel
theorem dL_law_684 : decode cL_law 684 = .ok (.istore 5, 2) := by decide +kernel
theorem dL_law_686 : decode cL_law 686 = .ok (.aload_n 2, 1) := by decide +kernel
theorem dL_law_687 : decode cL_law 687 = .ok (.aload_n 0, 1) := by decide +kernel
theorem dL_law_688 : decode cL_law 688 = .ok (.iload 4, 2) := by decide +kernel
theorem dL_law_690 : decode cL_law 690 = .ok (.iconst 1, 1) := by decide +kernel
theorem dL_law_691 : decode cL_law 691 = .ok (.iadd, 1) := by decide +kernel
theorem dL_law_692 : decode cL_law 692 = .ok (.iaload, 1) := by decide +kernel
theorem dL_law_693 : decode cL_law 693 = .ok (.invokevirtual 130, 3) := by decide +kernel
theorem dL_law_696 : decode cL_law 696 = .ok (.istore 6, 2) := by decide +kernel
theorem dL_law_698 : decode cL_law 698 = .ok (.aload_n 2, 1) := by decide +kernel
theorem dL_law_699 : decode cL_law 699 = .ok (.invokevirtual 85, 3) := by decide +kernel
theorem dL_law_702 : decode cL_law 702 = .ok (.iload 5, 2) := by decide +kernel
theorem dL_law_704 : decode cL_law 704 = .ok (.if_icmp .eq 5, 3) := by decide +kernel
theorem dL_law_707 : decode cL_law 707 = .ok (.iconst 0, 1) := by decide +kernel
theorem dL_law_708 : decode cL_law 708 = .ok (.ireturn, 1) := by decide +kernel
theorem dL_law_709 : decode cL_law 709 = .ok (.iload 5, 2) := by decide +kernel
theorem dL_law_711 : decode cL_law 711 = .ok (.ifCond .ne 15, 3) := by decide +kernel
theorem dL_law_714 : decode cL_law 714 = .ok (.aload_n 3, 1) := by decide +kernel
theorem dL_law_715 : decode cL_law 715 = .ok (.iconst 0, 1) := by decide +kernel
theorem dL_law_716 : decode cL_law 716 = .ok (.laload, 1) := by decide +kernel
theorem dL_law_717 : decode cL_law 717 = .ok (.iload 6, 2) := by decide +kernel
theorem dL_law_719 : decode cL_law 719 = .ok (.i2l, 1) := by decide +kernel
theorem dL_law_720 : decode cL_law 720 = .ok (.lcmp, 1) := by decide +kernel
theorem dL_law_721 : decode cL_law 721 = .ok (.ifCond .eq 5, 3) := by decide +kernel
theorem dL_law_724 : decode cL_law 724 = .ok (.iconst 0, 1) := by decide +kernel
theorem dL_law_725 : decode cL_law 725 = .ok (.ireturn, 1) := by decide +kernel
theorem dL_law_726 : decode cL_law 726 = .ok (.goto 727, 3) := by decide +kernel
theorem dL_law_729 : decode cL_law 729 = .ok (.aload_n 1, 1) := by decide +kernel
theorem dL_law_730 : decode cL_law 730 = .ok (.invokevirtual 131, 3) := by decide +kernel
theorem dL_law_733 : decode cL_law 733 = .ok (.aload_n 2, 1) := by decide +kernel
theorem dL_law_734 : decode cL_law 734 = .ok (.invokevirtual 134, 3) := by decide +kernel
theorem dL_law_737 : decode cL_law 737 = .ok (.if_icmp .eq 716, 3) := by decide +kernel
theorem dL_law_740 : decode cL_law 740 = .ok (.iconst 0, 1) := by decide +kernel
theorem dL_law_741 : decode cL_law 741 = .ok (.ireturn, 1) := by decide +kernel
theorem dL_law_742 : decode cL_law 742 = .ok (.aload_n 1, 1) := by decide +kernel
theorem dL_law_743 : decode cL_law 743 = .ok (.aload_n 0, 1) := by decide +kernel
theorem dL_law_744 : decode cL_law 744 = .ok (.iload 4, 2) := by decide +kernel
theorem dL_law_746 : decode cL_law 746 = .ok (.iconst 1, 1) := by decide +kernel
theorem dL_law_747 : decode cL_law 747 = .ok (.iadd, 1) := by decide +kernel
theorem dL_law_748 : decode cL_law 748 = .ok (.iaload, 1) := by decide +kernel
theorem dL_law_749 : decode cL_law 749 = .ok (.aload_n 3, 1) := by decide +kernel
theorem dL_law_750 : decode cL_law 750 = .ok (.invokestatic 135, 3) := by decide +kernel
theorem dL_law_753 : decode cL_law 753 = .ok (.istore 5, 2) := by decide +kernel
theorem dL_law_755 : decode cL_law 755 = .ok (.aload_n 2, 1) := by decide +kernel
theorem dL_law_756 : decode cL_law 756 = .ok (.aload_n 0, 1) := by decide +kernel
theorem dL_law_757 : decode cL_law 757 = .ok (.iload 4, 2) := by decide +kernel
theorem dL_law_759 : decode cL_law 759 = .ok (.iconst 1, 1) := by decide +kernel
theorem dL_law_760 : decode cL_law 760 = .ok (.iadd, 1) := by decide +kernel
theorem dL_law_761 : decode cL_law 761 = .ok (.iaload, 1) := by decide +kernel
theorem dL_law_762 : decode cL_law 762 = .ok (.invokevirtual 137, 3) := by decide +kernel
theorem dL_law_765 : decode cL_law 765 = .ok (.istore 6, 2) := by decide +kernel
theorem dL_law_767 : decode cL_law 767 = .ok (.aload_n 2, 1) := by decide +kernel
theorem dL_law_768 : decode cL_law 768 = .ok (.invokevirtual 85, 3) := by decide +kernel
theorem dL_law_771 : decode cL_law 771 = .ok (.iload 5, 2) := by decide +kernel
theorem dL_law_773 : decode cL_law 773 = .ok (.if_icmp .eq 5, 3) := by decide +kernel
theorem dL_law_776 : decode cL_law 776 = .ok (.iconst 0, 1) := by decide +kernel
theorem dL_law_777 : decode cL_law 777 = .ok (.ireturn, 1) := by decide +kernel
theorem dL_law_778 : decode cL_law 778 = .ok (.iload 5, 2) := by decide +kernel
theorem dL_law_780 : decode cL_law 780 = .ok (.ifCond .ne 15, 3) := by decide +kernel
theorem dL_law_783 : decode cL_law 783 = .ok (.aload_n 3, 1) := by decide +kernel
theorem dL_law_784 : decode cL_law 784 = .ok (.iconst 0, 1) := by decide +kernel
theorem dL_law_785 : decode cL_law 785 = .ok (.laload, 1) := by decide +kernel
theorem dL_law_786 : decode cL_law 786 = .ok (.iload 6, 2) := by decide +kernel
theorem dL_law_788 : decode cL_law 788 = .ok (.i2l, 1) := by decide +kernel
theorem dL_law_789 : decode cL_law 789 = .ok (.lcmp, 1) := by decide +kernel
theorem dL_law_790 : decode cL_law 790 = .ok (.ifCond .eq 5, 3) := by decide +kernel
theorem dL_law_793 : decode cL_law 793 = .ok (.iconst 0, 1) := by decide +kernel
theorem dL_law_794 : decode cL_law 794 = .ok (.ireturn, 1) := by decide +kernel
theorem dL_law_795 : decode cL_law 795 = .ok (.goto 658, 3) := by decide +kernel
theorem dL_law_798 : decode cL_law 798 = .ok (.aload_n 1, 1) := by decide +kernel
theorem dL_law_799 : decode cL_law 799 = .ok (.invokevirtual 138, 3) := by decide +kernel
theorem dL_law_802 : decode cL_law 802 = .ok (.aload_n 2, 1) := by decide +kernel
theorem dL_law_803 : decode cL_law 803 = .ok (.invokevirtual 141, 3) := by decide +kernel
theorem dL_law_806 : decode cL_law 806 = .ok (.if_icmp .eq 647, 3) := by decide +kernel
theorem dL_law_809 : decode cL_law 809 = .ok (.iconst 0, 1) := by decide +kernel
theorem dL_law_810 : decode cL_law 810 = .ok (.ireturn, 1) := by decide +kernel
theorem dL_law_811 : decode cL_law 811 = .ok (.aload_n 1, 1) := by decide +kernel
theorem dL_law_812 : decode cL_law 812 = .ok (.aload_n 0, 1) := by decide +kernel
theorem dL_law_813 : decode cL_law 813 = .ok (.iload 4, 2) := by decide +kernel
theorem dL_law_815 : decode cL_law 815 = .ok (.iconst 1, 1) := by decide +kernel
theorem dL_law_816 : decode cL_law 816 = .ok (.iadd, 1) := by decide +kernel
theorem dL_law_817 : decode cL_law 817 = .ok (.iaload, 1) := by decide +kernel
theorem dL_law_818 : decode cL_law 818 = .ok (.aload_n 3, 1) := by decide +kernel
theorem dL_law_819 : decode cL_law 819 = .ok (.invokestatic 142, 3) := by decide +kernel
theorem dL_law_822 : decode cL_law 822 = .ok (.istore 5, 2) := by decide +kernel
theorem dL_law_824 : decode cL_law 824 = .ok (.aload_n 2, 1) := by decide +kernel
theorem dL_law_825 : decode cL_law 825 = .ok (.aload_n 0, 1) := by decide +kernel
theorem dL_law_826 : decode cL_law 826 = .ok (.iload 4, 2) := by decide +kernel
theorem dL_law_828 : decode cL_law 828 = .ok (.iconst 1, 1) := by decide +kernel
theorem dL_law_829 : decode cL_law 829 = .ok (.iadd, 1) := by decide +kernel
theorem dL_law_830 : decode cL_law 830 = .ok (.iaload, 1) := by decide +kernel
theorem dL_law_831 : decode cL_law 831 = .ok (.invokevirtual 144, 3) := by decide +kernel
theorem dL_law_834 : decode cL_law 834 = .ok (.istore 6, 2) := by decide +kernel
theorem dL_law_836 : decode cL_law 836 = .ok (.aload_n 2, 1) := by decide +kernel
theorem dL_law_837 : decode cL_law 837 = .ok (.invokevirtual 85, 3) := by decide +kernel
theorem dL_law_840 : decode cL_law 840 = .ok (.iload 5, 2) := by decide +kernel
theorem dL_law_842 : decode cL_law 842 = .ok (.if_icmp .eq 5, 3) := by decide +kernel
theorem dL_law_845 : decode cL_law 845 = .ok (.iconst 0, 1) := by decide +kernel
theorem dL_law_846 : decode cL_law 846 = .ok (.ireturn, 1) := by decide +kernel
theorem dL_law_847 : decode cL_law 847 = .ok (.iload 5, 2) := by decide +kernel
theorem dL_law_849 : decode cL_law 849 = .ok (.ifCond .ne 15, 3) := by decide +kernel
theorem dL_law_852 : decode cL_law 852 = .ok (.aload_n 3, 1) := by decide +kernel
theorem dL_law_853 : decode cL_law 853 = .ok (.iconst 0, 1) := by decide +kernel
theorem dL_law_854 : decode cL_law 854 = .ok (.laload, 1) := by decide +kernel
theorem dL_law_855 : decode cL_law 855 = .ok (.iload 6, 2) := by decide +kernel
theorem dL_law_857 : decode cL_law 857 = .ok (.i2l, 1) := by decide +kernel
theorem dL_law_858 : decode cL_law 858 = .ok (.lcmp, 1) := by decide +kernel
theorem dL_law_859 : decode cL_law 859 = .ok (.ifCond .eq 5, 3) := by decide +kernel
theorem dL_law_862 : decode cL_law 862 = .ok (.iconst 0, 1) := by decide +kernel
theorem dL_law_863 : decode cL_law 863 = .ok (.ireturn, 1) := by decide +kernel
theorem dL_law_864 : decode cL_law 864 = .ok (.goto 589, 3) := by decide +kernel
theorem dL_law_867 : decode cL_law 867 = .ok (.aload_n 1, 1) := by decide +kernel
theorem dL_law_868 : decode cL_law 868 = .ok (.aload_n 0, 1) := by decide +kernel
theorem dL_law_869 : decode cL_law 869 = .ok (.iload 4, 2) := by decide +kernel
theorem dL_law_871 : decode cL_law 871 = .ok (.iconst 1, 1) := by decide +kernel
theorem dL_law_872 : decode cL_law 872 = .ok (.iadd, 1) := by decide +kernel
theorem dL_law_873 : decode cL_law 873 = .ok (.iaload, 1) := by decide +kernel
theorem dL_law_874 : decode cL_law 874 = .ok (.aload_n 0, 1) := by decide +kernel
theorem dL_law_875 : decode cL_law 875 = .ok (.iload 4, 2) := by decide +kernel
theorem dL_law_877 : decode cL_law 877 = .ok (.iconst 2, 1) := by decide +kernel
theorem dL_law_878 : decode cL_law 878 = .ok (.iadd, 1) := by decide +kernel
theorem dL_law_879 : decode cL_law 879 = .ok (.iaload, 1) := by decide +kernel
theorem dL_law_880 : decode cL_law 880 = .ok (.aload_n 3, 1) := by decide +kernel
theorem dL_law_881 : decode cL_law 881 = .ok (.invokestatic 145, 3) := by decide +kernel
theorem dL_law_884 : decode cL_law 884 = .ok (.istore 5, 2) := by decide +kernel
theorem dL_law_886 : decode cL_law 886 = .ok (.aload_n 2, 1) := by decide +kernel
theorem dL_law_887 : decode cL_law 887 = .ok (.aload_n 0, 1) := by decide +kernel
theorem dL_law_888 : decode cL_law 888 = .ok (.iload 4, 2) := by decide +kernel
theorem dL_law_890 : decode cL_law 890 = .ok (.iconst 1, 1) := by decide +kernel
theorem dL_law_891 : decode cL_law 891 = .ok (.iadd, 1) := by decide +kernel
theorem dL_law_892 : decode cL_law 892 = .ok (.iaload, 1) := by decide +kernel
theorem dL_law_893 : decode cL_law 893 = .ok (.aload_n 0, 1) := by decide +kernel
theorem dL_law_894 : decode cL_law 894 = .ok (.iload 4, 2) := by decide +kernel
theorem dL_law_896 : decode cL_law 896 = .ok (.iconst 2, 1) := by decide +kernel
theorem dL_law_897 : decode cL_law 897 = .ok (.iadd, 1) := by decide +kernel
theorem dL_law_898 : decode cL_law 898 = .ok (.iaload, 1) := by decide +kernel
theorem dL_law_899 : decode cL_law 899 = .ok (.invokevirtual 147, 3) := by decide +kernel
theorem dL_law_902 : decode cL_law 902 = .ok (.istore 6, 2) := by decide +kernel
theorem dL_law_904 : decode cL_law 904 = .ok (.aload_n 2, 1) := by decide +kernel
theorem dL_law_905 : decode cL_law 905 = .ok (.invokevirtual 85, 3) := by decide +kernel
theorem dL_law_908 : decode cL_law 908 = .ok (.iload 5, 2) := by decide +kernel
theorem dL_law_910 : decode cL_law 910 = .ok (.if_icmp .eq 5, 3) := by decide +kernel
theorem dL_law_913 : decode cL_law 913 = .ok (.iconst 0, 1) := by decide +kernel
theorem dL_law_914 : decode cL_law 914 = .ok (.ireturn, 1) := by decide +kernel
theorem dL_law_915 : decode cL_law 915 = .ok (.iload 5, 2) := by decide +kernel
theorem dL_law_917 : decode cL_law 917 = .ok (.ifCond .ne 15, 3) := by decide +kernel
theorem dL_law_920 : decode cL_law 920 = .ok (.aload_n 3, 1) := by decide +kernel
theorem dL_law_921 : decode cL_law 921 = .ok (.iconst 0, 1) := by decide +kernel
theorem dL_law_922 : decode cL_law 922 = .ok (.laload, 1) := by decide +kernel
theorem dL_law_923 : decode cL_law 923 = .ok (.iload 6, 2) := by decide +kernel
theorem dL_law_925 : decode cL_law 925 = .ok (.i2l, 1) := by decide +kernel
theorem dL_law_926 : decode cL_law 926 = .ok (.lcmp, 1) := by decide +kernel
theorem dL_law_927 : decode cL_law 927 = .ok (.ifCond .eq 5, 3) := by decide +kernel
theorem dL_law_930 : decode cL_law 930 = .ok (.iconst 0, 1) := by decide +kernel
theorem dL_law_931 : decode cL_law 931 = .ok (.ireturn, 1) := by decide +kernel
theorem dL_law_932 : decode cL_law 932 = .ok (.goto 521, 3) := by decide +kernel
theorem dL_law_935 : decode cL_law 935 = .ok (.aload_n 1, 1) := by decide +kernel
theorem dL_law_936 : decode cL_law 936 = .ok (.aload_n 0, 1) := by decide +kernel
theorem dL_law_937 : decode cL_law 937 = .ok (.iload 4, 2) := by decide +kernel
theorem dL_law_939 : decode cL_law 939 = .ok (.iconst 1, 1) := by decide +kernel
theorem dL_law_940 : decode cL_law 940 = .ok (.iadd, 1) := by decide +kernel
theorem dL_law_941 : decode cL_law 941 = .ok (.iaload, 1) := by decide +kernel
theorem dL_law_942 : decode cL_law 942 = .ok (.aload_n 0, 1) := by decide +kernel
theorem dL_law_943 : decode cL_law 943 = .ok (.iload 4, 2) := by decide +kernel
theorem dL_law_945 : decode cL_law 945 = .ok (.iconst 2, 1) := by decide +kernel
theorem dL_law_946 : decode cL_law 946 = .ok (.iadd, 1) := by decide +kernel
theorem dL_law_947 : decode cL_law 947 = .ok (.iaload, 1) := by decide +kernel
theorem dL_law_948 : decode cL_law 948 = .ok (.aload_n 3, 1) := by decide +kernel
theorem dL_law_949 : decode cL_law 949 = .ok (.invokestatic 148, 3) := by decide +kernel
theorem dL_law_952 : decode cL_law 952 = .ok (.istore 5, 2) := by decide +kernel
theorem dL_law_954 : decode cL_law 954 = .ok (.aload_n 2, 1) := by decide +kernel
theorem dL_law_955 : decode cL_law 955 = .ok (.aload_n 0, 1) := by decide +kernel
theorem dL_law_956 : decode cL_law 956 = .ok (.iload 4, 2) := by decide +kernel
theorem dL_law_958 : decode cL_law 958 = .ok (.iconst 1, 1) := by decide +kernel
theorem dL_law_959 : decode cL_law 959 = .ok (.iadd, 1) := by decide +kernel
theorem dL_law_960 : decode cL_law 960 = .ok (.iaload, 1) := by decide +kernel
theorem dL_law_961 : decode cL_law 961 = .ok (.aload_n 0, 1) := by decide +kernel
theorem dL_law_962 : decode cL_law 962 = .ok (.iload 4, 2) := by decide +kernel
theorem dL_law_964 : decode cL_law 964 = .ok (.iconst 2, 1) := by decide +kernel
theorem dL_law_965 : decode cL_law 965 = .ok (.iadd, 1) := by decide +kernel
theorem dL_law_966 : decode cL_law 966 = .ok (.iaload, 1) := by decide +kernel
theorem dL_law_967 : decode cL_law 967 = .ok (.invokevirtual 150, 3) := by decide +kernel
theorem dL_law_970 : decode cL_law 970 = .ok (.istore 6, 2) := by decide +kernel
theorem dL_law_972 : decode cL_law 972 = .ok (.aload_n 2, 1) := by decide +kernel
theorem dL_law_973 : decode cL_law 973 = .ok (.invokevirtual 85, 3) := by decide +kernel
theorem dL_law_976 : decode cL_law 976 = .ok (.iload 5, 2) := by decide +kernel
theorem dL_law_978 : decode cL_law 978 = .ok (.if_icmp .eq 5, 3) := by decide +kernel
theorem dL_law_981 : decode cL_law 981 = .ok (.iconst 0, 1) := by decide +kernel
theorem dL_law_982 : decode cL_law 982 = .ok (.ireturn, 1) := by decide +kernel
theorem dL_law_983 : decode cL_law 983 = .ok (.iload 5, 2) := by decide +kernel
theorem dL_law_985 : decode cL_law 985 = .ok (.ifCond .ne 15, 3) := by decide +kernel
theorem dL_law_988 : decode cL_law 988 = .ok (.aload_n 3, 1) := by decide +kernel
theorem dL_law_989 : decode cL_law 989 = .ok (.iconst 0, 1) := by decide +kernel
theorem dL_law_990 : decode cL_law 990 = .ok (.laload, 1) := by decide +kernel
theorem dL_law_991 : decode cL_law 991 = .ok (.iload 6, 2) := by decide +kernel
theorem dL_law_993 : decode cL_law 993 = .ok (.i2l, 1) := by decide +kernel
theorem dL_law_994 : decode cL_law 994 = .ok (.lcmp, 1) := by decide +kernel
theorem dL_law_995 : decode cL_law 995 = .ok (.ifCond .eq 5, 3) := by decide +kernel
theorem dL_law_998 : decode cL_law 998 = .ok (.iconst 0, 1) := by decide +kernel
theorem dL_law_999 : decode cL_law 999 = .ok (.ireturn, 1) := by decide +kernel
theorem dL_law_1000 : decode cL_law 1000 = .ok (.goto 453, 3) := by decide +kernel
theorem dL_law_1003 : decode cL_law 1003 = .ok (.aload_n 1, 1) := by decide +kernel
theorem dL_law_1004 : decode cL_law 1004 = .ok (.aload_n 0, 1) := by decide +kernel
theorem dL_law_1005 : decode cL_law 1005 = .ok (.iload 4, 2) := by decide +kernel
theorem dL_law_1007 : decode cL_law 1007 = .ok (.iconst 1, 1) := by decide +kernel
theorem dL_law_1008 : decode cL_law 1008 = .ok (.iadd, 1) := by decide +kernel
theorem dL_law_1009 : decode cL_law 1009 = .ok (.iaload, 1) := by decide +kernel
theorem dL_law_1010 : decode cL_law 1010 = .ok (.aload_n 0, 1) := by decide +kernel
theorem dL_law_1011 : decode cL_law 1011 = .ok (.iload 4, 2) := by decide +kernel
theorem dL_law_1013 : decode cL_law 1013 = .ok (.iconst 2, 1) := by decide +kernel
theorem dL_law_1014 : decode cL_law 1014 = .ok (.iadd, 1) := by decide +kernel
theorem dL_law_1015 : decode cL_law 1015 = .ok (.iaload, 1) := by decide +kernel
theorem dL_law_1016 : decode cL_law 1016 = .ok (.aload_n 3, 1) := by decide +kernel
theorem dL_law_1017 : decode cL_law 1017 = .ok (.invokestatic 151, 3) := by decide +kernel
theorem dL_law_1020 : decode cL_law 1020 = .ok (.istore 5, 2) := by decide +kernel
theorem dL_law_1022 : decode cL_law 1022 = .ok (.aload_n 2, 1) := by decide +kernel
theorem dL_law_1023 : decode cL_law 1023 = .ok (.aload_n 0, 1) := by decide +kernel
theorem dL_law_1024 : decode cL_law 1024 = .ok (.iload 4, 2) := by decide +kernel
theorem dL_law_1026 : decode cL_law 1026 = .ok (.iconst 1, 1) := by decide +kernel
theorem dL_law_1027 : decode cL_law 1027 = .ok (.iadd, 1) := by decide +kernel
theorem dL_law_1028 : decode cL_law 1028 = .ok (.iaload, 1) := by decide +kernel
theorem dL_law_1029 : decode cL_law 1029 = .ok (.aload_n 0, 1) := by decide +kernel
theorem dL_law_1030 : decode cL_law 1030 = .ok (.iload 4, 2) := by decide +kernel
theorem dL_law_1032 : decode cL_law 1032 = .ok (.iconst 2, 1) := by decide +kernel
theorem dL_law_1033 : decode cL_law 1033 = .ok (.iadd, 1) := by decide +kernel
theorem dL_law_1034 : decode cL_law 1034 = .ok (.iaload, 1) := by decide +kernel
theorem dL_law_1035 : decode cL_law 1035 = .ok (.invokevirtual 153, 3) := by decide +kernel
theorem dL_law_1038 : decode cL_law 1038 = .ok (.istore 6, 2) := by decide +kernel
theorem dL_law_1040 : decode cL_law 1040 = .ok (.aload_n 2, 1) := by decide +kernel
theorem dL_law_1041 : decode cL_law 1041 = .ok (.invokevirtual 85, 3) := by decide +kernel
theorem dL_law_1044 : decode cL_law 1044 = .ok (.iload 5, 2) := by decide +kernel
theorem dL_law_1046 : decode cL_law 1046 = .ok (.if_icmp .eq 5, 3) := by decide +kernel
theorem dL_law_1049 : decode cL_law 1049 = .ok (.iconst 0, 1) := by decide +kernel
theorem dL_law_1050 : decode cL_law 1050 = .ok (.ireturn, 1) := by decide +kernel
theorem dL_law_1051 : decode cL_law 1051 = .ok (.iload 5, 2) := by decide +kernel
theorem dL_law_1053 : decode cL_law 1053 = .ok (.ifCond .ne 15, 3) := by decide +kernel
theorem dL_law_1056 : decode cL_law 1056 = .ok (.aload_n 3, 1) := by decide +kernel
theorem dL_law_1057 : decode cL_law 1057 = .ok (.iconst 0, 1) := by decide +kernel
theorem dL_law_1058 : decode cL_law 1058 = .ok (.laload, 1) := by decide +kernel
theorem dL_law_1059 : decode cL_law 1059 = .ok (.iload 6, 2) := by decide +kernel
theorem dL_law_1061 : decode cL_law 1061 = .ok (.i2l, 1) := by decide +kernel
theorem dL_law_1062 : decode cL_law 1062 = .ok (.lcmp, 1) := by decide +kernel
theorem dL_law_1063 : decode cL_law 1063 = .ok (.ifCond .eq 5, 3) := by decide +kernel
theorem dL_law_1066 : decode cL_law 1066 = .ok (.iconst 0, 1) := by decide +kernel
theorem dL_law_1067 : decode cL_law 1067 = .ok (.ireturn, 1) := by decide +kernel
theorem dL_law_1068 : decode cL_law 1068 = .ok (.goto 385, 3) := by decide +kernel
theorem dL_law_1071 : decode cL_law 1071 = .ok (.aload_n 1, 1) := by decide +kernel
theorem dL_law_1072 : decode cL_law 1072 = .ok (.aload_n 0, 1) := by decide +kernel
theorem dL_law_1073 : decode cL_law 1073 = .ok (.iload 4, 2) := by decide +kernel
theorem dL_law_1075 : decode cL_law 1075 = .ok (.iconst 1, 1) := by decide +kernel
theorem dL_law_1076 : decode cL_law 1076 = .ok (.iadd, 1) := by decide +kernel
theorem dL_law_1077 : decode cL_law 1077 = .ok (.iaload, 1) := by decide +kernel
theorem dL_law_1078 : decode cL_law 1078 = .ok (.aload_n 3, 1) := by decide +kernel
theorem dL_law_1079 : decode cL_law 1079 = .ok (.invokestatic 154, 3) := by decide +kernel
theorem dL_law_1082 : decode cL_law 1082 = .ok (.istore 5, 2) := by decide +kernel
theorem dL_law_1084 : decode cL_law 1084 = .ok (.aload_n 2, 1) := by decide +kernel
theorem dL_law_1085 : decode cL_law 1085 = .ok (.aload_n 0, 1) := by decide +kernel
theorem dL_law_1086 : decode cL_law 1086 = .ok (.iload 4, 2) := by decide +kernel
theorem dL_law_1088 : decode cL_law 1088 = .ok (.iconst 1, 1) := by decide +kernel
theorem dL_law_1089 : decode cL_law 1089 = .ok (.iadd, 1) := by decide +kernel
theorem dL_law_1090 : decode cL_law 1090 = .ok (.iaload, 1) := by decide +kernel
theorem dL_law_1091 : decode cL_law 1091 = .ok (.invokevirtual 156, 3) := by decide +kernel
theorem dL_law_1094 : decode cL_law 1094 = .ok (.istore 6, 2) := by decide +kernel
theorem dL_law_1096 : decode cL_law 1096 = .ok (.aload_n 2, 1) := by decide +kernel
theorem dL_law_1097 : decode cL_law 1097 = .ok (.invokevirtual 85, 3) := by decide +kernel
theorem dL_law_1100 : decode cL_law 1100 = .ok (.iload 5, 2) := by decide +kernel
theorem dL_law_1102 : decode cL_law 1102 = .ok (.if_icmp .eq 5, 3) := by decide +kernel
theorem dL_law_1105 : decode cL_law 1105 = .ok (.iconst 0, 1) := by decide +kernel
theorem dL_law_1106 : decode cL_law 1106 = .ok (.ireturn, 1) := by decide +kernel
theorem dL_law_1107 : decode cL_law 1107 = .ok (.iload 5, 2) := by decide +kernel
theorem dL_law_1109 : decode cL_law 1109 = .ok (.ifCond .ne 15, 3) := by decide +kernel
theorem dL_law_1112 : decode cL_law 1112 = .ok (.aload_n 3, 1) := by decide +kernel
theorem dL_law_1113 : decode cL_law 1113 = .ok (.iconst 0, 1) := by decide +kernel
theorem dL_law_1114 : decode cL_law 1114 = .ok (.laload, 1) := by decide +kernel
theorem dL_law_1115 : decode cL_law 1115 = .ok (.iload 6, 2) := by decide +kernel
theorem dL_law_1117 : decode cL_law 1117 = .ok (.i2l, 1) := by decide +kernel
theorem dL_law_1118 : decode cL_law 1118 = .ok (.lcmp, 1) := by decide +kernel
theorem dL_law_1119 : decode cL_law 1119 = .ok (.ifCond .eq 5, 3) := by decide +kernel
theorem dL_law_1122 : decode cL_law 1122 = .ok (.iconst 0, 1) := by decide +kernel
theorem dL_law_1123 : decode cL_law 1123 = .ok (.ireturn, 1) := by decide +kernel
theorem dL_law_1124 : decode cL_law 1124 = .ok (.goto 329, 3) := by decide +kernel
theorem dL_law_1127 : decode cL_law 1127 = .ok (.aload_n 1, 1) := by decide +kernel
theorem dL_law_1128 : decode cL_law 1128 = .ok (.aload_n 0, 1) := by decide +kernel
theorem dL_law_1129 : decode cL_law 1129 = .ok (.iload 4, 2) := by decide +kernel
theorem dL_law_1131 : decode cL_law 1131 = .ok (.iconst 1, 1) := by decide +kernel
theorem dL_law_1132 : decode cL_law 1132 = .ok (.iadd, 1) := by decide +kernel
theorem dL_law_1133 : decode cL_law 1133 = .ok (.iaload, 1) := by decide +kernel
theorem dL_law_1134 : decode cL_law 1134 = .ok (.aload_n 3, 1) := by decide +kernel
theorem dL_law_1135 : decode cL_law 1135 = .ok (.invokestatic 157, 3) := by decide +kernel
theorem dL_law_1138 : decode cL_law 1138 = .ok (.istore 5, 2) := by decide +kernel
theorem dL_law_1140 : decode cL_law 1140 = .ok (.aload_n 2, 1) := by decide +kernel
theorem dL_law_1141 : decode cL_law 1141 = .ok (.aload_n 0, 1) := by decide +kernel
theorem dL_law_1142 : decode cL_law 1142 = .ok (.iload 4, 2) := by decide +kernel
theorem dL_law_1144 : decode cL_law 1144 = .ok (.iconst 1, 1) := by decide +kernel
theorem dL_law_1145 : decode cL_law 1145 = .ok (.iadd, 1) := by decide +kernel
theorem dL_law_1146 : decode cL_law 1146 = .ok (.iaload, 1) := by decide +kernel
theorem dL_law_1147 : decode cL_law 1147 = .ok (.invokevirtual 159, 3) := by decide +kernel
theorem dL_law_1150 : decode cL_law 1150 = .ok (.istore 6, 2) := by decide +kernel
theorem dL_law_1152 : decode cL_law 1152 = .ok (.aload_n 2, 1) := by decide +kernel
theorem dL_law_1153 : decode cL_law 1153 = .ok (.invokevirtual 85, 3) := by decide +kernel
theorem dL_law_1156 : decode cL_law 1156 = .ok (.iload 5, 2) := by decide +kernel
theorem dL_law_1158 : decode cL_law 1158 = .ok (.if_icmp .eq 5, 3) := by decide +kernel
theorem dL_law_1161 : decode cL_law 1161 = .ok (.iconst 0, 1) := by decide +kernel
theorem dL_law_1162 : decode cL_law 1162 = .ok (.ireturn, 1) := by decide +kernel
theorem dL_law_1163 : decode cL_law 1163 = .ok (.iload 5, 2) := by decide +kernel
theorem dL_law_1165 : decode cL_law 1165 = .ok (.ifCond .ne 15, 3) := by decide +kernel
theorem dL_law_1168 : decode cL_law 1168 = .ok (.aload_n 3, 1) := by decide +kernel
theorem dL_law_1169 : decode cL_law 1169 = .ok (.iconst 0, 1) := by decide +kernel
theorem dL_law_1170 : decode cL_law 1170 = .ok (.laload, 1) := by decide +kernel
theorem dL_law_1171 : decode cL_law 1171 = .ok (.iload 6, 2) := by decide +kernel
theorem dL_law_1173 : decode cL_law 1173 = .ok (.i2l, 1) := by decide +kernel
theorem dL_law_1174 : decode cL_law 1174 = .ok (.lcmp, 1) := by decide +kernel
theorem dL_law_1175 : decode cL_law 1175 = .ok (.ifCond .eq 5, 3) := by decide +kernel
theorem dL_law_1178 : decode cL_law 1178 = .ok (.iconst 0, 1) := by decide +kernel
theorem dL_law_1179 : decode cL_law 1179 = .ok (.ireturn, 1) := by decide +kernel
theorem dL_law_1180 : decode cL_law 1180 = .ok (.goto 273, 3) := by decide +kernel
theorem dL_law_1183 : decode cL_law 1183 = .ok (.aload_n 1, 1) := by decide +kernel
theorem dL_law_1184 : decode cL_law 1184 = .ok (.aload_n 0, 1) := by decide +kernel
theorem dL_law_1185 : decode cL_law 1185 = .ok (.iload 4, 2) := by decide +kernel
theorem dL_law_1187 : decode cL_law 1187 = .ok (.iconst 1, 1) := by decide +kernel
theorem dL_law_1188 : decode cL_law 1188 = .ok (.iadd, 1) := by decide +kernel
theorem dL_law_1189 : decode cL_law 1189 = .ok (.iaload, 1) := by decide +kernel
theorem dL_law_1190 : decode cL_law 1190 = .ok (.aload_n 3, 1) := by decide +kernel
theorem dL_law_1191 : decode cL_law 1191 = .ok (.invokestatic 160, 3) := by decide +kernel
theorem dL_law_1194 : decode cL_law 1194 = .ok (.istore 5, 2) := by decide +kernel
theorem dL_law_1196 : decode cL_law 1196 = .ok (.aload_n 2, 1) := by decide +kernel
theorem dL_law_1197 : decode cL_law 1197 = .ok (.aload_n 0, 1) := by decide +kernel
theorem dL_law_1198 : decode cL_law 1198 = .ok (.iload 4, 2) := by decide +kernel
theorem dL_law_1200 : decode cL_law 1200 = .ok (.iconst 1, 1) := by decide +kernel
theorem dL_law_1201 : decode cL_law 1201 = .ok (.iadd, 1) := by decide +kernel
theorem dL_law_1202 : decode cL_law 1202 = .ok (.iaload, 1) := by decide +kernel
theorem dL_law_1203 : decode cL_law 1203 = .ok (.invokevirtual 162, 3) := by decide +kernel
theorem dL_law_1206 : decode cL_law 1206 = .ok (.istore 6, 2) := by decide +kernel
theorem dL_law_1208 : decode cL_law 1208 = .ok (.aload_n 2, 1) := by decide +kernel
theorem dL_law_1209 : decode cL_law 1209 = .ok (.invokevirtual 85, 3) := by decide +kernel
theorem dL_law_1212 : decode cL_law 1212 = .ok (.iload 5, 2) := by decide +kernel
theorem dL_law_1214 : decode cL_law 1214 = .ok (.if_icmp .eq 5, 3) := by decide +kernel
theorem dL_law_1217 : decode cL_law 1217 = .ok (.iconst 0, 1) := by decide +kernel
theorem dL_law_1218 : decode cL_law 1218 = .ok (.ireturn, 1) := by decide +kernel
theorem dL_law_1219 : decode cL_law 1219 = .ok (.iload 5, 2) := by decide +kernel
theorem dL_law_1221 : decode cL_law 1221 = .ok (.ifCond .ne 15, 3) := by decide +kernel
theorem dL_law_1224 : decode cL_law 1224 = .ok (.aload_n 3, 1) := by decide +kernel
theorem dL_law_1225 : decode cL_law 1225 = .ok (.iconst 0, 1) := by decide +kernel
theorem dL_law_1226 : decode cL_law 1226 = .ok (.laload, 1) := by decide +kernel
theorem dL_law_1227 : decode cL_law 1227 = .ok (.iload 6, 2) := by decide +kernel
theorem dL_law_1229 : decode cL_law 1229 = .ok (.i2l, 1) := by decide +kernel
theorem dL_law_1230 : decode cL_law 1230 = .ok (.lcmp, 1) := by decide +kernel
theorem dL_law_1231 : decode cL_law 1231 = .ok (.ifCond .eq 5, 3) := by decide +kernel
theorem dL_law_1234 : decode cL_law 1234 = .ok (.iconst 0, 1) := by decide +kernel
theorem dL_law_1235 : decode cL_law 1235 = .ok (.ireturn, 1) := by decide +kernel
theorem dL_law_1236 : decode cL_law 1236 = .ok (.goto 217, 3) := by decide +kernel
theorem dL_law_1239 : decode cL_law 1239 = .ok (.aload_n 1, 1) := by decide +kernel
theorem dL_law_1240 : decode cL_law 1240 = .ok (.invokevirtual 163, 3) := by decide +kernel
theorem dL_law_1243 : decode cL_law 1243 = .ok (.aload_n 2, 1) := by decide +kernel
theorem dL_law_1244 : decode cL_law 1244 = .ok (.invokevirtual 166, 3) := by decide +kernel
theorem dL_law_1247 : decode cL_law 1247 = .ok (.if_icmp .eq 206, 3) := by decide +kernel
theorem dL_law_1250 : decode cL_law 1250 = .ok (.iconst 0, 1) := by decide +kernel
theorem dL_law_1251 : decode cL_law 1251 = .ok (.ireturn, 1) := by decide +kernel
theorem dL_law_1252 : decode cL_law 1252 = .ok (.aload_n 1, 1) := by decide +kernel
theorem dL_law_1253 : decode cL_law 1253 = .ok (.aload_n 0, 1) := by decide +kernel
theorem dL_law_1254 : decode cL_law 1254 = .ok (.iload 4, 2) := by decide +kernel
theorem dL_law_1256 : decode cL_law 1256 = .ok (.iconst 1, 1) := by decide +kernel
theorem dL_law_1257 : decode cL_law 1257 = .ok (.iadd, 1) := by decide +kernel
theorem dL_law_1258 : decode cL_law 1258 = .ok (.iaload, 1) := by decide +kernel
theorem dL_law_1259 : decode cL_law 1259 = .ok (.aload_n 3, 1) := by decide +kernel
theorem dL_law_1260 : decode cL_law 1260 = .ok (.invokestatic 167, 3) := by decide +kernel
theorem dL_law_1263 : decode cL_law 1263 = .ok (.istore 5, 2) := by decide +kernel
theorem dL_law_1265 : decode cL_law 1265 = .ok (.aload_n 2, 1) := by decide +kernel
theorem dL_law_1266 : decode cL_law 1266 = .ok (.aload_n 0, 1) := by decide +kernel
theorem dL_law_1267 : decode cL_law 1267 = .ok (.iload 4, 2) := by decide +kernel
theorem dL_law_1269 : decode cL_law 1269 = .ok (.iconst 1, 1) := by decide +kernel
theorem dL_law_1270 : decode cL_law 1270 = .ok (.iadd, 1) := by decide +kernel
theorem dL_law_1271 : decode cL_law 1271 = .ok (.iaload, 1) := by decide +kernel
theorem dL_law_1272 : decode cL_law 1272 = .ok (.invokevirtual 169, 3) := by decide +kernel
theorem dL_law_1275 : decode cL_law 1275 = .ok (.istore 6, 2) := by decide +kernel
theorem dL_law_1277 : decode cL_law 1277 = .ok (.aload_n 2, 1) := by decide +kernel
theorem dL_law_1278 : decode cL_law 1278 = .ok (.invokevirtual 85, 3) := by decide +kernel
theorem dL_law_1281 : decode cL_law 1281 = .ok (.iload 5, 2) := by decide +kernel
theorem dL_law_1283 : decode cL_law 1283 = .ok (.if_icmp .eq 5, 3) := by decide +kernel
theorem dL_law_1286 : decode cL_law 1286 = .ok (.iconst 0, 1) := by decide +kernel
theorem dL_law_1287 : decode cL_law 1287 = .ok (.ireturn, 1) := by decide +kernel
theorem dL_law_1288 : decode cL_law 1288 = .ok (.iload 5, 2) := by decide +kernel
theorem dL_law_1290 : decode cL_law 1290 = .ok (.ifCond .ne 15, 3) := by decide +kernel
theorem dL_law_1293 : decode cL_law 1293 = .ok (.aload_n 3, 1) := by decide +kernel
theorem dL_law_1294 : decode cL_law 1294 = .ok (.iconst 0, 1) := by decide +kernel
theorem dL_law_1295 : decode cL_law 1295 = .ok (.laload, 1) := by decide +kernel
theorem dL_law_1296 : decode cL_law 1296 = .ok (.iload 6, 2) := by decide +kernel
theorem dL_law_1298 : decode cL_law 1298 = .ok (.i2l, 1) := by decide +kernel
theorem dL_law_1299 : decode cL_law 1299 = .ok (.lcmp, 1) := by decide +kernel
theorem dL_law_1300 : decode cL_law 1300 = .ok (.ifCond .eq 5, 3) := by decide +kernel
theorem dL_law_1303 : decode cL_law 1303 = .ok (.iconst 0, 1) := by decide +kernel
theorem dL_law_1304 : decode cL_law 1304 = .ok (.ireturn, 1) := by decide +kernel
theorem dL_law_1305 : decode cL_law 1305 = .ok (.goto 148, 3) := by decide +kernel
theorem dL_law_1308 : decode cL_law 1308 = .ok (.aload_n 1, 1) := by decide +kernel
theorem dL_law_1309 : decode cL_law 1309 = .ok (.invokevirtual 170, 3) := by decide +kernel
theorem dL_law_1312 : decode cL_law 1312 = .ok (.aload_n 2, 1) := by decide +kernel
theorem dL_law_1313 : decode cL_law 1313 = .ok (.invokevirtual 173, 3) := by decide +kernel
theorem dL_law_1316 : decode cL_law 1316 = .ok (.if_icmp .eq 137, 3) := by decide +kernel
theorem dL_law_1319 : decode cL_law 1319 = .ok (.iconst 0, 1) := by decide +kernel
theorem dL_law_1320 : decode cL_law 1320 = .ok (.ireturn, 1) := by decide +kernel
theorem dL_law_1321 : decode cL_law 1321 = .ok (.aload_n 1, 1) := by decide +kernel
theorem dL_law_1322 : decode cL_law 1322 = .ok (.aload_n 0, 1) := by decide +kernel
theorem dL_law_1323 : decode cL_law 1323 = .ok (.iload 4, 2) := by decide +kernel
theorem dL_law_1325 : decode cL_law 1325 = .ok (.iconst 1, 1) := by decide +kernel
theorem dL_law_1326 : decode cL_law 1326 = .ok (.iadd, 1) := by decide +kernel
theorem dL_law_1327 : decode cL_law 1327 = .ok (.iaload, 1) := by decide +kernel
theorem dL_law_1328 : decode cL_law 1328 = .ok (.aload_n 3, 1) := by decide +kernel
theorem dL_law_1329 : decode cL_law 1329 = .ok (.invokestatic 174, 3) := by decide +kernel
theorem dL_law_1332 : decode cL_law 1332 = .ok (.istore 5, 2) := by decide +kernel
theorem dL_law_1334 : decode cL_law 1334 = .ok (.aload_n 2, 1) := by decide +kernel
theorem dL_law_1335 : decode cL_law 1335 = .ok (.aload_n 0, 1) := by decide +kernel
theorem dL_law_1336 : decode cL_law 1336 = .ok (.iload 4, 2) := by decide +kernel
theorem dL_law_1338 : decode cL_law 1338 = .ok (.iconst 1, 1) := by decide +kernel
theorem dL_law_1339 : decode cL_law 1339 = .ok (.iadd, 1) := by decide +kernel
theorem dL_law_1340 : decode cL_law 1340 = .ok (.iaload, 1) := by decide +kernel
theorem dL_law_1341 : decode cL_law 1341 = .ok (.invokevirtual 176, 3) := by decide +kernel
theorem dL_law_1344 : decode cL_law 1344 = .ok (.istore 6, 2) := by decide +kernel
theorem dL_law_1346 : decode cL_law 1346 = .ok (.aload_n 2, 1) := by decide +kernel
theorem dL_law_1347 : decode cL_law 1347 = .ok (.invokevirtual 85, 3) := by decide +kernel
theorem dL_law_1350 : decode cL_law 1350 = .ok (.iload 5, 2) := by decide +kernel
theorem dL_law_1352 : decode cL_law 1352 = .ok (.if_icmp .eq 5, 3) := by decide +kernel
theorem dL_law_1355 : decode cL_law 1355 = .ok (.iconst 0, 1) := by decide +kernel
theorem dL_law_1356 : decode cL_law 1356 = .ok (.ireturn, 1) := by decide +kernel
theorem dL_law_1357 : decode cL_law 1357 = .ok (.iload 5, 2) := by decide +kernel
theorem dL_law_1359 : decode cL_law 1359 = .ok (.ifCond .ne 15, 3) := by decide +kernel
theorem dL_law_1362 : decode cL_law 1362 = .ok (.aload_n 3, 1) := by decide +kernel
theorem dL_law_1363 : decode cL_law 1363 = .ok (.iconst 0, 1) := by decide +kernel
theorem dL_law_1364 : decode cL_law 1364 = .ok (.laload, 1) := by decide +kernel
theorem dL_law_1365 : decode cL_law 1365 = .ok (.iload 6, 2) := by decide +kernel
theorem dL_law_1367 : decode cL_law 1367 = .ok (.i2l, 1) := by decide +kernel
theorem dL_law_1368 : decode cL_law 1368 = .ok (.lcmp, 1) := by decide +kernel
theorem dL_law_1369 : decode cL_law 1369 = .ok (.ifCond .eq 5, 3) := by decide +kernel
theorem dL_law_1372 : decode cL_law 1372 = .ok (.iconst 0, 1) := by decide +kernel
theorem dL_law_1373 : decode cL_law 1373 = .ok (.ireturn, 1) := by decide +kernel
theorem dL_law_1374 : decode cL_law 1374 = .ok (.goto 79, 3) := by decide +kernel
theorem dL_law_1377 : decode cL_law 1377 = .ok (.aload_n 1, 1) := by decide +kernel
theorem dL_law_1378 : decode cL_law 1378 = .ok (.aload_n 0, 1) := by decide +kernel
theorem dL_law_1379 : decode cL_law 1379 = .ok (.iload 4, 2) := by decide +kernel
theorem dL_law_1381 : decode cL_law 1381 = .ok (.iconst 1, 1) := by decide +kernel
theorem dL_law_1382 : decode cL_law 1382 = .ok (.iadd, 1) := by decide +kernel
theorem dL_law_1383 : decode cL_law 1383 = .ok (.iaload, 1) := by decide +kernel
theorem dL_law_1384 : decode cL_law 1384 = .ok (.aload_n 3, 1) := by decide +kernel
theorem dL_law_1385 : decode cL_law 1385 = .ok (.invokestatic 177, 3) := by decide +kernel
theorem dL_law_1388 : decode cL_law 1388 = .ok (.istore 5, 2) := by decide +kernel
theorem dL_law_1390 : decode cL_law 1390 = .ok (.aload_n 2, 1) := by decide +kernel
theorem dL_law_1391 : decode cL_law 1391 = .ok (.aload_n 0, 1) := by decide +kernel
theorem dL_law_1392 : decode cL_law 1392 = .ok (.iload 4, 2) := by decide +kernel
theorem dL_law_1394 : decode cL_law 1394 = .ok (.iconst 1, 1) := by decide +kernel
theorem dL_law_1395 : decode cL_law 1395 = .ok (.iadd, 1) := by decide +kernel
theorem dL_law_1396 : decode cL_law 1396 = .ok (.iaload, 1) := by decide +kernel
theorem dL_law_1397 : decode cL_law 1397 = .ok (.invokevirtual 179, 3) := by decide +kernel
theorem dL_law_1400 : decode cL_law 1400 = .ok (.istore 6, 2) := by decide +kernel
theorem dL_law_1402 : decode cL_law 1402 = .ok (.aload_n 2, 1) := by decide +kernel
theorem dL_law_1403 : decode cL_law 1403 = .ok (.invokevirtual 85, 3) := by decide +kernel
theorem dL_law_1406 : decode cL_law 1406 = .ok (.iload 5, 2) := by decide +kernel
theorem dL_law_1408 : decode cL_law 1408 = .ok (.if_icmp .eq 5, 3) := by decide +kernel
theorem dL_law_1411 : decode cL_law 1411 = .ok (.iconst 0, 1) := by decide +kernel
theorem dL_law_1412 : decode cL_law 1412 = .ok (.ireturn, 1) := by decide +kernel
theorem dL_law_1413 : decode cL_law 1413 = .ok (.iload 5, 2) := by decide +kernel
theorem dL_law_1415 : decode cL_law 1415 = .ok (.ifCond .ne 22, 3) := by decide +kernel
theorem dL_law_1418 : decode cL_law 1418 = .ok (.aload_n 3, 1) := by decide +kernel
theorem dL_law_1419 : decode cL_law 1419 = .ok (.iconst 0, 1) := by decide +kernel
theorem dL_law_1420 : decode cL_law 1420 = .ok (.laload, 1) := by decide +kernel
theorem dL_law_1421 : decode cL_law 1421 = .ok (.iload 6, 2) := by decide +kernel
theorem dL_law_1423 : decode cL_law 1423 = .ok (.ifCond .eq 7, 3) := by decide +kernel
theorem dL_law_1426 : decode cL_law 1426 = .ok (.lconst 1, 1) := by decide +kernel
theorem dL_law_1427 : decode cL_law 1427 = .ok (.goto 4, 3) := by decide +kernel
theorem dL_law_1430 : decode cL_law 1430 = .ok (.lconst 0, 1) := by decide +kernel
theorem dL_law_1431 : decode cL_law 1431 = .ok (.lcmp, 1) := by decide +kernel
theorem dL_law_1432 : decode cL_law 1432 = .ok (.ifCond .eq 5, 3) := by decide +kernel
theorem dL_law_1435 : decode cL_law 1435 = .ok (.iconst 0, 1) := by decide +kernel
theorem dL_law_1436 : decode cL_law 1436 = .ok (.ireturn, 1) := by decide +kernel
theorem dL_law_1437 : decode cL_law 1437 = .ok (.goto 16, 3) := by decide +kernel
theorem dL_law_1440 : decode cL_law 1440 = .ok (.aload_n 1, 1) := by decide +kernel
theorem dL_law_1441 : decode cL_law 1441 = .ok (.invokevirtual 180, 3) := by decide +kernel
theorem dL_law_1444 : decode cL_law 1444 = .ok (.aload_n 2, 1) := by decide +kernel
theorem dL_law_1445 : decode cL_law 1445 = .ok (.invokevirtual 183, 3) := by decide +kernel
theorem dL_law_1448 : decode cL_law 1448 = .ok (.if_icmp .eq 5, 3) := by decide +kernel
theorem dL_law_1451 : decode cL_law 1451 = .ok (.iconst 0, 1) := by decide +kernel
theorem dL_law_1452 : decode cL_law 1452 = .ok (.ireturn, 1) := by decide +kernel
theorem dL_law_1453 : decode cL_law 1453 = .ok (.iinc 4 3, 3) := by decide +kernel
theorem dL_law_1456 : decode cL_law 1456 = .ok (.goto (-1433), 3) := by decide +kernel
theorem dL_law_1459 : decode cL_law 1459 = .ok (.iconst 1, 1) := by decide +kernel
theorem dL_law_1460 : decode cL_law 1460 = .ok (.ireturn, 1) := by decide +kernel
abbrev vwCl : List vw_C := [(RX1, TX1, 5), (RX2, TX2, 5)]
