theorem dX1_init_0 : decode cX1_init 0 = .ok (.aload_n 0, 1) := by decide +kernel
theorem dX1_init_1 : decode cX1_init 1 = .ok (.invokespecial 1, 3) := by decide +kernel
theorem dX1_init_4 : decode cX1_init 4 = .ok (.aload_n 0, 1) := by decide +kernel
theorem dX1_init_5 : decode cX1_init 5 = .ok (.bipush 64, 2) := by decide +kernel
theorem dX1_init_7 : decode cX1_init 7 = .ok (.newarray .int, 2) := by decide +kernel
theorem dX1_init_9 : decode cX1_init 9 = .ok (.putfield 9, 3) := by decide +kernel
theorem dX1_init_12 : decode cX1_init 12 = .ok (.aload_n 0, 1) := by decide +kernel
theorem dX1_init_13 : decode cX1_init 13 = .ok (.bipush 24, 2) := by decide +kernel
theorem dX1_init_15 : decode cX1_init 15 = .ok (.newarray .int, 2) := by decide +kernel
theorem dX1_init_17 : decode cX1_init 17 = .ok (.putfield 13, 3) := by decide +kernel
theorem dX1_init_20 : decode cX1_init 20 = .ok (.aload_n 0, 1) := by decide +kernel
theorem dX1_init_21 : decode cX1_init 21 = .ok (.bipush 65, 2) := by decide +kernel
theorem dX1_init_23 : decode cX1_init 23 = .ok (.newarray .int, 2) := by decide +kernel
theorem dX1_init_25 : decode cX1_init 25 = .ok (.putfield 16, 3) := by decide +kernel
theorem dX1_init_28 : decode cX1_init 28 = .ok (.aload_n 0, 1) := by decide +kernel
theorem dX1_init_29 : decode cX1_init 29 = .ok (.iconst 0, 1) := by decide +kernel
theorem dX1_init_30 : decode cX1_init 30 = .ok (.putfield 19, 3) := by decide +kernel
theorem dX1_init_33 : decode cX1_init 33 = .ok (.aload_n 0, 1) := by decide +kernel
theorem dX1_init_34 : decode cX1_init 34 = .ok (.iconst 0, 1) := by decide +kernel
theorem dX1_init_35 : decode cX1_init 35 = .ok (.putfield 23, 3) := by decide +kernel
theorem dX1_init_38 : decode cX1_init 38 = .ok (.return_, 1) := by decide +kernel
set_option maxRecDepth 20000 in
theorem ggX1_appendText_X1_requireSymbol : GoodIn wsX1_appendText wsX1_requireSymbol := goodIn_ca (goodIn_r _ [8, 9, 10] (by decide +kernel) (by decide +kernel)) (goodIn_sub (fun _ h => List.mem_cons_of_mem _ (List.mem_append_right _ h)) (by decide +kernel))
set_option maxRecDepth 20000 in
theorem gX1_appendText_X1_requireSymbol : GoodIn wsX1_appendText (va_wsS RX1 26 yX1_requireSymbol wsX1_requireSymbol) := goodIn_app (goodIn_of _ (by decide +kernel)) ggX1_appendText_X1_requireSymbol
theorem dX1_appendText_0 : decode cX1_appendText 0 = .ok (.iload_n 1, 1) := by decide +kernel
theorem dX1_appendText_1 : decode cX1_appendText 1 = .ok (.invokestatic 26, 3) := by decide +kernel
theorem dX1_appendText_4 : decode cX1_appendText 4 = .ok (.aload_n 0, 1) := by decide +kernel
theorem dX1_appendText_5 : decode cX1_appendText 5 = .ok (.getfield 19, 3) := by decide +kernel
theorem dX1_appendText_8 : decode cX1_appendText 8 = .ok (.bipush 64, 2) := by decide +kernel
theorem dX1_appendText_10 : decode cX1_appendText 10 = .ok (.if_icmp .lt 13, 3) := by decide +kernel
theorem dX1_appendText_13 : decode cX1_appendText 13 = .ok (.new 30, 3) := by decide +kernel
theorem dX1_appendText_16 : decode cX1_appendText 16 = .ok (.dup, 1) := by decide +kernel
theorem dX1_appendText_17 : decode cX1_appendText 17 = .ok (.ldc 32, 2) := by decide +kernel
theorem dX1_appendText_19 : decode cX1_appendText 19 = .ok (.invokespecial 34, 3) := by decide +kernel
theorem dX1_appendText_22 : decode cX1_appendText 22 = .ok (.athrow, 1) := by decide +kernel
theorem dX1_appendText_23 : decode cX1_appendText 23 = .ok (.aload_n 0, 1) := by decide +kernel
theorem dX1_appendText_24 : decode cX1_appendText 24 = .ok (.getfield 9, 3) := by decide +kernel
theorem dX1_appendText_27 : decode cX1_appendText 27 = .ok (.aload_n 0, 1) := by decide +kernel
theorem dX1_appendText_28 : decode cX1_appendText 28 = .ok (.getfield 19, 3) := by decide +kernel
theorem dX1_appendText_31 : decode cX1_appendText 31 = .ok (.iload_n 1, 1) := by decide +kernel
theorem dX1_appendText_32 : decode cX1_appendText 32 = .ok (.iastore, 1) := by decide +kernel
theorem dX1_appendText_33 : decode cX1_appendText 33 = .ok (.aload_n 0, 1) := by decide +kernel
theorem dX1_appendText_34 : decode cX1_appendText 34 = .ok (.dup, 1) := by decide +kernel
theorem dX1_appendText_35 : decode cX1_appendText 35 = .ok (.getfield 19, 3) := by decide +kernel
theorem dX1_appendText_38 : decode cX1_appendText 38 = .ok (.iconst 1, 1) := by decide +kernel
theorem dX1_appendText_39 : decode cX1_appendText 39 = .ok (.iadd, 1) := by decide +kernel
theorem dX1_appendText_40 : decode cX1_appendText 40 = .ok (.putfield 19, 3) := by decide +kernel
theorem dX1_appendText_43 : decode cX1_appendText 43 = .ok (.aload_n 0, 1) := by decide +kernel
theorem dX1_appendText_44 : decode cX1_appendText 44 = .ok (.getfield 19, 3) := by decide +kernel
theorem dX1_appendText_47 : decode cX1_appendText 47 = .ok (.ireturn, 1) := by decide +kernel
set_option maxRecDepth 20000 in
theorem ggX1_repeatText_X1_requirePartOfText : GoodIn wsX1_repeatText wsX1_requirePartOfText := goodIn_ca (goodIn_r _ [15, 16, 17, 5, 18, 19, 20, 21, 22] (by decide +kernel) (by decide +kernel)) (goodIn_sub (fun _ h => List.mem_cons_of_mem _ (List.mem_append_right _ h)) (by decide +kernel))
set_option maxRecDepth 20000 in
theorem gX1_repeatText_X1_requirePartOfText : GoodIn wsX1_repeatText (wsV RX1 42 RX1 yX1_requirePartOfText wsX1_requirePartOfText) := goodIn_app (goodIn_of _ (by decide +kernel)) ggX1_repeatText_X1_requirePartOfText
theorem dX1_repeatText_0 : decode cX1_repeatText 0 = .ok (.iload_n 2, 1) := by decide +kernel
theorem dX1_repeatText_1 : decode cX1_repeatText 1 = .ok (.iconst 1, 1) := by decide +kernel
theorem dX1_repeatText_2 : decode cX1_repeatText 2 = .ok (.if_icmp .ge 13, 3) := by decide +kernel
theorem dX1_repeatText_5 : decode cX1_repeatText 5 = .ok (.new 37, 3) := by decide +kernel
theorem dX1_repeatText_8 : decode cX1_repeatText 8 = .ok (.dup, 1) := by decide +kernel
theorem dX1_repeatText_9 : decode cX1_repeatText 9 = .ok (.ldc 39, 2) := by decide +kernel
theorem dX1_repeatText_11 : decode cX1_repeatText 11 = .ok (.invokespecial 41, 3) := by decide +kernel
theorem dX1_repeatText_14 : decode cX1_repeatText 14 = .ok (.athrow, 1) := by decide +kernel
theorem dX1_repeatText_15 : decode cX1_repeatText 15 = .ok (.aload_n 0, 1) := by decide +kernel
theorem dX1_repeatText_16 : decode cX1_repeatText 16 = .ok (.iload_n 1, 1) := by decide +kernel
theorem dX1_repeatText_17 : decode cX1_repeatText 17 = .ok (.iload_n 2, 1) := by decide +kernel
theorem dX1_repeatText_18 : decode cX1_repeatText 18 = .ok (.invokevirtual 42, 3) := by decide +kernel
theorem dX1_repeatText_21 : decode cX1_repeatText 21 = .ok (.iload_n 2, 1) := by decide +kernel
theorem dX1_repeatText_22 : decode cX1_repeatText 22 = .ok (.bipush 64, 2) := by decide +kernel
theorem dX1_repeatText_24 : decode cX1_repeatText 24 = .ok (.aload_n 0, 1) := by decide +kernel
theorem dX1_repeatText_25 : decode cX1_repeatText 25 = .ok (.getfield 19, 3) := by decide +kernel
theorem dX1_repeatText_28 : decode cX1_repeatText 28 = .ok (.isub, 1) := by decide +kernel
theorem dX1_repeatText_29 : decode cX1_repeatText 29 = .ok (.if_icmp .le 13, 3) := by decide +kernel
theorem dX1_repeatText_32 : decode cX1_repeatText 32 = .ok (.new 30, 3) := by decide +kernel
theorem dX1_repeatText_35 : decode cX1_repeatText 35 = .ok (.dup, 1) := by decide +kernel
theorem dX1_repeatText_36 : decode cX1_repeatText 36 = .ok (.ldc 46, 2) := by decide +kernel
theorem dX1_repeatText_38 : decode cX1_repeatText 38 = .ok (.invokespecial 34, 3) := by decide +kernel
theorem dX1_repeatText_41 : decode cX1_repeatText 41 = .ok (.athrow, 1) := by decide +kernel
theorem dX1_repeatText_42 : decode cX1_repeatText 42 = .ok (.aload_n 0, 1) := by decide +kernel
theorem dX1_repeatText_43 : decode cX1_repeatText 43 = .ok (.getfield 9, 3) := by decide +kernel
theorem dX1_repeatText_46 : decode cX1_repeatText 46 = .ok (.iload_n 1, 1) := by decide +kernel
theorem dX1_repeatText_47 : decode cX1_repeatText 47 = .ok (.aload_n 0, 1) := by decide +kernel
theorem dX1_repeatText_48 : decode cX1_repeatText 48 = .ok (.getfield 9, 3) := by decide +kernel
theorem dX1_repeatText_51 : decode cX1_repeatText 51 = .ok (.aload_n 0, 1) := by decide +kernel
theorem dX1_repeatText_52 : decode cX1_repeatText 52 = .ok (.getfield 19, 3) := by decide +kernel
theorem dX1_repeatText_55 : decode cX1_repeatText 55 = .ok (.iload_n 2, 1) := by decide +kernel
theorem dX1_repeatText_56 : decode cX1_repeatText 56 = .ok (.invokestatic 48, 3) := by decide +kernel
theorem dX1_repeatText_59 : decode cX1_repeatText 59 = .ok (.aload_n 0, 1) := by decide +kernel
theorem dX1_repeatText_60 : decode cX1_repeatText 60 = .ok (.dup, 1) := by decide +kernel
theorem dX1_repeatText_61 : decode cX1_repeatText 61 = .ok (.getfield 19, 3) := by decide +kernel
theorem dX1_repeatText_64 : decode cX1_repeatText 64 = .ok (.iload_n 2, 1) := by decide +kernel
theorem dX1_repeatText_65 : decode cX1_repeatText 65 = .ok (.iadd, 1) := by decide +kernel
theorem dX1_repeatText_66 : decode cX1_repeatText 66 = .ok (.putfield 19, 3) := by decide +kernel
theorem dX1_repeatText_69 : decode cX1_repeatText 69 = .ok (.aload_n 0, 1) := by decide +kernel
theorem dX1_repeatText_70 : decode cX1_repeatText 70 = .ok (.getfield 19, 3) := by decide +kernel
theorem dX1_repeatText_73 : decode cX1_repeatText 73 = .ok (.ireturn, 1) := by decide +kernel
set_option maxRecDepth 20000 in
theorem ggX1_setText_X1_requireSymbol : GoodIn wsX1_setText wsX1_requireSymbol := goodIn_ca (goodIn_r _ [8, 9, 10] (by decide +kernel) (by decide +kernel)) (goodIn_sub (fun _ h => List.mem_cons_of_mem _ (List.mem_append_right _ h)) (by decide +kernel))
set_option maxRecDepth 20000 in
theorem gX1_setText_X1_requireSymbol : GoodIn wsX1_setText (va_wsS RX1 26 yX1_requireSymbol wsX1_requireSymbol) := goodIn_app (goodIn_of _ (by decide +kernel)) ggX1_setText_X1_requireSymbol
theorem dX1_setText_0 : decode cX1_setText 0 = .ok (.iload_n 1, 1) := by decide +kernel
theorem dX1_setText_1 : decode cX1_setText 1 = .ok (.ifCond .lt 11, 3) := by decide +kernel
theorem dX1_setText_4 : decode cX1_setText 4 = .ok (.iload_n 1, 1) := by decide +kernel
theorem dX1_setText_5 : decode cX1_setText 5 = .ok (.aload_n 0, 1) := by decide +kernel
theorem dX1_setText_6 : decode cX1_setText 6 = .ok (.getfield 19, 3) := by decide +kernel
theorem dX1_setText_9 : decode cX1_setText 9 = .ok (.if_icmp .lt 13, 3) := by decide +kernel
theorem dX1_setText_12 : decode cX1_setText 12 = .ok (.new 54, 3) := by decide +kernel
theorem dX1_setText_15 : decode cX1_setText 15 = .ok (.dup, 1) := by decide +kernel
theorem dX1_setText_16 : decode cX1_setText 16 = .ok (.ldc 56, 2) := by decide +kernel
theorem dX1_setText_18 : decode cX1_setText 18 = .ok (.invokespecial 58, 3) := by decide +kernel
theorem dX1_setText_21 : decode cX1_setText 21 = .ok (.athrow, 1) := by decide +kernel
theorem dX1_setText_22 : decode cX1_setText 22 = .ok (.iload_n 2, 1) := by decide +kernel
theorem dX1_setText_23 : decode cX1_setText 23 = .ok (.invokestatic 26, 3) := by decide +kernel
theorem dX1_setText_26 : decode cX1_setText 26 = .ok (.aload_n 0, 1) := by decide +kernel
theorem dX1_setText_27 : decode cX1_setText 27 = .ok (.getfield 9, 3) := by decide +kernel
theorem dX1_setText_30 : decode cX1_setText 30 = .ok (.iload_n 1, 1) := by decide +kernel
theorem dX1_setText_31 : decode cX1_setText 31 = .ok (.iaload, 1) := by decide +kernel
theorem dX1_setText_32 : decode cX1_setText 32 = .ok (.istore_n 3, 1) := by decide +kernel
theorem dX1_setText_33 : decode cX1_setText 33 = .ok (.aload_n 0, 1) := by decide +kernel
theorem dX1_setText_34 : decode cX1_setText 34 = .ok (.getfield 9, 3) := by decide +kernel
theorem dX1_setText_37 : decode cX1_setText 37 = .ok (.iload_n 1, 1) := by decide +kernel
theorem dX1_setText_38 : decode cX1_setText 38 = .ok (.iload_n 2, 1) := by decide +kernel
theorem dX1_setText_39 : decode cX1_setText 39 = .ok (.iastore, 1) := by decide +kernel
theorem dX1_setText_40 : decode cX1_setText 40 = .ok (.iload_n 3, 1) := by decide +kernel
theorem dX1_setText_41 : decode cX1_setText 41 = .ok (.ireturn, 1) := by decide +kernel
set_option maxRecDepth 20000 in
theorem ggX1_appendPattern_X1_requireSymbol : GoodIn wsX1_appendPattern wsX1_requireSymbol := goodIn_ca (goodIn_r _ [8, 9, 10] (by decide +kernel) (by decide +kernel)) (goodIn_sub (fun _ h => List.mem_cons_of_mem _ (List.mem_append_right _ h)) (by decide +kernel))
set_option maxRecDepth 20000 in
theorem gX1_appendPattern_X1_requireSymbol : GoodIn wsX1_appendPattern (va_wsS RX1 26 yX1_requireSymbol wsX1_requireSymbol) := goodIn_app (goodIn_of _ (by decide +kernel)) ggX1_appendPattern_X1_requireSymbol
theorem dX1_appendPattern_0 : decode cX1_appendPattern 0 = .ok (.iload_n 1, 1) := by decide +kernel
theorem dX1_appendPattern_1 : decode cX1_appendPattern 1 = .ok (.invokestatic 26, 3) := by decide +kernel
theorem dX1_appendPattern_4 : decode cX1_appendPattern 4 = .ok (.aload_n 0, 1) := by decide +kernel
theorem dX1_appendPattern_5 : decode cX1_appendPattern 5 = .ok (.getfield 23, 3) := by decide +kernel
theorem dX1_appendPattern_8 : decode cX1_appendPattern 8 = .ok (.bipush 24, 2) := by decide +kernel
theorem dX1_appendPattern_10 : decode cX1_appendPattern 10 = .ok (.if_icmp .lt 13, 3) := by decide +kernel
theorem dX1_appendPattern_13 : decode cX1_appendPattern 13 = .ok (.new 30, 3) := by decide +kernel
theorem dX1_appendPattern_16 : decode cX1_appendPattern 16 = .ok (.dup, 1) := by decide +kernel
theorem dX1_appendPattern_17 : decode cX1_appendPattern 17 = .ok (.ldc 59, 2) := by decide +kernel
theorem dX1_appendPattern_19 : decode cX1_appendPattern 19 = .ok (.invokespecial 34, 3) := by decide +kernel
theorem dX1_appendPattern_22 : decode cX1_appendPattern 22 = .ok (.athrow, 1) := by decide +kernel
theorem dX1_appendPattern_23 : decode cX1_appendPattern 23 = .ok (.aload_n 0, 1) := by decide +kernel
theorem dX1_appendPattern_24 : decode cX1_appendPattern 24 = .ok (.getfield 13, 3) := by decide +kernel
theorem dX1_appendPattern_27 : decode cX1_appendPattern 27 = .ok (.aload_n 0, 1) := by decide +kernel
theorem dX1_appendPattern_28 : decode cX1_appendPattern 28 = .ok (.getfield 23, 3) := by decide +kernel
theorem dX1_appendPattern_31 : decode cX1_appendPattern 31 = .ok (.iload_n 1, 1) := by decide +kernel
theorem dX1_appendPattern_32 : decode cX1_appendPattern 32 = .ok (.iastore, 1) := by decide +kernel
theorem dX1_appendPattern_33 : decode cX1_appendPattern 33 = .ok (.aload_n 0, 1) := by decide +kernel
theorem dX1_appendPattern_34 : decode cX1_appendPattern 34 = .ok (.dup, 1) := by decide +kernel
theorem dX1_appendPattern_35 : decode cX1_appendPattern 35 = .ok (.getfield 23, 3) := by decide +kernel
theorem dX1_appendPattern_38 : decode cX1_appendPattern 38 = .ok (.iconst 1, 1) := by decide +kernel
theorem dX1_appendPattern_39 : decode cX1_appendPattern 39 = .ok (.iadd, 1) := by decide +kernel
theorem dX1_appendPattern_40 : decode cX1_appendPattern 40 = .ok (.putfield 23, 3) := by decide +kernel
theorem dX1_appendPattern_43 : decode cX1_appendPattern 43 = .ok (.aload_n 0, 1) := by decide +kernel
theorem dX1_appendPattern_44 : decode cX1_appendPattern 44 = .ok (.getfield 23, 3) := by decide +kernel
theorem dX1_appendPattern_47 : decode cX1_appendPattern 47 = .ok (.ireturn, 1) := by decide +kernel
set_option maxRecDepth 20000 in
theorem ggX1_setPattern_X1_requirePatternIndex : GoodIn wsX1_setPattern wsX1_requirePatternIndex := goodIn_ca (goodIn_r _ [6, 7, 8, 9, 15, 16, 17, 18, 19] (by decide +kernel) (by decide +kernel)) (goodIn_sub (fun _ h => List.mem_cons_of_mem _ (List.mem_append_left _ (List.mem_append_right _ h))) (by decide +kernel))
set_option maxRecDepth 20000 in
theorem gX1_setPattern_X1_requirePatternIndex : GoodIn wsX1_setPattern (wsV RX1 61 RX1 yX1_requirePatternIndex wsX1_requirePatternIndex) := goodIn_app (goodIn_of _ (by decide +kernel)) ggX1_setPattern_X1_requirePatternIndex
set_option maxRecDepth 20000 in
theorem ggX1_setPattern_X1_requireSymbol : GoodIn wsX1_setPattern wsX1_requireSymbol := goodIn_ca (goodIn_r _ [12, 13, 14] (by decide +kernel) (by decide +kernel)) (goodIn_sub (fun _ h => List.mem_cons_of_mem _ (List.mem_append_right _ h)) (by decide +kernel))
set_option maxRecDepth 20000 in
theorem gX1_setPattern_X1_requireSymbol : GoodIn wsX1_setPattern (va_wsS RX1 26 yX1_requireSymbol wsX1_requireSymbol) := goodIn_app (goodIn_of _ (by decide +kernel)) ggX1_setPattern_X1_requireSymbol
theorem dX1_setPattern_0 : decode cX1_setPattern 0 = .ok (.aload_n 0, 1) := by decide +kernel
theorem dX1_setPattern_1 : decode cX1_setPattern 1 = .ok (.iload_n 1, 1) := by decide +kernel
theorem dX1_setPattern_2 : decode cX1_setPattern 2 = .ok (.invokevirtual 61, 3) := by decide +kernel
theorem dX1_setPattern_5 : decode cX1_setPattern 5 = .ok (.iload_n 2, 1) := by decide +kernel
theorem dX1_setPattern_6 : decode cX1_setPattern 6 = .ok (.invokestatic 26, 3) := by decide +kernel
theorem dX1_setPattern_9 : decode cX1_setPattern 9 = .ok (.aload_n 0, 1) := by decide +kernel
theorem dX1_setPattern_10 : decode cX1_setPattern 10 = .ok (.getfield 13, 3) := by decide +kernel
theorem dX1_setPattern_13 : decode cX1_setPattern 13 = .ok (.iload_n 1, 1) := by decide +kernel
theorem dX1_setPattern_14 : decode cX1_setPattern 14 = .ok (.iaload, 1) := by decide +kernel
theorem dX1_setPattern_15 : decode cX1_setPattern 15 = .ok (.istore_n 3, 1) := by decide +kernel
theorem dX1_setPattern_16 : decode cX1_setPattern 16 = .ok (.aload_n 0, 1) := by decide +kernel
theorem dX1_setPattern_17 : decode cX1_setPattern 17 = .ok (.getfield 13, 3) := by decide +kernel
theorem dX1_setPattern_20 : decode cX1_setPattern 20 = .ok (.iload_n 1, 1) := by decide +kernel
theorem dX1_setPattern_21 : decode cX1_setPattern 21 = .ok (.iload_n 2, 1) := by decide +kernel
theorem dX1_setPattern_22 : decode cX1_setPattern 22 = .ok (.iastore, 1) := by decide +kernel
theorem dX1_setPattern_23 : decode cX1_setPattern 23 = .ok (.iload_n 3, 1) := by decide +kernel
theorem dX1_setPattern_24 : decode cX1_setPattern 24 = .ok (.ireturn, 1) := by decide +kernel
set_option maxRecDepth 20000 in
theorem ggX1_takePattern_X1_requirePartOfText : GoodIn wsX1_takePattern wsX1_requirePartOfText := goodIn_ca (goodIn_r _ [14, 15, 16, 17, 22, 23, 24, 25, 26] (by decide +kernel) (by decide +kernel)) (goodIn_sub (fun _ h => List.mem_cons_of_mem _ (List.mem_append_right _ h)) (by decide +kernel))
set_option maxRecDepth 20000 in
theorem gX1_takePattern_X1_requirePartOfText : GoodIn wsX1_takePattern (wsV RX1 42 RX1 yX1_requirePartOfText wsX1_requirePartOfText) := goodIn_app (goodIn_of _ (by decide +kernel)) ggX1_takePattern_X1_requirePartOfText
set_option maxRecDepth 20000 in
theorem ggX1_takePattern_X1_blanksInPattern : GoodIn wsX1_takePattern wsX1_blanksInPattern := goodIn_r _ [21, 9, 4, 22, 23, 24, 25, 26] (by decide +kernel) (by decide +kernel)
set_option maxRecDepth 20000 in
theorem gX1_takePattern_X1_blanksInPattern : GoodIn wsX1_takePattern (wsV RX1 66 RX1 yX1_blanksInPattern wsX1_blanksInPattern) := goodIn_app (goodIn_of _ (by decide +kernel)) ggX1_takePattern_X1_blanksInPattern
theorem dX1_takePattern_0 : decode cX1_takePattern 0 = .ok (.iload_n 2, 1) := by decide +kernel
theorem dX1_takePattern_1 : decode cX1_takePattern 1 = .ok (.ifCond .lt 9, 3) := by decide +kernel
theorem dX1_takePattern_4 : decode cX1_takePattern 4 = .ok (.iload_n 2, 1) := by decide +kernel
theorem dX1_takePattern_5 : decode cX1_takePattern 5 = .ok (.bipush 24, 2) := by decide +kernel
theorem dX1_takePattern_7 : decode cX1_takePattern 7 = .ok (.if_icmp .le 13, 3) := by decide +kernel
theorem dX1_takePattern_10 : decode cX1_takePattern 10 = .ok (.new 37, 3) := by decide +kernel
theorem dX1_takePattern_13 : decode cX1_takePattern 13 = .ok (.dup, 1) := by decide +kernel
theorem dX1_takePattern_14 : decode cX1_takePattern 14 = .ok (.ldc 64, 2) := by decide +kernel
theorem dX1_takePattern_16 : decode cX1_takePattern 16 = .ok (.invokespecial 41, 3) := by decide +kernel
theorem dX1_takePattern_19 : decode cX1_takePattern 19 = .ok (.athrow, 1) := by decide +kernel
theorem dX1_takePattern_20 : decode cX1_takePattern 20 = .ok (.aload_n 0, 1) := by decide +kernel
theorem dX1_takePattern_21 : decode cX1_takePattern 21 = .ok (.iload_n 1, 1) := by decide +kernel
theorem dX1_takePattern_22 : decode cX1_takePattern 22 = .ok (.iload_n 2, 1) := by decide +kernel
theorem dX1_takePattern_23 : decode cX1_takePattern 23 = .ok (.invokevirtual 42, 3) := by decide +kernel
theorem dX1_takePattern_26 : decode cX1_takePattern 26 = .ok (.aload_n 0, 1) := by decide +kernel
theorem dX1_takePattern_27 : decode cX1_takePattern 27 = .ok (.getfield 9, 3) := by decide +kernel
theorem dX1_takePattern_30 : decode cX1_takePattern 30 = .ok (.iload_n 1, 1) := by decide +kernel
theorem dX1_takePattern_31 : decode cX1_takePattern 31 = .ok (.aload_n 0, 1) := by decide +kernel
theorem dX1_takePattern_32 : decode cX1_takePattern 32 = .ok (.getfield 13, 3) := by decide +kernel
theorem dX1_takePattern_35 : decode cX1_takePattern 35 = .ok (.iconst 0, 1) := by decide +kernel
theorem dX1_takePattern_36 : decode cX1_takePattern 36 = .ok (.iload_n 2, 1) := by decide +kernel
theorem dX1_takePattern_37 : decode cX1_takePattern 37 = .ok (.invokestatic 48, 3) := by decide +kernel
theorem dX1_takePattern_40 : decode cX1_takePattern 40 = .ok (.aload_n 0, 1) := by decide +kernel
theorem dX1_takePattern_41 : decode cX1_takePattern 41 = .ok (.iload_n 2, 1) := by decide +kernel
theorem dX1_takePattern_42 : decode cX1_takePattern 42 = .ok (.putfield 23, 3) := by decide +kernel
theorem dX1_takePattern_45 : decode cX1_takePattern 45 = .ok (.aload_n 0, 1) := by decide +kernel
theorem dX1_takePattern_46 : decode cX1_takePattern 46 = .ok (.invokevirtual 66, 3) := by decide +kernel
theorem dX1_takePattern_49 : decode cX1_takePattern 49 = .ok (.ireturn, 1) := by decide +kernel
theorem dX1_clearText_0 : decode cX1_clearText 0 = .ok (.aload_n 0, 1) := by decide +kernel
theorem dX1_clearText_1 : decode cX1_clearText 1 = .ok (.getfield 19, 3) := by decide +kernel
theorem dX1_clearText_4 : decode cX1_clearText 4 = .ok (.istore_n 1, 1) := by decide +kernel
theorem dX1_clearText_5 : decode cX1_clearText 5 = .ok (.aload_n 0, 1) := by decide +kernel
theorem dX1_clearText_6 : decode cX1_clearText 6 = .ok (.iconst 0, 1) := by decide +kernel
theorem dX1_clearText_7 : decode cX1_clearText 7 = .ok (.putfield 19, 3) := by decide +kernel
theorem dX1_clearText_10 : decode cX1_clearText 10 = .ok (.iload_n 1, 1) := by decide +kernel
theorem dX1_clearText_11 : decode cX1_clearText 11 = .ok (.ireturn, 1) := by decide +kernel
theorem dX1_clearPattern_0 : decode cX1_clearPattern 0 = .ok (.aload_n 0, 1) := by decide +kernel
theorem dX1_clearPattern_1 : decode cX1_clearPattern 1 = .ok (.getfield 23, 3) := by decide +kernel
theorem dX1_clearPattern_4 : decode cX1_clearPattern 4 = .ok (.istore_n 1, 1) := by decide +kernel
theorem dX1_clearPattern_5 : decode cX1_clearPattern 5 = .ok (.aload_n 0, 1) := by decide +kernel
theorem dX1_clearPattern_6 : decode cX1_clearPattern 6 = .ok (.iconst 0, 1) := by decide +kernel
theorem dX1_clearPattern_7 : decode cX1_clearPattern 7 = .ok (.putfield 23, 3) := by decide +kernel
theorem dX1_clearPattern_10 : decode cX1_clearPattern 10 = .ok (.iload_n 1, 1) := by decide +kernel
theorem dX1_clearPattern_11 : decode cX1_clearPattern 11 = .ok (.ireturn, 1) := by decide +kernel
theorem dX1_textLength_0 : decode cX1_textLength 0 = .ok (.aload_n 0, 1) := by decide +kernel
theorem dX1_textLength_1 : decode cX1_textLength 1 = .ok (.getfield 19, 3) := by decide +kernel
theorem dX1_textLength_4 : decode cX1_textLength 4 = .ok (.ireturn, 1) := by decide +kernel
theorem dX1_patternLength_0 : decode cX1_patternLength 0 = .ok (.aload_n 0, 1) := by decide +kernel
theorem dX1_patternLength_1 : decode cX1_patternLength 1 = .ok (.getfield 23, 3) := by decide +kernel
theorem dX1_patternLength_4 : decode cX1_patternLength 4 = .ok (.ireturn, 1) := by decide +kernel
theorem dX1_places_0 : decode cX1_places 0 = .ok (.aload_n 0, 1) := by decide +kernel
theorem dX1_places_1 : decode cX1_places 1 = .ok (.getfield 23, 3) := by decide +kernel
theorem dX1_places_4 : decode cX1_places 4 = .ok (.aload_n 0, 1) := by decide +kernel
theorem dX1_places_5 : decode cX1_places 5 = .ok (.getfield 19, 3) := by decide +kernel
theorem dX1_places_8 : decode cX1_places 8 = .ok (.if_icmp .le 7, 3) := by decide +kernel
theorem dX1_places_11 : decode cX1_places 11 = .ok (.iconst 0, 1) := by decide +kernel
theorem dX1_places_12 : decode cX1_places 12 = .ok (.goto 14, 3) := by decide +kernel
theorem dX1_places_15 : decode cX1_places 15 = .ok (.aload_n 0, 1) := by decide +kernel
theorem dX1_places_16 : decode cX1_places 16 = .ok (.getfield 19, 3) := by decide +kernel
theorem dX1_places_19 : decode cX1_places 19 = .ok (.aload_n 0, 1) := by decide +kernel
theorem dX1_places_20 : decode cX1_places 20 = .ok (.getfield 23, 3) := by decide +kernel
theorem dX1_places_23 : decode cX1_places 23 = .ok (.isub, 1) := by decide +kernel
theorem dX1_places_24 : decode cX1_places 24 = .ok (.iconst 1, 1) := by decide +kernel
theorem dX1_places_25 : decode cX1_places 25 = .ok (.iadd, 1) := by decide +kernel
theorem dX1_places_26 : decode cX1_places 26 = .ok (.ireturn, 1) := by decide +kernel
theorem dX1_product_0 : decode cX1_product 0 = .ok (.iload_n 1, 1) := by decide +kernel
theorem dX1_product_1 : decode cX1_product 1 = .ok (.ifCond .ge 13, 3) := by decide +kernel
theorem dX1_product_4 : decode cX1_product 4 = .ok (.new 37, 3) := by decide +kernel
theorem dX1_product_7 : decode cX1_product 7 = .ok (.dup, 1) := by decide +kernel
theorem dX1_product_8 : decode cX1_product 8 = .ok (.ldc 70, 2) := by decide +kernel
theorem dX1_product_10 : decode cX1_product 10 = .ok (.invokespecial 41, 3) := by decide +kernel
theorem dX1_product_13 : decode cX1_product 13 = .ok (.athrow, 1) := by decide +kernel
theorem dX1_product_14 : decode cX1_product 14 = .ok (.iconst 0, 1) := by decide +kernel
theorem dX1_product_15 : decode cX1_product 15 = .ok (.istore_n 2, 1) := by decide +kernel
theorem dX1_product_16 : decode cX1_product 16 = .ok (.iconst 0, 1) := by decide +kernel
theorem dX1_product_17 : decode cX1_product 17 = .ok (.istore_n 3, 1) := by decide +kernel
theorem dX1_product_18 : decode cX1_product 18 = .ok (.iload_n 3, 1) := by decide +kernel
theorem dX1_product_19 : decode cX1_product 19 = .ok (.aload_n 0, 1) := by decide +kernel
theorem dX1_product_20 : decode cX1_product 20 = .ok (.getfield 19, 3) := by decide +kernel
theorem dX1_product_23 : decode cX1_product 23 = .ok (.if_icmp .ge 52, 3) := by decide +kernel
theorem dX1_product_26 : decode cX1_product 26 = .ok (.aload_n 0, 1) := by decide +kernel
theorem dX1_product_27 : decode cX1_product 27 = .ok (.getfield 23, 3) := by decide +kernel
theorem dX1_product_30 : decode cX1_product 30 = .ok (.iconst 1, 1) := by decide +kernel
theorem dX1_product_31 : decode cX1_product 31 = .ok (.isub, 1) := by decide +kernel
theorem dX1_product_32 : decode cX1_product 32 = .ok (.iload_n 1, 1) := by decide +kernel
theorem dX1_product_33 : decode cX1_product 33 = .ok (.iload_n 3, 1) := by decide +kernel
theorem dX1_product_34 : decode cX1_product 34 = .ok (.isub, 1) := by decide +kernel
theorem dX1_product_35 : decode cX1_product 35 = .ok (.isub, 1) := by decide +kernel
theorem dX1_product_36 : decode cX1_product 36 = .ok (.istore 4, 2) := by decide +kernel
theorem dX1_product_38 : decode cX1_product 38 = .ok (.iload 4, 2) := by decide +kernel
theorem dX1_product_40 : decode cX1_product 40 = .ok (.ifCond .lt 29, 3) := by decide +kernel
theorem dX1_product_43 : decode cX1_product 43 = .ok (.iload 4, 2) := by decide +kernel
theorem dX1_product_45 : decode cX1_product 45 = .ok (.aload_n 0, 1) := by decide +kernel
theorem dX1_product_46 : decode cX1_product 46 = .ok (.getfield 23, 3) := by decide +kernel
theorem dX1_product_49 : decode cX1_product 49 = .ok (.if_icmp .ge 20, 3) := by decide +kernel
theorem dX1_product_52 : decode cX1_product 52 = .ok (.iload_n 2, 1) := by decide +kernel
theorem dX1_product_53 : decode cX1_product 53 = .ok (.aload_n 0, 1) := by decide +kernel
theorem dX1_product_54 : decode cX1_product 54 = .ok (.getfield 9, 3) := by decide +kernel
theorem dX1_product_57 : decode cX1_product 57 = .ok (.iload_n 3, 1) := by decide +kernel
theorem dX1_product_58 : decode cX1_product 58 = .ok (.iaload, 1) := by decide +kernel
theorem dX1_product_59 : decode cX1_product 59 = .ok (.aload_n 0, 1) := by decide +kernel
theorem dX1_product_60 : decode cX1_product 60 = .ok (.getfield 13, 3) := by decide +kernel
theorem dX1_product_63 : decode cX1_product 63 = .ok (.iload 4, 2) := by decide +kernel
theorem dX1_product_65 : decode cX1_product 65 = .ok (.iaload, 1) := by decide +kernel
theorem dX1_product_66 : decode cX1_product 66 = .ok (.imul, 1) := by decide +kernel
theorem dX1_product_67 : decode cX1_product 67 = .ok (.iadd, 1) := by decide +kernel
theorem dX1_product_68 : decode cX1_product 68 = .ok (.istore_n 2, 1) := by decide +kernel
theorem dX1_product_69 : decode cX1_product 69 = .ok (.iinc 3 1, 3) := by decide +kernel
theorem dX1_product_72 : decode cX1_product 72 = .ok (.goto (-54), 3) := by decide +kernel
theorem dX1_product_75 : decode cX1_product 75 = .ok (.iload_n 2, 1) := by decide +kernel
theorem dX1_product_76 : decode cX1_product 76 = .ok (.ireturn, 1) := by decide +kernel
set_option maxRecDepth 20000 in
theorem ggX1_difference_X1_requirePlace : GoodIn wsX1_difference wsX1_requirePlace := goodIn_ca (goodIn_r _ [8, 9, 10, 11, 12, 13, 7, 14, 1, 15, 16, 17, 18, 19, 20] (by decide +kernel) (by decide +kernel)) (goodIn_sub (fun _ h => List.mem_cons_of_mem _ (List.mem_append_right _ h)) (by decide +kernel))
set_option maxRecDepth 20000 in
theorem gX1_difference_X1_requirePlace : GoodIn wsX1_difference (wsV RX1 72 RX1 yX1_requirePlace wsX1_requirePlace) := goodIn_app (goodIn_of _ (by decide +kernel)) ggX1_difference_X1_requirePlace
theorem dX1_difference_0 : decode cX1_difference 0 = .ok (.aload_n 0, 1) := by decide +kernel
theorem dX1_difference_1 : decode cX1_difference 1 = .ok (.iload_n 1, 1) := by decide +kernel
theorem dX1_difference_2 : decode cX1_difference 2 = .ok (.invokevirtual 72, 3) := by decide +kernel
theorem dX1_difference_5 : decode cX1_difference 5 = .ok (.iconst 0, 1) := by decide +kernel
theorem dX1_difference_6 : decode cX1_difference 6 = .ok (.istore_n 2, 1) := by decide +kernel
theorem dX1_difference_7 : decode cX1_difference 7 = .ok (.iconst 0, 1) := by decide +kernel
theorem dX1_difference_8 : decode cX1_difference 8 = .ok (.istore_n 3, 1) := by decide +kernel
theorem dX1_difference_9 : decode cX1_difference 9 = .ok (.iload_n 3, 1) := by decide +kernel
theorem dX1_difference_10 : decode cX1_difference 10 = .ok (.aload_n 0, 1) := by decide +kernel
theorem dX1_difference_11 : decode cX1_difference 11 = .ok (.getfield 23, 3) := by decide +kernel
theorem dX1_difference_14 : decode cX1_difference 14 = .ok (.if_icmp .ge 47, 3) := by decide +kernel
theorem dX1_difference_17 : decode cX1_difference 17 = .ok (.aload_n 0, 1) := by decide +kernel
theorem dX1_difference_18 : decode cX1_difference 18 = .ok (.getfield 13, 3) := by decide +kernel
theorem dX1_difference_21 : decode cX1_difference 21 = .ok (.iload_n 3, 1) := by decide +kernel
theorem dX1_difference_22 : decode cX1_difference 22 = .ok (.iaload, 1) := by decide +kernel
theorem dX1_difference_23 : decode cX1_difference 23 = .ok (.istore 4, 2) := by decide +kernel
theorem dX1_difference_25 : decode cX1_difference 25 = .ok (.aload_n 0, 1) := by decide +kernel
theorem dX1_difference_26 : decode cX1_difference 26 = .ok (.getfield 9, 3) := by decide +kernel
theorem dX1_difference_29 : decode cX1_difference 29 = .ok (.iload_n 1, 1) := by decide +kernel
theorem dX1_difference_30 : decode cX1_difference 30 = .ok (.iload_n 3, 1) := by decide +kernel
theorem dX1_difference_31 : decode cX1_difference 31 = .ok (.iadd, 1) := by decide +kernel
theorem dX1_difference_32 : decode cX1_difference 32 = .ok (.iaload, 1) := by decide +kernel
theorem dX1_difference_33 : decode cX1_difference 33 = .ok (.istore 5, 2) := by decide +kernel
theorem dX1_difference_35 : decode cX1_difference 35 = .ok (.iload_n 2, 1) := by decide +kernel
theorem dX1_difference_36 : decode cX1_difference 36 = .ok (.iload 4, 2) := by decide +kernel
theorem dX1_difference_38 : decode cX1_difference 38 = .ok (.iload 5, 2) := by decide +kernel
theorem dX1_difference_40 : decode cX1_difference 40 = .ok (.imul, 1) := by decide +kernel
theorem dX1_difference_41 : decode cX1_difference 41 = .ok (.iload 4, 2) := by decide +kernel
theorem dX1_difference_43 : decode cX1_difference 43 = .ok (.iload 5, 2) := by decide +kernel
theorem dX1_difference_45 : decode cX1_difference 45 = .ok (.isub, 1) := by decide +kernel
theorem dX1_difference_46 : decode cX1_difference 46 = .ok (.imul, 1) := by decide +kernel
theorem dX1_difference_47 : decode cX1_difference 47 = .ok (.iload 4, 2) := by decide +kernel
theorem dX1_difference_49 : decode cX1_difference 49 = .ok (.iload 5, 2) := by decide +kernel
theorem dX1_difference_51 : decode cX1_difference 51 = .ok (.isub, 1) := by decide +kernel
theorem dX1_difference_52 : decode cX1_difference 52 = .ok (.imul, 1) := by decide +kernel
theorem dX1_difference_53 : decode cX1_difference 53 = .ok (.iadd, 1) := by decide +kernel
theorem dX1_difference_54 : decode cX1_difference 54 = .ok (.istore_n 2, 1) := by decide +kernel
theorem dX1_difference_55 : decode cX1_difference 55 = .ok (.iinc 3 1, 3) := by decide +kernel
theorem dX1_difference_58 : decode cX1_difference 58 = .ok (.goto (-49), 3) := by decide +kernel
theorem dX1_difference_61 : decode cX1_difference 61 = .ok (.iload_n 2, 1) := by decide +kernel
theorem dX1_difference_62 : decode cX1_difference 62 = .ok (.ireturn, 1) := by decide +kernel
set_option maxRecDepth 20000 in
theorem ggX1_matches_X1_countLike : GoodIn wsX1_matches wsX1_countLike := goodIn_r _ [6, 7, 8, 9, 5, 10, 11, 12, 13, 14, 15, 16, 17, 18, 19, 20, 21, 22, 23, 24, 25, 26, 27, 28, 29, 30, 31, 32, 33, 34, 35, 36, 37, 38, 39, 40, 41, 42, 43, 44, 45, 46, 47, 48] (by decide +kernel) (by decide +kernel)
set_option maxRecDepth 20000 in
theorem gX1_matches_X1_countLike : GoodIn wsX1_matches (wsV RX1 81 RX1 yX1_countLike wsX1_countLike) := goodIn_app (goodIn_of _ (by decide +kernel)) ggX1_matches_X1_countLike
theorem dX1_matches_0 : decode cX1_matches 0 = .ok (.aload_n 0, 1) := by decide +kernel
theorem dX1_matches_1 : decode cX1_matches 1 = .ok (.getstatic 75, 3) := by decide +kernel
theorem dX1_matches_4 : decode cX1_matches 4 = .ok (.invokevirtual 81, 3) := by decide +kernel
theorem dX1_matches_7 : decode cX1_matches 7 = .ok (.ireturn, 1) := by decide +kernel
set_option maxRecDepth 20000 in
theorem ggX1_match_X1_requireLike : GoodIn wsX1_match wsX1_requireLike := goodIn_ca (goodIn_r _ [6, 7, 8, 9, 10, 11, 5, 12, 13, 14, 15, 16, 17, 18, 19, 20, 21, 22, 23, 24, 25, 26, 27, 28, 29, 30, 31, 32, 33, 34, 35, 36, 37, 38, 39, 40, 41, 42, 43, 44, 45, 46, 47, 48, 49, 50, 51, 52, 53, 54] (by decide +kernel) (by decide +kernel)) (goodIn_sub (fun _ h => List.mem_cons_of_mem _ (List.mem_append_right _ h)) (by decide +kernel))
set_option maxRecDepth 20000 in
theorem gX1_match_X1_requireLike : GoodIn wsX1_match (wsV RX1 85 RX1 yX1_requireLike wsX1_requireLike) := goodIn_app (goodIn_of _ (by decide +kernel)) ggX1_match_X1_requireLike
theorem dX1_match_0 : decode cX1_match 0 = .ok (.aload_n 0, 1) := by decide +kernel
theorem dX1_match_1 : decode cX1_match 1 = .ok (.getstatic 75, 3) := by decide +kernel
theorem dX1_match_4 : decode cX1_match 4 = .ok (.iload_n 1, 1) := by decide +kernel
theorem dX1_match_5 : decode cX1_match 5 = .ok (.invokevirtual 85, 3) := by decide +kernel
theorem dX1_match_8 : decode cX1_match 8 = .ok (.ireturn, 1) := by decide +kernel
set_option maxRecDepth 20000 in
theorem ggX1_apart_X1_places : GoodIn wsX1_apart wsX1_places := goodIn_r _ [10, 1, 11, 25, 26, 27, 28, 29] (by decide +kernel) (by decide +kernel)
set_option maxRecDepth 20000 in
theorem gX1_apart_X1_places : GoodIn wsX1_apart (wsV RX1 89 RX1 yX1_places wsX1_places) := goodIn_app (goodIn_of _ (by decide +kernel)) ggX1_apart_X1_places
set_option maxRecDepth 20000 in
theorem ggX1_apart_X1_hasSymbols : GoodIn wsX1_apart wsX1_hasSymbols := goodIn_r _ [15, 16, 17, 18, 9, 19, 1, 20, 21, 22, 23, 24, 25, 26, 27, 28, 29] (by decide +kernel) (by decide +kernel)
set_option maxRecDepth 20000 in
theorem gX1_apart_X1_hasSymbols : GoodIn wsX1_apart (wsV RX1 98 RX1 yX1_hasSymbols wsX1_hasSymbols) := goodIn_app (goodIn_of _ (by decide +kernel)) ggX1_apart_X1_hasSymbols
theorem dX1_apart_0 : decode cX1_apart 0 = .ok (.aload_n 0, 1) := by decide +kernel
theorem dX1_apart_1 : decode cX1_apart 1 = .ok (.invokevirtual 89, 3) := by decide +kernel
theorem dX1_apart_4 : decode cX1_apart 4 = .ok (.istore_n 1, 1) := by decide +kernel
theorem dX1_apart_5 : decode cX1_apart 5 = .ok (.iconst 1, 1) := by decide +kernel
theorem dX1_apart_6 : decode cX1_apart 6 = .ok (.aload_n 0, 1) := by decide +kernel
theorem dX1_apart_7 : decode cX1_apart 7 = .ok (.getfield 23, 3) := by decide +kernel
theorem dX1_apart_10 : decode cX1_apart 10 = .ok (.invokestatic 92, 3) := by decide +kernel
theorem dX1_apart_13 : decode cX1_apart 13 = .ok (.istore_n 2, 1) := by decide +kernel
theorem dX1_apart_14 : decode cX1_apart 14 = .ok (.iconst 0, 1) := by decide +kernel
theorem dX1_apart_15 : decode cX1_apart 15 = .ok (.istore_n 3, 1) := by decide +kernel
theorem dX1_apart_16 : decode cX1_apart 16 = .ok (.iconst 0, 1) := by decide +kernel
theorem dX1_apart_17 : decode cX1_apart 17 = .ok (.istore 4, 2) := by decide +kernel
theorem dX1_apart_19 : decode cX1_apart 19 = .ok (.iload 4, 2) := by decide +kernel
theorem dX1_apart_21 : decode cX1_apart 21 = .ok (.iload_n 1, 1) := by decide +kernel
theorem dX1_apart_22 : decode cX1_apart 22 = .ok (.if_icmp .ge 30, 3) := by decide +kernel
theorem dX1_apart_25 : decode cX1_apart 25 = .ok (.aload_n 0, 1) := by decide +kernel
theorem dX1_apart_26 : decode cX1_apart 26 = .ok (.iload 4, 2) := by decide +kernel
theorem dX1_apart_28 : decode cX1_apart 28 = .ok (.invokevirtual 98, 3) := by decide +kernel
theorem dX1_apart_31 : decode cX1_apart 31 = .ok (.ifCond .eq 15, 3) := by decide +kernel
theorem dX1_apart_34 : decode cX1_apart 34 = .ok (.iinc 3 1, 3) := by decide +kernel
theorem dX1_apart_37 : decode cX1_apart 37 = .ok (.iload 4, 2) := by decide +kernel
theorem dX1_apart_39 : decode cX1_apart 39 = .ok (.iload_n 2, 1) := by decide +kernel
theorem dX1_apart_40 : decode cX1_apart 40 = .ok (.iadd, 1) := by decide +kernel
theorem dX1_apart_41 : decode cX1_apart 41 = .ok (.istore 4, 2) := by decide +kernel
theorem dX1_apart_43 : decode cX1_apart 43 = .ok (.goto (-24), 3) := by decide +kernel
theorem dX1_apart_46 : decode cX1_apart 46 = .ok (.iinc 4 1, 3) := by decide +kernel
theorem dX1_apart_49 : decode cX1_apart 49 = .ok (.goto (-30), 3) := by decide +kernel
theorem dX1_apart_52 : decode cX1_apart 52 = .ok (.iload_n 3, 1) := by decide +kernel
theorem dX1_apart_53 : decode cX1_apart 53 = .ok (.ireturn, 1) := by decide +kernel
set_option maxRecDepth 20000 in
theorem ggX1_mismatches_X1_requirePlace : GoodIn wsX1_mismatches wsX1_requirePlace := goodIn_ca (goodIn_r _ [5, 6, 7, 8, 9, 10, 4, 11, 12, 13, 23, 24, 25, 26, 27] (by decide +kernel) (by decide +kernel)) (goodIn_sub (fun _ h => List.mem_cons_of_mem _ (List.mem_append_right _ h)) (by decide +kernel))
set_option maxRecDepth 20000 in
theorem gX1_mismatches_X1_requirePlace : GoodIn wsX1_mismatches (wsV RX1 72 RX1 yX1_requirePlace wsX1_requirePlace) := goodIn_app (goodIn_of _ (by decide +kernel)) ggX1_mismatches_X1_requirePlace
set_option maxRecDepth 20000 in
theorem ggX1_mismatches_X1_countMismatches : GoodIn wsX1_mismatches wsX1_countMismatches := goodIn_r _ [17, 12, 18, 19, 20, 21, 4, 22, 23, 24, 25, 26, 27] (by decide +kernel) (by decide +kernel)
set_option maxRecDepth 20000 in
theorem gX1_mismatches_X1_countMismatches : GoodIn wsX1_mismatches (wsV RX1 102 RX1 yX1_countMismatches wsX1_countMismatches) := goodIn_app (goodIn_of _ (by decide +kernel)) ggX1_mismatches_X1_countMismatches
theorem dX1_mismatches_0 : decode cX1_mismatches 0 = .ok (.aload_n 0, 1) := by decide +kernel
theorem dX1_mismatches_1 : decode cX1_mismatches 1 = .ok (.iload_n 1, 1) := by decide +kernel
theorem dX1_mismatches_2 : decode cX1_mismatches 2 = .ok (.invokevirtual 72, 3) := by decide +kernel
theorem dX1_mismatches_5 : decode cX1_mismatches 5 = .ok (.aload_n 0, 1) := by decide +kernel
theorem dX1_mismatches_6 : decode cX1_mismatches 6 = .ok (.iload_n 1, 1) := by decide +kernel
theorem dX1_mismatches_7 : decode cX1_mismatches 7 = .ok (.invokevirtual 102, 3) := by decide +kernel
theorem dX1_mismatches_10 : decode cX1_mismatches 10 = .ok (.ireturn, 1) := by decide +kernel
set_option maxRecDepth 20000 in
theorem ggX1_mismatchesOf_X1_requirePlace : GoodIn wsX1_mismatchesOf wsX1_requirePlace := goodIn_ca (goodIn_r _ [10, 11, 12, 13, 14, 15, 9, 16, 3, 17, 21, 22, 23, 24, 25] (by decide +kernel) (by decide +kernel)) (goodIn_sub (fun _ h => List.mem_cons_of_mem _ (List.mem_append_right _ h)) (by decide +kernel))
set_option maxRecDepth 20000 in
theorem gX1_mismatchesOf_X1_requirePlace : GoodIn wsX1_mismatchesOf (wsV RX1 72 RX1 yX1_requirePlace wsX1_requirePlace) := goodIn_app (goodIn_of _ (by decide +kernel)) ggX1_mismatchesOf_X1_requirePlace
set_option maxRecDepth 20000 in
theorem ggX1_mismatchesOf_X1_agree : GoodIn wsX1_mismatchesOf wsX1_agree := goodIn_r _ [20] (by decide +kernel) (by decide +kernel)
set_option maxRecDepth 20000 in
theorem gX1_mismatchesOf_X1_agree : GoodIn wsX1_mismatchesOf (va_wsS RX1 108 yX1_agree wsX1_agree) := goodIn_app (goodIn_of _ (by decide +kernel)) ggX1_mismatchesOf_X1_agree
theorem dX1_mismatchesOf_0 : decode cX1_mismatchesOf 0 = .ok (.iload_n 2, 1) := by decide +kernel
theorem dX1_mismatchesOf_1 : decode cX1_mismatchesOf 1 = .ok (.iconst 1, 1) := by decide +kernel
theorem dX1_mismatchesOf_2 : decode cX1_mismatchesOf 2 = .ok (.if_icmp .lt 9, 3) := by decide +kernel
theorem dX1_mismatchesOf_5 : decode cX1_mismatchesOf 5 = .ok (.iload_n 2, 1) := by decide +kernel
theorem dX1_mismatchesOf_6 : decode cX1_mismatchesOf 6 = .ok (.bipush 26, 2) := by decide +kernel
theorem dX1_mismatchesOf_8 : decode cX1_mismatchesOf 8 = .ok (.if_icmp .le 13, 3) := by decide +kernel
theorem dX1_mismatchesOf_11 : decode cX1_mismatchesOf 11 = .ok (.new 37, 3) := by decide +kernel
theorem dX1_mismatchesOf_14 : decode cX1_mismatchesOf 14 = .ok (.dup, 1) := by decide +kernel
theorem dX1_mismatchesOf_15 : decode cX1_mismatchesOf 15 = .ok (.ldc 106, 2) := by decide +kernel
theorem dX1_mismatchesOf_17 : decode cX1_mismatchesOf 17 = .ok (.invokespecial 41, 3) := by decide +kernel
theorem dX1_mismatchesOf_20 : decode cX1_mismatchesOf 20 = .ok (.athrow, 1) := by decide +kernel
theorem dX1_mismatchesOf_21 : decode cX1_mismatchesOf 21 = .ok (.aload_n 0, 1) := by decide +kernel
theorem dX1_mismatchesOf_22 : decode cX1_mismatchesOf 22 = .ok (.iload_n 1, 1) := by decide +kernel
theorem dX1_mismatchesOf_23 : decode cX1_mismatchesOf 23 = .ok (.invokevirtual 72, 3) := by decide +kernel
theorem dX1_mismatchesOf_26 : decode cX1_mismatchesOf 26 = .ok (.iconst 0, 1) := by decide +kernel
theorem dX1_mismatchesOf_27 : decode cX1_mismatchesOf 27 = .ok (.istore_n 3, 1) := by decide +kernel
theorem dX1_mismatchesOf_28 : decode cX1_mismatchesOf 28 = .ok (.iconst 0, 1) := by decide +kernel
theorem dX1_mismatchesOf_29 : decode cX1_mismatchesOf 29 = .ok (.istore 4, 2) := by decide +kernel
theorem dX1_mismatchesOf_31 : decode cX1_mismatchesOf 31 = .ok (.iload 4, 2) := by decide +kernel
theorem dX1_mismatchesOf_33 : decode cX1_mismatchesOf 33 = .ok (.aload_n 0, 1) := by decide +kernel
theorem dX1_mismatchesOf_34 : decode cX1_mismatchesOf 34 = .ok (.getfield 23, 3) := by decide +kernel
theorem dX1_mismatchesOf_37 : decode cX1_mismatchesOf 37 = .ok (.if_icmp .ge 45, 3) := by decide +kernel
theorem dX1_mismatchesOf_40 : decode cX1_mismatchesOf 40 = .ok (.aload_n 0, 1) := by decide +kernel
theorem dX1_mismatchesOf_41 : decode cX1_mismatchesOf 41 = .ok (.getfield 13, 3) := by decide +kernel
theorem dX1_mismatchesOf_44 : decode cX1_mismatchesOf 44 = .ok (.iload 4, 2) := by decide +kernel
theorem dX1_mismatchesOf_46 : decode cX1_mismatchesOf 46 = .ok (.iaload, 1) := by decide +kernel
theorem dX1_mismatchesOf_47 : decode cX1_mismatchesOf 47 = .ok (.iload_n 2, 1) := by decide +kernel
theorem dX1_mismatchesOf_48 : decode cX1_mismatchesOf 48 = .ok (.if_icmp .ne 28, 3) := by decide +kernel
theorem dX1_mismatchesOf_51 : decode cX1_mismatchesOf 51 = .ok (.aload_n 0, 1) := by decide +kernel
theorem dX1_mismatchesOf_52 : decode cX1_mismatchesOf 52 = .ok (.getfield 13, 3) := by decide +kernel
theorem dX1_mismatchesOf_55 : decode cX1_mismatchesOf 55 = .ok (.iload 4, 2) := by decide +kernel
theorem dX1_mismatchesOf_57 : decode cX1_mismatchesOf 57 = .ok (.iaload, 1) := by decide +kernel
theorem dX1_mismatchesOf_58 : decode cX1_mismatchesOf 58 = .ok (.aload_n 0, 1) := by decide +kernel
theorem dX1_mismatchesOf_59 : decode cX1_mismatchesOf 59 = .ok (.getfield 9, 3) := by decide +kernel
theorem dX1_mismatchesOf_62 : decode cX1_mismatchesOf 62 = .ok (.iload_n 1, 1) := by decide +kernel
theorem dX1_mismatchesOf_63 : decode cX1_mismatchesOf 63 = .ok (.iload 4, 2) := by decide +kernel
theorem dX1_mismatchesOf_65 : decode cX1_mismatchesOf 65 = .ok (.iadd, 1) := by decide +kernel
theorem dX1_mismatchesOf_66 : decode cX1_mismatchesOf 66 = .ok (.iaload, 1) := by decide +kernel
theorem dX1_mismatchesOf_67 : decode cX1_mismatchesOf 67 = .ok (.invokestatic 108, 3) := by decide +kernel
theorem dX1_mismatchesOf_70 : decode cX1_mismatchesOf 70 = .ok (.ifCond .ne 6, 3) := by decide +kernel
theorem dX1_mismatchesOf_73 : decode cX1_mismatchesOf 73 = .ok (.iinc 3 1, 3) := by decide +kernel
theorem dX1_mismatchesOf_76 : decode cX1_mismatchesOf 76 = .ok (.iinc 4 1, 3) := by decide +kernel
theorem dX1_mismatchesOf_79 : decode cX1_mismatchesOf 79 = .ok (.goto (-48), 3) := by decide +kernel
theorem dX1_mismatchesOf_82 : decode cX1_mismatchesOf 82 = .ok (.iload_n 3, 1) := by decide +kernel
theorem dX1_mismatchesOf_83 : decode cX1_mismatchesOf 83 = .ok (.ireturn, 1) := by decide +kernel
set_option maxRecDepth 20000 in
theorem ggX1_nextMismatch_X1_requirePlace : GoodIn wsX1_nextMismatch wsX1_requirePlace := goodIn_ca (goodIn_r _ [7, 8, 9, 10, 11, 12, 6, 13, 14, 15, 25, 26, 27, 28, 29] (by decide +kernel) (by decide +kernel)) (goodIn_sub (fun _ h => List.mem_cons_of_mem _ (List.mem_append_right _ h)) (by decide +kernel))
set_option maxRecDepth 20000 in
theorem gX1_nextMismatch_X1_requirePlace : GoodIn wsX1_nextMismatch (wsV RX1 72 RX1 yX1_requirePlace wsX1_requirePlace) := goodIn_app (goodIn_of _ (by decide +kernel)) ggX1_nextMismatch_X1_requirePlace
set_option maxRecDepth 20000 in
theorem ggX1_nextMismatch_X1_firstMismatch : GoodIn wsX1_nextMismatch wsX1_firstMismatch := goodIn_r _ [19, 14, 20, 21, 22, 23, 6, 24, 25, 26, 27, 28, 29] (by decide +kernel) (by decide +kernel)
set_option maxRecDepth 20000 in
theorem gX1_nextMismatch_X1_firstMismatch : GoodIn wsX1_nextMismatch (wsV RX1 114 RX1 yX1_firstMismatch wsX1_firstMismatch) := goodIn_app (goodIn_of _ (by decide +kernel)) ggX1_nextMismatch_X1_firstMismatch
theorem dX1_nextMismatch_0 : decode cX1_nextMismatch 0 = .ok (.iload_n 2, 1) := by decide +kernel
theorem dX1_nextMismatch_1 : decode cX1_nextMismatch 1 = .ok (.ifCond .ge 13, 3) := by decide +kernel
theorem dX1_nextMismatch_4 : decode cX1_nextMismatch 4 = .ok (.new 37, 3) := by decide +kernel
theorem dX1_nextMismatch_7 : decode cX1_nextMismatch 7 = .ok (.dup, 1) := by decide +kernel
theorem dX1_nextMismatch_8 : decode cX1_nextMismatch 8 = .ok (.ldc 112, 2) := by decide +kernel
theorem dX1_nextMismatch_10 : decode cX1_nextMismatch 10 = .ok (.invokespecial 41, 3) := by decide +kernel
theorem dX1_nextMismatch_13 : decode cX1_nextMismatch 13 = .ok (.athrow, 1) := by decide +kernel
theorem dX1_nextMismatch_14 : decode cX1_nextMismatch 14 = .ok (.aload_n 0, 1) := by decide +kernel
theorem dX1_nextMismatch_15 : decode cX1_nextMismatch 15 = .ok (.iload_n 1, 1) := by decide +kernel
theorem dX1_nextMismatch_16 : decode cX1_nextMismatch 16 = .ok (.invokevirtual 72, 3) := by decide +kernel
theorem dX1_nextMismatch_19 : decode cX1_nextMismatch 19 = .ok (.aload_n 0, 1) := by decide +kernel
theorem dX1_nextMismatch_20 : decode cX1_nextMismatch 20 = .ok (.iload_n 1, 1) := by decide +kernel
theorem dX1_nextMismatch_21 : decode cX1_nextMismatch 21 = .ok (.iload_n 2, 1) := by decide +kernel
theorem dX1_nextMismatch_22 : decode cX1_nextMismatch 22 = .ok (.invokevirtual 114, 3) := by decide +kernel
theorem dX1_nextMismatch_25 : decode cX1_nextMismatch 25 = .ok (.ireturn, 1) := by decide +kernel
set_option maxRecDepth 20000 in
theorem ggX1_agreement_X1_agree : GoodIn wsX1_agreement wsX1_agree := goodIn_r _ [14] (by decide +kernel) (by decide +kernel)
set_option maxRecDepth 20000 in
theorem gX1_agreement_X1_agree : GoodIn wsX1_agreement (va_wsS RX1 108 yX1_agree wsX1_agree) := goodIn_app (goodIn_of _ (by decide +kernel)) ggX1_agreement_X1_agree
theorem dX1_agreement_0 : decode cX1_agreement 0 = .ok (.iload_n 1, 1) := by decide +kernel
theorem dX1_agreement_1 : decode cX1_agreement 1 = .ok (.ifCond .lt 11, 3) := by decide +kernel
theorem dX1_agreement_4 : decode cX1_agreement 4 = .ok (.iload_n 1, 1) := by decide +kernel
theorem dX1_agreement_5 : decode cX1_agreement 5 = .ok (.aload_n 0, 1) := by decide +kernel
theorem dX1_agreement_6 : decode cX1_agreement 6 = .ok (.getfield 19, 3) := by decide +kernel
theorem dX1_agreement_9 : decode cX1_agreement 9 = .ok (.if_icmp .le 13, 3) := by decide +kernel
theorem dX1_agreement_12 : decode cX1_agreement 12 = .ok (.new 37, 3) := by decide +kernel
theorem dX1_agreement_15 : decode cX1_agreement 15 = .ok (.dup, 1) := by decide +kernel
theorem dX1_agreement_16 : decode cX1_agreement 16 = .ok (.ldc 117, 2) := by decide +kernel
theorem dX1_agreement_18 : decode cX1_agreement 18 = .ok (.invokespecial 41, 3) := by decide +kernel
theorem dX1_agreement_21 : decode cX1_agreement 21 = .ok (.athrow, 1) := by decide +kernel
theorem dX1_agreement_22 : decode cX1_agreement 22 = .ok (.iload_n 2, 1) := by decide +kernel
theorem dX1_agreement_23 : decode cX1_agreement 23 = .ok (.ifCond .lt 11, 3) := by decide +kernel
theorem dX1_agreement_26 : decode cX1_agreement 26 = .ok (.iload_n 2, 1) := by decide +kernel
theorem dX1_agreement_27 : decode cX1_agreement 27 = .ok (.aload_n 0, 1) := by decide +kernel
theorem dX1_agreement_28 : decode cX1_agreement 28 = .ok (.getfield 23, 3) := by decide +kernel
theorem dX1_agreement_31 : decode cX1_agreement 31 = .ok (.if_icmp .le 13, 3) := by decide +kernel
theorem dX1_agreement_34 : decode cX1_agreement 34 = .ok (.new 37, 3) := by decide +kernel
theorem dX1_agreement_37 : decode cX1_agreement 37 = .ok (.dup, 1) := by decide +kernel
theorem dX1_agreement_38 : decode cX1_agreement 38 = .ok (.ldc 119, 2) := by decide +kernel
theorem dX1_agreement_40 : decode cX1_agreement 40 = .ok (.invokespecial 41, 3) := by decide +kernel
theorem dX1_agreement_43 : decode cX1_agreement 43 = .ok (.athrow, 1) := by decide +kernel
theorem dX1_agreement_44 : decode cX1_agreement 44 = .ok (.aload_n 0, 1) := by decide +kernel
theorem dX1_agreement_45 : decode cX1_agreement 45 = .ok (.getfield 19, 3) := by decide +kernel
theorem dX1_agreement_48 : decode cX1_agreement 48 = .ok (.iload_n 1, 1) := by decide +kernel
theorem dX1_agreement_49 : decode cX1_agreement 49 = .ok (.isub, 1) := by decide +kernel
theorem dX1_agreement_50 : decode cX1_agreement 50 = .ok (.aload_n 0, 1) := by decide +kernel
theorem dX1_agreement_51 : decode cX1_agreement 51 = .ok (.getfield 23, 3) := by decide +kernel
theorem dX1_agreement_54 : decode cX1_agreement 54 = .ok (.iload_n 2, 1) := by decide +kernel
theorem dX1_agreement_55 : decode cX1_agreement 55 = .ok (.isub, 1) := by decide +kernel
theorem dX1_agreement_56 : decode cX1_agreement 56 = .ok (.invokestatic 121, 3) := by decide +kernel
theorem dX1_agreement_59 : decode cX1_agreement 59 = .ok (.istore_n 3, 1) := by decide +kernel
theorem dX1_agreement_60 : decode cX1_agreement 60 = .ok (.iconst 0, 1) := by decide +kernel
theorem dX1_agreement_61 : decode cX1_agreement 61 = .ok (.istore 4, 2) := by decide +kernel
theorem dX1_agreement_63 : decode cX1_agreement 63 = .ok (.iload 4, 2) := by decide +kernel
theorem dX1_agreement_65 : decode cX1_agreement 65 = .ok (.iload_n 3, 1) := by decide +kernel
theorem dX1_agreement_66 : decode cX1_agreement 66 = .ok (.if_icmp .ge 33, 3) := by decide +kernel
theorem dX1_agreement_69 : decode cX1_agreement 69 = .ok (.aload_n 0, 1) := by decide +kernel
theorem dX1_agreement_70 : decode cX1_agreement 70 = .ok (.getfield 9, 3) := by decide +kernel
theorem dX1_agreement_73 : decode cX1_agreement 73 = .ok (.iload_n 1, 1) := by decide +kernel
theorem dX1_agreement_74 : decode cX1_agreement 74 = .ok (.iload 4, 2) := by decide +kernel
theorem dX1_agreement_76 : decode cX1_agreement 76 = .ok (.iadd, 1) := by decide +kernel
theorem dX1_agreement_77 : decode cX1_agreement 77 = .ok (.iaload, 1) := by decide +kernel
theorem dX1_agreement_78 : decode cX1_agreement 78 = .ok (.aload_n 0, 1) := by decide +kernel
theorem dX1_agreement_79 : decode cX1_agreement 79 = .ok (.getfield 13, 3) := by decide +kernel
theorem dX1_agreement_82 : decode cX1_agreement 82 = .ok (.iload_n 2, 1) := by decide +kernel
theorem dX1_agreement_83 : decode cX1_agreement 83 = .ok (.iload 4, 2) := by decide +kernel
theorem dX1_agreement_85 : decode cX1_agreement 85 = .ok (.iadd, 1) := by decide +kernel
theorem dX1_agreement_86 : decode cX1_agreement 86 = .ok (.iaload, 1) := by decide +kernel
theorem dX1_agreement_87 : decode cX1_agreement 87 = .ok (.invokestatic 108, 3) := by decide +kernel
theorem dX1_agreement_90 : decode cX1_agreement 90 = .ok (.ifCond .eq 9, 3) := by decide +kernel
theorem dX1_agreement_93 : decode cX1_agreement 93 = .ok (.iinc 4 1, 3) := by decide +kernel
theorem dX1_agreement_96 : decode cX1_agreement 96 = .ok (.goto (-33), 3) := by decide +kernel
theorem dX1_agreement_99 : decode cX1_agreement 99 = .ok (.iload 4, 2) := by decide +kernel
theorem dX1_agreement_101 : decode cX1_agreement 101 = .ok (.ireturn, 1) := by decide +kernel
set_option maxRecDepth 20000 in
theorem ggX1_within_X1_places : GoodIn wsX1_within wsX1_places := goodIn_r _ [7, 8, 9, 19, 20, 21, 22, 23] (by decide +kernel) (by decide +kernel)
set_option maxRecDepth 20000 in
theorem gX1_within_X1_places : GoodIn wsX1_within (wsV RX1 89 RX1 yX1_places wsX1_places) := goodIn_app (goodIn_of _ (by decide +kernel)) ggX1_within_X1_places
set_option maxRecDepth 20000 in
theorem ggX1_within_X1_countMismatches : GoodIn wsX1_within wsX1_countMismatches := goodIn_r _ [13, 8, 14, 15, 16, 17, 6, 18, 19, 20, 21, 22, 23] (by decide +kernel) (by decide +kernel)
set_option maxRecDepth 20000 in
theorem gX1_within_X1_countMismatches : GoodIn wsX1_within (wsV RX1 102 RX1 yX1_countMismatches wsX1_countMismatches) := goodIn_app (goodIn_of _ (by decide +kernel)) ggX1_within_X1_countMismatches
theorem dX1_within_0 : decode cX1_within 0 = .ok (.iload_n 1, 1) := by decide +kernel
theorem dX1_within_1 : decode cX1_within 1 = .ok (.ifCond .ge 13, 3) := by decide +kernel
theorem dX1_within_4 : decode cX1_within 4 = .ok (.new 37, 3) := by decide +kernel
theorem dX1_within_7 : decode cX1_within 7 = .ok (.dup, 1) := by decide +kernel
theorem dX1_within_8 : decode cX1_within 8 = .ok (.ldc 124, 2) := by decide +kernel
theorem dX1_within_10 : decode cX1_within 10 = .ok (.invokespecial 41, 3) := by decide +kernel
theorem dX1_within_13 : decode cX1_within 13 = .ok (.athrow, 1) := by decide +kernel
theorem dX1_within_14 : decode cX1_within 14 = .ok (.aload_n 0, 1) := by decide +kernel
theorem dX1_within_15 : decode cX1_within 15 = .ok (.invokevirtual 89, 3) := by decide +kernel
theorem dX1_within_18 : decode cX1_within 18 = .ok (.istore_n 2, 1) := by decide +kernel
theorem dX1_within_19 : decode cX1_within 19 = .ok (.iconst 0, 1) := by decide +kernel
theorem dX1_within_20 : decode cX1_within 20 = .ok (.istore_n 3, 1) := by decide +kernel
theorem dX1_within_21 : decode cX1_within 21 = .ok (.iconst 0, 1) := by decide +kernel
theorem dX1_within_22 : decode cX1_within 22 = .ok (.istore 4, 2) := by decide +kernel
theorem dX1_within_24 : decode cX1_within 24 = .ok (.iload 4, 2) := by decide +kernel
theorem dX1_within_26 : decode cX1_within 26 = .ok (.iload_n 2, 1) := by decide +kernel
theorem dX1_within_27 : decode cX1_within 27 = .ok (.if_icmp .ge 22, 3) := by decide +kernel
theorem dX1_within_30 : decode cX1_within 30 = .ok (.aload_n 0, 1) := by decide +kernel
theorem dX1_within_31 : decode cX1_within 31 = .ok (.iload 4, 2) := by decide +kernel
theorem dX1_within_33 : decode cX1_within 33 = .ok (.invokevirtual 102, 3) := by decide +kernel
theorem dX1_within_36 : decode cX1_within 36 = .ok (.iload_n 1, 1) := by decide +kernel
theorem dX1_within_37 : decode cX1_within 37 = .ok (.if_icmp .gt 6, 3) := by decide +kernel
theorem dX1_within_40 : decode cX1_within 40 = .ok (.iinc 3 1, 3) := by decide +kernel
theorem dX1_within_43 : decode cX1_within 43 = .ok (.iinc 4 1, 3) := by decide +kernel
theorem dX1_within_46 : decode cX1_within 46 = .ok (.goto (-22), 3) := by decide +kernel
theorem dX1_within_49 : decode cX1_within 49 = .ok (.iload_n 3, 1) := by decide +kernel
theorem dX1_within_50 : decode cX1_within 50 = .ok (.ireturn, 1) := by decide +kernel
set_option maxRecDepth 20000 in
theorem ggX1_ranked_X1_places : GoodIn wsX1_ranked wsX1_places := goodIn_r _ [8, 9, 10, 24, 25, 26, 27, 28] (by decide +kernel) (by decide +kernel)
set_option maxRecDepth 20000 in
theorem gX1_ranked_X1_places : GoodIn wsX1_ranked (wsV RX1 89 RX1 yX1_places wsX1_places) := goodIn_app (goodIn_of _ (by decide +kernel)) ggX1_ranked_X1_places
set_option maxRecDepth 20000 in
theorem ggX1_ranked_X1_countMismatches : GoodIn wsX1_ranked wsX1_countMismatches := goodIn_r _ [14, 9, 15, 16, 17, 18, 7, 19, 24, 25, 26, 27, 28] (by decide +kernel) (by decide +kernel)
set_option maxRecDepth 20000 in
theorem gX1_ranked_X1_countMismatches : GoodIn wsX1_ranked (wsV RX1 102 RX1 yX1_countMismatches wsX1_countMismatches) := goodIn_app (goodIn_of _ (by decide +kernel)) ggX1_ranked_X1_countMismatches
set_option maxRecDepth 20000 in
theorem ggX1_ranked_X1_placeOfRank : GoodIn wsX1_ranked wsX1_placeOfRank := goodIn_r _ [23, 9, 3, 24, 25, 26, 27, 28] (by decide +kernel) (by decide +kernel)
set_option maxRecDepth 20000 in
theorem gX1_ranked_X1_placeOfRank : GoodIn wsX1_ranked (wsV RX1 128 RX1 yX1_placeOfRank wsX1_placeOfRank) := goodIn_app (goodIn_of _ (by decide +kernel)) ggX1_ranked_X1_placeOfRank
theorem dX1_ranked_0 : decode cX1_ranked 0 = .ok (.aload_n 0, 1) := by decide +kernel
theorem dX1_ranked_1 : decode cX1_ranked 1 = .ok (.invokevirtual 89, 3) := by decide +kernel
theorem dX1_ranked_4 : decode cX1_ranked 4 = .ok (.istore_n 2, 1) := by decide +kernel
theorem dX1_ranked_5 : decode cX1_ranked 5 = .ok (.iload_n 1, 1) := by decide +kernel
theorem dX1_ranked_6 : decode cX1_ranked 6 = .ok (.ifCond .lt 8, 3) := by decide +kernel
theorem dX1_ranked_9 : decode cX1_ranked 9 = .ok (.iload_n 1, 1) := by decide +kernel
theorem dX1_ranked_10 : decode cX1_ranked 10 = .ok (.iload_n 2, 1) := by decide +kernel
theorem dX1_ranked_11 : decode cX1_ranked 11 = .ok (.if_icmp .lt 13, 3) := by decide +kernel
theorem dX1_ranked_14 : decode cX1_ranked 14 = .ok (.new 54, 3) := by decide +kernel
theorem dX1_ranked_17 : decode cX1_ranked 17 = .ok (.dup, 1) := by decide +kernel
theorem dX1_ranked_18 : decode cX1_ranked 18 = .ok (.ldc 126, 2) := by decide +kernel
theorem dX1_ranked_20 : decode cX1_ranked 20 = .ok (.invokespecial 58, 3) := by decide +kernel
theorem dX1_ranked_23 : decode cX1_ranked 23 = .ok (.athrow, 1) := by decide +kernel
theorem dX1_ranked_24 : decode cX1_ranked 24 = .ok (.iconst 0, 1) := by decide +kernel
theorem dX1_ranked_25 : decode cX1_ranked 25 = .ok (.istore_n 3, 1) := by decide +kernel
theorem dX1_ranked_26 : decode cX1_ranked 26 = .ok (.iload_n 3, 1) := by decide +kernel
theorem dX1_ranked_27 : decode cX1_ranked 27 = .ok (.iload_n 2, 1) := by decide +kernel
theorem dX1_ranked_28 : decode cX1_ranked 28 = .ok (.if_icmp .ge 20, 3) := by decide +kernel
theorem dX1_ranked_31 : decode cX1_ranked 31 = .ok (.aload_n 0, 1) := by decide +kernel
theorem dX1_ranked_32 : decode cX1_ranked 32 = .ok (.getfield 16, 3) := by decide +kernel
theorem dX1_ranked_35 : decode cX1_ranked 35 = .ok (.iload_n 3, 1) := by decide +kernel
theorem dX1_ranked_36 : decode cX1_ranked 36 = .ok (.aload_n 0, 1) := by decide +kernel
theorem dX1_ranked_37 : decode cX1_ranked 37 = .ok (.iload_n 3, 1) := by decide +kernel
theorem dX1_ranked_38 : decode cX1_ranked 38 = .ok (.invokevirtual 102, 3) := by decide +kernel
theorem dX1_ranked_41 : decode cX1_ranked 41 = .ok (.iastore, 1) := by decide +kernel
theorem dX1_ranked_42 : decode cX1_ranked 42 = .ok (.iinc 3 1, 3) := by decide +kernel
theorem dX1_ranked_45 : decode cX1_ranked 45 = .ok (.goto (-19), 3) := by decide +kernel
theorem dX1_ranked_48 : decode cX1_ranked 48 = .ok (.aload_n 0, 1) := by decide +kernel
theorem dX1_ranked_49 : decode cX1_ranked 49 = .ok (.iload_n 1, 1) := by decide +kernel
theorem dX1_ranked_50 : decode cX1_ranked 50 = .ok (.iload_n 2, 1) := by decide +kernel
theorem dX1_ranked_51 : decode cX1_ranked 51 = .ok (.invokevirtual 128, 3) := by decide +kernel
theorem dX1_ranked_54 : decode cX1_ranked 54 = .ok (.ireturn, 1) := by decide +kernel
set_option maxRecDepth 20000 in
theorem ggX1_bestLetter_X1_requirePatternIndex : GoodIn wsX1_bestLetter wsX1_requirePatternIndex := goodIn_ca (goodIn_r _ [5, 6, 7, 8, 19, 20, 21, 22, 23] (by decide +kernel) (by decide +kernel)) (goodIn_sub (fun _ h => List.mem_cons_of_mem _ (List.mem_append_right _ h)) (by decide +kernel))
set_option maxRecDepth 20000 in
theorem gX1_bestLetter_X1_requirePatternIndex : GoodIn wsX1_bestLetter (wsV RX1 61 RX1 yX1_requirePatternIndex wsX1_requirePatternIndex) := goodIn_app (goodIn_of _ (by decide +kernel)) ggX1_bestLetter_X1_requirePatternIndex
set_option maxRecDepth 20000 in
theorem ggX1_bestLetter_X1_countLetter : GoodIn wsX1_bestLetter wsX1_countLetter := goodIn_r _ [12, 13, 14, 15, 16, 4, 17, 8, 18, 19, 20, 21, 22, 23] (by decide +kernel) (by decide +kernel)
set_option maxRecDepth 20000 in
theorem gX1_bestLetter_X1_countLetter : GoodIn wsX1_bestLetter (wsV RX1 131 RX1 yX1_countLetter wsX1_countLetter) := goodIn_app (goodIn_of _ (by decide +kernel)) ggX1_bestLetter_X1_countLetter
theorem dX1_bestLetter_0 : decode cX1_bestLetter 0 = .ok (.aload_n 0, 1) := by decide +kernel
theorem dX1_bestLetter_1 : decode cX1_bestLetter 1 = .ok (.iload_n 1, 1) := by decide +kernel
theorem dX1_bestLetter_2 : decode cX1_bestLetter 2 = .ok (.invokevirtual 61, 3) := by decide +kernel
theorem dX1_bestLetter_5 : decode cX1_bestLetter 5 = .ok (.iconst 1, 1) := by decide +kernel
theorem dX1_bestLetter_6 : decode cX1_bestLetter 6 = .ok (.istore_n 2, 1) := by decide +kernel
theorem dX1_bestLetter_7 : decode cX1_bestLetter 7 = .ok (.aload_n 0, 1) := by decide +kernel
theorem dX1_bestLetter_8 : decode cX1_bestLetter 8 = .ok (.iload_n 1, 1) := by decide +kernel
theorem dX1_bestLetter_9 : decode cX1_bestLetter 9 = .ok (.iload_n 2, 1) := by decide +kernel
theorem dX1_bestLetter_10 : decode cX1_bestLetter 10 = .ok (.invokevirtual 131, 3) := by decide +kernel
theorem dX1_bestLetter_13 : decode cX1_bestLetter 13 = .ok (.istore_n 3, 1) := by decide +kernel
theorem dX1_bestLetter_14 : decode cX1_bestLetter 14 = .ok (.iconst 2, 1) := by decide +kernel
theorem dX1_bestLetter_15 : decode cX1_bestLetter 15 = .ok (.istore 4, 2) := by decide +kernel
theorem dX1_bestLetter_17 : decode cX1_bestLetter 17 = .ok (.iload 4, 2) := by decide +kernel
theorem dX1_bestLetter_19 : decode cX1_bestLetter 19 = .ok (.bipush 26, 2) := by decide +kernel
theorem dX1_bestLetter_21 : decode cX1_bestLetter 21 = .ok (.if_icmp .gt 30, 3) := by decide +kernel
theorem dX1_bestLetter_24 : decode cX1_bestLetter 24 = .ok (.aload_n 0, 1) := by decide +kernel
theorem dX1_bestLetter_25 : decode cX1_bestLetter 25 = .ok (.iload_n 1, 1) := by decide +kernel
theorem dX1_bestLetter_26 : decode cX1_bestLetter 26 = .ok (.iload 4, 2) := by decide +kernel
theorem dX1_bestLetter_28 : decode cX1_bestLetter 28 = .ok (.invokevirtual 131, 3) := by decide +kernel
theorem dX1_bestLetter_31 : decode cX1_bestLetter 31 = .ok (.istore 5, 2) := by decide +kernel
theorem dX1_bestLetter_33 : decode cX1_bestLetter 33 = .ok (.iload 5, 2) := by decide +kernel
theorem dX1_bestLetter_35 : decode cX1_bestLetter 35 = .ok (.iload_n 3, 1) := by decide +kernel
theorem dX1_bestLetter_36 : decode cX1_bestLetter 36 = .ok (.if_icmp .le 9, 3) := by decide +kernel
theorem dX1_bestLetter_39 : decode cX1_bestLetter 39 = .ok (.iload 4, 2) := by decide +kernel
theorem dX1_bestLetter_41 : decode cX1_bestLetter 41 = .ok (.istore_n 2, 1) := by decide +kernel
theorem dX1_bestLetter_42 : decode cX1_bestLetter 42 = .ok (.iload 5, 2) := by decide +kernel
theorem dX1_bestLetter_44 : decode cX1_bestLetter 44 = .ok (.istore_n 3, 1) := by decide +kernel
theorem dX1_bestLetter_45 : decode cX1_bestLetter 45 = .ok (.iinc 4 1, 3) := by decide +kernel
theorem dX1_bestLetter_48 : decode cX1_bestLetter 48 = .ok (.goto (-31), 3) := by decide +kernel
theorem dX1_bestLetter_51 : decode cX1_bestLetter 51 = .ok (.iload_n 2, 1) := by decide +kernel
theorem dX1_bestLetter_52 : decode cX1_bestLetter 52 = .ok (.ireturn, 1) := by decide +kernel
set_option maxRecDepth 20000 in
theorem ggX1_sumMatches_X1_countLike : GoodIn wsX1_sumMatches wsX1_countLike := goodIn_r _ [6, 7, 8, 9, 5, 10, 11, 12, 13, 14, 15, 16, 1, 17, 18, 19, 20, 21, 22, 23, 24, 25, 26, 27, 28, 29, 30, 31, 32, 33, 34, 35, 36, 37, 38, 39, 40, 41, 42, 43, 44, 45, 46, 47] (by decide +kernel) (by decide +kernel)
set_option maxRecDepth 20000 in
theorem gX1_sumMatches_X1_countLike : GoodIn wsX1_sumMatches (wsV RX1 81 RX1 yX1_countLike wsX1_countLike) := goodIn_app (goodIn_of _ (by decide +kernel)) ggX1_sumMatches_X1_countLike
theorem dX1_sumMatches_0 : decode cX1_sumMatches 0 = .ok (.aload_n 0, 1) := by decide +kernel
theorem dX1_sumMatches_1 : decode cX1_sumMatches 1 = .ok (.getstatic 134, 3) := by decide +kernel
theorem dX1_sumMatches_4 : decode cX1_sumMatches 4 = .ok (.invokevirtual 81, 3) := by decide +kernel
theorem dX1_sumMatches_7 : decode cX1_sumMatches 7 = .ok (.ireturn, 1) := by decide +kernel
set_option maxRecDepth 20000 in
theorem ggX1_sumMatch_X1_requireLike : GoodIn wsX1_sumMatch wsX1_requireLike := goodIn_ca (goodIn_r _ [6, 7, 8, 9, 10, 11, 5, 12, 13, 14, 15, 16, 17, 18, 19, 20, 21, 22, 1, 23, 24, 25, 26, 27, 28, 29, 30, 31, 32, 33, 34, 35, 36, 37, 38, 39, 40, 41, 42, 43, 44, 45, 46, 47, 48, 49, 50, 51, 52, 53] (by decide +kernel) (by decide +kernel)) (goodIn_sub (fun _ h => List.mem_cons_of_mem _ (List.mem_append_right _ h)) (by decide +kernel))
set_option maxRecDepth 20000 in
theorem gX1_sumMatch_X1_requireLike : GoodIn wsX1_sumMatch (wsV RX1 85 RX1 yX1_requireLike wsX1_requireLike) := goodIn_app (goodIn_of _ (by decide +kernel)) ggX1_sumMatch_X1_requireLike
theorem dX1_sumMatch_0 : decode cX1_sumMatch 0 = .ok (.aload_n 0, 1) := by decide +kernel
theorem dX1_sumMatch_1 : decode cX1_sumMatch 1 = .ok (.getstatic 134, 3) := by decide +kernel
theorem dX1_sumMatch_4 : decode cX1_sumMatch 4 = .ok (.iload_n 1, 1) := by decide +kernel
theorem dX1_sumMatch_5 : decode cX1_sumMatch 5 = .ok (.invokevirtual 85, 3) := by decide +kernel
theorem dX1_sumMatch_8 : decode cX1_sumMatch 8 = .ok (.ireturn, 1) := by decide +kernel
set_option maxRecDepth 20000 in
theorem ggX1_orderMatches_X1_countLike : GoodIn wsX1_orderMatches wsX1_countLike := goodIn_r _ [6, 7, 8, 9, 5, 10, 11, 12, 13, 14, 15, 16, 17, 1, 18, 19, 20, 21, 22, 23, 24, 25, 26, 27, 28, 29, 30, 31, 32, 33, 34, 35, 36, 37, 38, 39, 40, 41, 42, 43, 44, 45, 46, 47] (by decide +kernel) (by decide +kernel)
set_option maxRecDepth 20000 in
theorem gX1_orderMatches_X1_countLike : GoodIn wsX1_orderMatches (wsV RX1 81 RX1 yX1_countLike wsX1_countLike) := goodIn_app (goodIn_of _ (by decide +kernel)) ggX1_orderMatches_X1_countLike
theorem dX1_orderMatches_0 : decode cX1_orderMatches 0 = .ok (.aload_n 0, 1) := by decide +kernel
theorem dX1_orderMatches_1 : decode cX1_orderMatches 1 = .ok (.getstatic 137, 3) := by decide +kernel
theorem dX1_orderMatches_4 : decode cX1_orderMatches 4 = .ok (.invokevirtual 81, 3) := by decide +kernel
theorem dX1_orderMatches_7 : decode cX1_orderMatches 7 = .ok (.ireturn, 1) := by decide +kernel
set_option maxRecDepth 20000 in
theorem ggX1_orderMatch_X1_requireLike : GoodIn wsX1_orderMatch wsX1_requireLike := goodIn_ca (goodIn_r _ [6, 7, 8, 9, 10, 11, 5, 12, 13, 14, 15, 16, 17, 18, 19, 20, 21, 22, 23, 1, 24, 25, 26, 27, 28, 29, 30, 31, 32, 33, 34, 35, 36, 37, 38, 39, 40, 41, 42, 43, 44, 45, 46, 47, 48, 49, 50, 51, 52, 53] (by decide +kernel) (by decide +kernel)) (goodIn_sub (fun _ h => List.mem_cons_of_mem _ (List.mem_append_right _ h)) (by decide +kernel))
set_option maxRecDepth 20000 in
theorem gX1_orderMatch_X1_requireLike : GoodIn wsX1_orderMatch (wsV RX1 85 RX1 yX1_requireLike wsX1_requireLike) := goodIn_app (goodIn_of _ (by decide +kernel)) ggX1_orderMatch_X1_requireLike
theorem dX1_orderMatch_0 : decode cX1_orderMatch 0 = .ok (.aload_n 0, 1) := by decide +kernel
theorem dX1_orderMatch_1 : decode cX1_orderMatch 1 = .ok (.getstatic 137, 3) := by decide +kernel
theorem dX1_orderMatch_4 : decode cX1_orderMatch 4 = .ok (.iload_n 1, 1) := by decide +kernel
theorem dX1_orderMatch_5 : decode cX1_orderMatch 5 = .ok (.invokevirtual 85, 3) := by decide +kernel
theorem dX1_orderMatch_8 : decode cX1_orderMatch 8 = .ok (.ireturn, 1) := by decide +kernel
set_option maxRecDepth 20000 in
theorem ggX1_hasPeriod_X1_repeatsAfter : GoodIn wsX1_hasPeriod wsX1_repeatsAfter := goodIn_r _ [7, 8, 9, 10, 11, 6, 12, 13, 14, 15, 16, 17] (by decide +kernel) (by decide +kernel)
set_option maxRecDepth 20000 in
theorem gX1_hasPeriod_X1_repeatsAfter : GoodIn wsX1_hasPeriod (wsV RX1 142 RX1 yX1_repeatsAfter wsX1_repeatsAfter) := goodIn_app (goodIn_of _ (by decide +kernel)) ggX1_hasPeriod_X1_repeatsAfter
theorem dX1_hasPeriod_0 : decode cX1_hasPeriod 0 = .ok (.iload_n 1, 1) := by decide +kernel
theorem dX1_hasPeriod_1 : decode cX1_hasPeriod 1 = .ok (.iconst 1, 1) := by decide +kernel
theorem dX1_hasPeriod_2 : decode cX1_hasPeriod 2 = .ok (.if_icmp .ge 13, 3) := by decide +kernel
theorem dX1_hasPeriod_5 : decode cX1_hasPeriod 5 = .ok (.new 37, 3) := by decide +kernel
theorem dX1_hasPeriod_8 : decode cX1_hasPeriod 8 = .ok (.dup, 1) := by decide +kernel
theorem dX1_hasPeriod_9 : decode cX1_hasPeriod 9 = .ok (.ldc 140, 2) := by decide +kernel
theorem dX1_hasPeriod_11 : decode cX1_hasPeriod 11 = .ok (.invokespecial 41, 3) := by decide +kernel
theorem dX1_hasPeriod_14 : decode cX1_hasPeriod 14 = .ok (.athrow, 1) := by decide +kernel
theorem dX1_hasPeriod_15 : decode cX1_hasPeriod 15 = .ok (.aload_n 0, 1) := by decide +kernel
theorem dX1_hasPeriod_16 : decode cX1_hasPeriod 16 = .ok (.iload_n 1, 1) := by decide +kernel
theorem dX1_hasPeriod_17 : decode cX1_hasPeriod 17 = .ok (.invokevirtual 142, 3) := by decide +kernel
theorem dX1_hasPeriod_20 : decode cX1_hasPeriod 20 = .ok (.ireturn, 1) := by decide +kernel
set_option maxRecDepth 20000 in
theorem ggX1_leastPeriod_X1_repeatsAfter : GoodIn wsX1_leastPeriod wsX1_repeatsAfter := goodIn_r _ [10, 1, 11, 12, 13, 9, 14, 15, 16, 17, 18, 19] (by decide +kernel) (by decide +kernel)
set_option maxRecDepth 20000 in
theorem gX1_leastPeriod_X1_repeatsAfter : GoodIn wsX1_leastPeriod (wsV RX1 142 RX1 yX1_repeatsAfter wsX1_repeatsAfter) := goodIn_app (goodIn_of _ (by decide +kernel)) ggX1_leastPeriod_X1_repeatsAfter
theorem dX1_leastPeriod_0 : decode cX1_leastPeriod 0 = .ok (.iconst 1, 1) := by decide +kernel
theorem dX1_leastPeriod_1 : decode cX1_leastPeriod 1 = .ok (.istore_n 1, 1) := by decide +kernel
theorem dX1_leastPeriod_2 : decode cX1_leastPeriod 2 = .ok (.iload_n 1, 1) := by decide +kernel
theorem dX1_leastPeriod_3 : decode cX1_leastPeriod 3 = .ok (.aload_n 0, 1) := by decide +kernel
theorem dX1_leastPeriod_4 : decode cX1_leastPeriod 4 = .ok (.getfield 19, 3) := by decide +kernel
theorem dX1_leastPeriod_7 : decode cX1_leastPeriod 7 = .ok (.if_icmp .ge 19, 3) := by decide +kernel
theorem dX1_leastPeriod_10 : decode cX1_leastPeriod 10 = .ok (.aload_n 0, 1) := by decide +kernel
theorem dX1_leastPeriod_11 : decode cX1_leastPeriod 11 = .ok (.iload_n 1, 1) := by decide +kernel
theorem dX1_leastPeriod_12 : decode cX1_leastPeriod 12 = .ok (.invokevirtual 142, 3) := by decide +kernel
theorem dX1_leastPeriod_15 : decode cX1_leastPeriod 15 = .ok (.ifCond .eq 5, 3) := by decide +kernel
theorem dX1_leastPeriod_18 : decode cX1_leastPeriod 18 = .ok (.iload_n 1, 1) := by decide +kernel
theorem dX1_leastPeriod_19 : decode cX1_leastPeriod 19 = .ok (.ireturn, 1) := by decide +kernel
theorem dX1_leastPeriod_20 : decode cX1_leastPeriod 20 = .ok (.iinc 1 1, 3) := by decide +kernel
theorem dX1_leastPeriod_23 : decode cX1_leastPeriod 23 = .ok (.goto (-21), 3) := by decide +kernel
theorem dX1_leastPeriod_26 : decode cX1_leastPeriod 26 = .ok (.iconst 1, 1) := by decide +kernel
theorem dX1_leastPeriod_27 : decode cX1_leastPeriod 27 = .ok (.aload_n 0, 1) := by decide +kernel
theorem dX1_leastPeriod_28 : decode cX1_leastPeriod 28 = .ok (.getfield 19, 3) := by decide +kernel
theorem dX1_leastPeriod_31 : decode cX1_leastPeriod 31 = .ok (.invokestatic 92, 3) := by decide +kernel
theorem dX1_leastPeriod_34 : decode cX1_leastPeriod 34 = .ok (.ireturn, 1) := by decide +kernel
theorem dX1_requireSymbol_0 : decode cX1_requireSymbol 0 = .ok (.iload_n 0, 1) := by decide +kernel
theorem dX1_requireSymbol_1 : decode cX1_requireSymbol 1 = .ok (.ifCond .lt 9, 3) := by decide +kernel
theorem dX1_requireSymbol_4 : decode cX1_requireSymbol 4 = .ok (.iload_n 0, 1) := by decide +kernel
theorem dX1_requireSymbol_5 : decode cX1_requireSymbol 5 = .ok (.bipush 26, 2) := by decide +kernel
theorem dX1_requireSymbol_7 : decode cX1_requireSymbol 7 = .ok (.if_icmp .le 13, 3) := by decide +kernel
theorem dX1_requireSymbol_10 : decode cX1_requireSymbol 10 = .ok (.new 37, 3) := by decide +kernel
theorem dX1_requireSymbol_13 : decode cX1_requireSymbol 13 = .ok (.dup, 1) := by decide +kernel
theorem dX1_requireSymbol_14 : decode cX1_requireSymbol 14 = .ok (.ldc 145, 2) := by decide +kernel
theorem dX1_requireSymbol_16 : decode cX1_requireSymbol 16 = .ok (.invokespecial 41, 3) := by decide +kernel
theorem dX1_requireSymbol_19 : decode cX1_requireSymbol 19 = .ok (.athrow, 1) := by decide +kernel
theorem dX1_requireSymbol_20 : decode cX1_requireSymbol 20 = .ok (.return_, 1) := by decide +kernel
theorem dX1_requirePatternIndex_0 : decode cX1_requirePatternIndex 0 = .ok (.iload_n 1, 1) := by decide +kernel
theorem dX1_requirePatternIndex_1 : decode cX1_requirePatternIndex 1 = .ok (.ifCond .lt 11, 3) := by decide +kernel
theorem dX1_requirePatternIndex_4 : decode cX1_requirePatternIndex 4 = .ok (.iload_n 1, 1) := by decide +kernel
theorem dX1_requirePatternIndex_5 : decode cX1_requirePatternIndex 5 = .ok (.aload_n 0, 1) := by decide +kernel
theorem dX1_requirePatternIndex_6 : decode cX1_requirePatternIndex 6 = .ok (.getfield 23, 3) := by decide +kernel
theorem dX1_requirePatternIndex_9 : decode cX1_requirePatternIndex 9 = .ok (.if_icmp .lt 13, 3) := by decide +kernel
theorem dX1_requirePatternIndex_12 : decode cX1_requirePatternIndex 12 = .ok (.new 54, 3) := by decide +kernel
theorem dX1_requirePatternIndex_15 : decode cX1_requirePatternIndex 15 = .ok (.dup, 1) := by decide +kernel
theorem dX1_requirePatternIndex_16 : decode cX1_requirePatternIndex 16 = .ok (.ldc 147, 2) := by decide +kernel
theorem dX1_requirePatternIndex_18 : decode cX1_requirePatternIndex 18 = .ok (.invokespecial 58, 3) := by decide +kernel
theorem dX1_requirePatternIndex_21 : decode cX1_requirePatternIndex 21 = .ok (.athrow, 1) := by decide +kernel
theorem dX1_requirePatternIndex_22 : decode cX1_requirePatternIndex 22 = .ok (.return_, 1) := by decide +kernel
theorem dX1_requirePartOfText_0 : decode cX1_requirePartOfText 0 = .ok (.iload_n 1, 1) := by decide +kernel
theorem dX1_requirePartOfText_1 : decode cX1_requirePartOfText 1 = .ok (.ifCond .lt 13, 3) := by decide +kernel
theorem dX1_requirePartOfText_4 : decode cX1_requirePartOfText 4 = .ok (.iload_n 1, 1) := by decide +kernel
theorem dX1_requirePartOfText_5 : decode cX1_requirePartOfText 5 = .ok (.aload_n 0, 1) := by decide +kernel
theorem dX1_requirePartOfText_6 : decode cX1_requirePartOfText 6 = .ok (.getfield 19, 3) := by decide +kernel
theorem dX1_requirePartOfText_9 : decode cX1_requirePartOfText 9 = .ok (.iload_n 2, 1) := by decide +kernel
theorem dX1_requirePartOfText_10 : decode cX1_requirePartOfText 10 = .ok (.isub, 1) := by decide +kernel
theorem dX1_requirePartOfText_11 : decode cX1_requirePartOfText 11 = .ok (.if_icmp .le 13, 3) := by decide +kernel
theorem dX1_requirePartOfText_14 : decode cX1_requirePartOfText 14 = .ok (.new 54, 3) := by decide +kernel
theorem dX1_requirePartOfText_17 : decode cX1_requirePartOfText 17 = .ok (.dup, 1) := by decide +kernel
theorem dX1_requirePartOfText_18 : decode cX1_requirePartOfText 18 = .ok (.ldc 149, 2) := by decide +kernel
theorem dX1_requirePartOfText_20 : decode cX1_requirePartOfText 20 = .ok (.invokespecial 58, 3) := by decide +kernel
theorem dX1_requirePartOfText_23 : decode cX1_requirePartOfText 23 = .ok (.athrow, 1) := by decide +kernel
theorem dX1_requirePartOfText_24 : decode cX1_requirePartOfText 24 = .ok (.return_, 1) := by decide +kernel
set_option maxRecDepth 20000 in
theorem ggX1_requirePlace_X1_places : GoodIn wsX1_requirePlace wsX1_places := goodIn_r _ [7, 8, 9, 10, 11, 12, 13, 14] (by decide +kernel) (by decide +kernel)
set_option maxRecDepth 20000 in
theorem gX1_requirePlace_X1_places : GoodIn wsX1_requirePlace (wsV RX1 89 RX1 yX1_places wsX1_places) := goodIn_app (goodIn_of _ (by decide +kernel)) ggX1_requirePlace_X1_places
theorem dX1_requirePlace_0 : decode cX1_requirePlace 0 = .ok (.iload_n 1, 1) := by decide +kernel
theorem dX1_requirePlace_1 : decode cX1_requirePlace 1 = .ok (.ifCond .lt 11, 3) := by decide +kernel
theorem dX1_requirePlace_4 : decode cX1_requirePlace 4 = .ok (.iload_n 1, 1) := by decide +kernel
theorem dX1_requirePlace_5 : decode cX1_requirePlace 5 = .ok (.aload_n 0, 1) := by decide +kernel
theorem dX1_requirePlace_6 : decode cX1_requirePlace 6 = .ok (.invokevirtual 89, 3) := by decide +kernel
theorem dX1_requirePlace_9 : decode cX1_requirePlace 9 = .ok (.if_icmp .lt 13, 3) := by decide +kernel
theorem dX1_requirePlace_12 : decode cX1_requirePlace 12 = .ok (.new 54, 3) := by decide +kernel
theorem dX1_requirePlace_15 : decode cX1_requirePlace 15 = .ok (.dup, 1) := by decide +kernel
theorem dX1_requirePlace_16 : decode cX1_requirePlace 16 = .ok (.ldc 151, 2) := by decide +kernel
theorem dX1_requirePlace_18 : decode cX1_requirePlace 18 = .ok (.invokespecial 58, 3) := by decide +kernel
theorem dX1_requirePlace_21 : decode cX1_requirePlace 21 = .ok (.athrow, 1) := by decide +kernel
theorem dX1_requirePlace_22 : decode cX1_requirePlace 22 = .ok (.return_, 1) := by decide +kernel
set_option maxRecDepth 20000 in
theorem ggX1_requireLike_X1_findLike : GoodIn wsX1_requireLike wsX1_findLike := goodIn_r _ [7, 8, 9, 10, 6, 11, 12, 13, 14, 15, 16, 17, 18, 19, 20, 21, 22, 23, 24, 25, 26, 27, 28, 29, 30, 31, 32, 33, 34, 35, 36, 37, 38, 39, 40, 41, 42, 43, 44, 45, 46, 47, 48, 49] (by decide +kernel) (by decide +kernel)
set_option maxRecDepth 20000 in
theorem gX1_requireLike_X1_findLike : GoodIn wsX1_requireLike (wsV RX1 153 RX1 yX1_findLike wsX1_findLike) := goodIn_app (goodIn_of _ (by decide +kernel)) ggX1_requireLike_X1_findLike
theorem dX1_requireLike_0 : decode cX1_requireLike 0 = .ok (.aload_n 0, 1) := by decide +kernel
theorem dX1_requireLike_1 : decode cX1_requireLike 1 = .ok (.aload_n 1, 1) := by decide +kernel
theorem dX1_requireLike_2 : decode cX1_requireLike 2 = .ok (.iload_n 2, 1) := by decide +kernel
theorem dX1_requireLike_3 : decode cX1_requireLike 3 = .ok (.invokevirtual 153, 3) := by decide +kernel
theorem dX1_requireLike_6 : decode cX1_requireLike 6 = .ok (.istore_n 3, 1) := by decide +kernel
theorem dX1_requireLike_7 : decode cX1_requireLike 7 = .ok (.iload_n 3, 1) := by decide +kernel
theorem dX1_requireLike_8 : decode cX1_requireLike 8 = .ok (.iconst (-1), 1) := by decide +kernel
theorem dX1_requireLike_9 : decode cX1_requireLike 9 = .ok (.if_icmp .ne 13, 3) := by decide +kernel
theorem dX1_requireLike_12 : decode cX1_requireLike 12 = .ok (.new 54, 3) := by decide +kernel
theorem dX1_requireLike_15 : decode cX1_requireLike 15 = .ok (.dup, 1) := by decide +kernel
theorem dX1_requireLike_16 : decode cX1_requireLike 16 = .ok (.ldc 156, 2) := by decide +kernel
theorem dX1_requireLike_18 : decode cX1_requireLike 18 = .ok (.invokespecial 58, 3) := by decide +kernel
theorem dX1_requireLike_21 : decode cX1_requireLike 21 = .ok (.athrow, 1) := by decide +kernel
theorem dX1_requireLike_22 : decode cX1_requireLike 22 = .ok (.iload_n 3, 1) := by decide +kernel
theorem dX1_requireLike_23 : decode cX1_requireLike 23 = .ok (.ireturn, 1) := by decide +kernel
set_option maxRecDepth 20000 in
theorem ggX1_countLike_X1_places : GoodIn wsX1_countLike wsX1_places := goodIn_r _ [5, 6, 7, 39, 40, 41, 42, 43] (by decide +kernel) (by decide +kernel)
set_option maxRecDepth 20000 in
theorem gX1_countLike_X1_places : GoodIn wsX1_countLike (wsV RX1 89 RX1 yX1_places wsX1_places) := goodIn_app (goodIn_of _ (by decide +kernel)) ggX1_countLike_X1_places
set_option maxRecDepth 20000 in
theorem ggX1_countLike_X1_isLike : GoodIn wsX1_countLike wsX1_isLike := goodIn_r _ [11, 12, 13, 14, 15, 16, 4, 17, 6, 18, 19, 20, 21, 22, 23, 24, 25, 26, 27, 28, 29, 30, 31, 32, 33, 34, 35, 36, 37, 38, 39, 40, 41, 42, 43] (by decide +kernel) (by decide +kernel)
set_option maxRecDepth 20000 in
theorem gX1_countLike_X1_isLike : GoodIn wsX1_countLike (wsV RX1 158 RX1 yX1_isLike wsX1_isLike) := goodIn_app (goodIn_of _ (by decide +kernel)) ggX1_countLike_X1_isLike
theorem dX1_countLike_0 : decode cX1_countLike 0 = .ok (.aload_n 0, 1) := by decide +kernel
theorem dX1_countLike_1 : decode cX1_countLike 1 = .ok (.invokevirtual 89, 3) := by decide +kernel
theorem dX1_countLike_4 : decode cX1_countLike 4 = .ok (.istore_n 2, 1) := by decide +kernel
theorem dX1_countLike_5 : decode cX1_countLike 5 = .ok (.iconst 0, 1) := by decide +kernel
theorem dX1_countLike_6 : decode cX1_countLike 6 = .ok (.istore_n 3, 1) := by decide +kernel
theorem dX1_countLike_7 : decode cX1_countLike 7 = .ok (.iconst 0, 1) := by decide +kernel
theorem dX1_countLike_8 : decode cX1_countLike 8 = .ok (.istore 4, 2) := by decide +kernel
theorem dX1_countLike_10 : decode cX1_countLike 10 = .ok (.iload 4, 2) := by decide +kernel
theorem dX1_countLike_12 : decode cX1_countLike 12 = .ok (.iload_n 2, 1) := by decide +kernel
theorem dX1_countLike_13 : decode cX1_countLike 13 = .ok (.if_icmp .ge 22, 3) := by decide +kernel
theorem dX1_countLike_16 : decode cX1_countLike 16 = .ok (.aload_n 0, 1) := by decide +kernel
theorem dX1_countLike_17 : decode cX1_countLike 17 = .ok (.aload_n 1, 1) := by decide +kernel
theorem dX1_countLike_18 : decode cX1_countLike 18 = .ok (.iload 4, 2) := by decide +kernel
theorem dX1_countLike_20 : decode cX1_countLike 20 = .ok (.invokevirtual 158, 3) := by decide +kernel
theorem dX1_countLike_23 : decode cX1_countLike 23 = .ok (.ifCond .eq 6, 3) := by decide +kernel
theorem dX1_countLike_26 : decode cX1_countLike 26 = .ok (.iinc 3 1, 3) := by decide +kernel
theorem dX1_countLike_29 : decode cX1_countLike 29 = .ok (.iinc 4 1, 3) := by decide +kernel
theorem dX1_countLike_32 : decode cX1_countLike 32 = .ok (.goto (-22), 3) := by decide +kernel
theorem dX1_countLike_35 : decode cX1_countLike 35 = .ok (.iload_n 3, 1) := by decide +kernel
theorem dX1_countLike_36 : decode cX1_countLike 36 = .ok (.ireturn, 1) := by decide +kernel
set_option maxRecDepth 20000 in
theorem ggX1_findLike_X1_places : GoodIn wsX1_findLike wsX1_places := goodIn_r _ [5, 6, 7, 39, 40, 41, 42, 43] (by decide +kernel) (by decide +kernel)
set_option maxRecDepth 20000 in
theorem gX1_findLike_X1_places : GoodIn wsX1_findLike (wsV RX1 89 RX1 yX1_places wsX1_places) := goodIn_app (goodIn_of _ (by decide +kernel)) ggX1_findLike_X1_places
set_option maxRecDepth 20000 in
theorem ggX1_findLike_X1_isLike : GoodIn wsX1_findLike wsX1_isLike := goodIn_r _ [11, 12, 13, 14, 15, 16, 4, 17, 6, 18, 19, 20, 21, 22, 23, 24, 25, 26, 27, 28, 29, 30, 31, 32, 33, 34, 35, 36, 37, 38, 39, 40, 41, 42, 43] (by decide +kernel) (by decide +kernel)
set_option maxRecDepth 20000 in
theorem gX1_findLike_X1_isLike : GoodIn wsX1_findLike (wsV RX1 158 RX1 yX1_isLike wsX1_isLike) := goodIn_app (goodIn_of _ (by decide +kernel)) ggX1_findLike_X1_isLike
theorem dX1_findLike_0 : decode cX1_findLike 0 = .ok (.aload_n 0, 1) := by decide +kernel
theorem dX1_findLike_1 : decode cX1_findLike 1 = .ok (.invokevirtual 89, 3) := by decide +kernel
theorem dX1_findLike_4 : decode cX1_findLike 4 = .ok (.istore_n 3, 1) := by decide +kernel
theorem dX1_findLike_5 : decode cX1_findLike 5 = .ok (.iconst 0, 1) := by decide +kernel
theorem dX1_findLike_6 : decode cX1_findLike 6 = .ok (.istore 4, 2) := by decide +kernel
theorem dX1_findLike_8 : decode cX1_findLike 8 = .ok (.iconst 0, 1) := by decide +kernel
theorem dX1_findLike_9 : decode cX1_findLike 9 = .ok (.istore 5, 2) := by decide +kernel
theorem dX1_findLike_11 : decode cX1_findLike 11 = .ok (.iload 5, 2) := by decide +kernel
theorem dX1_findLike_13 : decode cX1_findLike 13 = .ok (.iload_n 3, 1) := by decide +kernel
theorem dX1_findLike_14 : decode cX1_findLike 14 = .ok (.if_icmp .ge 31, 3) := by decide +kernel
theorem dX1_findLike_17 : decode cX1_findLike 17 = .ok (.aload_n 0, 1) := by decide +kernel
theorem dX1_findLike_18 : decode cX1_findLike 18 = .ok (.aload_n 1, 1) := by decide +kernel
theorem dX1_findLike_19 : decode cX1_findLike 19 = .ok (.iload 5, 2) := by decide +kernel
theorem dX1_findLike_21 : decode cX1_findLike 21 = .ok (.invokevirtual 158, 3) := by decide +kernel
theorem dX1_findLike_24 : decode cX1_findLike 24 = .ok (.ifCond .eq 15, 3) := by decide +kernel
theorem dX1_findLike_27 : decode cX1_findLike 27 = .ok (.iload 4, 2) := by decide +kernel
theorem dX1_findLike_29 : decode cX1_findLike 29 = .ok (.iload_n 2, 1) := by decide +kernel
theorem dX1_findLike_30 : decode cX1_findLike 30 = .ok (.if_icmp .ne 6, 3) := by decide +kernel
theorem dX1_findLike_33 : decode cX1_findLike 33 = .ok (.iload 5, 2) := by decide +kernel
theorem dX1_findLike_35 : decode cX1_findLike 35 = .ok (.ireturn, 1) := by decide +kernel
theorem dX1_findLike_36 : decode cX1_findLike 36 = .ok (.iinc 4 1, 3) := by decide +kernel
theorem dX1_findLike_39 : decode cX1_findLike 39 = .ok (.iinc 5 1, 3) := by decide +kernel
theorem dX1_findLike_42 : decode cX1_findLike 42 = .ok (.goto (-31), 3) := by decide +kernel
theorem dX1_findLike_45 : decode cX1_findLike 45 = .ok (.iconst (-1), 1) := by decide +kernel
theorem dX1_findLike_46 : decode cX1_findLike 46 = .ok (.ireturn, 1) := by decide +kernel
set_option maxRecDepth 20000 in
theorem ggX1_isLike_X1_hasSum : GoodIn wsX1_isLike wsX1_hasSum := goodIn_r _ [7, 8, 9, 10, 30, 31, 32, 33, 34] (by decide +kernel) (by decide +kernel)
set_option maxRecDepth 20000 in
theorem gX1_isLike_X1_hasSum : GoodIn wsX1_isLike (wsV RX1 162 RX1 yX1_hasSum wsX1_hasSum) := goodIn_app (goodIn_of _ (by decide +kernel)) ggX1_isLike_X1_hasSum
set_option maxRecDepth 20000 in
theorem ggX1_isLike_X1_hasOrder : GoodIn wsX1_isLike wsX1_hasOrder := goodIn_r _ [14, 8, 15, 16, 17, 6, 18, 10, 9, 30, 31, 32, 33, 34] (by decide +kernel) (by decide +kernel)
set_option maxRecDepth 20000 in
theorem gX1_isLike_X1_hasOrder : GoodIn wsX1_isLike (wsV RX1 165 RX1 yX1_hasOrder wsX1_hasOrder) := goodIn_app (goodIn_of _ (by decide +kernel)) ggX1_isLike_X1_hasOrder
set_option maxRecDepth 20000 in
theorem ggX1_isLike_X1_hasSymbols : GoodIn wsX1_isLike wsX1_hasSymbols := goodIn_r _ [22, 23, 24, 25, 6, 26, 8, 10, 9, 27, 28, 29, 30, 31, 32, 33, 34] (by decide +kernel) (by decide +kernel)
set_option maxRecDepth 20000 in
theorem gX1_isLike_X1_hasSymbols : GoodIn wsX1_isLike (wsV RX1 98 RX1 yX1_hasSymbols wsX1_hasSymbols) := goodIn_app (goodIn_of _ (by decide +kernel)) ggX1_isLike_X1_hasSymbols
theorem dX1_isLike_0 : decode cX1_isLike 0 = .ok (.aload_n 1, 1) := by decide +kernel
theorem dX1_isLike_1 : decode cX1_isLike 1 = .ok (.getstatic 134, 3) := by decide +kernel
theorem dX1_isLike_4 : decode cX1_isLike 4 = .ok (.if_acmp .ne 9, 3) := by decide +kernel
theorem dX1_isLike_7 : decode cX1_isLike 7 = .ok (.aload_n 0, 1) := by decide +kernel
theorem dX1_isLike_8 : decode cX1_isLike 8 = .ok (.iload_n 2, 1) := by decide +kernel
theorem dX1_isLike_9 : decode cX1_isLike 9 = .ok (.invokevirtual 162, 3) := by decide +kernel
theorem dX1_isLike_12 : decode cX1_isLike 12 = .ok (.ireturn, 1) := by decide +kernel
theorem dX1_isLike_13 : decode cX1_isLike 13 = .ok (.aload_n 1, 1) := by decide +kernel
theorem dX1_isLike_14 : decode cX1_isLike 14 = .ok (.getstatic 137, 3) := by decide +kernel
theorem dX1_isLike_17 : decode cX1_isLike 17 = .ok (.if_acmp .ne 9, 3) := by decide +kernel
theorem dX1_isLike_20 : decode cX1_isLike 20 = .ok (.aload_n 0, 1) := by decide +kernel
theorem dX1_isLike_21 : decode cX1_isLike 21 = .ok (.iload_n 2, 1) := by decide +kernel
theorem dX1_isLike_22 : decode cX1_isLike 22 = .ok (.invokevirtual 165, 3) := by decide +kernel
theorem dX1_isLike_25 : decode cX1_isLike 25 = .ok (.ireturn, 1) := by decide +kernel
theorem dX1_isLike_26 : decode cX1_isLike 26 = .ok (.aload_n 0, 1) := by decide +kernel
theorem dX1_isLike_27 : decode cX1_isLike 27 = .ok (.iload_n 2, 1) := by decide +kernel
theorem dX1_isLike_28 : decode cX1_isLike 28 = .ok (.invokevirtual 98, 3) := by decide +kernel
theorem dX1_isLike_31 : decode cX1_isLike 31 = .ok (.ireturn, 1) := by decide +kernel
set_option maxRecDepth 20000 in
theorem ggX1_hasSymbols_X1_firstMismatch : GoodIn wsX1_hasSymbols wsX1_firstMismatch := goodIn_r _ [5, 6, 7, 8, 9, 10, 4, 11, 12, 13, 14, 15, 16] (by decide +kernel) (by decide +kernel)
set_option maxRecDepth 20000 in
theorem gX1_hasSymbols_X1_firstMismatch : GoodIn wsX1_hasSymbols (wsV RX1 114 RX1 yX1_firstMismatch wsX1_firstMismatch) := goodIn_app (goodIn_of _ (by decide +kernel)) ggX1_hasSymbols_X1_firstMismatch
theorem dX1_hasSymbols_0 : decode cX1_hasSymbols 0 = .ok (.aload_n 0, 1) := by decide +kernel
theorem dX1_hasSymbols_1 : decode cX1_hasSymbols 1 = .ok (.iload_n 1, 1) := by decide +kernel
theorem dX1_hasSymbols_2 : decode cX1_hasSymbols 2 = .ok (.iconst 0, 1) := by decide +kernel
theorem dX1_hasSymbols_3 : decode cX1_hasSymbols 3 = .ok (.invokevirtual 114, 3) := by decide +kernel
theorem dX1_hasSymbols_6 : decode cX1_hasSymbols 6 = .ok (.iconst (-1), 1) := by decide +kernel
theorem dX1_hasSymbols_7 : decode cX1_hasSymbols 7 = .ok (.if_icmp .ne 7, 3) := by decide +kernel
theorem dX1_hasSymbols_10 : decode cX1_hasSymbols 10 = .ok (.iconst 1, 1) := by decide +kernel
theorem dX1_hasSymbols_11 : decode cX1_hasSymbols 11 = .ok (.goto 4, 3) := by decide +kernel
theorem dX1_hasSymbols_14 : decode cX1_hasSymbols 14 = .ok (.iconst 0, 1) := by decide +kernel
theorem dX1_hasSymbols_15 : decode cX1_hasSymbols 15 = .ok (.ireturn, 1) := by decide +kernel
theorem dX1_hasSum_0 : decode cX1_hasSum 0 = .ok (.iconst 0, 1) := by decide +kernel
theorem dX1_hasSum_1 : decode cX1_hasSum 1 = .ok (.istore_n 2, 1) := by decide +kernel
theorem dX1_hasSum_2 : decode cX1_hasSum 2 = .ok (.iconst 0, 1) := by decide +kernel
theorem dX1_hasSum_3 : decode cX1_hasSum 3 = .ok (.istore_n 3, 1) := by decide +kernel
theorem dX1_hasSum_4 : decode cX1_hasSum 4 = .ok (.iload_n 3, 1) := by decide +kernel
theorem dX1_hasSum_5 : decode cX1_hasSum 5 = .ok (.aload_n 0, 1) := by decide +kernel
theorem dX1_hasSum_6 : decode cX1_hasSum 6 = .ok (.getfield 23, 3) := by decide +kernel
theorem dX1_hasSum_9 : decode cX1_hasSum 9 = .ok (.if_icmp .ge 27, 3) := by decide +kernel
theorem dX1_hasSum_12 : decode cX1_hasSum 12 = .ok (.iload_n 2, 1) := by decide +kernel
theorem dX1_hasSum_13 : decode cX1_hasSum 13 = .ok (.aload_n 0, 1) := by decide +kernel
theorem dX1_hasSum_14 : decode cX1_hasSum 14 = .ok (.getfield 9, 3) := by decide +kernel
theorem dX1_hasSum_17 : decode cX1_hasSum 17 = .ok (.iload_n 1, 1) := by decide +kernel
theorem dX1_hasSum_18 : decode cX1_hasSum 18 = .ok (.iload_n 3, 1) := by decide +kernel
theorem dX1_hasSum_19 : decode cX1_hasSum 19 = .ok (.iadd, 1) := by decide +kernel
theorem dX1_hasSum_20 : decode cX1_hasSum 20 = .ok (.iaload, 1) := by decide +kernel
theorem dX1_hasSum_21 : decode cX1_hasSum 21 = .ok (.aload_n 0, 1) := by decide +kernel
theorem dX1_hasSum_22 : decode cX1_hasSum 22 = .ok (.getfield 13, 3) := by decide +kernel
theorem dX1_hasSum_25 : decode cX1_hasSum 25 = .ok (.iload_n 3, 1) := by decide +kernel
theorem dX1_hasSum_26 : decode cX1_hasSum 26 = .ok (.iaload, 1) := by decide +kernel
theorem dX1_hasSum_27 : decode cX1_hasSum 27 = .ok (.isub, 1) := by decide +kernel
theorem dX1_hasSum_28 : decode cX1_hasSum 28 = .ok (.iadd, 1) := by decide +kernel
theorem dX1_hasSum_29 : decode cX1_hasSum 29 = .ok (.istore_n 2, 1) := by decide +kernel
theorem dX1_hasSum_30 : decode cX1_hasSum 30 = .ok (.iinc 3 1, 3) := by decide +kernel
theorem dX1_hasSum_33 : decode cX1_hasSum 33 = .ok (.goto (-29), 3) := by decide +kernel
theorem dX1_hasSum_36 : decode cX1_hasSum 36 = .ok (.iload_n 2, 1) := by decide +kernel
theorem dX1_hasSum_37 : decode cX1_hasSum 37 = .ok (.ifCond .ne 7, 3) := by decide +kernel
theorem dX1_hasSum_40 : decode cX1_hasSum 40 = .ok (.iconst 1, 1) := by decide +kernel
theorem dX1_hasSum_41 : decode cX1_hasSum 41 = .ok (.goto 4, 3) := by decide +kernel
theorem dX1_hasSum_44 : decode cX1_hasSum 44 = .ok (.iconst 0, 1) := by decide +kernel
theorem dX1_hasSum_45 : decode cX1_hasSum 45 = .ok (.ireturn, 1) := by decide +kernel
set_option maxRecDepth 20000 in
theorem ggX1_hasOrder_X1_hasOrderUpTo : GoodIn wsX1_hasOrder wsX1_hasOrderUpTo := goodIn_r _ [6, 7, 8, 9, 10, 11, 12, 13] (by decide +kernel) (by decide +kernel)
set_option maxRecDepth 20000 in
theorem gX1_hasOrder_X1_hasOrderUpTo : GoodIn wsX1_hasOrder (wsV RX1 168 RX1 yX1_hasOrderUpTo wsX1_hasOrderUpTo) := goodIn_app (goodIn_of _ (by decide +kernel)) ggX1_hasOrder_X1_hasOrderUpTo
theorem dX1_hasOrder_0 : decode cX1_hasOrder 0 = .ok (.iconst 1, 1) := by decide +kernel
theorem dX1_hasOrder_1 : decode cX1_hasOrder 1 = .ok (.istore_n 2, 1) := by decide +kernel
theorem dX1_hasOrder_2 : decode cX1_hasOrder 2 = .ok (.iload_n 2, 1) := by decide +kernel
theorem dX1_hasOrder_3 : decode cX1_hasOrder 3 = .ok (.aload_n 0, 1) := by decide +kernel
theorem dX1_hasOrder_4 : decode cX1_hasOrder 4 = .ok (.getfield 23, 3) := by decide +kernel
theorem dX1_hasOrder_7 : decode cX1_hasOrder 7 = .ok (.if_icmp .ge 20, 3) := by decide +kernel
theorem dX1_hasOrder_10 : decode cX1_hasOrder 10 = .ok (.aload_n 0, 1) := by decide +kernel
theorem dX1_hasOrder_11 : decode cX1_hasOrder 11 = .ok (.iload_n 1, 1) := by decide +kernel
theorem dX1_hasOrder_12 : decode cX1_hasOrder 12 = .ok (.iload_n 2, 1) := by decide +kernel
theorem dX1_hasOrder_13 : decode cX1_hasOrder 13 = .ok (.invokevirtual 168, 3) := by decide +kernel
theorem dX1_hasOrder_16 : decode cX1_hasOrder 16 = .ok (.ifCond .ne 5, 3) := by decide +kernel
theorem dX1_hasOrder_19 : decode cX1_hasOrder 19 = .ok (.iconst 0, 1) := by decide +kernel
theorem dX1_hasOrder_20 : decode cX1_hasOrder 20 = .ok (.ireturn, 1) := by decide +kernel
theorem dX1_hasOrder_21 : decode cX1_hasOrder 21 = .ok (.iinc 2 1, 3) := by decide +kernel
theorem dX1_hasOrder_24 : decode cX1_hasOrder 24 = .ok (.goto (-22), 3) := by decide +kernel
theorem dX1_hasOrder_27 : decode cX1_hasOrder 27 = .ok (.iconst 1, 1) := by decide +kernel
theorem dX1_hasOrder_28 : decode cX1_hasOrder 28 = .ok (.ireturn, 1) := by decide +kernel
theorem dX1_hasOrderUpTo_0 : decode cX1_hasOrderUpTo 0 = .ok (.aload_n 0, 1) := by decide +kernel
theorem dX1_hasOrderUpTo_1 : decode cX1_hasOrderUpTo 1 = .ok (.getfield 13, 3) := by decide +kernel
theorem dX1_hasOrderUpTo_4 : decode cX1_hasOrderUpTo 4 = .ok (.iload_n 2, 1) := by decide +kernel
theorem dX1_hasOrderUpTo_5 : decode cX1_hasOrderUpTo 5 = .ok (.iaload, 1) := by decide +kernel
theorem dX1_hasOrderUpTo_6 : decode cX1_hasOrderUpTo 6 = .ok (.istore_n 3, 1) := by decide +kernel
theorem dX1_hasOrderUpTo_7 : decode cX1_hasOrderUpTo 7 = .ok (.aload_n 0, 1) := by decide +kernel
theorem dX1_hasOrderUpTo_8 : decode cX1_hasOrderUpTo 8 = .ok (.getfield 9, 3) := by decide +kernel
theorem dX1_hasOrderUpTo_11 : decode cX1_hasOrderUpTo 11 = .ok (.iload_n 1, 1) := by decide +kernel
theorem dX1_hasOrderUpTo_12 : decode cX1_hasOrderUpTo 12 = .ok (.iload_n 2, 1) := by decide +kernel
theorem dX1_hasOrderUpTo_13 : decode cX1_hasOrderUpTo 13 = .ok (.iadd, 1) := by decide +kernel
theorem dX1_hasOrderUpTo_14 : decode cX1_hasOrderUpTo 14 = .ok (.iaload, 1) := by decide +kernel
theorem dX1_hasOrderUpTo_15 : decode cX1_hasOrderUpTo 15 = .ok (.istore 4, 2) := by decide +kernel
theorem dX1_hasOrderUpTo_17 : decode cX1_hasOrderUpTo 17 = .ok (.iconst 0, 1) := by decide +kernel
theorem dX1_hasOrderUpTo_18 : decode cX1_hasOrderUpTo 18 = .ok (.istore 5, 2) := by decide +kernel
theorem dX1_hasOrderUpTo_20 : decode cX1_hasOrderUpTo 20 = .ok (.iload 5, 2) := by decide +kernel
theorem dX1_hasOrderUpTo_22 : decode cX1_hasOrderUpTo 22 = .ok (.iload_n 2, 1) := by decide +kernel
theorem dX1_hasOrderUpTo_23 : decode cX1_hasOrderUpTo 23 = .ok (.if_icmp .ge 83, 3) := by decide +kernel
theorem dX1_hasOrderUpTo_26 : decode cX1_hasOrderUpTo 26 = .ok (.aload_n 0, 1) := by decide +kernel
theorem dX1_hasOrderUpTo_27 : decode cX1_hasOrderUpTo 27 = .ok (.getfield 13, 3) := by decide +kernel
theorem dX1_hasOrderUpTo_30 : decode cX1_hasOrderUpTo 30 = .ok (.iload 5, 2) := by decide +kernel
theorem dX1_hasOrderUpTo_32 : decode cX1_hasOrderUpTo 32 = .ok (.iaload, 1) := by decide +kernel
theorem dX1_hasOrderUpTo_33 : decode cX1_hasOrderUpTo 33 = .ok (.istore 6, 2) := by decide +kernel
theorem dX1_hasOrderUpTo_35 : decode cX1_hasOrderUpTo 35 = .ok (.aload_n 0, 1) := by decide +kernel
theorem dX1_hasOrderUpTo_36 : decode cX1_hasOrderUpTo 36 = .ok (.getfield 9, 3) := by decide +kernel
theorem dX1_hasOrderUpTo_39 : decode cX1_hasOrderUpTo 39 = .ok (.iload_n 1, 1) := by decide +kernel
theorem dX1_hasOrderUpTo_40 : decode cX1_hasOrderUpTo 40 = .ok (.iload 5, 2) := by decide +kernel
theorem dX1_hasOrderUpTo_42 : decode cX1_hasOrderUpTo 42 = .ok (.iadd, 1) := by decide +kernel
theorem dX1_hasOrderUpTo_43 : decode cX1_hasOrderUpTo 43 = .ok (.iaload, 1) := by decide +kernel
theorem dX1_hasOrderUpTo_44 : decode cX1_hasOrderUpTo 44 = .ok (.istore 7, 2) := by decide +kernel
theorem dX1_hasOrderUpTo_46 : decode cX1_hasOrderUpTo 46 = .ok (.iload 6, 2) := by decide +kernel
theorem dX1_hasOrderUpTo_48 : decode cX1_hasOrderUpTo 48 = .ok (.iload_n 3, 1) := by decide +kernel
theorem dX1_hasOrderUpTo_49 : decode cX1_hasOrderUpTo 49 = .ok (.if_icmp .ge 7, 3) := by decide +kernel
theorem dX1_hasOrderUpTo_52 : decode cX1_hasOrderUpTo 52 = .ok (.iconst 1, 1) := by decide +kernel
theorem dX1_hasOrderUpTo_53 : decode cX1_hasOrderUpTo 53 = .ok (.goto 4, 3) := by decide +kernel
theorem dX1_hasOrderUpTo_56 : decode cX1_hasOrderUpTo 56 = .ok (.iconst 0, 1) := by decide +kernel
theorem dX1_hasOrderUpTo_57 : decode cX1_hasOrderUpTo 57 = .ok (.iload 7, 2) := by decide +kernel
theorem dX1_hasOrderUpTo_59 : decode cX1_hasOrderUpTo 59 = .ok (.iload 4, 2) := by decide +kernel
theorem dX1_hasOrderUpTo_61 : decode cX1_hasOrderUpTo 61 = .ok (.if_icmp .ge 7, 3) := by decide +kernel
theorem dX1_hasOrderUpTo_64 : decode cX1_hasOrderUpTo 64 = .ok (.iconst 1, 1) := by decide +kernel
theorem dX1_hasOrderUpTo_65 : decode cX1_hasOrderUpTo 65 = .ok (.goto 4, 3) := by decide +kernel
theorem dX1_hasOrderUpTo_68 : decode cX1_hasOrderUpTo 68 = .ok (.iconst 0, 1) := by decide +kernel
theorem dX1_hasOrderUpTo_69 : decode cX1_hasOrderUpTo 69 = .ok (.if_icmp .ne 29, 3) := by decide +kernel
theorem dX1_hasOrderUpTo_72 : decode cX1_hasOrderUpTo 72 = .ok (.iload 6, 2) := by decide +kernel
theorem dX1_hasOrderUpTo_74 : decode cX1_hasOrderUpTo 74 = .ok (.iload_n 3, 1) := by decide +kernel
theorem dX1_hasOrderUpTo_75 : decode cX1_hasOrderUpTo 75 = .ok (.if_icmp .le 7, 3) := by decide +kernel
theorem dX1_hasOrderUpTo_78 : decode cX1_hasOrderUpTo 78 = .ok (.iconst 1, 1) := by decide +kernel
theorem dX1_hasOrderUpTo_79 : decode cX1_hasOrderUpTo 79 = .ok (.goto 4, 3) := by decide +kernel
theorem dX1_hasOrderUpTo_82 : decode cX1_hasOrderUpTo 82 = .ok (.iconst 0, 1) := by decide +kernel
theorem dX1_hasOrderUpTo_83 : decode cX1_hasOrderUpTo 83 = .ok (.iload 7, 2) := by decide +kernel
theorem dX1_hasOrderUpTo_85 : decode cX1_hasOrderUpTo 85 = .ok (.iload 4, 2) := by decide +kernel
theorem dX1_hasOrderUpTo_87 : decode cX1_hasOrderUpTo 87 = .ok (.if_icmp .le 7, 3) := by decide +kernel
theorem dX1_hasOrderUpTo_90 : decode cX1_hasOrderUpTo 90 = .ok (.iconst 1, 1) := by decide +kernel
theorem dX1_hasOrderUpTo_91 : decode cX1_hasOrderUpTo 91 = .ok (.goto 4, 3) := by decide +kernel
theorem dX1_hasOrderUpTo_94 : decode cX1_hasOrderUpTo 94 = .ok (.iconst 0, 1) := by decide +kernel
theorem dX1_hasOrderUpTo_95 : decode cX1_hasOrderUpTo 95 = .ok (.if_icmp .eq 5, 3) := by decide +kernel
theorem dX1_hasOrderUpTo_98 : decode cX1_hasOrderUpTo 98 = .ok (.iconst 0, 1) := by decide +kernel
theorem dX1_hasOrderUpTo_99 : decode cX1_hasOrderUpTo 99 = .ok (.ireturn, 1) := by decide +kernel
theorem dX1_hasOrderUpTo_100 : decode cX1_hasOrderUpTo 100 = .ok (.iinc 5 1, 3) := by decide +kernel
theorem dX1_hasOrderUpTo_103 : decode cX1_hasOrderUpTo 103 = .ok (.goto (-83), 3) := by decide +kernel
theorem dX1_hasOrderUpTo_106 : decode cX1_hasOrderUpTo 106 = .ok (.iconst 1, 1) := by decide +kernel
theorem dX1_hasOrderUpTo_107 : decode cX1_hasOrderUpTo 107 = .ok (.ireturn, 1) := by decide +kernel
theorem dX1_agree_0 : decode cX1_agree 0 = .ok (.iload_n 0, 1) := by decide +kernel
theorem dX1_agree_1 : decode cX1_agree 1 = .ok (.iload_n 1, 1) := by decide +kernel
theorem dX1_agree_2 : decode cX1_agree 2 = .ok (.if_icmp .eq 11, 3) := by decide +kernel
theorem dX1_agree_5 : decode cX1_agree 5 = .ok (.iload_n 0, 1) := by decide +kernel
theorem dX1_agree_6 : decode cX1_agree 6 = .ok (.ifCond .eq 7, 3) := by decide +kernel
theorem dX1_agree_9 : decode cX1_agree 9 = .ok (.iload_n 1, 1) := by decide +kernel
theorem dX1_agree_10 : decode cX1_agree 10 = .ok (.ifCond .ne 7, 3) := by decide +kernel
theorem dX1_agree_13 : decode cX1_agree 13 = .ok (.iconst 1, 1) := by decide +kernel
theorem dX1_agree_14 : decode cX1_agree 14 = .ok (.goto 4, 3) := by decide +kernel
theorem dX1_agree_17 : decode cX1_agree 17 = .ok (.iconst 0, 1) := by decide +kernel
theorem dX1_agree_18 : decode cX1_agree 18 = .ok (.ireturn, 1) := by decide +kernel
set_option maxRecDepth 20000 in
theorem ggX1_countMismatches_X1_agree : GoodIn wsX1_countMismatches wsX1_agree := goodIn_r _ [7] (by decide +kernel) (by decide +kernel)
set_option maxRecDepth 20000 in
theorem gX1_countMismatches_X1_agree : GoodIn wsX1_countMismatches (va_wsS RX1 108 yX1_agree wsX1_agree) := goodIn_app (goodIn_of _ (by decide +kernel)) ggX1_countMismatches_X1_agree
theorem dX1_countMismatches_0 : decode cX1_countMismatches 0 = .ok (.iconst 0, 1) := by decide +kernel
theorem dX1_countMismatches_1 : decode cX1_countMismatches 1 = .ok (.istore_n 2, 1) := by decide +kernel
theorem dX1_countMismatches_2 : decode cX1_countMismatches 2 = .ok (.iconst 0, 1) := by decide +kernel
theorem dX1_countMismatches_3 : decode cX1_countMismatches 3 = .ok (.istore_n 3, 1) := by decide +kernel
theorem dX1_countMismatches_4 : decode cX1_countMismatches 4 = .ok (.iload_n 3, 1) := by decide +kernel
theorem dX1_countMismatches_5 : decode cX1_countMismatches 5 = .ok (.aload_n 0, 1) := by decide +kernel
theorem dX1_countMismatches_6 : decode cX1_countMismatches 6 = .ok (.getfield 23, 3) := by decide +kernel
theorem dX1_countMismatches_9 : decode cX1_countMismatches 9 = .ok (.if_icmp .ge 32, 3) := by decide +kernel
theorem dX1_countMismatches_12 : decode cX1_countMismatches 12 = .ok (.aload_n 0, 1) := by decide +kernel
theorem dX1_countMismatches_13 : decode cX1_countMismatches 13 = .ok (.getfield 13, 3) := by decide +kernel
theorem dX1_countMismatches_16 : decode cX1_countMismatches 16 = .ok (.iload_n 3, 1) := by decide +kernel
theorem dX1_countMismatches_17 : decode cX1_countMismatches 17 = .ok (.iaload, 1) := by decide +kernel
theorem dX1_countMismatches_18 : decode cX1_countMismatches 18 = .ok (.aload_n 0, 1) := by decide +kernel
theorem dX1_countMismatches_19 : decode cX1_countMismatches 19 = .ok (.getfield 9, 3) := by decide +kernel
theorem dX1_countMismatches_22 : decode cX1_countMismatches 22 = .ok (.iload_n 1, 1) := by decide +kernel
theorem dX1_countMismatches_23 : decode cX1_countMismatches 23 = .ok (.iload_n 3, 1) := by decide +kernel
theorem dX1_countMismatches_24 : decode cX1_countMismatches 24 = .ok (.iadd, 1) := by decide +kernel
theorem dX1_countMismatches_25 : decode cX1_countMismatches 25 = .ok (.iaload, 1) := by decide +kernel
theorem dX1_countMismatches_26 : decode cX1_countMismatches 26 = .ok (.invokestatic 108, 3) := by decide +kernel
theorem dX1_countMismatches_29 : decode cX1_countMismatches 29 = .ok (.ifCond .ne 6, 3) := by decide +kernel
theorem dX1_countMismatches_32 : decode cX1_countMismatches 32 = .ok (.iinc 2 1, 3) := by decide +kernel
theorem dX1_countMismatches_35 : decode cX1_countMismatches 35 = .ok (.iinc 3 1, 3) := by decide +kernel
theorem dX1_countMismatches_38 : decode cX1_countMismatches 38 = .ok (.goto (-34), 3) := by decide +kernel
theorem dX1_countMismatches_41 : decode cX1_countMismatches 41 = .ok (.iload_n 2, 1) := by decide +kernel
theorem dX1_countMismatches_42 : decode cX1_countMismatches 42 = .ok (.ireturn, 1) := by decide +kernel
set_option maxRecDepth 20000 in
theorem ggX1_firstMismatch_X1_agree : GoodIn wsX1_firstMismatch wsX1_agree := goodIn_r _ [7] (by decide +kernel) (by decide +kernel)
set_option maxRecDepth 20000 in
theorem gX1_firstMismatch_X1_agree : GoodIn wsX1_firstMismatch (va_wsS RX1 108 yX1_agree wsX1_agree) := goodIn_app (goodIn_of _ (by decide +kernel)) ggX1_firstMismatch_X1_agree
theorem dX1_firstMismatch_0 : decode cX1_firstMismatch 0 = .ok (.iload_n 2, 1) := by decide +kernel
theorem dX1_firstMismatch_1 : decode cX1_firstMismatch 1 = .ok (.istore_n 3, 1) := by decide +kernel
theorem dX1_firstMismatch_2 : decode cX1_firstMismatch 2 = .ok (.iload_n 3, 1) := by decide +kernel
theorem dX1_firstMismatch_3 : decode cX1_firstMismatch 3 = .ok (.aload_n 0, 1) := by decide +kernel
theorem dX1_firstMismatch_4 : decode cX1_firstMismatch 4 = .ok (.getfield 23, 3) := by decide +kernel
theorem dX1_firstMismatch_7 : decode cX1_firstMismatch 7 = .ok (.if_icmp .ge 31, 3) := by decide +kernel
theorem dX1_firstMismatch_10 : decode cX1_firstMismatch 10 = .ok (.aload_n 0, 1) := by decide +kernel
theorem dX1_firstMismatch_11 : decode cX1_firstMismatch 11 = .ok (.getfield 13, 3) := by decide +kernel
theorem dX1_firstMismatch_14 : decode cX1_firstMismatch 14 = .ok (.iload_n 3, 1) := by decide +kernel
theorem dX1_firstMismatch_15 : decode cX1_firstMismatch 15 = .ok (.iaload, 1) := by decide +kernel
theorem dX1_firstMismatch_16 : decode cX1_firstMismatch 16 = .ok (.aload_n 0, 1) := by decide +kernel
theorem dX1_firstMismatch_17 : decode cX1_firstMismatch 17 = .ok (.getfield 9, 3) := by decide +kernel
theorem dX1_firstMismatch_20 : decode cX1_firstMismatch 20 = .ok (.iload_n 1, 1) := by decide +kernel
theorem dX1_firstMismatch_21 : decode cX1_firstMismatch 21 = .ok (.iload_n 3, 1) := by decide +kernel
theorem dX1_firstMismatch_22 : decode cX1_firstMismatch 22 = .ok (.iadd, 1) := by decide +kernel
theorem dX1_firstMismatch_23 : decode cX1_firstMismatch 23 = .ok (.iaload, 1) := by decide +kernel
theorem dX1_firstMismatch_24 : decode cX1_firstMismatch 24 = .ok (.invokestatic 108, 3) := by decide +kernel
theorem dX1_firstMismatch_27 : decode cX1_firstMismatch 27 = .ok (.ifCond .ne 5, 3) := by decide +kernel
theorem dX1_firstMismatch_30 : decode cX1_firstMismatch 30 = .ok (.iload_n 3, 1) := by decide +kernel
theorem dX1_firstMismatch_31 : decode cX1_firstMismatch 31 = .ok (.ireturn, 1) := by decide +kernel
theorem dX1_firstMismatch_32 : decode cX1_firstMismatch 32 = .ok (.iinc 3 1, 3) := by decide +kernel
theorem dX1_firstMismatch_35 : decode cX1_firstMismatch 35 = .ok (.goto (-33), 3) := by decide +kernel
theorem dX1_firstMismatch_38 : decode cX1_firstMismatch 38 = .ok (.iconst (-1), 1) := by decide +kernel
theorem dX1_firstMismatch_39 : decode cX1_firstMismatch 39 = .ok (.ireturn, 1) := by decide +kernel
theorem dX1_placeOfRank_0 : decode cX1_placeOfRank 0 = .ok (.iconst 0, 1) := by decide +kernel
theorem dX1_placeOfRank_1 : decode cX1_placeOfRank 1 = .ok (.istore_n 3, 1) := by decide +kernel
theorem dX1_placeOfRank_2 : decode cX1_placeOfRank 2 = .ok (.iconst 0, 1) := by decide +kernel
theorem dX1_placeOfRank_3 : decode cX1_placeOfRank 3 = .ok (.istore 4, 2) := by decide +kernel
theorem dX1_placeOfRank_5 : decode cX1_placeOfRank 5 = .ok (.iload 4, 2) := by decide +kernel
theorem dX1_placeOfRank_7 : decode cX1_placeOfRank 7 = .ok (.aload_n 0, 1) := by decide +kernel
theorem dX1_placeOfRank_8 : decode cX1_placeOfRank 8 = .ok (.getfield 23, 3) := by decide +kernel
theorem dX1_placeOfRank_11 : decode cX1_placeOfRank 11 = .ok (.if_icmp .gt 47, 3) := by decide +kernel
theorem dX1_placeOfRank_14 : decode cX1_placeOfRank 14 = .ok (.iconst 0, 1) := by decide +kernel
theorem dX1_placeOfRank_15 : decode cX1_placeOfRank 15 = .ok (.istore 5, 2) := by decide +kernel
theorem dX1_placeOfRank_17 : decode cX1_placeOfRank 17 = .ok (.iload 5, 2) := by decide +kernel
theorem dX1_placeOfRank_19 : decode cX1_placeOfRank 19 = .ok (.iload_n 2, 1) := by decide +kernel
theorem dX1_placeOfRank_20 : decode cX1_placeOfRank 20 = .ok (.if_icmp .ge 32, 3) := by decide +kernel
theorem dX1_placeOfRank_23 : decode cX1_placeOfRank 23 = .ok (.aload_n 0, 1) := by decide +kernel
theorem dX1_placeOfRank_24 : decode cX1_placeOfRank 24 = .ok (.getfield 16, 3) := by decide +kernel
theorem dX1_placeOfRank_27 : decode cX1_placeOfRank 27 = .ok (.iload 5, 2) := by decide +kernel
theorem dX1_placeOfRank_29 : decode cX1_placeOfRank 29 = .ok (.iaload, 1) := by decide +kernel
theorem dX1_placeOfRank_30 : decode cX1_placeOfRank 30 = .ok (.iload 4, 2) := by decide +kernel
theorem dX1_placeOfRank_32 : decode cX1_placeOfRank 32 = .ok (.if_icmp .ne 14, 3) := by decide +kernel
theorem dX1_placeOfRank_35 : decode cX1_placeOfRank 35 = .ok (.iload_n 3, 1) := by decide +kernel
theorem dX1_placeOfRank_36 : decode cX1_placeOfRank 36 = .ok (.iload_n 1, 1) := by decide +kernel
theorem dX1_placeOfRank_37 : decode cX1_placeOfRank 37 = .ok (.if_icmp .ne 6, 3) := by decide +kernel
theorem dX1_placeOfRank_40 : decode cX1_placeOfRank 40 = .ok (.iload 5, 2) := by decide +kernel
theorem dX1_placeOfRank_42 : decode cX1_placeOfRank 42 = .ok (.ireturn, 1) := by decide +kernel
theorem dX1_placeOfRank_43 : decode cX1_placeOfRank 43 = .ok (.iinc 3 1, 3) := by decide +kernel
theorem dX1_placeOfRank_46 : decode cX1_placeOfRank 46 = .ok (.iinc 5 1, 3) := by decide +kernel
theorem dX1_placeOfRank_49 : decode cX1_placeOfRank 49 = .ok (.goto (-32), 3) := by decide +kernel
theorem dX1_placeOfRank_52 : decode cX1_placeOfRank 52 = .ok (.iinc 4 1, 3) := by decide +kernel
theorem dX1_placeOfRank_55 : decode cX1_placeOfRank 55 = .ok (.goto (-50), 3) := by decide +kernel
theorem dX1_placeOfRank_58 : decode cX1_placeOfRank 58 = .ok (.iconst (-1), 1) := by decide +kernel
theorem dX1_placeOfRank_59 : decode cX1_placeOfRank 59 = .ok (.ireturn, 1) := by decide +kernel
set_option maxRecDepth 20000 in
theorem ggX1_countLetter_X1_places : GoodIn wsX1_countLetter wsX1_places := goodIn_r _ [6, 7, 8, 9, 10, 11, 12, 13] (by decide +kernel) (by decide +kernel)
set_option maxRecDepth 20000 in
theorem gX1_countLetter_X1_places : GoodIn wsX1_countLetter (wsV RX1 89 RX1 yX1_places wsX1_places) := goodIn_app (goodIn_of _ (by decide +kernel)) ggX1_countLetter_X1_places
theorem dX1_countLetter_0 : decode cX1_countLetter 0 = .ok (.iload_n 1, 1) := by decide +kernel
theorem dX1_countLetter_1 : decode cX1_countLetter 1 = .ok (.aload_n 0, 1) := by decide +kernel
theorem dX1_countLetter_2 : decode cX1_countLetter 2 = .ok (.invokevirtual 89, 3) := by decide +kernel
theorem dX1_countLetter_5 : decode cX1_countLetter 5 = .ok (.iadd, 1) := by decide +kernel
theorem dX1_countLetter_6 : decode cX1_countLetter 6 = .ok (.istore_n 3, 1) := by decide +kernel
theorem dX1_countLetter_7 : decode cX1_countLetter 7 = .ok (.iconst 0, 1) := by decide +kernel
theorem dX1_countLetter_8 : decode cX1_countLetter 8 = .ok (.istore 4, 2) := by decide +kernel
theorem dX1_countLetter_10 : decode cX1_countLetter 10 = .ok (.iload_n 1, 1) := by decide +kernel
theorem dX1_countLetter_11 : decode cX1_countLetter 11 = .ok (.istore 5, 2) := by decide +kernel
theorem dX1_countLetter_13 : decode cX1_countLetter 13 = .ok (.iload 5, 2) := by decide +kernel
theorem dX1_countLetter_15 : decode cX1_countLetter 15 = .ok (.iload_n 3, 1) := by decide +kernel
theorem dX1_countLetter_16 : decode cX1_countLetter 16 = .ok (.if_icmp .ge 23, 3) := by decide +kernel
theorem dX1_countLetter_19 : decode cX1_countLetter 19 = .ok (.aload_n 0, 1) := by decide +kernel
theorem dX1_countLetter_20 : decode cX1_countLetter 20 = .ok (.getfield 9, 3) := by decide +kernel
theorem dX1_countLetter_23 : decode cX1_countLetter 23 = .ok (.iload 5, 2) := by decide +kernel
theorem dX1_countLetter_25 : decode cX1_countLetter 25 = .ok (.iaload, 1) := by decide +kernel
theorem dX1_countLetter_26 : decode cX1_countLetter 26 = .ok (.iload_n 2, 1) := by decide +kernel
theorem dX1_countLetter_27 : decode cX1_countLetter 27 = .ok (.if_icmp .ne 6, 3) := by decide +kernel
theorem dX1_countLetter_30 : decode cX1_countLetter 30 = .ok (.iinc 4 1, 3) := by decide +kernel
theorem dX1_countLetter_33 : decode cX1_countLetter 33 = .ok (.iinc 5 1, 3) := by decide +kernel
theorem dX1_countLetter_36 : decode cX1_countLetter 36 = .ok (.goto (-23), 3) := by decide +kernel
theorem dX1_countLetter_39 : decode cX1_countLetter 39 = .ok (.iload 4, 2) := by decide +kernel
theorem dX1_countLetter_41 : decode cX1_countLetter 41 = .ok (.ireturn, 1) := by decide +kernel
theorem dX1_blanksInPattern_0 : decode cX1_blanksInPattern 0 = .ok (.iconst 0, 1) := by decide +kernel
theorem dX1_blanksInPattern_1 : decode cX1_blanksInPattern 1 = .ok (.istore_n 1, 1) := by decide +kernel
theorem dX1_blanksInPattern_2 : decode cX1_blanksInPattern 2 = .ok (.iconst 0, 1) := by decide +kernel
theorem dX1_blanksInPattern_3 : decode cX1_blanksInPattern 3 = .ok (.istore_n 2, 1) := by decide +kernel
theorem dX1_blanksInPattern_4 : decode cX1_blanksInPattern 4 = .ok (.iload_n 2, 1) := by decide +kernel
theorem dX1_blanksInPattern_5 : decode cX1_blanksInPattern 5 = .ok (.aload_n 0, 1) := by decide +kernel
theorem dX1_blanksInPattern_6 : decode cX1_blanksInPattern 6 = .ok (.getfield 23, 3) := by decide +kernel
theorem dX1_blanksInPattern_9 : decode cX1_blanksInPattern 9 = .ok (.if_icmp .ge 21, 3) := by decide +kernel
theorem dX1_blanksInPattern_12 : decode cX1_blanksInPattern 12 = .ok (.aload_n 0, 1) := by decide +kernel
theorem dX1_blanksInPattern_13 : decode cX1_blanksInPattern 13 = .ok (.getfield 13, 3) := by decide +kernel
theorem dX1_blanksInPattern_16 : decode cX1_blanksInPattern 16 = .ok (.iload_n 2, 1) := by decide +kernel
theorem dX1_blanksInPattern_17 : decode cX1_blanksInPattern 17 = .ok (.iaload, 1) := by decide +kernel
theorem dX1_blanksInPattern_18 : decode cX1_blanksInPattern 18 = .ok (.ifCond .ne 6, 3) := by decide +kernel
theorem dX1_blanksInPattern_21 : decode cX1_blanksInPattern 21 = .ok (.iinc 1 1, 3) := by decide +kernel
theorem dX1_blanksInPattern_24 : decode cX1_blanksInPattern 24 = .ok (.iinc 2 1, 3) := by decide +kernel
theorem dX1_blanksInPattern_27 : decode cX1_blanksInPattern 27 = .ok (.goto (-23), 3) := by decide +kernel
theorem dX1_blanksInPattern_30 : decode cX1_blanksInPattern 30 = .ok (.iload_n 1, 1) := by decide +kernel
theorem dX1_blanksInPattern_31 : decode cX1_blanksInPattern 31 = .ok (.ireturn, 1) := by decide +kernel
set_option maxRecDepth 20000 in
theorem ggX1_repeatsAfter_X1_agree : GoodIn wsX1_repeatsAfter wsX1_agree := goodIn_r _ [6] (by decide +kernel) (by decide +kernel)
set_option maxRecDepth 20000 in
theorem gX1_repeatsAfter_X1_agree : GoodIn wsX1_repeatsAfter (va_wsS RX1 108 yX1_agree wsX1_agree) := goodIn_app (goodIn_of _ (by decide +kernel)) ggX1_repeatsAfter_X1_agree
theorem dX1_repeatsAfter_0 : decode cX1_repeatsAfter 0 = .ok (.iconst 0, 1) := by decide +kernel
theorem dX1_repeatsAfter_1 : decode cX1_repeatsAfter 1 = .ok (.istore_n 2, 1) := by decide +kernel
theorem dX1_repeatsAfter_2 : decode cX1_repeatsAfter 2 = .ok (.iload_n 2, 1) := by decide +kernel
theorem dX1_repeatsAfter_3 : decode cX1_repeatsAfter 3 = .ok (.aload_n 0, 1) := by decide +kernel
theorem dX1_repeatsAfter_4 : decode cX1_repeatsAfter 4 = .ok (.getfield 19, 3) := by decide +kernel
theorem dX1_repeatsAfter_7 : decode cX1_repeatsAfter 7 = .ok (.iload_n 1, 1) := by decide +kernel
theorem dX1_repeatsAfter_8 : decode cX1_repeatsAfter 8 = .ok (.isub, 1) := by decide +kernel
theorem dX1_repeatsAfter_9 : decode cX1_repeatsAfter 9 = .ok (.if_icmp .ge 31, 3) := by decide +kernel
theorem dX1_repeatsAfter_12 : decode cX1_repeatsAfter 12 = .ok (.aload_n 0, 1) := by decide +kernel
theorem dX1_repeatsAfter_13 : decode cX1_repeatsAfter 13 = .ok (.getfield 9, 3) := by decide +kernel
theorem dX1_repeatsAfter_16 : decode cX1_repeatsAfter 16 = .ok (.iload_n 2, 1) := by decide +kernel
theorem dX1_repeatsAfter_17 : decode cX1_repeatsAfter 17 = .ok (.iaload, 1) := by decide +kernel
theorem dX1_repeatsAfter_18 : decode cX1_repeatsAfter 18 = .ok (.aload_n 0, 1) := by decide +kernel
theorem dX1_repeatsAfter_19 : decode cX1_repeatsAfter 19 = .ok (.getfield 9, 3) := by decide +kernel
theorem dX1_repeatsAfter_22 : decode cX1_repeatsAfter 22 = .ok (.iload_n 2, 1) := by decide +kernel
theorem dX1_repeatsAfter_23 : decode cX1_repeatsAfter 23 = .ok (.iload_n 1, 1) := by decide +kernel
theorem dX1_repeatsAfter_24 : decode cX1_repeatsAfter 24 = .ok (.iadd, 1) := by decide +kernel
theorem dX1_repeatsAfter_25 : decode cX1_repeatsAfter 25 = .ok (.iaload, 1) := by decide +kernel
theorem dX1_repeatsAfter_26 : decode cX1_repeatsAfter 26 = .ok (.invokestatic 108, 3) := by decide +kernel
theorem dX1_repeatsAfter_29 : decode cX1_repeatsAfter 29 = .ok (.ifCond .ne 5, 3) := by decide +kernel
theorem dX1_repeatsAfter_32 : decode cX1_repeatsAfter 32 = .ok (.iconst 0, 1) := by decide +kernel
theorem dX1_repeatsAfter_33 : decode cX1_repeatsAfter 33 = .ok (.ireturn, 1) := by decide +kernel
theorem dX1_repeatsAfter_34 : decode cX1_repeatsAfter 34 = .ok (.iinc 2 1, 3) := by decide +kernel
theorem dX1_repeatsAfter_37 : decode cX1_repeatsAfter 37 = .ok (.goto (-35), 3) := by decide +kernel
theorem dX1_repeatsAfter_40 : decode cX1_repeatsAfter 40 = .ok (.iconst 1, 1) := by decide +kernel
theorem dX1_repeatsAfter_41 : decode cX1_repeatsAfter 41 = .ok (.ireturn, 1) := by decide +kernel
theorem dX2_init_0 : decode cX2_init 0 = .ok (.aload_n 0, 1) := by decide +kernel
theorem dX2_init_1 : decode cX2_init 1 = .ok (.invokespecial 1, 3) := by decide +kernel
theorem dX2_init_4 : decode cX2_init 4 = .ok (.aload_n 0, 1) := by decide +kernel
theorem dX2_init_5 : decode cX2_init 5 = .ok (.bipush 64, 2) := by decide +kernel
theorem dX2_init_7 : decode cX2_init 7 = .ok (.newarray .int, 2) := by decide +kernel
theorem dX2_init_9 : decode cX2_init 9 = .ok (.putfield 7, 3) := by decide +kernel
theorem dX2_init_12 : decode cX2_init 12 = .ok (.aload_n 0, 1) := by decide +kernel
theorem dX2_init_13 : decode cX2_init 13 = .ok (.bipush 24, 2) := by decide +kernel
theorem dX2_init_15 : decode cX2_init 15 = .ok (.newarray .int, 2) := by decide +kernel
theorem dX2_init_17 : decode cX2_init 17 = .ok (.putfield 13, 3) := by decide +kernel
theorem dX2_init_20 : decode cX2_init 20 = .ok (.return_, 1) := by decide +kernel
theorem dX2_thrown_0 : decode cX2_thrown 0 = .ok (.aload_n 0, 1) := by decide +kernel
theorem dX2_thrown_1 : decode cX2_thrown 1 = .ok (.getfield 16, 3) := by decide +kernel
theorem dX2_thrown_4 : decode cX2_thrown 4 = .ok (.ireturn, 1) := by decide +kernel
theorem dX2_goesWell_0 : decode cX2_goesWell 0 = .ok (.aload_n 0, 1) := by decide +kernel
theorem dX2_goesWell_1 : decode cX2_goesWell 1 = .ok (.iload_n 1, 1) := by decide +kernel
theorem dX2_goesWell_2 : decode cX2_goesWell 2 = .ok (.putfield 16, 3) := by decide +kernel
theorem dX2_goesWell_5 : decode cX2_goesWell 5 = .ok (.iload_n 1, 1) := by decide +kernel
theorem dX2_goesWell_6 : decode cX2_goesWell 6 = .ok (.ifCond .ne 7, 3) := by decide +kernel
theorem dX2_goesWell_9 : decode cX2_goesWell 9 = .ok (.iconst 1, 1) := by decide +kernel
theorem dX2_goesWell_10 : decode cX2_goesWell 10 = .ok (.goto 4, 3) := by decide +kernel
theorem dX2_goesWell_13 : decode cX2_goesWell 13 = .ok (.iconst 0, 1) := by decide +kernel
theorem dX2_goesWell_14 : decode cX2_goesWell 14 = .ok (.ireturn, 1) := by decide +kernel
theorem dX2_isSymbol_0 : decode cX2_isSymbol 0 = .ok (.iload_n 0, 1) := by decide +kernel
theorem dX2_isSymbol_1 : decode cX2_isSymbol 1 = .ok (.ifCond .lt 13, 3) := by decide +kernel
theorem dX2_isSymbol_4 : decode cX2_isSymbol 4 = .ok (.iload_n 0, 1) := by decide +kernel
theorem dX2_isSymbol_5 : decode cX2_isSymbol 5 = .ok (.bipush 26, 2) := by decide +kernel
theorem dX2_isSymbol_7 : decode cX2_isSymbol 7 = .ok (.if_icmp .gt 7, 3) := by decide +kernel
theorem dX2_isSymbol_10 : decode cX2_isSymbol 10 = .ok (.iconst 1, 1) := by decide +kernel
theorem dX2_isSymbol_11 : decode cX2_isSymbol 11 = .ok (.goto 4, 3) := by decide +kernel
theorem dX2_isSymbol_14 : decode cX2_isSymbol 14 = .ok (.iconst 0, 1) := by decide +kernel
theorem dX2_isSymbol_15 : decode cX2_isSymbol 15 = .ok (.ireturn, 1) := by decide +kernel
set_option maxRecDepth 20000 in
theorem ggX2_appendText_X2_isSymbol : GoodIn wsX2_appendText wsX2_isSymbol := goodIn_r _ [6] (by decide +kernel) (by decide +kernel)
set_option maxRecDepth 20000 in
theorem gX2_appendText_X2_isSymbol : GoodIn wsX2_appendText (va_wsS RX2 20 yX2_isSymbol wsX2_isSymbol) := goodIn_app (goodIn_of _ (by decide +kernel)) ggX2_appendText_X2_isSymbol
set_option maxRecDepth 20000 in
theorem ggX2_appendText_X2_goesWell : GoodIn wsX2_appendText wsX2_goesWell := goodIn_r _ [10, 11, 12, 13, 14, 15, 16] (by decide +kernel) (by decide +kernel)
set_option maxRecDepth 20000 in
theorem gX2_appendText_X2_goesWell : GoodIn wsX2_appendText (wsV RX2 27 RX2 yX2_goesWell wsX2_goesWell) := goodIn_app (goodIn_of _ (by decide +kernel)) ggX2_appendText_X2_goesWell
theorem dX2_appendText_0 : decode cX2_appendText 0 = .ok (.aload_n 0, 1) := by decide +kernel
theorem dX2_appendText_1 : decode cX2_appendText 1 = .ok (.iload_n 1, 1) := by decide +kernel
theorem dX2_appendText_2 : decode cX2_appendText 2 = .ok (.invokestatic 20, 3) := by decide +kernel
theorem dX2_appendText_5 : decode cX2_appendText 5 = .ok (.ifCond .ne 7, 3) := by decide +kernel
theorem dX2_appendText_8 : decode cX2_appendText 8 = .ok (.iconst 1, 1) := by decide +kernel
theorem dX2_appendText_9 : decode cX2_appendText 9 = .ok (.goto 17, 3) := by decide +kernel
theorem dX2_appendText_12 : decode cX2_appendText 12 = .ok (.aload_n 0, 1) := by decide +kernel
theorem dX2_appendText_13 : decode cX2_appendText 13 = .ok (.getfield 24, 3) := by decide +kernel
theorem dX2_appendText_16 : decode cX2_appendText 16 = .ok (.bipush 64, 2) := by decide +kernel
theorem dX2_appendText_18 : decode cX2_appendText 18 = .ok (.if_icmp .ne 7, 3) := by decide +kernel
theorem dX2_appendText_21 : decode cX2_appendText 21 = .ok (.iconst 2, 1) := by decide +kernel
theorem dX2_appendText_22 : decode cX2_appendText 22 = .ok (.goto 4, 3) := by decide +kernel
theorem dX2_appendText_25 : decode cX2_appendText 25 = .ok (.iconst 0, 1) := by decide +kernel
theorem dX2_appendText_26 : decode cX2_appendText 26 = .ok (.invokevirtual 27, 3) := by decide +kernel
theorem dX2_appendText_29 : decode cX2_appendText 29 = .ok (.ifCond .ne 5, 3) := by decide +kernel
theorem dX2_appendText_32 : decode cX2_appendText 32 = .ok (.iconst 0, 1) := by decide +kernel
theorem dX2_appendText_33 : decode cX2_appendText 33 = .ok (.ireturn, 1) := by decide +kernel
theorem dX2_appendText_34 : decode cX2_appendText 34 = .ok (.aload_n 0, 1) := by decide +kernel
theorem dX2_appendText_35 : decode cX2_appendText 35 = .ok (.getfield 7, 3) := by decide +kernel
theorem dX2_appendText_38 : decode cX2_appendText 38 = .ok (.aload_n 0, 1) := by decide +kernel
theorem dX2_appendText_39 : decode cX2_appendText 39 = .ok (.getfield 24, 3) := by decide +kernel
theorem dX2_appendText_42 : decode cX2_appendText 42 = .ok (.iload_n 1, 1) := by decide +kernel
theorem dX2_appendText_43 : decode cX2_appendText 43 = .ok (.iastore, 1) := by decide +kernel
theorem dX2_appendText_44 : decode cX2_appendText 44 = .ok (.aload_n 0, 1) := by decide +kernel
theorem dX2_appendText_45 : decode cX2_appendText 45 = .ok (.dup, 1) := by decide +kernel
theorem dX2_appendText_46 : decode cX2_appendText 46 = .ok (.getfield 24, 3) := by decide +kernel
theorem dX2_appendText_49 : decode cX2_appendText 49 = .ok (.iconst 1, 1) := by decide +kernel
theorem dX2_appendText_50 : decode cX2_appendText 50 = .ok (.iadd, 1) := by decide +kernel
theorem dX2_appendText_51 : decode cX2_appendText 51 = .ok (.putfield 24, 3) := by decide +kernel
theorem dX2_appendText_54 : decode cX2_appendText 54 = .ok (.aload_n 0, 1) := by decide +kernel
theorem dX2_appendText_55 : decode cX2_appendText 55 = .ok (.getfield 24, 3) := by decide +kernel
theorem dX2_appendText_58 : decode cX2_appendText 58 = .ok (.ireturn, 1) := by decide +kernel
set_option maxRecDepth 20000 in
theorem ggX2_repeatText_X2_goesWell : GoodIn wsX2_repeatText wsX2_goesWell := goodIn_r _ [7, 8, 9, 10, 11, 12, 13] (by decide +kernel) (by decide +kernel)
set_option maxRecDepth 20000 in
theorem gX2_repeatText_X2_goesWell : GoodIn wsX2_repeatText (wsV RX2 27 RX2 yX2_goesWell wsX2_goesWell) := goodIn_app (goodIn_of _ (by decide +kernel)) ggX2_repeatText_X2_goesWell
theorem dX2_repeatText_0 : decode cX2_repeatText 0 = .ok (.iload_n 1, 1) := by decide +kernel
theorem dX2_repeatText_1 : decode cX2_repeatText 1 = .ok (.ifCond .lt 21, 3) := by decide +kernel
theorem dX2_repeatText_4 : decode cX2_repeatText 4 = .ok (.iload_n 1, 1) := by decide +kernel
theorem dX2_repeatText_5 : decode cX2_repeatText 5 = .ok (.i2l, 1) := by decide +kernel
theorem dX2_repeatText_6 : decode cX2_repeatText 6 = .ok (.iload_n 2, 1) := by decide +kernel
theorem dX2_repeatText_7 : decode cX2_repeatText 7 = .ok (.i2l, 1) := by decide +kernel
theorem dX2_repeatText_8 : decode cX2_repeatText 8 = .ok (.ladd, 1) := by decide +kernel
theorem dX2_repeatText_9 : decode cX2_repeatText 9 = .ok (.aload_n 0, 1) := by decide +kernel
theorem dX2_repeatText_10 : decode cX2_repeatText 10 = .ok (.getfield 24, 3) := by decide +kernel
theorem dX2_repeatText_13 : decode cX2_repeatText 13 = .ok (.i2l, 1) := by decide +kernel
theorem dX2_repeatText_14 : decode cX2_repeatText 14 = .ok (.lcmp, 1) := by decide +kernel
theorem dX2_repeatText_15 : decode cX2_repeatText 15 = .ok (.ifCond .gt 7, 3) := by decide +kernel
theorem dX2_repeatText_18 : decode cX2_repeatText 18 = .ok (.iconst 1, 1) := by decide +kernel
theorem dX2_repeatText_19 : decode cX2_repeatText 19 = .ok (.goto 4, 3) := by decide +kernel
theorem dX2_repeatText_22 : decode cX2_repeatText 22 = .ok (.iconst 0, 1) := by decide +kernel
theorem dX2_repeatText_23 : decode cX2_repeatText 23 = .ok (.istore_n 3, 1) := by decide +kernel
theorem dX2_repeatText_24 : decode cX2_repeatText 24 = .ok (.aload_n 0, 1) := by decide +kernel
theorem dX2_repeatText_25 : decode cX2_repeatText 25 = .ok (.iload_n 2, 1) := by decide +kernel
theorem dX2_repeatText_26 : decode cX2_repeatText 26 = .ok (.iconst 1, 1) := by decide +kernel
theorem dX2_repeatText_27 : decode cX2_repeatText 27 = .ok (.if_icmp .ge 7, 3) := by decide +kernel
theorem dX2_repeatText_30 : decode cX2_repeatText 30 = .ok (.iconst 1, 1) := by decide +kernel
theorem dX2_repeatText_31 : decode cX2_repeatText 31 = .ok (.goto 27, 3) := by decide +kernel
theorem dX2_repeatText_34 : decode cX2_repeatText 34 = .ok (.iload_n 3, 1) := by decide +kernel
theorem dX2_repeatText_35 : decode cX2_repeatText 35 = .ok (.ifCond .ne 7, 3) := by decide +kernel
theorem dX2_repeatText_38 : decode cX2_repeatText 38 = .ok (.iconst 2, 1) := by decide +kernel
theorem dX2_repeatText_39 : decode cX2_repeatText 39 = .ok (.goto 19, 3) := by decide +kernel
theorem dX2_repeatText_42 : decode cX2_repeatText 42 = .ok (.aload_n 0, 1) := by decide +kernel
theorem dX2_repeatText_43 : decode cX2_repeatText 43 = .ok (.getfield 24, 3) := by decide +kernel
theorem dX2_repeatText_46 : decode cX2_repeatText 46 = .ok (.iload_n 2, 1) := by decide +kernel
theorem dX2_repeatText_47 : decode cX2_repeatText 47 = .ok (.iadd, 1) := by decide +kernel
theorem dX2_repeatText_48 : decode cX2_repeatText 48 = .ok (.bipush 64, 2) := by decide +kernel
theorem dX2_repeatText_50 : decode cX2_repeatText 50 = .ok (.if_icmp .le 7, 3) := by decide +kernel
theorem dX2_repeatText_53 : decode cX2_repeatText 53 = .ok (.iconst 3, 1) := by decide +kernel
theorem dX2_repeatText_54 : decode cX2_repeatText 54 = .ok (.goto 4, 3) := by decide +kernel
theorem dX2_repeatText_57 : decode cX2_repeatText 57 = .ok (.iconst 0, 1) := by decide +kernel
theorem dX2_repeatText_58 : decode cX2_repeatText 58 = .ok (.invokevirtual 27, 3) := by decide +kernel
theorem dX2_repeatText_61 : decode cX2_repeatText 61 = .ok (.ifCond .ne 5, 3) := by decide +kernel
theorem dX2_repeatText_64 : decode cX2_repeatText 64 = .ok (.iconst 0, 1) := by decide +kernel
theorem dX2_repeatText_65 : decode cX2_repeatText 65 = .ok (.ireturn, 1) := by decide +kernel
theorem dX2_repeatText_66 : decode cX2_repeatText 66 = .ok (.iconst 0, 1) := by decide +kernel
theorem dX2_repeatText_67 : decode cX2_repeatText 67 = .ok (.istore 4, 2) := by decide +kernel
theorem dX2_repeatText_69 : decode cX2_repeatText 69 = .ok (.iload 4, 2) := by decide +kernel
theorem dX2_repeatText_71 : decode cX2_repeatText 71 = .ok (.iload_n 2, 1) := by decide +kernel
theorem dX2_repeatText_72 : decode cX2_repeatText 72 = .ok (.if_icmp .ge 37, 3) := by decide +kernel
theorem dX2_repeatText_75 : decode cX2_repeatText 75 = .ok (.aload_n 0, 1) := by decide +kernel
theorem dX2_repeatText_76 : decode cX2_repeatText 76 = .ok (.getfield 7, 3) := by decide +kernel
theorem dX2_repeatText_79 : decode cX2_repeatText 79 = .ok (.aload_n 0, 1) := by decide +kernel
theorem dX2_repeatText_80 : decode cX2_repeatText 80 = .ok (.getfield 24, 3) := by decide +kernel
theorem dX2_repeatText_83 : decode cX2_repeatText 83 = .ok (.aload_n 0, 1) := by decide +kernel
theorem dX2_repeatText_84 : decode cX2_repeatText 84 = .ok (.getfield 7, 3) := by decide +kernel
theorem dX2_repeatText_87 : decode cX2_repeatText 87 = .ok (.iload_n 1, 1) := by decide +kernel
theorem dX2_repeatText_88 : decode cX2_repeatText 88 = .ok (.iload 4, 2) := by decide +kernel
theorem dX2_repeatText_90 : decode cX2_repeatText 90 = .ok (.iadd, 1) := by decide +kernel
theorem dX2_repeatText_91 : decode cX2_repeatText 91 = .ok (.iaload, 1) := by decide +kernel
theorem dX2_repeatText_92 : decode cX2_repeatText 92 = .ok (.iastore, 1) := by decide +kernel
theorem dX2_repeatText_93 : decode cX2_repeatText 93 = .ok (.aload_n 0, 1) := by decide +kernel
theorem dX2_repeatText_94 : decode cX2_repeatText 94 = .ok (.dup, 1) := by decide +kernel
theorem dX2_repeatText_95 : decode cX2_repeatText 95 = .ok (.getfield 24, 3) := by decide +kernel
theorem dX2_repeatText_98 : decode cX2_repeatText 98 = .ok (.iconst 1, 1) := by decide +kernel
theorem dX2_repeatText_99 : decode cX2_repeatText 99 = .ok (.iadd, 1) := by decide +kernel
theorem dX2_repeatText_100 : decode cX2_repeatText 100 = .ok (.putfield 24, 3) := by decide +kernel
theorem dX2_repeatText_103 : decode cX2_repeatText 103 = .ok (.iinc 4 1, 3) := by decide +kernel
theorem dX2_repeatText_106 : decode cX2_repeatText 106 = .ok (.goto (-37), 3) := by decide +kernel
theorem dX2_repeatText_109 : decode cX2_repeatText 109 = .ok (.aload_n 0, 1) := by decide +kernel
theorem dX2_repeatText_110 : decode cX2_repeatText 110 = .ok (.getfield 24, 3) := by decide +kernel
theorem dX2_repeatText_113 : decode cX2_repeatText 113 = .ok (.ireturn, 1) := by decide +kernel
set_option maxRecDepth 20000 in
theorem ggX2_setText_X2_isSymbol : GoodIn wsX2_setText wsX2_isSymbol := goodIn_r _ [6] (by decide +kernel) (by decide +kernel)
set_option maxRecDepth 20000 in
theorem gX2_setText_X2_isSymbol : GoodIn wsX2_setText (va_wsS RX2 20 yX2_isSymbol wsX2_isSymbol) := goodIn_app (goodIn_of _ (by decide +kernel)) ggX2_setText_X2_isSymbol
set_option maxRecDepth 20000 in
theorem ggX2_setText_X2_goesWell : GoodIn wsX2_setText wsX2_goesWell := goodIn_r _ [10, 11, 12, 13, 14, 15, 16] (by decide +kernel) (by decide +kernel)
set_option maxRecDepth 20000 in
theorem gX2_setText_X2_goesWell : GoodIn wsX2_setText (wsV RX2 27 RX2 yX2_goesWell wsX2_goesWell) := goodIn_app (goodIn_of _ (by decide +kernel)) ggX2_setText_X2_goesWell
theorem dX2_setText_0 : decode cX2_setText 0 = .ok (.aload_n 0, 1) := by decide +kernel
theorem dX2_setText_1 : decode cX2_setText 1 = .ok (.iload_n 1, 1) := by decide +kernel
theorem dX2_setText_2 : decode cX2_setText 2 = .ok (.ifCond .lt 11, 3) := by decide +kernel
theorem dX2_setText_5 : decode cX2_setText 5 = .ok (.iload_n 1, 1) := by decide +kernel
theorem dX2_setText_6 : decode cX2_setText 6 = .ok (.aload_n 0, 1) := by decide +kernel
theorem dX2_setText_7 : decode cX2_setText 7 = .ok (.getfield 24, 3) := by decide +kernel
theorem dX2_setText_10 : decode cX2_setText 10 = .ok (.if_icmp .lt 7, 3) := by decide +kernel
theorem dX2_setText_13 : decode cX2_setText 13 = .ok (.iconst 1, 1) := by decide +kernel
theorem dX2_setText_14 : decode cX2_setText 14 = .ok (.goto 15, 3) := by decide +kernel
theorem dX2_setText_17 : decode cX2_setText 17 = .ok (.iload_n 2, 1) := by decide +kernel
theorem dX2_setText_18 : decode cX2_setText 18 = .ok (.invokestatic 20, 3) := by decide +kernel
theorem dX2_setText_21 : decode cX2_setText 21 = .ok (.ifCond .eq 7, 3) := by decide +kernel
theorem dX2_setText_24 : decode cX2_setText 24 = .ok (.iconst 0, 1) := by decide +kernel
theorem dX2_setText_25 : decode cX2_setText 25 = .ok (.goto 4, 3) := by decide +kernel
theorem dX2_setText_28 : decode cX2_setText 28 = .ok (.iconst 2, 1) := by decide +kernel
theorem dX2_setText_29 : decode cX2_setText 29 = .ok (.invokevirtual 27, 3) := by decide +kernel
theorem dX2_setText_32 : decode cX2_setText 32 = .ok (.ifCond .ne 5, 3) := by decide +kernel
theorem dX2_setText_35 : decode cX2_setText 35 = .ok (.iconst 0, 1) := by decide +kernel
theorem dX2_setText_36 : decode cX2_setText 36 = .ok (.ireturn, 1) := by decide +kernel
theorem dX2_setText_37 : decode cX2_setText 37 = .ok (.aload_n 0, 1) := by decide +kernel
theorem dX2_setText_38 : decode cX2_setText 38 = .ok (.getfield 7, 3) := by decide +kernel
theorem dX2_setText_41 : decode cX2_setText 41 = .ok (.iload_n 1, 1) := by decide +kernel
theorem dX2_setText_42 : decode cX2_setText 42 = .ok (.iaload, 1) := by decide +kernel
theorem dX2_setText_43 : decode cX2_setText 43 = .ok (.istore_n 3, 1) := by decide +kernel
theorem dX2_setText_44 : decode cX2_setText 44 = .ok (.aload_n 0, 1) := by decide +kernel
theorem dX2_setText_45 : decode cX2_setText 45 = .ok (.getfield 7, 3) := by decide +kernel
theorem dX2_setText_48 : decode cX2_setText 48 = .ok (.iload_n 1, 1) := by decide +kernel
theorem dX2_setText_49 : decode cX2_setText 49 = .ok (.iload_n 2, 1) := by decide +kernel
theorem dX2_setText_50 : decode cX2_setText 50 = .ok (.iastore, 1) := by decide +kernel
theorem dX2_setText_51 : decode cX2_setText 51 = .ok (.iload_n 3, 1) := by decide +kernel
theorem dX2_setText_52 : decode cX2_setText 52 = .ok (.ireturn, 1) := by decide +kernel
set_option maxRecDepth 20000 in
theorem ggX2_appendPattern_X2_isSymbol : GoodIn wsX2_appendPattern wsX2_isSymbol := goodIn_r _ [6] (by decide +kernel) (by decide +kernel)
set_option maxRecDepth 20000 in
theorem gX2_appendPattern_X2_isSymbol : GoodIn wsX2_appendPattern (va_wsS RX2 20 yX2_isSymbol wsX2_isSymbol) := goodIn_app (goodIn_of _ (by decide +kernel)) ggX2_appendPattern_X2_isSymbol
set_option maxRecDepth 20000 in
theorem ggX2_appendPattern_X2_goesWell : GoodIn wsX2_appendPattern wsX2_goesWell := goodIn_r _ [10, 11, 12, 13, 14, 15, 16] (by decide +kernel) (by decide +kernel)
set_option maxRecDepth 20000 in
theorem gX2_appendPattern_X2_goesWell : GoodIn wsX2_appendPattern (wsV RX2 27 RX2 yX2_goesWell wsX2_goesWell) := goodIn_app (goodIn_of _ (by decide +kernel)) ggX2_appendPattern_X2_goesWell
theorem dX2_appendPattern_0 : decode cX2_appendPattern 0 = .ok (.aload_n 0, 1) := by decide +kernel
theorem dX2_appendPattern_1 : decode cX2_appendPattern 1 = .ok (.iload_n 1, 1) := by decide +kernel
theorem dX2_appendPattern_2 : decode cX2_appendPattern 2 = .ok (.invokestatic 20, 3) := by decide +kernel
theorem dX2_appendPattern_5 : decode cX2_appendPattern 5 = .ok (.ifCond .ne 7, 3) := by decide +kernel
theorem dX2_appendPattern_8 : decode cX2_appendPattern 8 = .ok (.iconst 1, 1) := by decide +kernel
theorem dX2_appendPattern_9 : decode cX2_appendPattern 9 = .ok (.goto 17, 3) := by decide +kernel
theorem dX2_appendPattern_12 : decode cX2_appendPattern 12 = .ok (.aload_n 0, 1) := by decide +kernel
theorem dX2_appendPattern_13 : decode cX2_appendPattern 13 = .ok (.getfield 30, 3) := by decide +kernel
theorem dX2_appendPattern_16 : decode cX2_appendPattern 16 = .ok (.bipush 24, 2) := by decide +kernel
theorem dX2_appendPattern_18 : decode cX2_appendPattern 18 = .ok (.if_icmp .ne 7, 3) := by decide +kernel
theorem dX2_appendPattern_21 : decode cX2_appendPattern 21 = .ok (.iconst 2, 1) := by decide +kernel
theorem dX2_appendPattern_22 : decode cX2_appendPattern 22 = .ok (.goto 4, 3) := by decide +kernel
theorem dX2_appendPattern_25 : decode cX2_appendPattern 25 = .ok (.iconst 0, 1) := by decide +kernel
theorem dX2_appendPattern_26 : decode cX2_appendPattern 26 = .ok (.invokevirtual 27, 3) := by decide +kernel
theorem dX2_appendPattern_29 : decode cX2_appendPattern 29 = .ok (.ifCond .ne 5, 3) := by decide +kernel
theorem dX2_appendPattern_32 : decode cX2_appendPattern 32 = .ok (.iconst 0, 1) := by decide +kernel
theorem dX2_appendPattern_33 : decode cX2_appendPattern 33 = .ok (.ireturn, 1) := by decide +kernel
theorem dX2_appendPattern_34 : decode cX2_appendPattern 34 = .ok (.aload_n 0, 1) := by decide +kernel
theorem dX2_appendPattern_35 : decode cX2_appendPattern 35 = .ok (.getfield 13, 3) := by decide +kernel
theorem dX2_appendPattern_38 : decode cX2_appendPattern 38 = .ok (.aload_n 0, 1) := by decide +kernel
theorem dX2_appendPattern_39 : decode cX2_appendPattern 39 = .ok (.getfield 30, 3) := by decide +kernel
theorem dX2_appendPattern_42 : decode cX2_appendPattern 42 = .ok (.iload_n 1, 1) := by decide +kernel
theorem dX2_appendPattern_43 : decode cX2_appendPattern 43 = .ok (.iastore, 1) := by decide +kernel
theorem dX2_appendPattern_44 : decode cX2_appendPattern 44 = .ok (.aload_n 0, 1) := by decide +kernel
theorem dX2_appendPattern_45 : decode cX2_appendPattern 45 = .ok (.dup, 1) := by decide +kernel
theorem dX2_appendPattern_46 : decode cX2_appendPattern 46 = .ok (.getfield 30, 3) := by decide +kernel
theorem dX2_appendPattern_49 : decode cX2_appendPattern 49 = .ok (.iconst 1, 1) := by decide +kernel
theorem dX2_appendPattern_50 : decode cX2_appendPattern 50 = .ok (.iadd, 1) := by decide +kernel
theorem dX2_appendPattern_51 : decode cX2_appendPattern 51 = .ok (.putfield 30, 3) := by decide +kernel
theorem dX2_appendPattern_54 : decode cX2_appendPattern 54 = .ok (.aload_n 0, 1) := by decide +kernel
theorem dX2_appendPattern_55 : decode cX2_appendPattern 55 = .ok (.getfield 30, 3) := by decide +kernel
theorem dX2_appendPattern_58 : decode cX2_appendPattern 58 = .ok (.ireturn, 1) := by decide +kernel
theorem dX2_isInPattern_0 : decode cX2_isInPattern 0 = .ok (.iload_n 1, 1) := by decide +kernel
theorem dX2_isInPattern_1 : decode cX2_isInPattern 1 = .ok (.ifCond .lt 15, 3) := by decide +kernel
theorem dX2_isInPattern_4 : decode cX2_isInPattern 4 = .ok (.iload_n 1, 1) := by decide +kernel
theorem dX2_isInPattern_5 : decode cX2_isInPattern 5 = .ok (.aload_n 0, 1) := by decide +kernel
theorem dX2_isInPattern_6 : decode cX2_isInPattern 6 = .ok (.getfield 30, 3) := by decide +kernel
theorem dX2_isInPattern_9 : decode cX2_isInPattern 9 = .ok (.if_icmp .ge 7, 3) := by decide +kernel
theorem dX2_isInPattern_12 : decode cX2_isInPattern 12 = .ok (.iconst 1, 1) := by decide +kernel
theorem dX2_isInPattern_13 : decode cX2_isInPattern 13 = .ok (.goto 4, 3) := by decide +kernel
theorem dX2_isInPattern_16 : decode cX2_isInPattern 16 = .ok (.iconst 0, 1) := by decide +kernel
theorem dX2_isInPattern_17 : decode cX2_isInPattern 17 = .ok (.ireturn, 1) := by decide +kernel
set_option maxRecDepth 20000 in
theorem ggX2_setPattern_X2_isInPattern : GoodIn wsX2_setPattern wsX2_isInPattern := goodIn_r _ [6, 7, 16, 17, 18, 19, 20] (by decide +kernel) (by decide +kernel)
set_option maxRecDepth 20000 in
theorem gX2_setPattern_X2_isInPattern : GoodIn wsX2_setPattern (wsV RX2 33 RX2 yX2_isInPattern wsX2_isInPattern) := goodIn_app (goodIn_of _ (by decide +kernel)) ggX2_setPattern_X2_isInPattern
set_option maxRecDepth 20000 in
theorem ggX2_setPattern_X2_isSymbol : GoodIn wsX2_setPattern wsX2_isSymbol := goodIn_r _ [10] (by decide +kernel) (by decide +kernel)
set_option maxRecDepth 20000 in
theorem gX2_setPattern_X2_isSymbol : GoodIn wsX2_setPattern (va_wsS RX2 20 yX2_isSymbol wsX2_isSymbol) := goodIn_app (goodIn_of _ (by decide +kernel)) ggX2_setPattern_X2_isSymbol
set_option maxRecDepth 20000 in
theorem ggX2_setPattern_X2_goesWell : GoodIn wsX2_setPattern wsX2_goesWell := goodIn_r _ [14, 15, 16, 17, 18, 19, 20] (by decide +kernel) (by decide +kernel)
set_option maxRecDepth 20000 in
theorem gX2_setPattern_X2_goesWell : GoodIn wsX2_setPattern (wsV RX2 27 RX2 yX2_goesWell wsX2_goesWell) := goodIn_app (goodIn_of _ (by decide +kernel)) ggX2_setPattern_X2_goesWell
theorem dX2_setPattern_0 : decode cX2_setPattern 0 = .ok (.aload_n 0, 1) := by decide +kernel
theorem dX2_setPattern_1 : decode cX2_setPattern 1 = .ok (.aload_n 0, 1) := by decide +kernel
theorem dX2_setPattern_2 : decode cX2_setPattern 2 = .ok (.iload_n 1, 1) := by decide +kernel
theorem dX2_setPattern_3 : decode cX2_setPattern 3 = .ok (.invokevirtual 33, 3) := by decide +kernel
theorem dX2_setPattern_6 : decode cX2_setPattern 6 = .ok (.ifCond .ne 7, 3) := by decide +kernel
theorem dX2_setPattern_9 : decode cX2_setPattern 9 = .ok (.iconst 1, 1) := by decide +kernel
theorem dX2_setPattern_10 : decode cX2_setPattern 10 = .ok (.goto 15, 3) := by decide +kernel
theorem dX2_setPattern_13 : decode cX2_setPattern 13 = .ok (.iload_n 2, 1) := by decide +kernel
theorem dX2_setPattern_14 : decode cX2_setPattern 14 = .ok (.invokestatic 20, 3) := by decide +kernel
theorem dX2_setPattern_17 : decode cX2_setPattern 17 = .ok (.ifCond .eq 7, 3) := by decide +kernel
theorem dX2_setPattern_20 : decode cX2_setPattern 20 = .ok (.iconst 0, 1) := by decide +kernel
theorem dX2_setPattern_21 : decode cX2_setPattern 21 = .ok (.goto 4, 3) := by decide +kernel
theorem dX2_setPattern_24 : decode cX2_setPattern 24 = .ok (.iconst 2, 1) := by decide +kernel
theorem dX2_setPattern_25 : decode cX2_setPattern 25 = .ok (.invokevirtual 27, 3) := by decide +kernel
theorem dX2_setPattern_28 : decode cX2_setPattern 28 = .ok (.ifCond .ne 5, 3) := by decide +kernel
theorem dX2_setPattern_31 : decode cX2_setPattern 31 = .ok (.iconst 0, 1) := by decide +kernel
theorem dX2_setPattern_32 : decode cX2_setPattern 32 = .ok (.ireturn, 1) := by decide +kernel
theorem dX2_setPattern_33 : decode cX2_setPattern 33 = .ok (.aload_n 0, 1) := by decide +kernel
theorem dX2_setPattern_34 : decode cX2_setPattern 34 = .ok (.getfield 13, 3) := by decide +kernel
theorem dX2_setPattern_37 : decode cX2_setPattern 37 = .ok (.iload_n 1, 1) := by decide +kernel
theorem dX2_setPattern_38 : decode cX2_setPattern 38 = .ok (.iaload, 1) := by decide +kernel
theorem dX2_setPattern_39 : decode cX2_setPattern 39 = .ok (.istore_n 3, 1) := by decide +kernel
theorem dX2_setPattern_40 : decode cX2_setPattern 40 = .ok (.aload_n 0, 1) := by decide +kernel
theorem dX2_setPattern_41 : decode cX2_setPattern 41 = .ok (.getfield 13, 3) := by decide +kernel
theorem dX2_setPattern_44 : decode cX2_setPattern 44 = .ok (.iload_n 1, 1) := by decide +kernel
theorem dX2_setPattern_45 : decode cX2_setPattern 45 = .ok (.iload_n 2, 1) := by decide +kernel
theorem dX2_setPattern_46 : decode cX2_setPattern 46 = .ok (.iastore, 1) := by decide +kernel
theorem dX2_setPattern_47 : decode cX2_setPattern 47 = .ok (.iload_n 3, 1) := by decide +kernel
theorem dX2_setPattern_48 : decode cX2_setPattern 48 = .ok (.ireturn, 1) := by decide +kernel
set_option maxRecDepth 20000 in
theorem ggX2_takePattern_X2_goesWell : GoodIn wsX2_takePattern wsX2_goesWell := goodIn_r _ [9, 10, 11, 12, 13, 14, 15] (by decide +kernel) (by decide +kernel)
set_option maxRecDepth 20000 in
theorem gX2_takePattern_X2_goesWell : GoodIn wsX2_takePattern (wsV RX2 27 RX2 yX2_goesWell wsX2_goesWell) := goodIn_app (goodIn_of _ (by decide +kernel)) ggX2_takePattern_X2_goesWell
theorem dX2_takePattern_0 : decode cX2_takePattern 0 = .ok (.iload_n 1, 1) := by decide +kernel
theorem dX2_takePattern_1 : decode cX2_takePattern 1 = .ok (.ifCond .lt 21, 3) := by decide +kernel
theorem dX2_takePattern_4 : decode cX2_takePattern 4 = .ok (.iload_n 1, 1) := by decide +kernel
theorem dX2_takePattern_5 : decode cX2_takePattern 5 = .ok (.i2l, 1) := by decide +kernel
theorem dX2_takePattern_6 : decode cX2_takePattern 6 = .ok (.iload_n 2, 1) := by decide +kernel
theorem dX2_takePattern_7 : decode cX2_takePattern 7 = .ok (.i2l, 1) := by decide +kernel
theorem dX2_takePattern_8 : decode cX2_takePattern 8 = .ok (.ladd, 1) := by decide +kernel
theorem dX2_takePattern_9 : decode cX2_takePattern 9 = .ok (.aload_n 0, 1) := by decide +kernel
theorem dX2_takePattern_10 : decode cX2_takePattern 10 = .ok (.getfield 24, 3) := by decide +kernel
theorem dX2_takePattern_13 : decode cX2_takePattern 13 = .ok (.i2l, 1) := by decide +kernel
theorem dX2_takePattern_14 : decode cX2_takePattern 14 = .ok (.lcmp, 1) := by decide +kernel
theorem dX2_takePattern_15 : decode cX2_takePattern 15 = .ok (.ifCond .gt 7, 3) := by decide +kernel
theorem dX2_takePattern_18 : decode cX2_takePattern 18 = .ok (.iconst 1, 1) := by decide +kernel
theorem dX2_takePattern_19 : decode cX2_takePattern 19 = .ok (.goto 4, 3) := by decide +kernel
theorem dX2_takePattern_22 : decode cX2_takePattern 22 = .ok (.iconst 0, 1) := by decide +kernel
theorem dX2_takePattern_23 : decode cX2_takePattern 23 = .ok (.istore_n 3, 1) := by decide +kernel
theorem dX2_takePattern_24 : decode cX2_takePattern 24 = .ok (.aload_n 0, 1) := by decide +kernel
theorem dX2_takePattern_25 : decode cX2_takePattern 25 = .ok (.iload_n 2, 1) := by decide +kernel
theorem dX2_takePattern_26 : decode cX2_takePattern 26 = .ok (.ifCond .lt 9, 3) := by decide +kernel
theorem dX2_takePattern_29 : decode cX2_takePattern 29 = .ok (.iload_n 2, 1) := by decide +kernel
theorem dX2_takePattern_30 : decode cX2_takePattern 30 = .ok (.bipush 24, 2) := by decide +kernel
theorem dX2_takePattern_32 : decode cX2_takePattern 32 = .ok (.if_icmp .le 7, 3) := by decide +kernel
theorem dX2_takePattern_35 : decode cX2_takePattern 35 = .ok (.iconst 1, 1) := by decide +kernel
theorem dX2_takePattern_36 : decode cX2_takePattern 36 = .ok (.goto 12, 3) := by decide +kernel
theorem dX2_takePattern_39 : decode cX2_takePattern 39 = .ok (.iload_n 3, 1) := by decide +kernel
theorem dX2_takePattern_40 : decode cX2_takePattern 40 = .ok (.ifCond .eq 7, 3) := by decide +kernel
theorem dX2_takePattern_43 : decode cX2_takePattern 43 = .ok (.iconst 0, 1) := by decide +kernel
theorem dX2_takePattern_44 : decode cX2_takePattern 44 = .ok (.goto 4, 3) := by decide +kernel
theorem dX2_takePattern_47 : decode cX2_takePattern 47 = .ok (.iconst 2, 1) := by decide +kernel
theorem dX2_takePattern_48 : decode cX2_takePattern 48 = .ok (.invokevirtual 27, 3) := by decide +kernel
theorem dX2_takePattern_51 : decode cX2_takePattern 51 = .ok (.ifCond .ne 5, 3) := by decide +kernel
theorem dX2_takePattern_54 : decode cX2_takePattern 54 = .ok (.iconst 0, 1) := by decide +kernel
theorem dX2_takePattern_55 : decode cX2_takePattern 55 = .ok (.ireturn, 1) := by decide +kernel
theorem dX2_takePattern_56 : decode cX2_takePattern 56 = .ok (.aload_n 0, 1) := by decide +kernel
theorem dX2_takePattern_57 : decode cX2_takePattern 57 = .ok (.iload_n 2, 1) := by decide +kernel
theorem dX2_takePattern_58 : decode cX2_takePattern 58 = .ok (.putfield 30, 3) := by decide +kernel
theorem dX2_takePattern_61 : decode cX2_takePattern 61 = .ok (.iconst 0, 1) := by decide +kernel
theorem dX2_takePattern_62 : decode cX2_takePattern 62 = .ok (.istore 4, 2) := by decide +kernel
theorem dX2_takePattern_64 : decode cX2_takePattern 64 = .ok (.iconst 0, 1) := by decide +kernel
theorem dX2_takePattern_65 : decode cX2_takePattern 65 = .ok (.istore 5, 2) := by decide +kernel
