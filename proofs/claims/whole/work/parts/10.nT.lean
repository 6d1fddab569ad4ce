theorem dX0_init_0 : decode cX0_init 0 = .ok (.aload_n 0, 1) := by decide +kernel
theorem dX0_init_1 : decode cX0_init 1 = .ok (.invokespecial 3, 3) := by decide +kernel
theorem dX0_init_4 : decode cX0_init 4 = .ok (.aload_n 0, 1) := by decide +kernel
theorem dX0_init_5 : decode cX0_init 5 = .ok (.bipush 96, 2) := by decide +kernel
theorem dX0_init_7 : decode cX0_init 7 = .ok (.newarray .int, 2) := by decide +kernel
theorem dX0_init_9 : decode cX0_init 9 = .ok (.putfield 9, 3) := by decide +kernel
theorem dX0_init_12 : decode cX0_init 12 = .ok (.aload_n 0, 1) := by decide +kernel
theorem dX0_init_13 : decode cX0_init 13 = .ok (.iconst 0, 1) := by decide +kernel
theorem dX0_init_14 : decode cX0_init 14 = .ok (.putfield 15, 3) := by decide +kernel
theorem dX0_init_17 : decode cX0_init 17 = .ok (.return_, 1) := by decide +kernel
theorem dX0_append_0 : decode cX0_append 0 = .ok (.aload_n 0, 1) := by decide +kernel
theorem dX0_append_1 : decode cX0_append 1 = .ok (.getfield 15, 3) := by decide +kernel
theorem dX0_append_4 : decode cX0_append 4 = .ok (.bipush 96, 2) := by decide +kernel
theorem dX0_append_6 : decode cX0_append 6 = .ok (.if_icmp .lt 8, 3) := by decide +kernel
theorem dX0_append_9 : decode cX0_append 9 = .ok (.aload_n 0, 1) := by decide +kernel
theorem dX0_append_10 : decode cX0_append 10 = .ok (.getfield 15, 3) := by decide +kernel
theorem dX0_append_13 : decode cX0_append 13 = .ok (.ireturn, 1) := by decide +kernel
theorem dX0_append_14 : decode cX0_append 14 = .ok (.aload_n 0, 1) := by decide +kernel
theorem dX0_append_15 : decode cX0_append 15 = .ok (.getfield 9, 3) := by decide +kernel
theorem dX0_append_18 : decode cX0_append 18 = .ok (.aload_n 0, 1) := by decide +kernel
theorem dX0_append_19 : decode cX0_append 19 = .ok (.getfield 15, 3) := by decide +kernel
theorem dX0_append_22 : decode cX0_append 22 = .ok (.iload_n 1, 1) := by decide +kernel
theorem dX0_append_23 : decode cX0_append 23 = .ok (.iastore, 1) := by decide +kernel
theorem dX0_append_24 : decode cX0_append 24 = .ok (.aload_n 0, 1) := by decide +kernel
theorem dX0_append_25 : decode cX0_append 25 = .ok (.dup, 1) := by decide +kernel
theorem dX0_append_26 : decode cX0_append 26 = .ok (.getfield 15, 3) := by decide +kernel
theorem dX0_append_29 : decode cX0_append 29 = .ok (.iconst 1, 1) := by decide +kernel
theorem dX0_append_30 : decode cX0_append 30 = .ok (.iadd, 1) := by decide +kernel
theorem dX0_append_31 : decode cX0_append 31 = .ok (.putfield 15, 3) := by decide +kernel
theorem dX0_append_34 : decode cX0_append 34 = .ok (.aload_n 0, 1) := by decide +kernel
theorem dX0_append_35 : decode cX0_append 35 = .ok (.getfield 15, 3) := by decide +kernel
theorem dX0_append_38 : decode cX0_append 38 = .ok (.ireturn, 1) := by decide +kernel
theorem dX0_sign_0 : decode cX0_sign 0 = .ok (.iload_n 1, 1) := by decide +kernel
theorem dX0_sign_1 : decode cX0_sign 1 = .ok (.ifCond .lt 20, 3) := by decide +kernel
theorem dX0_sign_4 : decode cX0_sign 4 = .ok (.iload_n 1, 1) := by decide +kernel
theorem dX0_sign_5 : decode cX0_sign 5 = .ok (.aload_n 0, 1) := by decide +kernel
theorem dX0_sign_6 : decode cX0_sign 6 = .ok (.getfield 15, 3) := by decide +kernel
theorem dX0_sign_9 : decode cX0_sign 9 = .ok (.if_icmp .ge 12, 3) := by decide +kernel
theorem dX0_sign_12 : decode cX0_sign 12 = .ok (.aload_n 0, 1) := by decide +kernel
theorem dX0_sign_13 : decode cX0_sign 13 = .ok (.getfield 9, 3) := by decide +kernel
theorem dX0_sign_16 : decode cX0_sign 16 = .ok (.iload_n 1, 1) := by decide +kernel
theorem dX0_sign_17 : decode cX0_sign 17 = .ok (.iaload, 1) := by decide +kernel
theorem dX0_sign_18 : decode cX0_sign 18 = .ok (.goto 4, 3) := by decide +kernel
theorem dX0_sign_21 : decode cX0_sign 21 = .ok (.iconst (-1), 1) := by decide +kernel
theorem dX0_sign_22 : decode cX0_sign 22 = .ok (.ireturn, 1) := by decide +kernel
set_option maxRecDepth 20000 in
theorem ggX0_isDigit_X0_sign : GoodIn wsX0_isDigit wsX0_sign := goodIn_r _ [5, 6, 7, 8, 9] (by decide +kernel) (by decide +kernel)
set_option maxRecDepth 20000 in
theorem gX0_isDigit_X0_sign : GoodIn wsX0_isDigit (wsV RX0 19 RX0 yX0_sign wsX0_sign) := goodIn_app (goodIn_of _ (by decide +kernel)) ggX0_isDigit_X0_sign
theorem dX0_isDigit_0 : decode cX0_isDigit 0 = .ok (.aload_n 0, 1) := by decide +kernel
theorem dX0_isDigit_1 : decode cX0_isDigit 1 = .ok (.iload_n 1, 1) := by decide +kernel
theorem dX0_isDigit_2 : decode cX0_isDigit 2 = .ok (.invokevirtual 19, 3) := by decide +kernel
theorem dX0_isDigit_5 : decode cX0_isDigit 5 = .ok (.bipush 48, 2) := by decide +kernel
theorem dX0_isDigit_7 : decode cX0_isDigit 7 = .ok (.if_icmp .lt 17, 3) := by decide +kernel
theorem dX0_isDigit_10 : decode cX0_isDigit 10 = .ok (.aload_n 0, 1) := by decide +kernel
theorem dX0_isDigit_11 : decode cX0_isDigit 11 = .ok (.iload_n 1, 1) := by decide +kernel
theorem dX0_isDigit_12 : decode cX0_isDigit 12 = .ok (.invokevirtual 19, 3) := by decide +kernel
theorem dX0_isDigit_15 : decode cX0_isDigit 15 = .ok (.bipush 57, 2) := by decide +kernel
theorem dX0_isDigit_17 : decode cX0_isDigit 17 = .ok (.if_icmp .gt 7, 3) := by decide +kernel
theorem dX0_isDigit_20 : decode cX0_isDigit 20 = .ok (.iconst 1, 1) := by decide +kernel
theorem dX0_isDigit_21 : decode cX0_isDigit 21 = .ok (.goto 4, 3) := by decide +kernel
theorem dX0_isDigit_24 : decode cX0_isDigit 24 = .ok (.iconst 0, 1) := by decide +kernel
theorem dX0_isDigit_25 : decode cX0_isDigit 25 = .ok (.ireturn, 1) := by decide +kernel
set_option maxRecDepth 20000 in
theorem ggX0_digit_X0_sign : GoodIn wsX0_digit wsX0_sign := goodIn_r _ [5, 6, 7, 8, 9] (by decide +kernel) (by decide +kernel)
set_option maxRecDepth 20000 in
theorem gX0_digit_X0_sign : GoodIn wsX0_digit (wsV RX0 19 RX0 yX0_sign wsX0_sign) := goodIn_app (goodIn_of _ (by decide +kernel)) ggX0_digit_X0_sign
theorem dX0_digit_0 : decode cX0_digit 0 = .ok (.aload_n 0, 1) := by decide +kernel
theorem dX0_digit_1 : decode cX0_digit 1 = .ok (.iload_n 1, 1) := by decide +kernel
theorem dX0_digit_2 : decode cX0_digit 2 = .ok (.invokevirtual 19, 3) := by decide +kernel
theorem dX0_digit_5 : decode cX0_digit 5 = .ok (.bipush 48, 2) := by decide +kernel
theorem dX0_digit_7 : decode cX0_digit 7 = .ok (.isub, 1) := by decide +kernel
theorem dX0_digit_8 : decode cX0_digit 8 = .ok (.ireturn, 1) := by decide +kernel
set_option maxRecDepth 20000 in
theorem ggX0_twoDigits_X0_digit : GoodIn wsX0_twoDigits wsX0_digit := goodIn_r _ [5, 6, 7, 8, 4, 9, 10, 11, 12, 13] (by decide +kernel) (by decide +kernel)
set_option maxRecDepth 20000 in
theorem gX0_twoDigits_X0_digit : GoodIn wsX0_twoDigits (wsV RX0 23 RX0 yX0_digit wsX0_digit) := goodIn_app (goodIn_of _ (by decide +kernel)) ggX0_twoDigits_X0_digit
theorem dX0_twoDigits_0 : decode cX0_twoDigits 0 = .ok (.bipush 10, 2) := by decide +kernel
theorem dX0_twoDigits_2 : decode cX0_twoDigits 2 = .ok (.aload_n 0, 1) := by decide +kernel
theorem dX0_twoDigits_3 : decode cX0_twoDigits 3 = .ok (.iload_n 1, 1) := by decide +kernel
theorem dX0_twoDigits_4 : decode cX0_twoDigits 4 = .ok (.invokevirtual 23, 3) := by decide +kernel
theorem dX0_twoDigits_7 : decode cX0_twoDigits 7 = .ok (.imul, 1) := by decide +kernel
theorem dX0_twoDigits_8 : decode cX0_twoDigits 8 = .ok (.aload_n 0, 1) := by decide +kernel
theorem dX0_twoDigits_9 : decode cX0_twoDigits 9 = .ok (.iload_n 1, 1) := by decide +kernel
theorem dX0_twoDigits_10 : decode cX0_twoDigits 10 = .ok (.iconst 1, 1) := by decide +kernel
theorem dX0_twoDigits_11 : decode cX0_twoDigits 11 = .ok (.iadd, 1) := by decide +kernel
theorem dX0_twoDigits_12 : decode cX0_twoDigits 12 = .ok (.invokevirtual 23, 3) := by decide +kernel
theorem dX0_twoDigits_15 : decode cX0_twoDigits 15 = .ok (.iadd, 1) := by decide +kernel
theorem dX0_twoDigits_16 : decode cX0_twoDigits 16 = .ok (.ireturn, 1) := by decide +kernel
set_option maxRecDepth 20000 in
theorem ggX0_kindAt_J0_length_8abf5 : GoodIn wsX0_kindAt wsJ0_length_8abf5 := goodIn_r _ [5, 6, 7, 8, 9, 4, 10, 11, 12] (by decide +kernel) (by decide +kernel)
set_option maxRecDepth 20000 in
theorem gX0_kindAt_J0_length_8abf5 : GoodIn wsX0_kindAt (wsV RX0 28 RJ0 yJ0_length_8abf5 wsJ0_length_8abf5) := goodIn_app (goodIn_of _ (by decide +kernel)) ggX0_kindAt_J0_length_8abf5
set_option maxRecDepth 20000 in
theorem ggX0_kindAt_J0_charAt_5068e : GoodIn wsX0_kindAt wsJ0_charAt_5068e := goodIn_r _ [16, 6, 17, 18, 19, 4, 20, 11, 12, 21, 22, 23, 24, 25, 26, 27, 28, 29, 30, 31, 32, 33, 34, 35, 36, 37, 38, 39, 40, 41, 42, 43, 44, 45, 46, 47, 48, 49] (by decide +kernel) (by decide +kernel)
set_option maxRecDepth 20000 in
theorem gX0_kindAt_J0_charAt_5068e : GoodIn wsX0_kindAt (wsV RX0 34 RJ0 yJ0_charAt_5068e wsJ0_charAt_5068e) := goodIn_app (goodIn_of _ (by decide +kernel)) ggX0_kindAt_J0_charAt_5068e
set_option maxRecDepth 20000 in
theorem ggX0_kindAt_X0_sign : GoodIn wsX0_kindAt wsX0_sign := goodIn_r _ [54, 55, 56, 57, 58] (by decide +kernel) (by decide +kernel)
set_option maxRecDepth 20000 in
theorem gX0_kindAt_X0_sign : GoodIn wsX0_kindAt (wsV RX0 19 RX0 yX0_sign wsX0_sign) := goodIn_app (goodIn_of _ (by decide +kernel)) ggX0_kindAt_X0_sign
theorem dX0_kindAt_0 : decode cX0_kindAt 0 = .ok (.iconst 0, 1) := by decide +kernel
theorem dX0_kindAt_1 : decode cX0_kindAt 1 = .ok (.istore_n 2, 1) := by decide +kernel
theorem dX0_kindAt_2 : decode cX0_kindAt 2 = .ok (.iload_n 2, 1) := by decide +kernel
theorem dX0_kindAt_3 : decode cX0_kindAt 3 = .ok (.ldc 26, 2) := by decide +kernel
theorem dX0_kindAt_5 : decode cX0_kindAt 5 = .ok (.invokevirtual 28, 3) := by decide +kernel
theorem dX0_kindAt_8 : decode cX0_kindAt 8 = .ok (.if_icmp .ge 25, 3) := by decide +kernel
theorem dX0_kindAt_11 : decode cX0_kindAt 11 = .ok (.ldc 26, 2) := by decide +kernel
theorem dX0_kindAt_13 : decode cX0_kindAt 13 = .ok (.iload_n 2, 1) := by decide +kernel
theorem dX0_kindAt_14 : decode cX0_kindAt 14 = .ok (.invokevirtual 34, 3) := by decide +kernel
theorem dX0_kindAt_17 : decode cX0_kindAt 17 = .ok (.aload_n 0, 1) := by decide +kernel
theorem dX0_kindAt_18 : decode cX0_kindAt 18 = .ok (.iload_n 1, 1) := by decide +kernel
theorem dX0_kindAt_19 : decode cX0_kindAt 19 = .ok (.invokevirtual 19, 3) := by decide +kernel
theorem dX0_kindAt_22 : decode cX0_kindAt 22 = .ok (.if_icmp .ne 5, 3) := by decide +kernel
theorem dX0_kindAt_25 : decode cX0_kindAt 25 = .ok (.iload_n 2, 1) := by decide +kernel
theorem dX0_kindAt_26 : decode cX0_kindAt 26 = .ok (.ireturn, 1) := by decide +kernel
theorem dX0_kindAt_27 : decode cX0_kindAt 27 = .ok (.iinc 2 1, 3) := by decide +kernel
theorem dX0_kindAt_30 : decode cX0_kindAt 30 = .ok (.goto (-28), 3) := by decide +kernel
theorem dX0_kindAt_33 : decode cX0_kindAt 33 = .ok (.iconst (-1), 1) := by decide +kernel
theorem dX0_kindAt_34 : decode cX0_kindAt 34 = .ok (.ireturn, 1) := by decide +kernel
set_option maxRecDepth 20000 in
theorem ggX0_spelling_X0_behindStatement : GoodIn wsX0_spelling wsX0_behindStatement := goodIn_r _ [6, 7, 8, 9, 5, 10, 1, 11, 12, 13, 14, 15, 16, 17, 18, 19, 20, 21, 22, 23, 24, 25, 26, 27, 28, 29, 30, 31, 32, 33, 34, 35, 36, 37, 38, 39, 40, 41, 42, 43, 44, 45, 46, 47, 48, 49, 50, 51, 52, 53, 54, 55, 56, 57, 58, 59, 60, 61, 62, 63, 64, 65, 66, 67, 68, 69, 70, 71, 72, 73, 74] (by decide +kernel) (by decide +kernel)
set_option maxRecDepth 20000 in
theorem gX0_spelling_X0_behindStatement : GoodIn wsX0_spelling (wsV RX0 38 RX0 yX0_behindStatement wsX0_behindStatement) := goodIn_app (goodIn_of _ (by decide +kernel)) ggX0_spelling_X0_behindStatement
theorem dX0_spelling_0 : decode cX0_spelling 0 = .ok (.iconst 0, 1) := by decide +kernel
theorem dX0_spelling_1 : decode cX0_spelling 1 = .ok (.istore_n 1, 1) := by decide +kernel
theorem dX0_spelling_2 : decode cX0_spelling 2 = .ok (.iconst 0, 1) := by decide +kernel
theorem dX0_spelling_3 : decode cX0_spelling 3 = .ok (.istore_n 2, 1) := by decide +kernel
theorem dX0_spelling_4 : decode cX0_spelling 4 = .ok (.iload_n 2, 1) := by decide +kernel
theorem dX0_spelling_5 : decode cX0_spelling 5 = .ok (.bipush 96, 2) := by decide +kernel
theorem dX0_spelling_7 : decode cX0_spelling 7 = .ok (.if_icmp .ge 37, 3) := by decide +kernel
theorem dX0_spelling_10 : decode cX0_spelling 10 = .ok (.aload_n 0, 1) := by decide +kernel
theorem dX0_spelling_11 : decode cX0_spelling 11 = .ok (.iload_n 1, 1) := by decide +kernel
theorem dX0_spelling_12 : decode cX0_spelling 12 = .ok (.invokevirtual 38, 3) := by decide +kernel
theorem dX0_spelling_15 : decode cX0_spelling 15 = .ok (.istore_n 3, 1) := by decide +kernel
theorem dX0_spelling_16 : decode cX0_spelling 16 = .ok (.iload_n 3, 1) := by decide +kernel
theorem dX0_spelling_17 : decode cX0_spelling 17 = .ok (.ifCond .ge 9, 3) := by decide +kernel
theorem dX0_spelling_20 : decode cX0_spelling 20 = .ok (.sipush (-999), 3) := by decide +kernel
theorem dX0_spelling_23 : decode cX0_spelling 23 = .ok (.iload_n 3, 1) := by decide +kernel
theorem dX0_spelling_24 : decode cX0_spelling 24 = .ok (.iadd, 1) := by decide +kernel
theorem dX0_spelling_25 : decode cX0_spelling 25 = .ok (.ireturn, 1) := by decide +kernel
theorem dX0_spelling_26 : decode cX0_spelling 26 = .ok (.iload_n 3, 1) := by decide +kernel
theorem dX0_spelling_27 : decode cX0_spelling 27 = .ok (.aload_n 0, 1) := by decide +kernel
theorem dX0_spelling_28 : decode cX0_spelling 28 = .ok (.getfield 15, 3) := by decide +kernel
theorem dX0_spelling_31 : decode cX0_spelling 31 = .ok (.if_icmp .lt 5, 3) := by decide +kernel
theorem dX0_spelling_34 : decode cX0_spelling 34 = .ok (.iconst 0, 1) := by decide +kernel
theorem dX0_spelling_35 : decode cX0_spelling 35 = .ok (.ireturn, 1) := by decide +kernel
theorem dX0_spelling_36 : decode cX0_spelling 36 = .ok (.iload_n 3, 1) := by decide +kernel
theorem dX0_spelling_37 : decode cX0_spelling 37 = .ok (.istore_n 1, 1) := by decide +kernel
theorem dX0_spelling_38 : decode cX0_spelling 38 = .ok (.iinc 2 1, 3) := by decide +kernel
theorem dX0_spelling_41 : decode cX0_spelling 41 = .ok (.goto (-37), 3) := by decide +kernel
theorem dX0_spelling_44 : decode cX0_spelling 44 = .ok (.iconst 0, 1) := by decide +kernel
theorem dX0_spelling_45 : decode cX0_spelling 45 = .ok (.ireturn, 1) := by decide +kernel
set_option maxRecDepth 20000 in
theorem ggX0_behindStatement_X0_sign : GoodIn wsX0_behindStatement wsX0_sign := goodIn_r _ [5, 6, 7, 69, 70] (by decide +kernel) (by decide +kernel)
set_option maxRecDepth 20000 in
theorem gX0_behindStatement_X0_sign : GoodIn wsX0_behindStatement (wsV RX0 19 RX0 yX0_sign wsX0_sign) := goodIn_app (goodIn_of _ (by decide +kernel)) ggX0_behindStatement_X0_sign
set_option maxRecDepth 20000 in
theorem ggX0_behindStatement_X0_kindAt : GoodIn wsX0_behindStatement wsX0_kindAt := goodIn_r _ [11, 12, 13, 14, 15, 16, 17, 18, 19, 20, 21, 22, 23, 24, 25, 26, 27, 28, 29, 30, 31, 32, 33, 34, 35, 36, 37, 38, 39, 40, 41, 42, 43, 44, 45, 46, 47, 48, 49, 50, 51, 52, 53, 54, 55, 56, 57, 58, 59, 60, 1, 2, 3, 4, 5, 6, 7, 69, 70] (by decide +kernel) (by decide +kernel)
set_option maxRecDepth 20000 in
theorem gX0_behindStatement_X0_kindAt : GoodIn wsX0_behindStatement (wsV RX0 41 RX0 yX0_kindAt wsX0_kindAt) := goodIn_app (goodIn_of _ (by decide +kernel)) ggX0_behindStatement_X0_kindAt
set_option maxRecDepth 20000 in
theorem ggX0_behindStatement_X0_behindDigits : GoodIn wsX0_behindStatement wsX0_behindDigits := goodIn_r _ [64, 65, 66, 67, 4, 68, 1, 2, 3, 5, 6, 7, 69, 70] (by decide +kernel) (by decide +kernel)
set_option maxRecDepth 20000 in
theorem gX0_behindStatement_X0_behindDigits : GoodIn wsX0_behindStatement (wsV RX0 44 RX0 yX0_behindDigits wsX0_behindDigits) := goodIn_app (goodIn_of _ (by decide +kernel)) ggX0_behindStatement_X0_behindDigits
theorem dX0_behindStatement_0 : decode cX0_behindStatement 0 = .ok (.aload_n 0, 1) := by decide +kernel
theorem dX0_behindStatement_1 : decode cX0_behindStatement 1 = .ok (.iload_n 1, 1) := by decide +kernel
theorem dX0_behindStatement_2 : decode cX0_behindStatement 2 = .ok (.invokevirtual 19, 3) := by decide +kernel
theorem dX0_behindStatement_5 : decode cX0_behindStatement 5 = .ok (.lookupswitch 138 #[(97, 97), (99, 59), (100, 118), (113, 108), (119, 87), (121, 128)], 59) := by decide +kernel
theorem dX0_behindStatement_64 : decode cX0_behindStatement 64 = .ok (.aload_n 0, 1) := by decide +kernel
theorem dX0_behindStatement_65 : decode cX0_behindStatement 65 = .ok (.iload_n 1, 1) := by decide +kernel
theorem dX0_behindStatement_66 : decode cX0_behindStatement 66 = .ok (.iconst 1, 1) := by decide +kernel
theorem dX0_behindStatement_67 : decode cX0_behindStatement 67 = .ok (.iadd, 1) := by decide +kernel
theorem dX0_behindStatement_68 : decode cX0_behindStatement 68 = .ok (.invokevirtual 41, 3) := by decide +kernel
theorem dX0_behindStatement_71 : decode cX0_behindStatement 71 = .ok (.ifCond .ge 11, 3) := by decide +kernel
theorem dX0_behindStatement_74 : decode cX0_behindStatement 74 = .ok (.iconst (-1), 1) := by decide +kernel
theorem dX0_behindStatement_75 : decode cX0_behindStatement 75 = .ok (.iload_n 1, 1) := by decide +kernel
theorem dX0_behindStatement_76 : decode cX0_behindStatement 76 = .ok (.iconst 1, 1) := by decide +kernel
theorem dX0_behindStatement_77 : decode cX0_behindStatement 77 = .ok (.iadd, 1) := by decide +kernel
theorem dX0_behindStatement_78 : decode cX0_behindStatement 78 = .ok (.isub, 1) := by decide +kernel
theorem dX0_behindStatement_79 : decode cX0_behindStatement 79 = .ok (.goto 12, 3) := by decide +kernel
theorem dX0_behindStatement_82 : decode cX0_behindStatement 82 = .ok (.aload_n 0, 1) := by decide +kernel
theorem dX0_behindStatement_83 : decode cX0_behindStatement 83 = .ok (.iload_n 1, 1) := by decide +kernel
theorem dX0_behindStatement_84 : decode cX0_behindStatement 84 = .ok (.iconst 2, 1) := by decide +kernel
theorem dX0_behindStatement_85 : decode cX0_behindStatement 85 = .ok (.iadd, 1) := by decide +kernel
theorem dX0_behindStatement_86 : decode cX0_behindStatement 86 = .ok (.iconst 3, 1) := by decide +kernel
theorem dX0_behindStatement_87 : decode cX0_behindStatement 87 = .ok (.iconst 3, 1) := by decide +kernel
theorem dX0_behindStatement_88 : decode cX0_behindStatement 88 = .ok (.invokevirtual 44, 3) := by decide +kernel
theorem dX0_behindStatement_91 : decode cX0_behindStatement 91 = .ok (.ireturn, 1) := by decide +kernel
theorem dX0_behindStatement_92 : decode cX0_behindStatement 92 = .ok (.aload_n 0, 1) := by decide +kernel
theorem dX0_behindStatement_93 : decode cX0_behindStatement 93 = .ok (.iload_n 1, 1) := by decide +kernel
theorem dX0_behindStatement_94 : decode cX0_behindStatement 94 = .ok (.iconst 1, 1) := by decide +kernel
theorem dX0_behindStatement_95 : decode cX0_behindStatement 95 = .ok (.iadd, 1) := by decide +kernel
theorem dX0_behindStatement_96 : decode cX0_behindStatement 96 = .ok (.iconst 3, 1) := by decide +kernel
theorem dX0_behindStatement_97 : decode cX0_behindStatement 97 = .ok (.iconst 3, 1) := by decide +kernel
theorem dX0_behindStatement_98 : decode cX0_behindStatement 98 = .ok (.invokevirtual 44, 3) := by decide +kernel
theorem dX0_behindStatement_101 : decode cX0_behindStatement 101 = .ok (.ireturn, 1) := by decide +kernel
theorem dX0_behindStatement_102 : decode cX0_behindStatement 102 = .ok (.aload_n 0, 1) := by decide +kernel
theorem dX0_behindStatement_103 : decode cX0_behindStatement 103 = .ok (.iload_n 1, 1) := by decide +kernel
theorem dX0_behindStatement_104 : decode cX0_behindStatement 104 = .ok (.iconst 1, 1) := by decide +kernel
theorem dX0_behindStatement_105 : decode cX0_behindStatement 105 = .ok (.iadd, 1) := by decide +kernel
theorem dX0_behindStatement_106 : decode cX0_behindStatement 106 = .ok (.iconst 2, 1) := by decide +kernel
theorem dX0_behindStatement_107 : decode cX0_behindStatement 107 = .ok (.bipush 9, 2) := by decide +kernel
theorem dX0_behindStatement_109 : decode cX0_behindStatement 109 = .ok (.invokevirtual 44, 3) := by decide +kernel
theorem dX0_behindStatement_112 : decode cX0_behindStatement 112 = .ok (.ireturn, 1) := by decide +kernel
theorem dX0_behindStatement_113 : decode cX0_behindStatement 113 = .ok (.aload_n 0, 1) := by decide +kernel
theorem dX0_behindStatement_114 : decode cX0_behindStatement 114 = .ok (.iload_n 1, 1) := by decide +kernel
theorem dX0_behindStatement_115 : decode cX0_behindStatement 115 = .ok (.iconst 1, 1) := by decide +kernel
theorem dX0_behindStatement_116 : decode cX0_behindStatement 116 = .ok (.iadd, 1) := by decide +kernel
theorem dX0_behindStatement_117 : decode cX0_behindStatement 117 = .ok (.iconst 3, 1) := by decide +kernel
theorem dX0_behindStatement_118 : decode cX0_behindStatement 118 = .ok (.iconst 3, 1) := by decide +kernel
theorem dX0_behindStatement_119 : decode cX0_behindStatement 119 = .ok (.invokevirtual 44, 3) := by decide +kernel
theorem dX0_behindStatement_122 : decode cX0_behindStatement 122 = .ok (.ireturn, 1) := by decide +kernel
theorem dX0_behindStatement_123 : decode cX0_behindStatement 123 = .ok (.aload_n 0, 1) := by decide +kernel
theorem dX0_behindStatement_124 : decode cX0_behindStatement 124 = .ok (.iload_n 1, 1) := by decide +kernel
theorem dX0_behindStatement_125 : decode cX0_behindStatement 125 = .ok (.iconst 1, 1) := by decide +kernel
theorem dX0_behindStatement_126 : decode cX0_behindStatement 126 = .ok (.iadd, 1) := by decide +kernel
theorem dX0_behindStatement_127 : decode cX0_behindStatement 127 = .ok (.iconst 1, 1) := by decide +kernel
theorem dX0_behindStatement_128 : decode cX0_behindStatement 128 = .ok (.iconst 1, 1) := by decide +kernel
theorem dX0_behindStatement_129 : decode cX0_behindStatement 129 = .ok (.invokevirtual 44, 3) := by decide +kernel
theorem dX0_behindStatement_132 : decode cX0_behindStatement 132 = .ok (.ireturn, 1) := by decide +kernel
theorem dX0_behindStatement_133 : decode cX0_behindStatement 133 = .ok (.aload_n 0, 1) := by decide +kernel
theorem dX0_behindStatement_134 : decode cX0_behindStatement 134 = .ok (.iload_n 1, 1) := by decide +kernel
theorem dX0_behindStatement_135 : decode cX0_behindStatement 135 = .ok (.iconst 1, 1) := by decide +kernel
theorem dX0_behindStatement_136 : decode cX0_behindStatement 136 = .ok (.iadd, 1) := by decide +kernel
theorem dX0_behindStatement_137 : decode cX0_behindStatement 137 = .ok (.iconst 2, 1) := by decide +kernel
theorem dX0_behindStatement_138 : decode cX0_behindStatement 138 = .ok (.iconst 2, 1) := by decide +kernel
theorem dX0_behindStatement_139 : decode cX0_behindStatement 139 = .ok (.invokevirtual 44, 3) := by decide +kernel
theorem dX0_behindStatement_142 : decode cX0_behindStatement 142 = .ok (.ireturn, 1) := by decide +kernel
theorem dX0_behindStatement_143 : decode cX0_behindStatement 143 = .ok (.iconst (-1), 1) := by decide +kernel
theorem dX0_behindStatement_144 : decode cX0_behindStatement 144 = .ok (.iload_n 1, 1) := by decide +kernel
theorem dX0_behindStatement_145 : decode cX0_behindStatement 145 = .ok (.isub, 1) := by decide +kernel
theorem dX0_behindStatement_146 : decode cX0_behindStatement 146 = .ok (.ireturn, 1) := by decide +kernel
set_option maxRecDepth 20000 in
theorem ggX0_behindDigits_X0_isDigit : GoodIn wsX0_behindDigits wsX0_isDigit := goodIn_r _ [5, 6, 7, 8, 4, 9, 10, 11, 12, 13] (by decide +kernel) (by decide +kernel)
set_option maxRecDepth 20000 in
theorem gX0_behindDigits_X0_isDigit : GoodIn wsX0_behindDigits (wsV RX0 48 RX0 yX0_isDigit wsX0_isDigit) := goodIn_app (goodIn_of _ (by decide +kernel)) ggX0_behindDigits_X0_isDigit
set_option maxRecDepth 20000 in
theorem ggX0_behindDigits_X0_sign : GoodIn wsX0_behindDigits wsX0_sign := goodIn_r _ [9, 10, 11, 12, 13] (by decide +kernel) (by decide +kernel)
set_option maxRecDepth 20000 in
theorem gX0_behindDigits_X0_sign : GoodIn wsX0_behindDigits (wsV RX0 19 RX0 yX0_sign wsX0_sign) := goodIn_app (goodIn_of _ (by decide +kernel)) ggX0_behindDigits_X0_sign
theorem dX0_behindDigits_0 : decode cX0_behindDigits 0 = .ok (.iload_n 1, 1) := by decide +kernel
theorem dX0_behindDigits_1 : decode cX0_behindDigits 1 = .ok (.istore 4, 2) := by decide +kernel
theorem dX0_behindDigits_3 : decode cX0_behindDigits 3 = .ok (.iload 4, 2) := by decide +kernel
theorem dX0_behindDigits_5 : decode cX0_behindDigits 5 = .ok (.iload_n 1, 1) := by decide +kernel
theorem dX0_behindDigits_6 : decode cX0_behindDigits 6 = .ok (.iload_n 3, 1) := by decide +kernel
theorem dX0_behindDigits_7 : decode cX0_behindDigits 7 = .ok (.iadd, 1) := by decide +kernel
theorem dX0_behindDigits_8 : decode cX0_behindDigits 8 = .ok (.if_icmp .ge 18, 3) := by decide +kernel
theorem dX0_behindDigits_11 : decode cX0_behindDigits 11 = .ok (.aload_n 0, 1) := by decide +kernel
theorem dX0_behindDigits_12 : decode cX0_behindDigits 12 = .ok (.iload 4, 2) := by decide +kernel
theorem dX0_behindDigits_14 : decode cX0_behindDigits 14 = .ok (.invokevirtual 48, 3) := by decide +kernel
theorem dX0_behindDigits_17 : decode cX0_behindDigits 17 = .ok (.ifCond .eq 9, 3) := by decide +kernel
theorem dX0_behindDigits_20 : decode cX0_behindDigits 20 = .ok (.iinc 4 1, 3) := by decide +kernel
theorem dX0_behindDigits_23 : decode cX0_behindDigits 23 = .ok (.goto (-20), 3) := by decide +kernel
theorem dX0_behindDigits_26 : decode cX0_behindDigits 26 = .ok (.iload 4, 2) := by decide +kernel
theorem dX0_behindDigits_28 : decode cX0_behindDigits 28 = .ok (.iload_n 1, 1) := by decide +kernel
theorem dX0_behindDigits_29 : decode cX0_behindDigits 29 = .ok (.iload_n 2, 1) := by decide +kernel
theorem dX0_behindDigits_30 : decode cX0_behindDigits 30 = .ok (.iadd, 1) := by decide +kernel
theorem dX0_behindDigits_31 : decode cX0_behindDigits 31 = .ok (.if_icmp .lt 14, 3) := by decide +kernel
theorem dX0_behindDigits_34 : decode cX0_behindDigits 34 = .ok (.aload_n 0, 1) := by decide +kernel
theorem dX0_behindDigits_35 : decode cX0_behindDigits 35 = .ok (.iload 4, 2) := by decide +kernel
theorem dX0_behindDigits_37 : decode cX0_behindDigits 37 = .ok (.invokevirtual 19, 3) := by decide +kernel
theorem dX0_behindDigits_40 : decode cX0_behindDigits 40 = .ok (.bipush 59, 2) := by decide +kernel
theorem dX0_behindDigits_42 : decode cX0_behindDigits 42 = .ok (.if_icmp .eq 8, 3) := by decide +kernel
theorem dX0_behindDigits_45 : decode cX0_behindDigits 45 = .ok (.iconst (-1), 1) := by decide +kernel
theorem dX0_behindDigits_46 : decode cX0_behindDigits 46 = .ok (.iload 4, 2) := by decide +kernel
theorem dX0_behindDigits_48 : decode cX0_behindDigits 48 = .ok (.isub, 1) := by decide +kernel
theorem dX0_behindDigits_49 : decode cX0_behindDigits 49 = .ok (.ireturn, 1) := by decide +kernel
theorem dX0_behindDigits_50 : decode cX0_behindDigits 50 = .ok (.iload 4, 2) := by decide +kernel
theorem dX0_behindDigits_52 : decode cX0_behindDigits 52 = .ok (.iconst 1, 1) := by decide +kernel
theorem dX0_behindDigits_53 : decode cX0_behindDigits 53 = .ok (.iadd, 1) := by decide +kernel
theorem dX0_behindDigits_54 : decode cX0_behindDigits 54 = .ok (.ireturn, 1) := by decide +kernel
set_option maxRecDepth 20000 in
theorem ggX0_tellStatement_X0_sign : GoodIn wsX0_tellStatement wsX0_sign := goodIn_r _ [5, 6, 7, 165, 166] (by decide +kernel) (by decide +kernel)
set_option maxRecDepth 20000 in
theorem gX0_tellStatement_X0_sign : GoodIn wsX0_tellStatement (wsV RX0 19 RX0 yX0_sign wsX0_sign) := goodIn_app (goodIn_of _ (by decide +kernel)) ggX0_tellStatement_X0_sign
set_option maxRecDepth 20000 in
theorem ggX0_tellStatement_X0_kindAt : GoodIn wsX0_tellStatement wsX0_kindAt := goodIn_r _ [11, 12, 13, 14, 15, 16, 17, 18, 19, 20, 21, 22, 23, 24, 25, 26, 27, 28, 29, 30, 31, 32, 33, 34, 35, 36, 37, 38, 39, 40, 41, 42, 43, 44, 45, 46, 47, 48, 49, 50, 51, 52, 53, 54, 55, 56, 57, 58, 59, 60, 1, 2, 3, 4, 5, 6, 7, 165, 166] (by decide +kernel) (by decide +kernel)
set_option maxRecDepth 20000 in
theorem gX0_tellStatement_X0_kindAt : GoodIn wsX0_tellStatement (wsV RX0 41 RX0 yX0_kindAt wsX0_kindAt) := goodIn_app (goodIn_of _ (by decide +kernel)) ggX0_tellStatement_X0_kindAt
set_option maxRecDepth 20000 in
theorem ggX0_tellStatement_X0_digit : GoodIn wsX0_tellStatement wsX0_digit := goodIn_r _ [64, 1, 2, 3, 4, 5, 6, 7, 165, 166] (by decide +kernel) (by decide +kernel)
set_option maxRecDepth 20000 in
theorem gX0_tellStatement_X0_digit : GoodIn wsX0_tellStatement (wsV RX0 23 RX0 yX0_digit wsX0_digit) := goodIn_app (goodIn_of _ (by decide +kernel)) ggX0_tellStatement_X0_digit
set_option maxRecDepth 20000 in
theorem ggX0_tellStatement_X0_twoDigits : GoodIn wsX0_tellStatement wsX0_twoDigits := goodIn_r _ [68, 61, 62, 63, 4, 64, 1, 2, 3, 5, 6, 7, 165, 166] (by decide +kernel) (by decide +kernel)
set_option maxRecDepth 20000 in
theorem gX0_tellStatement_X0_twoDigits : GoodIn wsX0_tellStatement (wsV RX0 52 RX0 yX0_twoDigits wsX0_twoDigits) := goodIn_app (goodIn_of _ (by decide +kernel)) ggX0_tellStatement_X0_twoDigits
set_option maxRecDepth 20000 in
theorem ggX0_tellStatement_X1_settle : GoodIn wsX0_tellStatement wsX1_settle := goodIn_r _ [72, 73, 74, 75, 76, 77, 167, 168, 169, 170, 171, 172, 173, 174] (by decide +kernel) (by decide +kernel)
set_option maxRecDepth 20000 in
theorem gX0_tellStatement_X1_settle_n55 : GoodIn wsX0_tellStatement (wsX1_settle) := ggX0_tellStatement_X1_settle
set_option maxRecDepth 20000 in
theorem ggX0_tellStatement_X1_hear : GoodIn wsX0_tellStatement wsX1_hear := goodIn_r _ [80, 81, 82, 83, 70, 84, 73, 77, 85, 86, 87, 88, 89, 90, 91, 92, 93, 167, 168, 169, 170, 171, 172, 173, 174] (by decide +kernel) (by decide +kernel)
set_option maxRecDepth 20000 in
theorem gX0_tellStatement_X1_hear_n61 : GoodIn wsX0_tellStatement (wsX1_hear) := ggX0_tellStatement_X1_hear
set_option maxRecDepth 20000 in
theorem ggX0_tellStatement_X0_tellAll : GoodIn wsX0_tellStatement wsX0_tellAll := goodIn_r _ [97, 98, 99, 100, 4, 101, 1, 2, 3, 5, 6, 7, 61, 62, 63, 64, 78, 70, 79, 80, 81, 82, 83, 84, 73, 77, 85, 86, 87, 88, 89, 90, 91, 92, 93, 165, 166, 167, 168, 169, 170, 171, 172, 173, 174] (by decide +kernel) (by decide +kernel)
set_option maxRecDepth 20000 in
theorem gX0_tellStatement_X0_tellAll : GoodIn wsX0_tellStatement (wsV RX0 64 RX0 yX0_tellAll wsX0_tellAll) := goodIn_app (goodIn_of _ (by decide +kernel)) ggX0_tellStatement_X0_tellAll
set_option maxRecDepth 20000 in
theorem ggX0_tellStatement_X0_tellQuarrel : GoodIn wsX0_tellStatement wsX0_tellQuarrel := goodIn_r _ [105, 61, 62, 63, 4, 64, 1, 2, 3, 5, 6, 7, 78, 70, 79, 80, 81, 82, 83, 84, 73, 77, 85, 86, 87, 88, 89, 90, 91, 92, 93, 165, 166, 167, 168, 169, 170, 171, 172, 173, 174] (by decide +kernel) (by decide +kernel)
set_option maxRecDepth 20000 in
theorem gX0_tellStatement_X0_tellQuarrel : GoodIn wsX0_tellStatement (wsV RX0 68 RX0 yX0_tellQuarrel wsX0_tellQuarrel) := goodIn_app (goodIn_of _ (by decide +kernel)) ggX0_tellStatement_X0_tellQuarrel
set_option maxRecDepth 20000 in
theorem ggX0_tellStatement_X1_bury : GoodIn wsX0_tellStatement wsX1_bury := goodIn_r _ [108, 77, 81, 82, 83, 70, 84, 73, 167, 168, 169, 170, 171, 172, 173, 174] (by decide +kernel) (by decide +kernel)
set_option maxRecDepth 20000 in
theorem gX0_tellStatement_X1_bury_n71 : GoodIn wsX0_tellStatement (wsX1_bury) := ggX0_tellStatement_X1_bury
set_option maxRecDepth 20000 in
theorem ggX0_tellStatement_X1_spend : GoodIn wsX0_tellStatement wsX1_spend := goodIn_r _ [111, 112, 113, 114, 115, 70, 116, 77, 73, 117, 118, 119, 120, 76, 121, 122, 123, 124, 81, 82, 83, 84, 125, 126, 127, 128, 129, 130, 131, 132, 74, 75, 133, 106, 107, 108, 134, 135, 136, 137, 138, 139, 140, 141, 92, 93, 142, 143, 144, 145, 146, 147, 148, 149, 150, 151, 152, 153, 154, 155, 156, 157, 158, 159, 160, 161, 162, 163, 164, 88, 89, 90, 91, 167, 168, 169, 170, 171, 172, 173, 174] (by decide +kernel) (by decide +kernel)
set_option maxRecDepth 20000 in
theorem gX0_tellStatement_X1_spend_n74 : GoodIn wsX0_tellStatement (wsX1_spend) := ggX0_tellStatement_X1_spend
theorem dX0_tellStatement_0 : decode cX0_tellStatement 0 = .ok (.aload_n 0, 1) := by decide +kernel
theorem dX0_tellStatement_1 : decode cX0_tellStatement 1 = .ok (.iload_n 1, 1) := by decide +kernel
theorem dX0_tellStatement_2 : decode cX0_tellStatement 2 = .ok (.invokevirtual 19, 3) := by decide +kernel
theorem dX0_tellStatement_5 : decode cX0_tellStatement 5 = .ok (.lookupswitch 149 #[(97, 111), (99, 59), (100, 125), (113, 118), (119, 85), (121, 137)], 59) := by decide +kernel
theorem dX0_tellStatement_64 : decode cX0_tellStatement 64 = .ok (.aload_n 2, 1) := by decide +kernel
theorem dX0_tellStatement_65 : decode cX0_tellStatement 65 = .ok (.aload_n 0, 1) := by decide +kernel
theorem dX0_tellStatement_66 : decode cX0_tellStatement 66 = .ok (.iload_n 1, 1) := by decide +kernel
theorem dX0_tellStatement_67 : decode cX0_tellStatement 67 = .ok (.iconst 1, 1) := by decide +kernel
theorem dX0_tellStatement_68 : decode cX0_tellStatement 68 = .ok (.iadd, 1) := by decide +kernel
theorem dX0_tellStatement_69 : decode cX0_tellStatement 69 = .ok (.invokevirtual 41, 3) := by decide +kernel
theorem dX0_tellStatement_72 : decode cX0_tellStatement 72 = .ok (.aload_n 0, 1) := by decide +kernel
theorem dX0_tellStatement_73 : decode cX0_tellStatement 73 = .ok (.iload_n 1, 1) := by decide +kernel
theorem dX0_tellStatement_74 : decode cX0_tellStatement 74 = .ok (.iconst 2, 1) := by decide +kernel
theorem dX0_tellStatement_75 : decode cX0_tellStatement 75 = .ok (.iadd, 1) := by decide +kernel
theorem dX0_tellStatement_76 : decode cX0_tellStatement 76 = .ok (.invokevirtual 23, 3) := by decide +kernel
theorem dX0_tellStatement_79 : decode cX0_tellStatement 79 = .ok (.aload_n 0, 1) := by decide +kernel
theorem dX0_tellStatement_80 : decode cX0_tellStatement 80 = .ok (.iload_n 1, 1) := by decide +kernel
theorem dX0_tellStatement_81 : decode cX0_tellStatement 81 = .ok (.iconst 3, 1) := by decide +kernel
theorem dX0_tellStatement_82 : decode cX0_tellStatement 82 = .ok (.iadd, 1) := by decide +kernel
theorem dX0_tellStatement_83 : decode cX0_tellStatement 83 = .ok (.invokevirtual 52, 3) := by decide +kernel
theorem dX0_tellStatement_86 : decode cX0_tellStatement 86 = .ok (.invokevirtual 55, 3) := by decide +kernel
theorem dX0_tellStatement_89 : decode cX0_tellStatement 89 = .ok (.ireturn, 1) := by decide +kernel
theorem dX0_tellStatement_90 : decode cX0_tellStatement 90 = .ok (.aload_n 2, 1) := by decide +kernel
theorem dX0_tellStatement_91 : decode cX0_tellStatement 91 = .ok (.aload_n 0, 1) := by decide +kernel
theorem dX0_tellStatement_92 : decode cX0_tellStatement 92 = .ok (.iload_n 1, 1) := by decide +kernel
theorem dX0_tellStatement_93 : decode cX0_tellStatement 93 = .ok (.iconst 1, 1) := by decide +kernel
theorem dX0_tellStatement_94 : decode cX0_tellStatement 94 = .ok (.iadd, 1) := by decide +kernel
theorem dX0_tellStatement_95 : decode cX0_tellStatement 95 = .ok (.invokevirtual 23, 3) := by decide +kernel
theorem dX0_tellStatement_98 : decode cX0_tellStatement 98 = .ok (.aload_n 0, 1) := by decide +kernel
theorem dX0_tellStatement_99 : decode cX0_tellStatement 99 = .ok (.iload_n 1, 1) := by decide +kernel
theorem dX0_tellStatement_100 : decode cX0_tellStatement 100 = .ok (.iconst 2, 1) := by decide +kernel
theorem dX0_tellStatement_101 : decode cX0_tellStatement 101 = .ok (.iadd, 1) := by decide +kernel
theorem dX0_tellStatement_102 : decode cX0_tellStatement 102 = .ok (.invokevirtual 23, 3) := by decide +kernel
theorem dX0_tellStatement_105 : decode cX0_tellStatement 105 = .ok (.aload_n 0, 1) := by decide +kernel
theorem dX0_tellStatement_106 : decode cX0_tellStatement 106 = .ok (.iload_n 1, 1) := by decide +kernel
theorem dX0_tellStatement_107 : decode cX0_tellStatement 107 = .ok (.iconst 3, 1) := by decide +kernel
theorem dX0_tellStatement_108 : decode cX0_tellStatement 108 = .ok (.iadd, 1) := by decide +kernel
theorem dX0_tellStatement_109 : decode cX0_tellStatement 109 = .ok (.invokevirtual 23, 3) := by decide +kernel
theorem dX0_tellStatement_112 : decode cX0_tellStatement 112 = .ok (.invokevirtual 61, 3) := by decide +kernel
theorem dX0_tellStatement_115 : decode cX0_tellStatement 115 = .ok (.ireturn, 1) := by decide +kernel
theorem dX0_tellStatement_116 : decode cX0_tellStatement 116 = .ok (.aload_n 0, 1) := by decide +kernel
theorem dX0_tellStatement_117 : decode cX0_tellStatement 117 = .ok (.iload_n 1, 1) := by decide +kernel
theorem dX0_tellStatement_118 : decode cX0_tellStatement 118 = .ok (.aload_n 2, 1) := by decide +kernel
theorem dX0_tellStatement_119 : decode cX0_tellStatement 119 = .ok (.invokevirtual 64, 3) := by decide +kernel
theorem dX0_tellStatement_122 : decode cX0_tellStatement 122 = .ok (.ireturn, 1) := by decide +kernel
theorem dX0_tellStatement_123 : decode cX0_tellStatement 123 = .ok (.aload_n 0, 1) := by decide +kernel
theorem dX0_tellStatement_124 : decode cX0_tellStatement 124 = .ok (.iload_n 1, 1) := by decide +kernel
theorem dX0_tellStatement_125 : decode cX0_tellStatement 125 = .ok (.aload_n 2, 1) := by decide +kernel
theorem dX0_tellStatement_126 : decode cX0_tellStatement 126 = .ok (.invokevirtual 68, 3) := by decide +kernel
theorem dX0_tellStatement_129 : decode cX0_tellStatement 129 = .ok (.ireturn, 1) := by decide +kernel
theorem dX0_tellStatement_130 : decode cX0_tellStatement 130 = .ok (.aload_n 2, 1) := by decide +kernel
theorem dX0_tellStatement_131 : decode cX0_tellStatement 131 = .ok (.aload_n 0, 1) := by decide +kernel
theorem dX0_tellStatement_132 : decode cX0_tellStatement 132 = .ok (.iload_n 1, 1) := by decide +kernel
theorem dX0_tellStatement_133 : decode cX0_tellStatement 133 = .ok (.iconst 1, 1) := by decide +kernel
theorem dX0_tellStatement_134 : decode cX0_tellStatement 134 = .ok (.iadd, 1) := by decide +kernel
theorem dX0_tellStatement_135 : decode cX0_tellStatement 135 = .ok (.invokevirtual 23, 3) := by decide +kernel
theorem dX0_tellStatement_138 : decode cX0_tellStatement 138 = .ok (.invokevirtual 71, 3) := by decide +kernel
theorem dX0_tellStatement_141 : decode cX0_tellStatement 141 = .ok (.ireturn, 1) := by decide +kernel
theorem dX0_tellStatement_142 : decode cX0_tellStatement 142 = .ok (.aload_n 2, 1) := by decide +kernel
theorem dX0_tellStatement_143 : decode cX0_tellStatement 143 = .ok (.aload_n 0, 1) := by decide +kernel
theorem dX0_tellStatement_144 : decode cX0_tellStatement 144 = .ok (.iload_n 1, 1) := by decide +kernel
theorem dX0_tellStatement_145 : decode cX0_tellStatement 145 = .ok (.iconst 1, 1) := by decide +kernel
theorem dX0_tellStatement_146 : decode cX0_tellStatement 146 = .ok (.iadd, 1) := by decide +kernel
theorem dX0_tellStatement_147 : decode cX0_tellStatement 147 = .ok (.invokevirtual 52, 3) := by decide +kernel
theorem dX0_tellStatement_150 : decode cX0_tellStatement 150 = .ok (.invokevirtual 74, 3) := by decide +kernel
theorem dX0_tellStatement_153 : decode cX0_tellStatement 153 = .ok (.ireturn, 1) := by decide +kernel
theorem dX0_tellStatement_154 : decode cX0_tellStatement 154 = .ok (.iconst 0, 1) := by decide +kernel
theorem dX0_tellStatement_155 : decode cX0_tellStatement 155 = .ok (.ireturn, 1) := by decide +kernel
set_option maxRecDepth 20000 in
theorem ggX0_tellAll_X0_isDigit : GoodIn wsX0_tellAll wsX0_isDigit := goodIn_r _ [5, 6, 7, 8, 4, 9, 10, 11, 35, 36] (by decide +kernel) (by decide +kernel)
set_option maxRecDepth 20000 in
theorem gX0_tellAll_X0_isDigit : GoodIn wsX0_tellAll (wsV RX0 48 RX0 yX0_isDigit wsX0_isDigit) := goodIn_app (goodIn_of _ (by decide +kernel)) ggX0_tellAll_X0_isDigit
set_option maxRecDepth 20000 in
theorem ggX0_tellAll_X0_digit : GoodIn wsX0_tellAll wsX0_digit := goodIn_r _ [15, 6, 7, 8, 4, 9, 10, 11, 35, 36] (by decide +kernel) (by decide +kernel)
set_option maxRecDepth 20000 in
theorem gX0_tellAll_X0_digit : GoodIn wsX0_tellAll (wsV RX0 23 RX0 yX0_digit wsX0_digit) := goodIn_app (goodIn_of _ (by decide +kernel)) ggX0_tellAll_X0_digit
set_option maxRecDepth 20000 in
theorem ggX0_tellAll_X1_hear : GoodIn wsX0_tellAll wsX1_hear := goodIn_r _ [19, 20, 21, 22, 17, 23, 24, 25, 26, 27, 28, 29, 30, 31, 32, 33, 34, 37, 38, 39, 40, 41, 42, 43, 44] (by decide +kernel) (by decide +kernel)
set_option maxRecDepth 20000 in
theorem gX0_tellAll_X1_hear_n61 : GoodIn wsX0_tellAll (wsX1_hear) := ggX0_tellAll_X1_hear
theorem dX0_tellAll_0 : decode cX0_tellAll 0 = .ok (.iconst 0, 1) := by decide +kernel
theorem dX0_tellAll_1 : decode cX0_tellAll 1 = .ok (.istore_n 3, 1) := by decide +kernel
theorem dX0_tellAll_2 : decode cX0_tellAll 2 = .ok (.iload_n 3, 1) := by decide +kernel
theorem dX0_tellAll_3 : decode cX0_tellAll 3 = .ok (.bipush 8, 2) := by decide +kernel
theorem dX0_tellAll_5 : decode cX0_tellAll 5 = .ok (.if_icmp .ge 47, 3) := by decide +kernel
theorem dX0_tellAll_8 : decode cX0_tellAll 8 = .ok (.aload_n 0, 1) := by decide +kernel
theorem dX0_tellAll_9 : decode cX0_tellAll 9 = .ok (.iload_n 1, 1) := by decide +kernel
theorem dX0_tellAll_10 : decode cX0_tellAll 10 = .ok (.iconst 2, 1) := by decide +kernel
theorem dX0_tellAll_11 : decode cX0_tellAll 11 = .ok (.iadd, 1) := by decide +kernel
theorem dX0_tellAll_12 : decode cX0_tellAll 12 = .ok (.iload_n 3, 1) := by decide +kernel
theorem dX0_tellAll_13 : decode cX0_tellAll 13 = .ok (.iadd, 1) := by decide +kernel
theorem dX0_tellAll_14 : decode cX0_tellAll 14 = .ok (.invokevirtual 48, 3) := by decide +kernel
theorem dX0_tellAll_17 : decode cX0_tellAll 17 = .ok (.ifCond .eq 35, 3) := by decide +kernel
theorem dX0_tellAll_20 : decode cX0_tellAll 20 = .ok (.aload_n 2, 1) := by decide +kernel
theorem dX0_tellAll_21 : decode cX0_tellAll 21 = .ok (.aload_n 0, 1) := by decide +kernel
theorem dX0_tellAll_22 : decode cX0_tellAll 22 = .ok (.iload_n 1, 1) := by decide +kernel
theorem dX0_tellAll_23 : decode cX0_tellAll 23 = .ok (.iconst 1, 1) := by decide +kernel
theorem dX0_tellAll_24 : decode cX0_tellAll 24 = .ok (.iadd, 1) := by decide +kernel
theorem dX0_tellAll_25 : decode cX0_tellAll 25 = .ok (.invokevirtual 23, 3) := by decide +kernel
theorem dX0_tellAll_28 : decode cX0_tellAll 28 = .ok (.iload_n 3, 1) := by decide +kernel
theorem dX0_tellAll_29 : decode cX0_tellAll 29 = .ok (.aload_n 0, 1) := by decide +kernel
theorem dX0_tellAll_30 : decode cX0_tellAll 30 = .ok (.iload_n 1, 1) := by decide +kernel
theorem dX0_tellAll_31 : decode cX0_tellAll 31 = .ok (.iconst 2, 1) := by decide +kernel
theorem dX0_tellAll_32 : decode cX0_tellAll 32 = .ok (.iadd, 1) := by decide +kernel
theorem dX0_tellAll_33 : decode cX0_tellAll 33 = .ok (.iload_n 3, 1) := by decide +kernel
theorem dX0_tellAll_34 : decode cX0_tellAll 34 = .ok (.iadd, 1) := by decide +kernel
theorem dX0_tellAll_35 : decode cX0_tellAll 35 = .ok (.invokevirtual 23, 3) := by decide +kernel
theorem dX0_tellAll_38 : decode cX0_tellAll 38 = .ok (.invokevirtual 61, 3) := by decide +kernel
theorem dX0_tellAll_41 : decode cX0_tellAll 41 = .ok (.ifCond .ne 5, 3) := by decide +kernel
theorem dX0_tellAll_44 : decode cX0_tellAll 44 = .ok (.iconst 0, 1) := by decide +kernel
theorem dX0_tellAll_45 : decode cX0_tellAll 45 = .ok (.ireturn, 1) := by decide +kernel
theorem dX0_tellAll_46 : decode cX0_tellAll 46 = .ok (.iinc 3 1, 3) := by decide +kernel
theorem dX0_tellAll_49 : decode cX0_tellAll 49 = .ok (.goto (-47), 3) := by decide +kernel
theorem dX0_tellAll_52 : decode cX0_tellAll 52 = .ok (.iconst 1, 1) := by decide +kernel
theorem dX0_tellAll_53 : decode cX0_tellAll 53 = .ok (.ireturn, 1) := by decide +kernel
set_option maxRecDepth 20000 in
theorem ggX0_tellQuarrel_X0_digit : GoodIn wsX0_tellQuarrel wsX0_digit := goodIn_r _ [5, 6, 7, 8, 4, 9, 10, 11, 31, 32] (by decide +kernel) (by decide +kernel)
set_option maxRecDepth 20000 in
theorem gX0_tellQuarrel_X0_digit : GoodIn wsX0_tellQuarrel (wsV RX0 23 RX0 yX0_digit wsX0_digit) := goodIn_app (goodIn_of _ (by decide +kernel)) ggX0_tellQuarrel_X0_digit
set_option maxRecDepth 20000 in
theorem ggX0_tellQuarrel_X1_hear : GoodIn wsX0_tellQuarrel wsX1_hear := goodIn_r _ [15, 16, 17, 18, 13, 19, 20, 21, 22, 23, 24, 25, 26, 27, 28, 29, 30, 33, 34, 35, 36, 37, 38, 39, 40] (by decide +kernel) (by decide +kernel)
set_option maxRecDepth 20000 in
theorem gX0_tellQuarrel_X1_hear_n61 : GoodIn wsX0_tellQuarrel (wsX1_hear) := ggX0_tellQuarrel_X1_hear
theorem dX0_tellQuarrel_0 : decode cX0_tellQuarrel 0 = .ok (.aload_n 0, 1) := by decide +kernel
theorem dX0_tellQuarrel_1 : decode cX0_tellQuarrel 1 = .ok (.iload_n 1, 1) := by decide +kernel
theorem dX0_tellQuarrel_2 : decode cX0_tellQuarrel 2 = .ok (.iconst 1, 1) := by decide +kernel
theorem dX0_tellQuarrel_3 : decode cX0_tellQuarrel 3 = .ok (.iadd, 1) := by decide +kernel
theorem dX0_tellQuarrel_4 : decode cX0_tellQuarrel 4 = .ok (.invokevirtual 23, 3) := by decide +kernel
theorem dX0_tellQuarrel_7 : decode cX0_tellQuarrel 7 = .ok (.istore_n 3, 1) := by decide +kernel
theorem dX0_tellQuarrel_8 : decode cX0_tellQuarrel 8 = .ok (.aload_n 0, 1) := by decide +kernel
theorem dX0_tellQuarrel_9 : decode cX0_tellQuarrel 9 = .ok (.iload_n 1, 1) := by decide +kernel
theorem dX0_tellQuarrel_10 : decode cX0_tellQuarrel 10 = .ok (.iconst 2, 1) := by decide +kernel
theorem dX0_tellQuarrel_11 : decode cX0_tellQuarrel 11 = .ok (.iadd, 1) := by decide +kernel
theorem dX0_tellQuarrel_12 : decode cX0_tellQuarrel 12 = .ok (.invokevirtual 23, 3) := by decide +kernel
theorem dX0_tellQuarrel_15 : decode cX0_tellQuarrel 15 = .ok (.istore 4, 2) := by decide +kernel
theorem dX0_tellQuarrel_17 : decode cX0_tellQuarrel 17 = .ok (.aload_n 0, 1) := by decide +kernel
theorem dX0_tellQuarrel_18 : decode cX0_tellQuarrel 18 = .ok (.iload_n 1, 1) := by decide +kernel
theorem dX0_tellQuarrel_19 : decode cX0_tellQuarrel 19 = .ok (.iconst 3, 1) := by decide +kernel
theorem dX0_tellQuarrel_20 : decode cX0_tellQuarrel 20 = .ok (.iadd, 1) := by decide +kernel
theorem dX0_tellQuarrel_21 : decode cX0_tellQuarrel 21 = .ok (.invokevirtual 23, 3) := by decide +kernel
theorem dX0_tellQuarrel_24 : decode cX0_tellQuarrel 24 = .ok (.istore 5, 2) := by decide +kernel
theorem dX0_tellQuarrel_26 : decode cX0_tellQuarrel 26 = .ok (.iload_n 3, 1) := by decide +kernel
theorem dX0_tellQuarrel_27 : decode cX0_tellQuarrel 27 = .ok (.iload 4, 2) := by decide +kernel
theorem dX0_tellQuarrel_29 : decode cX0_tellQuarrel 29 = .ok (.if_icmp .eq 30, 3) := by decide +kernel
theorem dX0_tellQuarrel_32 : decode cX0_tellQuarrel 32 = .ok (.aload_n 2, 1) := by decide +kernel
theorem dX0_tellQuarrel_33 : decode cX0_tellQuarrel 33 = .ok (.iload_n 3, 1) := by decide +kernel
theorem dX0_tellQuarrel_34 : decode cX0_tellQuarrel 34 = .ok (.iload 5, 2) := by decide +kernel
theorem dX0_tellQuarrel_36 : decode cX0_tellQuarrel 36 = .ok (.iconst 1, 1) := by decide +kernel
theorem dX0_tellQuarrel_37 : decode cX0_tellQuarrel 37 = .ok (.invokevirtual 61, 3) := by decide +kernel
theorem dX0_tellQuarrel_40 : decode cX0_tellQuarrel 40 = .ok (.ifCond .eq 19, 3) := by decide +kernel
theorem dX0_tellQuarrel_43 : decode cX0_tellQuarrel 43 = .ok (.aload_n 2, 1) := by decide +kernel
theorem dX0_tellQuarrel_44 : decode cX0_tellQuarrel 44 = .ok (.iload 4, 2) := by decide +kernel
theorem dX0_tellQuarrel_46 : decode cX0_tellQuarrel 46 = .ok (.iload 5, 2) := by decide +kernel
theorem dX0_tellQuarrel_48 : decode cX0_tellQuarrel 48 = .ok (.iconst 2, 1) := by decide +kernel
theorem dX0_tellQuarrel_49 : decode cX0_tellQuarrel 49 = .ok (.invokevirtual 61, 3) := by decide +kernel
theorem dX0_tellQuarrel_52 : decode cX0_tellQuarrel 52 = .ok (.ifCond .eq 7, 3) := by decide +kernel
theorem dX0_tellQuarrel_55 : decode cX0_tellQuarrel 55 = .ok (.iconst 1, 1) := by decide +kernel
theorem dX0_tellQuarrel_56 : decode cX0_tellQuarrel 56 = .ok (.goto 4, 3) := by decide +kernel
theorem dX0_tellQuarrel_59 : decode cX0_tellQuarrel 59 = .ok (.iconst 0, 1) := by decide +kernel
theorem dX0_tellQuarrel_60 : decode cX0_tellQuarrel 60 = .ok (.ireturn, 1) := by decide +kernel
theorem dX1_init_0 : decode cX1_init 0 = .ok (.aload_n 0, 1) := by decide +kernel
theorem dX1_init_1 : decode cX1_init 1 = .ok (.invokespecial 3, 3) := by decide +kernel
theorem dX1_init_4 : decode cX1_init 4 = .ok (.aload_n 0, 1) := by decide +kernel
theorem dX1_init_5 : decode cX1_init 5 = .ok (.bipush 6, 2) := by decide +kernel
theorem dX1_init_7 : decode cX1_init 7 = .ok (.newarray .int, 2) := by decide +kernel
theorem dX1_init_9 : decode cX1_init 9 = .ok (.putfield 9, 3) := by decide +kernel
theorem dX1_init_12 : decode cX1_init 12 = .ok (.aload_n 0, 1) := by decide +kernel
theorem dX1_init_13 : decode cX1_init 13 = .ok (.bipush 6, 2) := by decide +kernel
theorem dX1_init_15 : decode cX1_init 15 = .ok (.newarray .int, 2) := by decide +kernel
theorem dX1_init_17 : decode cX1_init 17 = .ok (.putfield 15, 3) := by decide +kernel
theorem dX1_init_20 : decode cX1_init 20 = .ok (.aload_n 0, 1) := by decide +kernel
theorem dX1_init_21 : decode cX1_init 21 = .ok (.bipush 6, 2) := by decide +kernel
theorem dX1_init_23 : decode cX1_init 23 = .ok (.newarray .int, 2) := by decide +kernel
theorem dX1_init_25 : decode cX1_init 25 = .ok (.putfield 18, 3) := by decide +kernel
theorem dX1_init_28 : decode cX1_init 28 = .ok (.aload_n 0, 1) := by decide +kernel
theorem dX1_init_29 : decode cX1_init 29 = .ok (.bipush 8, 2) := by decide +kernel
theorem dX1_init_31 : decode cX1_init 31 = .ok (.newarray .int, 2) := by decide +kernel
theorem dX1_init_33 : decode cX1_init 33 = .ok (.putfield 21, 3) := by decide +kernel
theorem dX1_init_36 : decode cX1_init 36 = .ok (.aload_n 0, 1) := by decide +kernel
theorem dX1_init_37 : decode cX1_init 37 = .ok (.bipush 8, 2) := by decide +kernel
theorem dX1_init_39 : decode cX1_init 39 = .ok (.newarray .int, 2) := by decide +kernel
theorem dX1_init_41 : decode cX1_init 41 = .ok (.putfield 24, 3) := by decide +kernel
theorem dX1_init_44 : decode cX1_init 44 = .ok (.aload_n 0, 1) := by decide +kernel
theorem dX1_init_45 : decode cX1_init 45 = .ok (.iconst 0, 1) := by decide +kernel
theorem dX1_init_46 : decode cX1_init 46 = .ok (.putfield 27, 3) := by decide +kernel
theorem dX1_init_49 : decode cX1_init 49 = .ok (.aload_n 0, 1) := by decide +kernel
theorem dX1_init_50 : decode cX1_init 50 = .ok (.iconst 0, 1) := by decide +kernel
theorem dX1_init_51 : decode cX1_init 51 = .ok (.putfield 31, 3) := by decide +kernel
theorem dX1_init_54 : decode cX1_init 54 = .ok (.aload_n 0, 1) := by decide +kernel
theorem dX1_init_55 : decode cX1_init 55 = .ok (.iconst 0, 1) := by decide +kernel
theorem dX1_init_56 : decode cX1_init 56 = .ok (.putfield 34, 3) := by decide +kernel
theorem dX1_init_59 : decode cX1_init 59 = .ok (.return_, 1) := by decide +kernel
theorem dX1_become_0 : decode cX1_become 0 = .ok (.aload_n 1, 1) := by decide +kernel
theorem dX1_become_1 : decode cX1_become 1 = .ok (.getfield 9, 3) := by decide +kernel
theorem dX1_become_4 : decode cX1_become 4 = .ok (.iconst 0, 1) := by decide +kernel
theorem dX1_become_5 : decode cX1_become 5 = .ok (.aload_n 0, 1) := by decide +kernel
theorem dX1_become_6 : decode cX1_become 6 = .ok (.getfield 9, 3) := by decide +kernel
theorem dX1_become_9 : decode cX1_become 9 = .ok (.iconst 0, 1) := by decide +kernel
theorem dX1_become_10 : decode cX1_become 10 = .ok (.bipush 6, 2) := by decide +kernel
theorem dX1_become_12 : decode cX1_become 12 = .ok (.invokestatic 37, 3) := by decide +kernel
theorem dX1_become_15 : decode cX1_become 15 = .ok (.aload_n 1, 1) := by decide +kernel
theorem dX1_become_16 : decode cX1_become 16 = .ok (.getfield 15, 3) := by decide +kernel
theorem dX1_become_19 : decode cX1_become 19 = .ok (.iconst 0, 1) := by decide +kernel
theorem dX1_become_20 : decode cX1_become 20 = .ok (.aload_n 0, 1) := by decide +kernel
theorem dX1_become_21 : decode cX1_become 21 = .ok (.getfield 15, 3) := by decide +kernel
theorem dX1_become_24 : decode cX1_become 24 = .ok (.iconst 0, 1) := by decide +kernel
theorem dX1_become_25 : decode cX1_become 25 = .ok (.bipush 6, 2) := by decide +kernel
theorem dX1_become_27 : decode cX1_become 27 = .ok (.invokestatic 37, 3) := by decide +kernel
theorem dX1_become_30 : decode cX1_become 30 = .ok (.aload_n 1, 1) := by decide +kernel
theorem dX1_become_31 : decode cX1_become 31 = .ok (.getfield 18, 3) := by decide +kernel
theorem dX1_become_34 : decode cX1_become 34 = .ok (.iconst 0, 1) := by decide +kernel
theorem dX1_become_35 : decode cX1_become 35 = .ok (.aload_n 0, 1) := by decide +kernel
theorem dX1_become_36 : decode cX1_become 36 = .ok (.getfield 18, 3) := by decide +kernel
theorem dX1_become_39 : decode cX1_become 39 = .ok (.iconst 0, 1) := by decide +kernel
theorem dX1_become_40 : decode cX1_become 40 = .ok (.bipush 6, 2) := by decide +kernel
theorem dX1_become_42 : decode cX1_become 42 = .ok (.invokestatic 37, 3) := by decide +kernel
theorem dX1_become_45 : decode cX1_become 45 = .ok (.aload_n 1, 1) := by decide +kernel
theorem dX1_become_46 : decode cX1_become 46 = .ok (.getfield 21, 3) := by decide +kernel
theorem dX1_become_49 : decode cX1_become 49 = .ok (.iconst 0, 1) := by decide +kernel
theorem dX1_become_50 : decode cX1_become 50 = .ok (.aload_n 0, 1) := by decide +kernel
theorem dX1_become_51 : decode cX1_become 51 = .ok (.getfield 21, 3) := by decide +kernel
theorem dX1_become_54 : decode cX1_become 54 = .ok (.iconst 0, 1) := by decide +kernel
theorem dX1_become_55 : decode cX1_become 55 = .ok (.bipush 8, 2) := by decide +kernel
theorem dX1_become_57 : decode cX1_become 57 = .ok (.invokestatic 37, 3) := by decide +kernel
theorem dX1_become_60 : decode cX1_become 60 = .ok (.aload_n 1, 1) := by decide +kernel
theorem dX1_become_61 : decode cX1_become 61 = .ok (.getfield 24, 3) := by decide +kernel
theorem dX1_become_64 : decode cX1_become 64 = .ok (.iconst 0, 1) := by decide +kernel
theorem dX1_become_65 : decode cX1_become 65 = .ok (.aload_n 0, 1) := by decide +kernel
theorem dX1_become_66 : decode cX1_become 66 = .ok (.getfield 24, 3) := by decide +kernel
theorem dX1_become_69 : decode cX1_become 69 = .ok (.iconst 0, 1) := by decide +kernel
theorem dX1_become_70 : decode cX1_become 70 = .ok (.bipush 8, 2) := by decide +kernel
theorem dX1_become_72 : decode cX1_become 72 = .ok (.invokestatic 37, 3) := by decide +kernel
theorem dX1_become_75 : decode cX1_become 75 = .ok (.aload_n 0, 1) := by decide +kernel
theorem dX1_become_76 : decode cX1_become 76 = .ok (.aload_n 1, 1) := by decide +kernel
theorem dX1_become_77 : decode cX1_become 77 = .ok (.getfield 27, 3) := by decide +kernel
theorem dX1_become_80 : decode cX1_become 80 = .ok (.putfield 27, 3) := by decide +kernel
theorem dX1_become_83 : decode cX1_become 83 = .ok (.aload_n 0, 1) := by decide +kernel
theorem dX1_become_84 : decode cX1_become 84 = .ok (.aload_n 1, 1) := by decide +kernel
theorem dX1_become_85 : decode cX1_become 85 = .ok (.getfield 31, 3) := by decide +kernel
theorem dX1_become_88 : decode cX1_become 88 = .ok (.putfield 31, 3) := by decide +kernel
theorem dX1_become_91 : decode cX1_become 91 = .ok (.aload_n 0, 1) := by decide +kernel
theorem dX1_become_92 : decode cX1_become 92 = .ok (.aload_n 1, 1) := by decide +kernel
theorem dX1_become_93 : decode cX1_become 93 = .ok (.getfield 34, 3) := by decide +kernel
theorem dX1_become_96 : decode cX1_become 96 = .ok (.putfield 34, 3) := by decide +kernel
theorem dX1_become_99 : decode cX1_become 99 = .ok (.return_, 1) := by decide +kernel
theorem dX1_settle_0 : decode cX1_settle 0 = .ok (.aload_n 0, 1) := by decide +kernel
theorem dX1_settle_1 : decode cX1_settle 1 = .ok (.getfield 27, 3) := by decide +kernel
theorem dX1_settle_4 : decode cX1_settle 4 = .ok (.bipush 6, 2) := by decide +kernel
theorem dX1_settle_6 : decode cX1_settle 6 = .ok (.if_icmp .lt 5, 3) := by decide +kernel
theorem dX1_settle_9 : decode cX1_settle 9 = .ok (.iconst 0, 1) := by decide +kernel
theorem dX1_settle_10 : decode cX1_settle 10 = .ok (.ireturn, 1) := by decide +kernel
theorem dX1_settle_11 : decode cX1_settle 11 = .ok (.aload_n 0, 1) := by decide +kernel
theorem dX1_settle_12 : decode cX1_settle 12 = .ok (.getfield 9, 3) := by decide +kernel
theorem dX1_settle_15 : decode cX1_settle 15 = .ok (.aload_n 0, 1) := by decide +kernel
theorem dX1_settle_16 : decode cX1_settle 16 = .ok (.getfield 27, 3) := by decide +kernel
theorem dX1_settle_19 : decode cX1_settle 19 = .ok (.iload_n 1, 1) := by decide +kernel
theorem dX1_settle_20 : decode cX1_settle 20 = .ok (.iastore, 1) := by decide +kernel
theorem dX1_settle_21 : decode cX1_settle 21 = .ok (.aload_n 0, 1) := by decide +kernel
theorem dX1_settle_22 : decode cX1_settle 22 = .ok (.getfield 15, 3) := by decide +kernel
theorem dX1_settle_25 : decode cX1_settle 25 = .ok (.aload_n 0, 1) := by decide +kernel
theorem dX1_settle_26 : decode cX1_settle 26 = .ok (.getfield 27, 3) := by decide +kernel
theorem dX1_settle_29 : decode cX1_settle 29 = .ok (.iload_n 2, 1) := by decide +kernel
theorem dX1_settle_30 : decode cX1_settle 30 = .ok (.iastore, 1) := by decide +kernel
theorem dX1_settle_31 : decode cX1_settle 31 = .ok (.aload_n 0, 1) := by decide +kernel
theorem dX1_settle_32 : decode cX1_settle 32 = .ok (.getfield 18, 3) := by decide +kernel
theorem dX1_settle_35 : decode cX1_settle 35 = .ok (.aload_n 0, 1) := by decide +kernel
theorem dX1_settle_36 : decode cX1_settle 36 = .ok (.getfield 27, 3) := by decide +kernel
theorem dX1_settle_39 : decode cX1_settle 39 = .ok (.iload_n 3, 1) := by decide +kernel
theorem dX1_settle_40 : decode cX1_settle 40 = .ok (.iastore, 1) := by decide +kernel
theorem dX1_settle_41 : decode cX1_settle 41 = .ok (.aload_n 0, 1) := by decide +kernel
theorem dX1_settle_42 : decode cX1_settle 42 = .ok (.dup, 1) := by decide +kernel
theorem dX1_settle_43 : decode cX1_settle 43 = .ok (.getfield 31, 3) := by decide +kernel
theorem dX1_settle_46 : decode cX1_settle 46 = .ok (.iconst 1, 1) := by decide +kernel
theorem dX1_settle_47 : decode cX1_settle 47 = .ok (.aload_n 0, 1) := by decide +kernel
theorem dX1_settle_48 : decode cX1_settle 48 = .ok (.getfield 27, 3) := by decide +kernel
theorem dX1_settle_51 : decode cX1_settle 51 = .ok (.ishl, 1) := by decide +kernel
theorem dX1_settle_52 : decode cX1_settle 52 = .ok (.ior, 1) := by decide +kernel
theorem dX1_settle_53 : decode cX1_settle 53 = .ok (.putfield 31, 3) := by decide +kernel
theorem dX1_settle_56 : decode cX1_settle 56 = .ok (.aload_n 0, 1) := by decide +kernel
theorem dX1_settle_57 : decode cX1_settle 57 = .ok (.dup, 1) := by decide +kernel
theorem dX1_settle_58 : decode cX1_settle 58 = .ok (.getfield 27, 3) := by decide +kernel
theorem dX1_settle_61 : decode cX1_settle 61 = .ok (.iconst 1, 1) := by decide +kernel
theorem dX1_settle_62 : decode cX1_settle 62 = .ok (.iadd, 1) := by decide +kernel
theorem dX1_settle_63 : decode cX1_settle 63 = .ok (.putfield 27, 3) := by decide +kernel
theorem dX1_settle_66 : decode cX1_settle 66 = .ok (.iconst 1, 1) := by decide +kernel
theorem dX1_settle_67 : decode cX1_settle 67 = .ok (.ireturn, 1) := by decide +kernel
theorem dX1_isLiving_0 : decode cX1_isLiving 0 = .ok (.iload_n 1, 1) := by decide +kernel
theorem dX1_isLiving_1 : decode cX1_isLiving 1 = .ok (.ifCond .lt 27, 3) := by decide +kernel
theorem dX1_isLiving_4 : decode cX1_isLiving 4 = .ok (.iload_n 1, 1) := by decide +kernel
theorem dX1_isLiving_5 : decode cX1_isLiving 5 = .ok (.aload_n 0, 1) := by decide +kernel
theorem dX1_isLiving_6 : decode cX1_isLiving 6 = .ok (.getfield 27, 3) := by decide +kernel
theorem dX1_isLiving_9 : decode cX1_isLiving 9 = .ok (.if_icmp .ge 19, 3) := by decide +kernel
theorem dX1_isLiving_12 : decode cX1_isLiving 12 = .ok (.aload_n 0, 1) := by decide +kernel
theorem dX1_isLiving_13 : decode cX1_isLiving 13 = .ok (.getfield 31, 3) := by decide +kernel
theorem dX1_isLiving_16 : decode cX1_isLiving 16 = .ok (.iload_n 1, 1) := by decide +kernel
theorem dX1_isLiving_17 : decode cX1_isLiving 17 = .ok (.ishr, 1) := by decide +kernel
theorem dX1_isLiving_18 : decode cX1_isLiving 18 = .ok (.iconst 1, 1) := by decide +kernel
theorem dX1_isLiving_19 : decode cX1_isLiving 19 = .ok (.iand, 1) := by decide +kernel
theorem dX1_isLiving_20 : decode cX1_isLiving 20 = .ok (.iconst 1, 1) := by decide +kernel
theorem dX1_isLiving_21 : decode cX1_isLiving 21 = .ok (.if_icmp .ne 7, 3) := by decide +kernel
theorem dX1_isLiving_24 : decode cX1_isLiving 24 = .ok (.iconst 1, 1) := by decide +kernel
theorem dX1_isLiving_25 : decode cX1_isLiving 25 = .ok (.goto 4, 3) := by decide +kernel
theorem dX1_isLiving_28 : decode cX1_isLiving 28 = .ok (.iconst 0, 1) := by decide +kernel
theorem dX1_isLiving_29 : decode cX1_isLiving 29 = .ok (.ireturn, 1) := by decide +kernel
set_option maxRecDepth 20000 in
theorem ggX1_bury_X1_isLiving : GoodIn wsX1_bury wsX1_isLiving := goodIn_r _ [6, 7, 1, 8, 9, 10, 11, 12, 13, 14, 15] (by decide +kernel) (by decide +kernel)
set_option maxRecDepth 20000 in
theorem gX1_bury_X1_isLiving : GoodIn wsX1_bury (wsV RX1 43 RX1 yX1_isLiving wsX1_isLiving) := goodIn_app (goodIn_of _ (by decide +kernel)) ggX1_bury_X1_isLiving
theorem dX1_bury_0 : decode cX1_bury 0 = .ok (.aload_n 0, 1) := by decide +kernel
theorem dX1_bury_1 : decode cX1_bury 1 = .ok (.iload_n 1, 1) := by decide +kernel
theorem dX1_bury_2 : decode cX1_bury 2 = .ok (.invokevirtual 43, 3) := by decide +kernel
theorem dX1_bury_5 : decode cX1_bury 5 = .ok (.ifCond .ne 5, 3) := by decide +kernel
theorem dX1_bury_8 : decode cX1_bury 8 = .ok (.iconst 0, 1) := by decide +kernel
theorem dX1_bury_9 : decode cX1_bury 9 = .ok (.ireturn, 1) := by decide +kernel
theorem dX1_bury_10 : decode cX1_bury 10 = .ok (.aload_n 0, 1) := by decide +kernel
theorem dX1_bury_11 : decode cX1_bury 11 = .ok (.dup, 1) := by decide +kernel
theorem dX1_bury_12 : decode cX1_bury 12 = .ok (.getfield 31, 3) := by decide +kernel
theorem dX1_bury_15 : decode cX1_bury 15 = .ok (.iconst 1, 1) := by decide +kernel
theorem dX1_bury_16 : decode cX1_bury 16 = .ok (.iload_n 1, 1) := by decide +kernel
theorem dX1_bury_17 : decode cX1_bury 17 = .ok (.ishl, 1) := by decide +kernel
theorem dX1_bury_18 : decode cX1_bury 18 = .ok (.iconst (-1), 1) := by decide +kernel
theorem dX1_bury_19 : decode cX1_bury 19 = .ok (.ixor, 1) := by decide +kernel
theorem dX1_bury_20 : decode cX1_bury 20 = .ok (.iand, 1) := by decide +kernel
theorem dX1_bury_21 : decode cX1_bury 21 = .ok (.putfield 31, 3) := by decide +kernel
theorem dX1_bury_24 : decode cX1_bury 24 = .ok (.iconst 1, 1) := by decide +kernel
theorem dX1_bury_25 : decode cX1_bury 25 = .ok (.ireturn, 1) := by decide +kernel
set_option maxRecDepth 20000 in
theorem ggX1_howManyLive_J6_bitCount_0f7a4 : GoodIn wsX1_howManyLive wsJ6_bitCount_0f7a4 := goodIn_r _ [5, 6, 7, 8] (by decide +kernel) (by decide +kernel)
set_option maxRecDepth 20000 in
theorem gX1_howManyLive_J6_bitCount_0f7a4 : GoodIn wsX1_howManyLive (va_wsS RX1 47 yJ6_bitCount_0f7a4 wsJ6_bitCount_0f7a4) := goodIn_app (goodIn_of _ (by decide +kernel)) ggX1_howManyLive_J6_bitCount_0f7a4
theorem dX1_howManyLive_0 : decode cX1_howManyLive 0 = .ok (.aload_n 0, 1) := by decide +kernel
theorem dX1_howManyLive_1 : decode cX1_howManyLive 1 = .ok (.getfield 31, 3) := by decide +kernel
theorem dX1_howManyLive_4 : decode cX1_howManyLive 4 = .ok (.invokestatic 47, 3) := by decide +kernel
theorem dX1_howManyLive_7 : decode cX1_howManyLive 7 = .ok (.ireturn, 1) := by decide +kernel
theorem dX1_everybody_0 : decode cX1_everybody 0 = .ok (.iconst 1, 1) := by decide +kernel
theorem dX1_everybody_1 : decode cX1_everybody 1 = .ok (.aload_n 0, 1) := by decide +kernel
theorem dX1_everybody_2 : decode cX1_everybody 2 = .ok (.getfield 27, 3) := by decide +kernel
theorem dX1_everybody_5 : decode cX1_everybody 5 = .ok (.ishl, 1) := by decide +kernel
theorem dX1_everybody_6 : decode cX1_everybody 6 = .ok (.iconst 1, 1) := by decide +kernel
theorem dX1_everybody_7 : decode cX1_everybody 7 = .ok (.isub, 1) := by decide +kernel
theorem dX1_everybody_8 : decode cX1_everybody 8 = .ok (.ireturn, 1) := by decide +kernel
theorem dX1_lifeOf_0 : decode cX1_lifeOf 0 = .ok (.aload_n 0, 1) := by decide +kernel
theorem dX1_lifeOf_1 : decode cX1_lifeOf 1 = .ok (.getfield 9, 3) := by decide +kernel
theorem dX1_lifeOf_4 : decode cX1_lifeOf 4 = .ok (.iload_n 1, 1) := by decide +kernel
theorem dX1_lifeOf_5 : decode cX1_lifeOf 5 = .ok (.iaload, 1) := by decide +kernel
theorem dX1_lifeOf_6 : decode cX1_lifeOf 6 = .ok (.istore_n 2, 1) := by decide +kernel
theorem dX1_lifeOf_7 : decode cX1_lifeOf 7 = .ok (.iload_n 2, 1) := by decide +kernel
theorem dX1_lifeOf_8 : decode cX1_lifeOf 8 = .ok (.ifCond .lt 26, 3) := by decide +kernel
theorem dX1_lifeOf_11 : decode cX1_lifeOf 11 = .ok (.iload_n 2, 1) := by decide +kernel
theorem dX1_lifeOf_12 : decode cX1_lifeOf 12 = .ok (.getstatic 53, 3) := by decide +kernel
theorem dX1_lifeOf_15 : decode cX1_lifeOf 15 = .ok (.arraylength, 1) := by decide +kernel
theorem dX1_lifeOf_16 : decode cX1_lifeOf 16 = .ok (.if_icmp .ge 18, 3) := by decide +kernel
theorem dX1_lifeOf_19 : decode cX1_lifeOf 19 = .ok (.getstatic 53, 3) := by decide +kernel
theorem dX1_lifeOf_22 : decode cX1_lifeOf 22 = .ok (.iload_n 2, 1) := by decide +kernel
theorem dX1_lifeOf_23 : decode cX1_lifeOf 23 = .ok (.iaload, 1) := by decide +kernel
theorem dX1_lifeOf_24 : decode cX1_lifeOf 24 = .ok (.aload_n 0, 1) := by decide +kernel
theorem dX1_lifeOf_25 : decode cX1_lifeOf 25 = .ok (.getfield 15, 3) := by decide +kernel
theorem dX1_lifeOf_28 : decode cX1_lifeOf 28 = .ok (.iload_n 1, 1) := by decide +kernel
theorem dX1_lifeOf_29 : decode cX1_lifeOf 29 = .ok (.iaload, 1) := by decide +kernel
theorem dX1_lifeOf_30 : decode cX1_lifeOf 30 = .ok (.iadd, 1) := by decide +kernel
theorem dX1_lifeOf_31 : decode cX1_lifeOf 31 = .ok (.goto 5, 3) := by decide +kernel
theorem dX1_lifeOf_34 : decode cX1_lifeOf 34 = .ok (.bipush 99, 2) := by decide +kernel
theorem dX1_lifeOf_36 : decode cX1_lifeOf 36 = .ok (.ireturn, 1) := by decide +kernel
set_option maxRecDepth 20000 in
theorem ggX1_agesOfLiving_X1_isLiving : GoodIn wsX1_agesOfLiving wsX1_isLiving := goodIn_r _ [7, 1, 8, 9, 10, 11, 12, 13, 14, 15, 16] (by decide +kernel) (by decide +kernel)
set_option maxRecDepth 20000 in
theorem gX1_agesOfLiving_X1_isLiving : GoodIn wsX1_agesOfLiving (wsV RX1 43 RX1 yX1_isLiving wsX1_isLiving) := goodIn_app (goodIn_of _ (by decide +kernel)) ggX1_agesOfLiving_X1_isLiving
theorem dX1_agesOfLiving_0 : decode cX1_agesOfLiving 0 = .ok (.iconst 0, 1) := by decide +kernel
theorem dX1_agesOfLiving_1 : decode cX1_agesOfLiving 1 = .ok (.istore_n 1, 1) := by decide +kernel
theorem dX1_agesOfLiving_2 : decode cX1_agesOfLiving 2 = .ok (.iconst 0, 1) := by decide +kernel
theorem dX1_agesOfLiving_3 : decode cX1_agesOfLiving 3 = .ok (.istore_n 2, 1) := by decide +kernel
theorem dX1_agesOfLiving_4 : decode cX1_agesOfLiving 4 = .ok (.iload_n 2, 1) := by decide +kernel
theorem dX1_agesOfLiving_5 : decode cX1_agesOfLiving 5 = .ok (.aload_n 0, 1) := by decide +kernel
theorem dX1_agesOfLiving_6 : decode cX1_agesOfLiving 6 = .ok (.getfield 27, 3) := by decide +kernel
theorem dX1_agesOfLiving_9 : decode cX1_agesOfLiving 9 = .ok (.if_icmp .ge 26, 3) := by decide +kernel
theorem dX1_agesOfLiving_12 : decode cX1_agesOfLiving 12 = .ok (.aload_n 0, 1) := by decide +kernel
theorem dX1_agesOfLiving_13 : decode cX1_agesOfLiving 13 = .ok (.iload_n 2, 1) := by decide +kernel
theorem dX1_agesOfLiving_14 : decode cX1_agesOfLiving 14 = .ok (.invokevirtual 43, 3) := by decide +kernel
theorem dX1_agesOfLiving_17 : decode cX1_agesOfLiving 17 = .ok (.ifCond .eq 12, 3) := by decide +kernel
theorem dX1_agesOfLiving_20 : decode cX1_agesOfLiving 20 = .ok (.iload_n 1, 1) := by decide +kernel
theorem dX1_agesOfLiving_21 : decode cX1_agesOfLiving 21 = .ok (.aload_n 0, 1) := by decide +kernel
theorem dX1_agesOfLiving_22 : decode cX1_agesOfLiving 22 = .ok (.getfield 18, 3) := by decide +kernel
theorem dX1_agesOfLiving_25 : decode cX1_agesOfLiving 25 = .ok (.iload_n 2, 1) := by decide +kernel
theorem dX1_agesOfLiving_26 : decode cX1_agesOfLiving 26 = .ok (.iaload, 1) := by decide +kernel
theorem dX1_agesOfLiving_27 : decode cX1_agesOfLiving 27 = .ok (.iadd, 1) := by decide +kernel
theorem dX1_agesOfLiving_28 : decode cX1_agesOfLiving 28 = .ok (.istore_n 1, 1) := by decide +kernel
theorem dX1_agesOfLiving_29 : decode cX1_agesOfLiving 29 = .ok (.iinc 2 1, 3) := by decide +kernel
theorem dX1_agesOfLiving_32 : decode cX1_agesOfLiving 32 = .ok (.goto (-28), 3) := by decide +kernel
theorem dX1_agesOfLiving_35 : decode cX1_agesOfLiving 35 = .ok (.iload_n 1, 1) := by decide +kernel
theorem dX1_agesOfLiving_36 : decode cX1_agesOfLiving 36 = .ok (.ireturn, 1) := by decide +kernel
theorem dX1_wordOf_0 : decode cX1_wordOf 0 = .ok (.aload_n 0, 1) := by decide +kernel
theorem dX1_wordOf_1 : decode cX1_wordOf 1 = .ok (.getfield 21, 3) := by decide +kernel
theorem dX1_wordOf_4 : decode cX1_wordOf 4 = .ok (.iload_n 2, 1) := by decide +kernel
theorem dX1_wordOf_5 : decode cX1_wordOf 5 = .ok (.iaload, 1) := by decide +kernel
theorem dX1_wordOf_6 : decode cX1_wordOf 6 = .ok (.iload_n 1, 1) := by decide +kernel
theorem dX1_wordOf_7 : decode cX1_wordOf 7 = .ok (.ishr, 1) := by decide +kernel
theorem dX1_wordOf_8 : decode cX1_wordOf 8 = .ok (.iconst 1, 1) := by decide +kernel
theorem dX1_wordOf_9 : decode cX1_wordOf 9 = .ok (.iand, 1) := by decide +kernel
theorem dX1_wordOf_10 : decode cX1_wordOf 10 = .ok (.iconst 1, 1) := by decide +kernel
theorem dX1_wordOf_11 : decode cX1_wordOf 11 = .ok (.if_icmp .ne 5, 3) := by decide +kernel
theorem dX1_wordOf_14 : decode cX1_wordOf 14 = .ok (.iconst 1, 1) := by decide +kernel
theorem dX1_wordOf_15 : decode cX1_wordOf 15 = .ok (.ireturn, 1) := by decide +kernel
theorem dX1_wordOf_16 : decode cX1_wordOf 16 = .ok (.aload_n 0, 1) := by decide +kernel
theorem dX1_wordOf_17 : decode cX1_wordOf 17 = .ok (.getfield 24, 3) := by decide +kernel
theorem dX1_wordOf_20 : decode cX1_wordOf 20 = .ok (.iload_n 2, 1) := by decide +kernel
theorem dX1_wordOf_21 : decode cX1_wordOf 21 = .ok (.iaload, 1) := by decide +kernel
theorem dX1_wordOf_22 : decode cX1_wordOf 22 = .ok (.iload_n 1, 1) := by decide +kernel
theorem dX1_wordOf_23 : decode cX1_wordOf 23 = .ok (.ishr, 1) := by decide +kernel
theorem dX1_wordOf_24 : decode cX1_wordOf 24 = .ok (.iconst 1, 1) := by decide +kernel
theorem dX1_wordOf_25 : decode cX1_wordOf 25 = .ok (.iand, 1) := by decide +kernel
theorem dX1_wordOf_26 : decode cX1_wordOf 26 = .ok (.iconst 1, 1) := by decide +kernel
theorem dX1_wordOf_27 : decode cX1_wordOf 27 = .ok (.if_icmp .ne 7, 3) := by decide +kernel
theorem dX1_wordOf_30 : decode cX1_wordOf 30 = .ok (.iconst 2, 1) := by decide +kernel
theorem dX1_wordOf_31 : decode cX1_wordOf 31 = .ok (.goto 4, 3) := by decide +kernel
theorem dX1_wordOf_34 : decode cX1_wordOf 34 = .ok (.iconst 0, 1) := by decide +kernel
theorem dX1_wordOf_35 : decode cX1_wordOf 35 = .ok (.ireturn, 1) := by decide +kernel
theorem dX1_put_0 : decode cX1_put 0 = .ok (.iconst 1, 1) := by decide +kernel
theorem dX1_put_1 : decode cX1_put 1 = .ok (.iload_n 1, 1) := by decide +kernel
theorem dX1_put_2 : decode cX1_put 2 = .ok (.ishl, 1) := by decide +kernel
theorem dX1_put_3 : decode cX1_put 3 = .ok (.istore 4, 2) := by decide +kernel
theorem dX1_put_5 : decode cX1_put 5 = .ok (.aload_n 0, 1) := by decide +kernel
theorem dX1_put_6 : decode cX1_put 6 = .ok (.getfield 21, 3) := by decide +kernel
theorem dX1_put_9 : decode cX1_put 9 = .ok (.iload_n 2, 1) := by decide +kernel
theorem dX1_put_10 : decode cX1_put 10 = .ok (.iload_n 3, 1) := by decide +kernel
theorem dX1_put_11 : decode cX1_put 11 = .ok (.iconst 1, 1) := by decide +kernel
theorem dX1_put_12 : decode cX1_put 12 = .ok (.if_icmp .ne 15, 3) := by decide +kernel
theorem dX1_put_15 : decode cX1_put 15 = .ok (.aload_n 0, 1) := by decide +kernel
theorem dX1_put_16 : decode cX1_put 16 = .ok (.getfield 21, 3) := by decide +kernel
theorem dX1_put_19 : decode cX1_put 19 = .ok (.iload_n 2, 1) := by decide +kernel
theorem dX1_put_20 : decode cX1_put 20 = .ok (.iaload, 1) := by decide +kernel
theorem dX1_put_21 : decode cX1_put 21 = .ok (.iload 4, 2) := by decide +kernel
theorem dX1_put_23 : decode cX1_put 23 = .ok (.ior, 1) := by decide +kernel
theorem dX1_put_24 : decode cX1_put 24 = .ok (.goto 14, 3) := by decide +kernel
theorem dX1_put_27 : decode cX1_put 27 = .ok (.aload_n 0, 1) := by decide +kernel
theorem dX1_put_28 : decode cX1_put 28 = .ok (.getfield 21, 3) := by decide +kernel
theorem dX1_put_31 : decode cX1_put 31 = .ok (.iload_n 2, 1) := by decide +kernel
theorem dX1_put_32 : decode cX1_put 32 = .ok (.iaload, 1) := by decide +kernel
theorem dX1_put_33 : decode cX1_put 33 = .ok (.iload 4, 2) := by decide +kernel
theorem dX1_put_35 : decode cX1_put 35 = .ok (.iconst (-1), 1) := by decide +kernel
theorem dX1_put_36 : decode cX1_put 36 = .ok (.ixor, 1) := by decide +kernel
theorem dX1_put_37 : decode cX1_put 37 = .ok (.iand, 1) := by decide +kernel
theorem dX1_put_38 : decode cX1_put 38 = .ok (.iastore, 1) := by decide +kernel
theorem dX1_put_39 : decode cX1_put 39 = .ok (.aload_n 0, 1) := by decide +kernel
theorem dX1_put_40 : decode cX1_put 40 = .ok (.getfield 24, 3) := by decide +kernel
theorem dX1_put_43 : decode cX1_put 43 = .ok (.iload_n 2, 1) := by decide +kernel
theorem dX1_put_44 : decode cX1_put 44 = .ok (.iload_n 3, 1) := by decide +kernel
theorem dX1_put_45 : decode cX1_put 45 = .ok (.iconst 2, 1) := by decide +kernel
theorem dX1_put_46 : decode cX1_put 46 = .ok (.if_icmp .ne 15, 3) := by decide +kernel
theorem dX1_put_49 : decode cX1_put 49 = .ok (.aload_n 0, 1) := by decide +kernel
theorem dX1_put_50 : decode cX1_put 50 = .ok (.getfield 24, 3) := by decide +kernel
theorem dX1_put_53 : decode cX1_put 53 = .ok (.iload_n 2, 1) := by decide +kernel
theorem dX1_put_54 : decode cX1_put 54 = .ok (.iaload, 1) := by decide +kernel
theorem dX1_put_55 : decode cX1_put 55 = .ok (.iload 4, 2) := by decide +kernel
theorem dX1_put_57 : decode cX1_put 57 = .ok (.ior, 1) := by decide +kernel
theorem dX1_put_58 : decode cX1_put 58 = .ok (.goto 14, 3) := by decide +kernel
theorem dX1_put_61 : decode cX1_put 61 = .ok (.aload_n 0, 1) := by decide +kernel
theorem dX1_put_62 : decode cX1_put 62 = .ok (.getfield 24, 3) := by decide +kernel
theorem dX1_put_65 : decode cX1_put 65 = .ok (.iload_n 2, 1) := by decide +kernel
theorem dX1_put_66 : decode cX1_put 66 = .ok (.iaload, 1) := by decide +kernel
theorem dX1_put_67 : decode cX1_put 67 = .ok (.iload 4, 2) := by decide +kernel
theorem dX1_put_69 : decode cX1_put 69 = .ok (.iconst (-1), 1) := by decide +kernel
theorem dX1_put_70 : decode cX1_put 70 = .ok (.ixor, 1) := by decide +kernel
theorem dX1_put_71 : decode cX1_put 71 = .ok (.iand, 1) := by decide +kernel
theorem dX1_put_72 : decode cX1_put 72 = .ok (.iastore, 1) := by decide +kernel
theorem dX1_put_73 : decode cX1_put 73 = .ok (.return_, 1) := by decide +kernel
set_option maxRecDepth 20000 in
theorem ggX1_hear_X1_isLiving : GoodIn wsX1_hear wsX1_isLiving := goodIn_r _ [5, 6, 7, 17, 18, 19, 20, 21, 22, 23, 24] (by decide +kernel) (by decide +kernel)
set_option maxRecDepth 20000 in
theorem gX1_hear_X1_isLiving : GoodIn wsX1_hear (wsV RX1 43 RX1 yX1_isLiving wsX1_isLiving) := goodIn_app (goodIn_of _ (by decide +kernel)) ggX1_hear_X1_isLiving
set_option maxRecDepth 20000 in
theorem ggX1_hear_X2_noTopic : GoodIn wsX1_hear wsX2_noTopic := goodIn_r _ [10] (by decide +kernel) (by decide +kernel)
set_option maxRecDepth 20000 in
theorem gX1_hear_X2_noTopic_n56 : GoodIn wsX1_hear (wsX2_noTopic) := ggX1_hear_X2_noTopic
set_option maxRecDepth 20000 in
theorem ggX1_hear_X1_put : GoodIn wsX1_hear wsX1_put := goodIn_r _ [14, 15, 16, 17, 18, 19, 20, 21, 22, 23, 24] (by decide +kernel) (by decide +kernel)
set_option maxRecDepth 20000 in
theorem gX1_hear_X1_put : GoodIn wsX1_hear (wsV RX1 59 RX1 yX1_put wsX1_put) := goodIn_app (goodIn_of _ (by decide +kernel)) ggX1_hear_X1_put
theorem dX1_hear_0 : decode cX1_hear 0 = .ok (.aload_n 0, 1) := by decide +kernel
theorem dX1_hear_1 : decode cX1_hear 1 = .ok (.iload_n 1, 1) := by decide +kernel
theorem dX1_hear_2 : decode cX1_hear 2 = .ok (.invokevirtual 43, 3) := by decide +kernel
theorem dX1_hear_5 : decode cX1_hear 5 = .ok (.ifCond .eq 19, 3) := by decide +kernel
theorem dX1_hear_8 : decode cX1_hear 8 = .ok (.iload_n 2, 1) := by decide +kernel
theorem dX1_hear_9 : decode cX1_hear 9 = .ok (.invokestatic 56, 3) := by decide +kernel
theorem dX1_hear_12 : decode cX1_hear 12 = .ok (.ifCond .ne 12, 3) := by decide +kernel
theorem dX1_hear_15 : decode cX1_hear 15 = .ok (.iload_n 3, 1) := by decide +kernel
theorem dX1_hear_16 : decode cX1_hear 16 = .ok (.ifCond .lt 8, 3) := by decide +kernel
theorem dX1_hear_19 : decode cX1_hear 19 = .ok (.iload_n 3, 1) := by decide +kernel
theorem dX1_hear_20 : decode cX1_hear 20 = .ok (.iconst 3, 1) := by decide +kernel
theorem dX1_hear_21 : decode cX1_hear 21 = .ok (.if_icmp .lt 5, 3) := by decide +kernel
theorem dX1_hear_24 : decode cX1_hear 24 = .ok (.iconst 0, 1) := by decide +kernel
theorem dX1_hear_25 : decode cX1_hear 25 = .ok (.ireturn, 1) := by decide +kernel
theorem dX1_hear_26 : decode cX1_hear 26 = .ok (.aload_n 0, 1) := by decide +kernel
theorem dX1_hear_27 : decode cX1_hear 27 = .ok (.iload_n 1, 1) := by decide +kernel
theorem dX1_hear_28 : decode cX1_hear 28 = .ok (.iload_n 2, 1) := by decide +kernel
theorem dX1_hear_29 : decode cX1_hear 29 = .ok (.iload_n 3, 1) := by decide +kernel
theorem dX1_hear_30 : decode cX1_hear 30 = .ok (.invokevirtual 59, 3) := by decide +kernel
theorem dX1_hear_33 : decode cX1_hear 33 = .ok (.iconst 1, 1) := by decide +kernel
theorem dX1_hear_34 : decode cX1_hear 34 = .ok (.ireturn, 1) := by decide +kernel
theorem dX1_livingYes_0 : decode cX1_livingYes 0 = .ok (.aload_n 0, 1) := by decide +kernel
theorem dX1_livingYes_1 : decode cX1_livingYes 1 = .ok (.getfield 21, 3) := by decide +kernel
theorem dX1_livingYes_4 : decode cX1_livingYes 4 = .ok (.iload_n 1, 1) := by decide +kernel
theorem dX1_livingYes_5 : decode cX1_livingYes 5 = .ok (.iaload, 1) := by decide +kernel
theorem dX1_livingYes_6 : decode cX1_livingYes 6 = .ok (.aload_n 0, 1) := by decide +kernel
theorem dX1_livingYes_7 : decode cX1_livingYes 7 = .ok (.getfield 31, 3) := by decide +kernel
theorem dX1_livingYes_10 : decode cX1_livingYes 10 = .ok (.iand, 1) := by decide +kernel
theorem dX1_livingYes_11 : decode cX1_livingYes 11 = .ok (.ireturn, 1) := by decide +kernel
theorem dX1_livingNo_0 : decode cX1_livingNo 0 = .ok (.aload_n 0, 1) := by decide +kernel
theorem dX1_livingNo_1 : decode cX1_livingNo 1 = .ok (.getfield 24, 3) := by decide +kernel
theorem dX1_livingNo_4 : decode cX1_livingNo 4 = .ok (.iload_n 1, 1) := by decide +kernel
theorem dX1_livingNo_5 : decode cX1_livingNo 5 = .ok (.iaload, 1) := by decide +kernel
theorem dX1_livingNo_6 : decode cX1_livingNo 6 = .ok (.aload_n 0, 1) := by decide +kernel
theorem dX1_livingNo_7 : decode cX1_livingNo 7 = .ok (.getfield 31, 3) := by decide +kernel
theorem dX1_livingNo_10 : decode cX1_livingNo 10 = .ok (.iand, 1) := by decide +kernel
theorem dX1_livingNo_11 : decode cX1_livingNo 11 = .ok (.ireturn, 1) := by decide +kernel
set_option maxRecDepth 20000 in
theorem ggX1_topicsOf_X1_wordOf : GoodIn wsX1_topicsOf wsX1_wordOf := goodIn_r _ [5, 6, 7, 8, 9, 10, 11, 12, 13, 14, 15] (by decide +kernel) (by decide +kernel)
set_option maxRecDepth 20000 in
theorem gX1_topicsOf_X1_wordOf : GoodIn wsX1_topicsOf (wsV RX1 63 RX1 yX1_wordOf wsX1_wordOf) := goodIn_app (goodIn_of _ (by decide +kernel)) ggX1_topicsOf_X1_wordOf
theorem dX1_topicsOf_0 : decode cX1_topicsOf 0 = .ok (.iconst 0, 1) := by decide +kernel
theorem dX1_topicsOf_1 : decode cX1_topicsOf 1 = .ok (.istore_n 2, 1) := by decide +kernel
theorem dX1_topicsOf_2 : decode cX1_topicsOf 2 = .ok (.iconst 0, 1) := by decide +kernel
theorem dX1_topicsOf_3 : decode cX1_topicsOf 3 = .ok (.istore_n 3, 1) := by decide +kernel
theorem dX1_topicsOf_4 : decode cX1_topicsOf 4 = .ok (.iload_n 3, 1) := by decide +kernel
theorem dX1_topicsOf_5 : decode cX1_topicsOf 5 = .ok (.bipush 8, 2) := by decide +kernel
theorem dX1_topicsOf_7 : decode cX1_topicsOf 7 = .ok (.if_icmp .ge 21, 3) := by decide +kernel
theorem dX1_topicsOf_10 : decode cX1_topicsOf 10 = .ok (.aload_n 0, 1) := by decide +kernel
theorem dX1_topicsOf_11 : decode cX1_topicsOf 11 = .ok (.iload_n 1, 1) := by decide +kernel
theorem dX1_topicsOf_12 : decode cX1_topicsOf 12 = .ok (.iload_n 3, 1) := by decide +kernel
theorem dX1_topicsOf_13 : decode cX1_topicsOf 13 = .ok (.invokevirtual 63, 3) := by decide +kernel
theorem dX1_topicsOf_16 : decode cX1_topicsOf 16 = .ok (.ifCond .eq 6, 3) := by decide +kernel
theorem dX1_topicsOf_19 : decode cX1_topicsOf 19 = .ok (.iinc 2 1, 3) := by decide +kernel
theorem dX1_topicsOf_22 : decode cX1_topicsOf 22 = .ok (.iinc 3 1, 3) := by decide +kernel
theorem dX1_topicsOf_25 : decode cX1_topicsOf 25 = .ok (.goto (-21), 3) := by decide +kernel
theorem dX1_topicsOf_28 : decode cX1_topicsOf 28 = .ok (.iload_n 2, 1) := by decide +kernel
theorem dX1_topicsOf_29 : decode cX1_topicsOf 29 = .ok (.ireturn, 1) := by decide +kernel
set_option maxRecDepth 20000 in
theorem ggX1_wordsOfLiving_J6_bitCount_0f7a4 : GoodIn wsX1_wordsOfLiving wsJ6_bitCount_0f7a4 := goodIn_r _ [7, 8, 9, 10] (by decide +kernel) (by decide +kernel)
set_option maxRecDepth 20000 in
theorem gX1_wordsOfLiving_J6_bitCount_0f7a4 : GoodIn wsX1_wordsOfLiving (va_wsS RX1 47 yJ6_bitCount_0f7a4 wsJ6_bitCount_0f7a4) := goodIn_app (goodIn_of _ (by decide +kernel)) ggX1_wordsOfLiving_J6_bitCount_0f7a4
theorem dX1_wordsOfLiving_0 : decode cX1_wordsOfLiving 0 = .ok (.iconst 0, 1) := by decide +kernel
theorem dX1_wordsOfLiving_1 : decode cX1_wordsOfLiving 1 = .ok (.istore_n 1, 1) := by decide +kernel
theorem dX1_wordsOfLiving_2 : decode cX1_wordsOfLiving 2 = .ok (.iconst 0, 1) := by decide +kernel
theorem dX1_wordsOfLiving_3 : decode cX1_wordsOfLiving 3 = .ok (.istore_n 2, 1) := by decide +kernel
theorem dX1_wordsOfLiving_4 : decode cX1_wordsOfLiving 4 = .ok (.iload_n 2, 1) := by decide +kernel
theorem dX1_wordsOfLiving_5 : decode cX1_wordsOfLiving 5 = .ok (.bipush 8, 2) := by decide +kernel
theorem dX1_wordsOfLiving_7 : decode cX1_wordsOfLiving 7 = .ok (.if_icmp .ge 33, 3) := by decide +kernel
theorem dX1_wordsOfLiving_10 : decode cX1_wordsOfLiving 10 = .ok (.iload_n 1, 1) := by decide +kernel
theorem dX1_wordsOfLiving_11 : decode cX1_wordsOfLiving 11 = .ok (.aload_n 0, 1) := by decide +kernel
theorem dX1_wordsOfLiving_12 : decode cX1_wordsOfLiving 12 = .ok (.getfield 21, 3) := by decide +kernel
theorem dX1_wordsOfLiving_15 : decode cX1_wordsOfLiving 15 = .ok (.iload_n 2, 1) := by decide +kernel
theorem dX1_wordsOfLiving_16 : decode cX1_wordsOfLiving 16 = .ok (.iaload, 1) := by decide +kernel
theorem dX1_wordsOfLiving_17 : decode cX1_wordsOfLiving 17 = .ok (.aload_n 0, 1) := by decide +kernel
theorem dX1_wordsOfLiving_18 : decode cX1_wordsOfLiving 18 = .ok (.getfield 24, 3) := by decide +kernel
theorem dX1_wordsOfLiving_21 : decode cX1_wordsOfLiving 21 = .ok (.iload_n 2, 1) := by decide +kernel
theorem dX1_wordsOfLiving_22 : decode cX1_wordsOfLiving 22 = .ok (.iaload, 1) := by decide +kernel
theorem dX1_wordsOfLiving_23 : decode cX1_wordsOfLiving 23 = .ok (.ior, 1) := by decide +kernel
theorem dX1_wordsOfLiving_24 : decode cX1_wordsOfLiving 24 = .ok (.aload_n 0, 1) := by decide +kernel
theorem dX1_wordsOfLiving_25 : decode cX1_wordsOfLiving 25 = .ok (.getfield 31, 3) := by decide +kernel
theorem dX1_wordsOfLiving_28 : decode cX1_wordsOfLiving 28 = .ok (.iand, 1) := by decide +kernel
theorem dX1_wordsOfLiving_29 : decode cX1_wordsOfLiving 29 = .ok (.invokestatic 47, 3) := by decide +kernel
theorem dX1_wordsOfLiving_32 : decode cX1_wordsOfLiving 32 = .ok (.iadd, 1) := by decide +kernel
theorem dX1_wordsOfLiving_33 : decode cX1_wordsOfLiving 33 = .ok (.istore_n 1, 1) := by decide +kernel
theorem dX1_wordsOfLiving_34 : decode cX1_wordsOfLiving 34 = .ok (.iinc 2 1, 3) := by decide +kernel
theorem dX1_wordsOfLiving_37 : decode cX1_wordsOfLiving 37 = .ok (.goto (-33), 3) := by decide +kernel
theorem dX1_wordsOfLiving_40 : decode cX1_wordsOfLiving 40 = .ok (.iload_n 1, 1) := by decide +kernel
theorem dX1_wordsOfLiving_41 : decode cX1_wordsOfLiving 41 = .ok (.ireturn, 1) := by decide +kernel
set_option maxRecDepth 20000 in
theorem ggX1_denials_X1_wordOf : GoodIn wsX1_denials wsX1_wordOf := goodIn_r _ [5, 6, 7, 8, 9, 10, 11, 12, 13, 14, 15] (by decide +kernel) (by decide +kernel)
set_option maxRecDepth 20000 in
theorem gX1_denials_X1_wordOf : GoodIn wsX1_denials (wsV RX1 63 RX1 yX1_wordOf wsX1_wordOf) := goodIn_app (goodIn_of _ (by decide +kernel)) ggX1_denials_X1_wordOf
theorem dX1_denials_0 : decode cX1_denials 0 = .ok (.iconst 0, 1) := by decide +kernel
theorem dX1_denials_1 : decode cX1_denials 1 = .ok (.istore_n 3, 1) := by decide +kernel
theorem dX1_denials_2 : decode cX1_denials 2 = .ok (.iconst 0, 1) := by decide +kernel
theorem dX1_denials_3 : decode cX1_denials 3 = .ok (.istore 4, 2) := by decide +kernel
theorem dX1_denials_5 : decode cX1_denials 5 = .ok (.iload 4, 2) := by decide +kernel
theorem dX1_denials_7 : decode cX1_denials 7 = .ok (.bipush 8, 2) := by decide +kernel
theorem dX1_denials_9 : decode cX1_denials 9 = .ok (.if_icmp .ge 51, 3) := by decide +kernel
theorem dX1_denials_12 : decode cX1_denials 12 = .ok (.aload_n 0, 1) := by decide +kernel
theorem dX1_denials_13 : decode cX1_denials 13 = .ok (.iload_n 1, 1) := by decide +kernel
theorem dX1_denials_14 : decode cX1_denials 14 = .ok (.iload 4, 2) := by decide +kernel
theorem dX1_denials_16 : decode cX1_denials 16 = .ok (.invokevirtual 63, 3) := by decide +kernel
theorem dX1_denials_19 : decode cX1_denials 19 = .ok (.aload_n 0, 1) := by decide +kernel
theorem dX1_denials_20 : decode cX1_denials 20 = .ok (.iload_n 2, 1) := by decide +kernel
theorem dX1_denials_21 : decode cX1_denials 21 = .ok (.iload 4, 2) := by decide +kernel
theorem dX1_denials_23 : decode cX1_denials 23 = .ok (.invokevirtual 63, 3) := by decide +kernel
theorem dX1_denials_26 : decode cX1_denials 26 = .ok (.iadd, 1) := by decide +kernel
theorem dX1_denials_27 : decode cX1_denials 27 = .ok (.iconst 3, 1) := by decide +kernel
theorem dX1_denials_28 : decode cX1_denials 28 = .ok (.if_icmp .ne 26, 3) := by decide +kernel
theorem dX1_denials_31 : decode cX1_denials 31 = .ok (.aload_n 0, 1) := by decide +kernel
theorem dX1_denials_32 : decode cX1_denials 32 = .ok (.iload_n 1, 1) := by decide +kernel
theorem dX1_denials_33 : decode cX1_denials 33 = .ok (.iload 4, 2) := by decide +kernel
theorem dX1_denials_35 : decode cX1_denials 35 = .ok (.invokevirtual 63, 3) := by decide +kernel
theorem dX1_denials_38 : decode cX1_denials 38 = .ok (.ifCond .eq 16, 3) := by decide +kernel
theorem dX1_denials_41 : decode cX1_denials 41 = .ok (.aload_n 0, 1) := by decide +kernel
theorem dX1_denials_42 : decode cX1_denials 42 = .ok (.iload_n 2, 1) := by decide +kernel
theorem dX1_denials_43 : decode cX1_denials 43 = .ok (.iload 4, 2) := by decide +kernel
theorem dX1_denials_45 : decode cX1_denials 45 = .ok (.invokevirtual 63, 3) := by decide +kernel
theorem dX1_denials_48 : decode cX1_denials 48 = .ok (.ifCond .eq 6, 3) := by decide +kernel
theorem dX1_denials_51 : decode cX1_denials 51 = .ok (.iinc 3 1, 3) := by decide +kernel
theorem dX1_denials_54 : decode cX1_denials 54 = .ok (.iinc 4 1, 3) := by decide +kernel
theorem dX1_denials_57 : decode cX1_denials 57 = .ok (.goto (-52), 3) := by decide +kernel
theorem dX1_denials_60 : decode cX1_denials 60 = .ok (.iload_n 3, 1) := by decide +kernel
theorem dX1_denials_61 : decode cX1_denials 61 = .ok (.ireturn, 1) := by decide +kernel
set_option maxRecDepth 20000 in
theorem ggX1_isWritten_X1_livingYes : GoodIn wsX1_isWritten wsX1_livingYes := goodIn_r _ [5, 6, 7, 13, 14, 15, 16, 17, 18, 19, 20] (by decide +kernel) (by decide +kernel)
set_option maxRecDepth 20000 in
theorem gX1_isWritten_X1_livingYes : GoodIn wsX1_isWritten (wsV RX1 67 RX1 yX1_livingYes wsX1_livingYes) := goodIn_app (goodIn_of _ (by decide +kernel)) ggX1_isWritten_X1_livingYes
set_option maxRecDepth 20000 in
theorem ggX1_isWritten_X1_livingNo : GoodIn wsX1_isWritten wsX1_livingNo := goodIn_r _ [11, 12, 7, 13, 14, 15, 16, 17, 18, 19, 20] (by decide +kernel) (by decide +kernel)
set_option maxRecDepth 20000 in
theorem gX1_isWritten_X1_livingNo : GoodIn wsX1_isWritten (wsV RX1 70 RX1 yX1_livingNo wsX1_livingNo) := goodIn_app (goodIn_of _ (by decide +kernel)) ggX1_isWritten_X1_livingNo
theorem dX1_isWritten_0 : decode cX1_isWritten 0 = .ok (.aload_n 0, 1) := by decide +kernel
theorem dX1_isWritten_1 : decode cX1_isWritten 1 = .ok (.iload_n 1, 1) := by decide +kernel
theorem dX1_isWritten_2 : decode cX1_isWritten 2 = .ok (.invokevirtual 67, 3) := by decide +kernel
theorem dX1_isWritten_5 : decode cX1_isWritten 5 = .ok (.ifCond .eq 15, 3) := by decide +kernel
theorem dX1_isWritten_8 : decode cX1_isWritten 8 = .ok (.aload_n 0, 1) := by decide +kernel
theorem dX1_isWritten_9 : decode cX1_isWritten 9 = .ok (.iload_n 1, 1) := by decide +kernel
theorem dX1_isWritten_10 : decode cX1_isWritten 10 = .ok (.invokevirtual 70, 3) := by decide +kernel
theorem dX1_isWritten_13 : decode cX1_isWritten 13 = .ok (.ifCond .eq 7, 3) := by decide +kernel
theorem dX1_isWritten_16 : decode cX1_isWritten 16 = .ok (.iconst 1, 1) := by decide +kernel
theorem dX1_isWritten_17 : decode cX1_isWritten 17 = .ok (.goto 4, 3) := by decide +kernel
theorem dX1_isWritten_20 : decode cX1_isWritten 20 = .ok (.iconst 0, 1) := by decide +kernel
theorem dX1_isWritten_21 : decode cX1_isWritten 21 = .ok (.ireturn, 1) := by decide +kernel
set_option maxRecDepth 20000 in
theorem ggX1_book_X1_isWritten : GoodIn wsX1_book wsX1_isWritten := goodIn_r _ [5, 6, 7, 8, 4, 9, 10, 11, 12, 13, 14, 15, 16, 17, 18, 19, 20, 21, 22, 23, 24] (by decide +kernel) (by decide +kernel)
set_option maxRecDepth 20000 in
theorem gX1_book_X1_isWritten : GoodIn wsX1_book (wsV RX1 73 RX1 yX1_isWritten wsX1_isWritten) := goodIn_app (goodIn_of _ (by decide +kernel)) ggX1_book_X1_isWritten
theorem dX1_book_0 : decode cX1_book 0 = .ok (.iconst 0, 1) := by decide +kernel
theorem dX1_book_1 : decode cX1_book 1 = .ok (.istore_n 1, 1) := by decide +kernel
theorem dX1_book_2 : decode cX1_book 2 = .ok (.iconst 0, 1) := by decide +kernel
theorem dX1_book_3 : decode cX1_book 3 = .ok (.istore_n 2, 1) := by decide +kernel
theorem dX1_book_4 : decode cX1_book 4 = .ok (.iload_n 2, 1) := by decide +kernel
theorem dX1_book_5 : decode cX1_book 5 = .ok (.bipush 8, 2) := by decide +kernel
theorem dX1_book_7 : decode cX1_book 7 = .ok (.if_icmp .ge 23, 3) := by decide +kernel
theorem dX1_book_10 : decode cX1_book 10 = .ok (.aload_n 0, 1) := by decide +kernel
theorem dX1_book_11 : decode cX1_book 11 = .ok (.iload_n 2, 1) := by decide +kernel
theorem dX1_book_12 : decode cX1_book 12 = .ok (.invokevirtual 73, 3) := by decide +kernel
theorem dX1_book_15 : decode cX1_book 15 = .ok (.ifCond .eq 9, 3) := by decide +kernel
theorem dX1_book_18 : decode cX1_book 18 = .ok (.iload_n 1, 1) := by decide +kernel
theorem dX1_book_19 : decode cX1_book 19 = .ok (.iconst 1, 1) := by decide +kernel
theorem dX1_book_20 : decode cX1_book 20 = .ok (.iload_n 2, 1) := by decide +kernel
theorem dX1_book_21 : decode cX1_book 21 = .ok (.ishl, 1) := by decide +kernel
theorem dX1_book_22 : decode cX1_book 22 = .ok (.ior, 1) := by decide +kernel
theorem dX1_book_23 : decode cX1_book 23 = .ok (.istore_n 1, 1) := by decide +kernel
theorem dX1_book_24 : decode cX1_book 24 = .ok (.iinc 2 1, 3) := by decide +kernel
theorem dX1_book_27 : decode cX1_book 27 = .ok (.goto (-23), 3) := by decide +kernel
theorem dX1_book_30 : decode cX1_book 30 = .ok (.iload_n 1, 1) := by decide +kernel
theorem dX1_book_31 : decode cX1_book 31 = .ok (.ireturn, 1) := by decide +kernel
set_option maxRecDepth 20000 in
theorem ggX1_bookSize_X1_book : GoodIn wsX1_bookSize wsX1_book := goodIn_r _ [5, 6, 7, 8, 4, 9, 10, 11, 12, 13, 14, 15, 16, 17, 18, 19, 20, 28, 29, 30, 31, 32, 33, 34, 35] (by decide +kernel) (by decide +kernel)
set_option maxRecDepth 20000 in
theorem gX1_bookSize_X1_book : GoodIn wsX1_bookSize (wsV RX1 76 RX1 yX1_book wsX1_book) := goodIn_app (goodIn_of _ (by decide +kernel)) ggX1_bookSize_X1_book
set_option maxRecDepth 20000 in
theorem ggX1_bookSize_J6_bitCount_0f7a4 : GoodIn wsX1_bookSize wsJ6_bitCount_0f7a4 := goodIn_r _ [24, 25, 26, 27] (by decide +kernel) (by decide +kernel)
set_option maxRecDepth 20000 in
theorem gX1_bookSize_J6_bitCount_0f7a4 : GoodIn wsX1_bookSize (va_wsS RX1 47 yJ6_bitCount_0f7a4 wsJ6_bitCount_0f7a4) := goodIn_app (goodIn_of _ (by decide +kernel)) ggX1_bookSize_J6_bitCount_0f7a4
theorem dX1_bookSize_0 : decode cX1_bookSize 0 = .ok (.aload_n 0, 1) := by decide +kernel
theorem dX1_bookSize_1 : decode cX1_bookSize 1 = .ok (.invokevirtual 76, 3) := by decide +kernel
theorem dX1_bookSize_4 : decode cX1_bookSize 4 = .ok (.invokestatic 47, 3) := by decide +kernel
theorem dX1_bookSize_7 : decode cX1_bookSize 7 = .ok (.ireturn, 1) := by decide +kernel
set_option maxRecDepth 20000 in
theorem ggX1_chapterOf_X1_isLiving : GoodIn wsX1_chapterOf wsX1_isLiving := goodIn_r _ [5, 6, 7, 26, 27, 28, 29, 30, 31, 32, 33] (by decide +kernel) (by decide +kernel)
set_option maxRecDepth 20000 in
theorem gX1_chapterOf_X1_isLiving : GoodIn wsX1_chapterOf (wsV RX1 43 RX1 yX1_isLiving wsX1_isLiving) := goodIn_app (goodIn_of _ (by decide +kernel)) ggX1_chapterOf_X1_isLiving
set_option maxRecDepth 20000 in
theorem ggX1_chapterOf_X1_isWritten : GoodIn wsX1_chapterOf wsX1_isWritten := goodIn_r _ [11, 12, 13, 14, 4, 15, 16, 7, 17, 18, 19, 20, 21, 26, 27, 28, 29, 30, 31, 32, 33] (by decide +kernel) (by decide +kernel)
set_option maxRecDepth 20000 in
theorem gX1_chapterOf_X1_isWritten : GoodIn wsX1_chapterOf (wsV RX1 73 RX1 yX1_isWritten wsX1_isWritten) := goodIn_app (goodIn_of _ (by decide +kernel)) ggX1_chapterOf_X1_isWritten
set_option maxRecDepth 20000 in
theorem ggX1_chapterOf_X1_wordOf : GoodIn wsX1_chapterOf wsX1_wordOf := goodIn_r _ [25, 16, 21, 26, 27, 28, 29, 30, 31, 32, 33] (by decide +kernel) (by decide +kernel)
set_option maxRecDepth 20000 in
theorem gX1_chapterOf_X1_wordOf : GoodIn wsX1_chapterOf (wsV RX1 63 RX1 yX1_wordOf wsX1_wordOf) := goodIn_app (goodIn_of _ (by decide +kernel)) ggX1_chapterOf_X1_wordOf
theorem dX1_chapterOf_0 : decode cX1_chapterOf 0 = .ok (.aload_n 0, 1) := by decide +kernel
theorem dX1_chapterOf_1 : decode cX1_chapterOf 1 = .ok (.iload_n 1, 1) := by decide +kernel
theorem dX1_chapterOf_2 : decode cX1_chapterOf 2 = .ok (.invokevirtual 43, 3) := by decide +kernel
theorem dX1_chapterOf_5 : decode cX1_chapterOf 5 = .ok (.ifCond .ne 5, 3) := by decide +kernel
theorem dX1_chapterOf_8 : decode cX1_chapterOf 8 = .ok (.iconst 0, 1) := by decide +kernel
theorem dX1_chapterOf_9 : decode cX1_chapterOf 9 = .ok (.ireturn, 1) := by decide +kernel
theorem dX1_chapterOf_10 : decode cX1_chapterOf 10 = .ok (.iconst 0, 1) := by decide +kernel
theorem dX1_chapterOf_11 : decode cX1_chapterOf 11 = .ok (.istore_n 2, 1) := by decide +kernel
theorem dX1_chapterOf_12 : decode cX1_chapterOf 12 = .ok (.iconst 0, 1) := by decide +kernel
theorem dX1_chapterOf_13 : decode cX1_chapterOf 13 = .ok (.istore_n 3, 1) := by decide +kernel
theorem dX1_chapterOf_14 : decode cX1_chapterOf 14 = .ok (.iload_n 3, 1) := by decide +kernel
theorem dX1_chapterOf_15 : decode cX1_chapterOf 15 = .ok (.bipush 8, 2) := by decide +kernel
theorem dX1_chapterOf_17 : decode cX1_chapterOf 17 = .ok (.if_icmp .ge 29, 3) := by decide +kernel
theorem dX1_chapterOf_20 : decode cX1_chapterOf 20 = .ok (.aload_n 0, 1) := by decide +kernel
theorem dX1_chapterOf_21 : decode cX1_chapterOf 21 = .ok (.iload_n 3, 1) := by decide +kernel
theorem dX1_chapterOf_22 : decode cX1_chapterOf 22 = .ok (.invokevirtual 73, 3) := by decide +kernel
theorem dX1_chapterOf_25 : decode cX1_chapterOf 25 = .ok (.ifCond .eq 15, 3) := by decide +kernel
theorem dX1_chapterOf_28 : decode cX1_chapterOf 28 = .ok (.aload_n 0, 1) := by decide +kernel
theorem dX1_chapterOf_29 : decode cX1_chapterOf 29 = .ok (.iload_n 1, 1) := by decide +kernel
theorem dX1_chapterOf_30 : decode cX1_chapterOf 30 = .ok (.iload_n 3, 1) := by decide +kernel
theorem dX1_chapterOf_31 : decode cX1_chapterOf 31 = .ok (.invokevirtual 63, 3) := by decide +kernel
theorem dX1_chapterOf_34 : decode cX1_chapterOf 34 = .ok (.ifCond .eq 6, 3) := by decide +kernel
theorem dX1_chapterOf_37 : decode cX1_chapterOf 37 = .ok (.iinc 2 1, 3) := by decide +kernel
theorem dX1_chapterOf_40 : decode cX1_chapterOf 40 = .ok (.iinc 3 1, 3) := by decide +kernel
theorem dX1_chapterOf_43 : decode cX1_chapterOf 43 = .ok (.goto (-29), 3) := by decide +kernel
theorem dX1_chapterOf_46 : decode cX1_chapterOf 46 = .ok (.iload_n 2, 1) := by decide +kernel
theorem dX1_chapterOf_47 : decode cX1_chapterOf 47 = .ok (.ireturn, 1) := by decide +kernel
set_option maxRecDepth 20000 in
theorem ggX1_drawWords_X1_isLiving : GoodIn wsX1_drawWords wsX1_isLiving := goodIn_r _ [9, 1, 10, 17, 18, 19, 20, 21, 22, 23, 24] (by decide +kernel) (by decide +kernel)
set_option maxRecDepth 20000 in
theorem gX1_drawWords_X1_isLiving : GoodIn wsX1_drawWords (wsV RX1 43 RX1 yX1_isLiving wsX1_isLiving) := goodIn_app (goodIn_of _ (by decide +kernel)) ggX1_drawWords_X1_isLiving
set_option maxRecDepth 20000 in
theorem ggX1_drawWords_X1_put : GoodIn wsX1_drawWords wsX1_put := goodIn_r _ [14, 15, 16, 17, 18, 19, 20, 21, 22, 23, 24] (by decide +kernel) (by decide +kernel)
set_option maxRecDepth 20000 in
theorem gX1_drawWords_X1_put : GoodIn wsX1_drawWords (wsV RX1 59 RX1 yX1_put wsX1_put) := goodIn_app (goodIn_of _ (by decide +kernel)) ggX1_drawWords_X1_put
theorem dX1_drawWords_0 : decode cX1_drawWords 0 = .ok (.iload_n 1, 1) := by decide +kernel
theorem dX1_drawWords_1 : decode cX1_drawWords 1 = .ok (.istore_n 2, 1) := by decide +kernel
theorem dX1_drawWords_2 : decode cX1_drawWords 2 = .ok (.iconst 0, 1) := by decide +kernel
theorem dX1_drawWords_3 : decode cX1_drawWords 3 = .ok (.istore_n 3, 1) := by decide +kernel
theorem dX1_drawWords_4 : decode cX1_drawWords 4 = .ok (.iload_n 3, 1) := by decide +kernel
theorem dX1_drawWords_5 : decode cX1_drawWords 5 = .ok (.aload_n 0, 1) := by decide +kernel
theorem dX1_drawWords_6 : decode cX1_drawWords 6 = .ok (.getfield 27, 3) := by decide +kernel
theorem dX1_drawWords_9 : decode cX1_drawWords 9 = .ok (.if_icmp .ge 61, 3) := by decide +kernel
theorem dX1_drawWords_12 : decode cX1_drawWords 12 = .ok (.aload_n 0, 1) := by decide +kernel
theorem dX1_drawWords_13 : decode cX1_drawWords 13 = .ok (.iload_n 3, 1) := by decide +kernel
theorem dX1_drawWords_14 : decode cX1_drawWords 14 = .ok (.invokevirtual 43, 3) := by decide +kernel
theorem dX1_drawWords_17 : decode cX1_drawWords 17 = .ok (.ifCond .ne 6, 3) := by decide +kernel
theorem dX1_drawWords_20 : decode cX1_drawWords 20 = .ok (.goto 44, 3) := by decide +kernel
theorem dX1_drawWords_23 : decode cX1_drawWords 23 = .ok (.iconst 0, 1) := by decide +kernel
theorem dX1_drawWords_24 : decode cX1_drawWords 24 = .ok (.istore 4, 2) := by decide +kernel
theorem dX1_drawWords_26 : decode cX1_drawWords 26 = .ok (.iload 4, 2) := by decide +kernel
theorem dX1_drawWords_28 : decode cX1_drawWords 28 = .ok (.bipush 8, 2) := by decide +kernel
theorem dX1_drawWords_30 : decode cX1_drawWords 30 = .ok (.if_icmp .ge 34, 3) := by decide +kernel
theorem dX1_drawWords_33 : decode cX1_drawWords 33 = .ok (.iload_n 2, 1) := by decide +kernel
theorem dX1_drawWords_34 : decode cX1_drawWords 34 = .ok (.ldc 80, 2) := by decide +kernel
theorem dX1_drawWords_36 : decode cX1_drawWords 36 = .ok (.imul, 1) := by decide +kernel
theorem dX1_drawWords_37 : decode cX1_drawWords 37 = .ok (.ldc 81, 2) := by decide +kernel
theorem dX1_drawWords_39 : decode cX1_drawWords 39 = .ok (.iadd, 1) := by decide +kernel
theorem dX1_drawWords_40 : decode cX1_drawWords 40 = .ok (.istore_n 2, 1) := by decide +kernel
theorem dX1_drawWords_41 : decode cX1_drawWords 41 = .ok (.aload_n 0, 1) := by decide +kernel
theorem dX1_drawWords_42 : decode cX1_drawWords 42 = .ok (.iload_n 3, 1) := by decide +kernel
theorem dX1_drawWords_43 : decode cX1_drawWords 43 = .ok (.iload 4, 2) := by decide +kernel
theorem dX1_drawWords_45 : decode cX1_drawWords 45 = .ok (.iload_n 2, 1) := by decide +kernel
theorem dX1_drawWords_46 : decode cX1_drawWords 46 = .ok (.ldc 82, 2) := by decide +kernel
theorem dX1_drawWords_48 : decode cX1_drawWords 48 = .ok (.iand, 1) := by decide +kernel
theorem dX1_drawWords_49 : decode cX1_drawWords 49 = .ok (.sipush 256, 3) := by decide +kernel
theorem dX1_drawWords_52 : decode cX1_drawWords 52 = .ok (.idiv, 1) := by decide +kernel
theorem dX1_drawWords_53 : decode cX1_drawWords 53 = .ok (.iconst 3, 1) := by decide +kernel
theorem dX1_drawWords_54 : decode cX1_drawWords 54 = .ok (.irem, 1) := by decide +kernel
theorem dX1_drawWords_55 : decode cX1_drawWords 55 = .ok (.invokevirtual 59, 3) := by decide +kernel
theorem dX1_drawWords_58 : decode cX1_drawWords 58 = .ok (.iinc 4 1, 3) := by decide +kernel
theorem dX1_drawWords_61 : decode cX1_drawWords 61 = .ok (.goto (-35), 3) := by decide +kernel
theorem dX1_drawWords_64 : decode cX1_drawWords 64 = .ok (.iinc 3 1, 3) := by decide +kernel
theorem dX1_drawWords_67 : decode cX1_drawWords 67 = .ok (.goto (-63), 3) := by decide +kernel
theorem dX1_drawWords_70 : decode cX1_drawWords 70 = .ok (.iload_n 2, 1) := by decide +kernel
theorem dX1_drawWords_71 : decode cX1_drawWords 71 = .ok (.ireturn, 1) := by decide +kernel
set_option maxRecDepth 20000 in
theorem ggX1_spend_X1_passOne : GoodIn wsX1_spend wsX1_passOne := goodIn_r _ [6, 7, 1, 8, 9, 10, 11, 5, 12, 13, 14, 15, 16, 17, 18, 19, 20, 21, 22, 23, 24, 25, 26, 27, 28, 29, 30, 31, 32, 33, 34, 35, 36, 37, 38, 39, 40, 41, 42, 43, 44, 45, 46, 47, 48, 49, 50, 51, 52, 53, 54, 55, 56, 57, 58, 59, 60, 61, 62, 63, 64, 65, 66, 67, 68, 69, 70, 71, 72, 73, 74, 75, 76, 77, 78, 79, 80] (by decide +kernel) (by decide +kernel)
set_option maxRecDepth 20000 in
theorem gX1_spend_X1_passOne : GoodIn wsX1_spend (wsV RX1 83 RX1 yX1_passOne wsX1_passOne) := goodIn_app (goodIn_of _ (by decide +kernel)) ggX1_spend_X1_passOne
theorem dX1_spend_0 : decode cX1_spend 0 = .ok (.iload_n 1, 1) := by decide +kernel
theorem dX1_spend_1 : decode cX1_spend 1 = .ok (.iconst 1, 1) := by decide +kernel
theorem dX1_spend_2 : decode cX1_spend 2 = .ok (.if_icmp .lt 21, 3) := by decide +kernel
theorem dX1_spend_5 : decode cX1_spend 5 = .ok (.iload_n 1, 1) := by decide +kernel
theorem dX1_spend_6 : decode cX1_spend 6 = .ok (.bipush 60, 2) := by decide +kernel
theorem dX1_spend_8 : decode cX1_spend 8 = .ok (.if_icmp .gt 15, 3) := by decide +kernel
theorem dX1_spend_11 : decode cX1_spend 11 = .ok (.aload_n 0, 1) := by decide +kernel
theorem dX1_spend_12 : decode cX1_spend 12 = .ok (.getfield 34, 3) := by decide +kernel
theorem dX1_spend_15 : decode cX1_spend 15 = .ok (.iload_n 1, 1) := by decide +kernel
theorem dX1_spend_16 : decode cX1_spend 16 = .ok (.iadd, 1) := by decide +kernel
theorem dX1_spend_17 : decode cX1_spend 17 = .ok (.sipush 999, 3) := by decide +kernel
theorem dX1_spend_20 : decode cX1_spend 20 = .ok (.if_icmp .le 5, 3) := by decide +kernel
theorem dX1_spend_23 : decode cX1_spend 23 = .ok (.iconst 0, 1) := by decide +kernel
theorem dX1_spend_24 : decode cX1_spend 24 = .ok (.ireturn, 1) := by decide +kernel
theorem dX1_spend_25 : decode cX1_spend 25 = .ok (.iconst 0, 1) := by decide +kernel
theorem dX1_spend_26 : decode cX1_spend 26 = .ok (.istore_n 2, 1) := by decide +kernel
theorem dX1_spend_27 : decode cX1_spend 27 = .ok (.iload_n 2, 1) := by decide +kernel
theorem dX1_spend_28 : decode cX1_spend 28 = .ok (.iload_n 1, 1) := by decide +kernel
theorem dX1_spend_29 : decode cX1_spend 29 = .ok (.if_icmp .ge 17, 3) := by decide +kernel
theorem dX1_spend_32 : decode cX1_spend 32 = .ok (.aload_n 0, 1) := by decide +kernel
theorem dX1_spend_33 : decode cX1_spend 33 = .ok (.iconst 0, 1) := by decide +kernel
theorem dX1_spend_34 : decode cX1_spend 34 = .ok (.bipush 8, 2) := by decide +kernel
theorem dX1_spend_36 : decode cX1_spend 36 = .ok (.invokevirtual 83, 3) := by decide +kernel
theorem dX1_spend_39 : decode cX1_spend 39 = .ok (.pop, 1) := by decide +kernel
theorem dX1_spend_40 : decode cX1_spend 40 = .ok (.iinc 2 1, 3) := by decide +kernel
theorem dX1_spend_43 : decode cX1_spend 43 = .ok (.goto (-16), 3) := by decide +kernel
theorem dX1_spend_46 : decode cX1_spend 46 = .ok (.iconst 1, 1) := by decide +kernel
theorem dX1_spend_47 : decode cX1_spend 47 = .ok (.ireturn, 1) := by decide +kernel
set_option maxRecDepth 20000 in
theorem ggX1_pass_X1_passOne : GoodIn wsX1_pass wsX1_passOne := goodIn_r _ [5, 6, 7, 8, 9, 10, 11, 4, 12, 13, 14, 15, 16, 17, 18, 19, 20, 21, 22, 23, 24, 25, 26, 27, 28, 29, 30, 31, 32, 33, 34, 35, 36, 37, 38, 39, 40, 41, 42, 43, 44, 45, 46, 47, 48, 49, 50, 51, 52, 53, 54, 55, 56, 57, 58, 59, 60, 61, 62, 63, 64, 65, 66, 67, 68, 69, 70, 71, 72, 73, 74, 75, 76, 77, 78, 79, 80] (by decide +kernel) (by decide +kernel)
set_option maxRecDepth 20000 in
theorem gX1_pass_X1_passOne : GoodIn wsX1_pass (wsV RX1 83 RX1 yX1_passOne wsX1_passOne) := goodIn_app (goodIn_of _ (by decide +kernel)) ggX1_pass_X1_passOne
theorem dX1_pass_0 : decode cX1_pass 0 = .ok (.iconst 0, 1) := by decide +kernel
theorem dX1_pass_1 : decode cX1_pass 1 = .ok (.istore_n 2, 1) := by decide +kernel
theorem dX1_pass_2 : decode cX1_pass 2 = .ok (.iload_n 2, 1) := by decide +kernel
theorem dX1_pass_3 : decode cX1_pass 3 = .ok (.iload_n 1, 1) := by decide +kernel
theorem dX1_pass_4 : decode cX1_pass 4 = .ok (.if_icmp .ge 17, 3) := by decide +kernel
theorem dX1_pass_7 : decode cX1_pass 7 = .ok (.aload_n 0, 1) := by decide +kernel
theorem dX1_pass_8 : decode cX1_pass 8 = .ok (.iconst 0, 1) := by decide +kernel
theorem dX1_pass_9 : decode cX1_pass 9 = .ok (.bipush 8, 2) := by decide +kernel
theorem dX1_pass_11 : decode cX1_pass 11 = .ok (.invokevirtual 83, 3) := by decide +kernel
theorem dX1_pass_14 : decode cX1_pass 14 = .ok (.pop, 1) := by decide +kernel
theorem dX1_pass_15 : decode cX1_pass 15 = .ok (.iinc 2 1, 3) := by decide +kernel
theorem dX1_pass_18 : decode cX1_pass 18 = .ok (.goto (-16), 3) := by decide +kernel
theorem dX1_pass_21 : decode cX1_pass 21 = .ok (.return_, 1) := by decide +kernel
set_option maxRecDepth 20000 in
theorem ggX1_passFor_X1_passOne : GoodIn wsX1_passFor wsX1_passOne := goodIn_r _ [5, 6, 7, 8, 9, 10, 11, 4, 12, 13, 14, 15, 16, 17, 18, 19, 20, 21, 22, 23, 24, 25, 26, 27, 28, 29, 30, 31, 32, 33, 34, 35, 36, 37, 38, 39, 40, 41, 42, 43, 44, 45, 46, 47, 48, 49, 50, 51, 52, 53, 54, 55, 56, 57, 58, 59, 60, 61, 62, 63, 64, 65, 66, 67, 68, 69, 70, 71, 72, 73, 74, 75, 76, 77, 78, 79, 80] (by decide +kernel) (by decide +kernel)
set_option maxRecDepth 20000 in
theorem gX1_passFor_X1_passOne : GoodIn wsX1_passFor (wsV RX1 83 RX1 yX1_passOne wsX1_passOne) := goodIn_app (goodIn_of _ (by decide +kernel)) ggX1_passFor_X1_passOne
theorem dX1_passFor_0 : decode cX1_passFor 0 = .ok (.iconst 0, 1) := by decide +kernel
theorem dX1_passFor_1 : decode cX1_passFor 1 = .ok (.istore_n 3, 1) := by decide +kernel
theorem dX1_passFor_2 : decode cX1_passFor 2 = .ok (.iload_n 3, 1) := by decide +kernel
theorem dX1_passFor_3 : decode cX1_passFor 3 = .ok (.iload_n 2, 1) := by decide +kernel
theorem dX1_passFor_4 : decode cX1_passFor 4 = .ok (.if_icmp .ge 18, 3) := by decide +kernel
theorem dX1_passFor_7 : decode cX1_passFor 7 = .ok (.aload_n 0, 1) := by decide +kernel
theorem dX1_passFor_8 : decode cX1_passFor 8 = .ok (.iload_n 1, 1) := by decide +kernel
theorem dX1_passFor_9 : decode cX1_passFor 9 = .ok (.iload_n 1, 1) := by decide +kernel
theorem dX1_passFor_10 : decode cX1_passFor 10 = .ok (.iconst 1, 1) := by decide +kernel
theorem dX1_passFor_11 : decode cX1_passFor 11 = .ok (.iadd, 1) := by decide +kernel
theorem dX1_passFor_12 : decode cX1_passFor 12 = .ok (.invokevirtual 83, 3) := by decide +kernel
theorem dX1_passFor_15 : decode cX1_passFor 15 = .ok (.pop, 1) := by decide +kernel
theorem dX1_passFor_16 : decode cX1_passFor 16 = .ok (.iinc 3 1, 3) := by decide +kernel
theorem dX1_passFor_19 : decode cX1_passFor 19 = .ok (.goto (-17), 3) := by decide +kernel
theorem dX1_passFor_22 : decode cX1_passFor 22 = .ok (.return_, 1) := by decide +kernel
set_option maxRecDepth 20000 in
theorem ggX1_endOf_X1_isWritten : GoodIn wsX1_endOf wsX1_isWritten := goodIn_r _ [5, 6, 7, 8, 4, 9, 10, 11, 12, 13, 14, 15, 16, 77, 78, 79, 80, 81, 82, 83, 84] (by decide +kernel) (by decide +kernel)
set_option maxRecDepth 20000 in
theorem gX1_endOf_X1_isWritten : GoodIn wsX1_endOf (wsV RX1 73 RX1 yX1_isWritten wsX1_isWritten) := goodIn_app (goodIn_of _ (by decide +kernel)) ggX1_endOf_X1_isWritten
set_option maxRecDepth 20000 in
theorem ggX1_endOf_X1_passOne : GoodIn wsX1_endOf wsX1_passOne := goodIn_r _ [20, 11, 21, 22, 23, 24, 25, 4, 26, 27, 28, 29, 30, 31, 32, 33, 34, 35, 36, 37, 38, 39, 40, 41, 42, 43, 44, 45, 46, 47, 48, 49, 50, 51, 52, 53, 54, 55, 56, 57, 10, 16, 6, 7, 8, 9, 58, 59, 60, 61, 62, 63, 64, 12, 13, 14, 15, 65, 66, 67, 68, 69, 70, 71, 72, 73, 74, 75, 76, 77, 78, 79, 80, 81, 82, 83, 84] (by decide +kernel) (by decide +kernel)
set_option maxRecDepth 20000 in
theorem gX1_endOf_X1_passOne : GoodIn wsX1_endOf (wsV RX1 83 RX1 yX1_passOne wsX1_passOne) := goodIn_app (goodIn_of _ (by decide +kernel)) ggX1_endOf_X1_passOne
theorem dX1_endOf_0 : decode cX1_endOf 0 = .ok (.iconst 0, 1) := by decide +kernel
theorem dX1_endOf_1 : decode cX1_endOf 1 = .ok (.istore_n 2, 1) := by decide +kernel
theorem dX1_endOf_2 : decode cX1_endOf 2 = .ok (.iload_n 2, 1) := by decide +kernel
theorem dX1_endOf_3 : decode cX1_endOf 3 = .ok (.bipush 60, 2) := by decide +kernel
theorem dX1_endOf_5 : decode cX1_endOf 5 = .ok (.if_icmp .gt 26, 3) := by decide +kernel
theorem dX1_endOf_8 : decode cX1_endOf 8 = .ok (.aload_n 0, 1) := by decide +kernel
theorem dX1_endOf_9 : decode cX1_endOf 9 = .ok (.iload_n 1, 1) := by decide +kernel
theorem dX1_endOf_10 : decode cX1_endOf 10 = .ok (.invokevirtual 73, 3) := by decide +kernel
theorem dX1_endOf_13 : decode cX1_endOf 13 = .ok (.ifCond .eq 18, 3) := by decide +kernel
theorem dX1_endOf_16 : decode cX1_endOf 16 = .ok (.aload_n 0, 1) := by decide +kernel
theorem dX1_endOf_17 : decode cX1_endOf 17 = .ok (.iload_n 1, 1) := by decide +kernel
theorem dX1_endOf_18 : decode cX1_endOf 18 = .ok (.iload_n 1, 1) := by decide +kernel
theorem dX1_endOf_19 : decode cX1_endOf 19 = .ok (.iconst 1, 1) := by decide +kernel
theorem dX1_endOf_20 : decode cX1_endOf 20 = .ok (.iadd, 1) := by decide +kernel
theorem dX1_endOf_21 : decode cX1_endOf 21 = .ok (.invokevirtual 83, 3) := by decide +kernel
theorem dX1_endOf_24 : decode cX1_endOf 24 = .ok (.pop, 1) := by decide +kernel
theorem dX1_endOf_25 : decode cX1_endOf 25 = .ok (.iinc 2 1, 3) := by decide +kernel
theorem dX1_endOf_28 : decode cX1_endOf 28 = .ok (.goto (-26), 3) := by decide +kernel
theorem dX1_endOf_31 : decode cX1_endOf 31 = .ok (.iload_n 2, 1) := by decide +kernel
theorem dX1_endOf_32 : decode cX1_endOf 32 = .ok (.ireturn, 1) := by decide +kernel
set_option maxRecDepth 20000 in
theorem ggX1_passOne_X1_growOlder : GoodIn wsX1_passOne wsX1_growOlder := goodIn_r _ [8, 3, 9, 10, 11, 12, 13, 14, 15, 16, 7, 17, 1, 69, 70, 71, 72, 73, 74, 75, 76] (by decide +kernel) (by decide +kernel)
set_option maxRecDepth 20000 in
theorem gX1_passOne_X1_growOlder : GoodIn wsX1_passOne (wsV RX1 87 RX1 yX1_growOlder wsX1_growOlder) := goodIn_app (goodIn_of _ (by decide +kernel)) ggX1_passOne_X1_growOlder
set_option maxRecDepth 20000 in
theorem ggX1_passOne_X1_buryTheOld : GoodIn wsX1_passOne wsX1_buryTheOld := goodIn_r _ [21, 3, 9, 22, 23, 24, 7, 25, 26, 27, 28, 29, 30, 31, 1, 14, 15, 16, 17, 69, 70, 71, 72, 73, 74, 75, 76] (by decide +kernel) (by decide +kernel)
set_option maxRecDepth 20000 in
theorem gX1_passOne_X1_buryTheOld : GoodIn wsX1_passOne (wsV RX1 91 RX1 yX1_buryTheOld wsX1_buryTheOld) := goodIn_app (goodIn_of _ (by decide +kernel)) ggX1_passOne_X1_buryTheOld
set_option maxRecDepth 20000 in
theorem ggX1_passOne_X1_isLiving : GoodIn wsX1_passOne wsX1_isLiving := goodIn_r _ [17, 3, 1, 69, 70, 71, 72, 73, 74, 75, 76] (by decide +kernel) (by decide +kernel)
set_option maxRecDepth 20000 in
theorem gX1_passOne_X1_isLiving : GoodIn wsX1_passOne (wsV RX1 43 RX1 yX1_isLiving wsX1_isLiving) := goodIn_app (goodIn_of _ (by decide +kernel)) ggX1_passOne_X1_isLiving
set_option maxRecDepth 20000 in
theorem ggX1_passOne_X1_thinkAgain : GoodIn wsX1_passOne wsX1_thinkAgain := goodIn_r _ [35, 36, 37, 38, 7, 39, 40, 41, 42, 43, 44, 45, 1, 46, 47, 48, 49, 50, 51, 52, 53, 54, 55, 56, 57, 58, 59, 60, 26, 27, 61, 62, 63, 64, 2, 65, 66, 67, 68, 69, 70, 71, 72, 73, 74, 75, 76] (by decide +kernel) (by decide +kernel)
set_option maxRecDepth 20000 in
theorem gX1_passOne_X1_thinkAgain : GoodIn wsX1_passOne (wsV RX1 94 RX1 yX1_thinkAgain wsX1_thinkAgain) := goodIn_app (goodIn_of _ (by decide +kernel)) ggX1_passOne_X1_thinkAgain
theorem dX1_passOne_0 : decode cX1_passOne 0 = .ok (.aload_n 0, 1) := by decide +kernel
theorem dX1_passOne_1 : decode cX1_passOne 1 = .ok (.getfield 31, 3) := by decide +kernel
theorem dX1_passOne_4 : decode cX1_passOne 4 = .ok (.istore_n 3, 1) := by decide +kernel
theorem dX1_passOne_5 : decode cX1_passOne 5 = .ok (.aload_n 0, 1) := by decide +kernel
theorem dX1_passOne_6 : decode cX1_passOne 6 = .ok (.dup, 1) := by decide +kernel
theorem dX1_passOne_7 : decode cX1_passOne 7 = .ok (.getfield 34, 3) := by decide +kernel
theorem dX1_passOne_10 : decode cX1_passOne 10 = .ok (.iconst 1, 1) := by decide +kernel
theorem dX1_passOne_11 : decode cX1_passOne 11 = .ok (.iadd, 1) := by decide +kernel
theorem dX1_passOne_12 : decode cX1_passOne 12 = .ok (.putfield 34, 3) := by decide +kernel
theorem dX1_passOne_15 : decode cX1_passOne 15 = .ok (.aload_n 0, 1) := by decide +kernel
theorem dX1_passOne_16 : decode cX1_passOne 16 = .ok (.iconst 1, 1) := by decide +kernel
theorem dX1_passOne_17 : decode cX1_passOne 17 = .ok (.invokevirtual 87, 3) := by decide +kernel
theorem dX1_passOne_20 : decode cX1_passOne 20 = .ok (.aload_n 0, 1) := by decide +kernel
theorem dX1_passOne_21 : decode cX1_passOne 21 = .ok (.invokevirtual 91, 3) := by decide +kernel
theorem dX1_passOne_24 : decode cX1_passOne 24 = .ok (.aload_n 0, 1) := by decide +kernel
theorem dX1_passOne_25 : decode cX1_passOne 25 = .ok (.getfield 31, 3) := by decide +kernel
theorem dX1_passOne_28 : decode cX1_passOne 28 = .ok (.iload_n 3, 1) := by decide +kernel
theorem dX1_passOne_29 : decode cX1_passOne 29 = .ok (.if_icmp .eq 7, 3) := by decide +kernel
theorem dX1_passOne_32 : decode cX1_passOne 32 = .ok (.iconst 1, 1) := by decide +kernel
theorem dX1_passOne_33 : decode cX1_passOne 33 = .ok (.goto 4, 3) := by decide +kernel
theorem dX1_passOne_36 : decode cX1_passOne 36 = .ok (.iconst 0, 1) := by decide +kernel
theorem dX1_passOne_37 : decode cX1_passOne 37 = .ok (.istore 4, 2) := by decide +kernel
theorem dX1_passOne_39 : decode cX1_passOne 39 = .ok (.iconst 0, 1) := by decide +kernel
theorem dX1_passOne_40 : decode cX1_passOne 40 = .ok (.istore 5, 2) := by decide +kernel
theorem dX1_passOne_42 : decode cX1_passOne 42 = .ok (.iload 5, 2) := by decide +kernel
theorem dX1_passOne_44 : decode cX1_passOne 44 = .ok (.aload_n 0, 1) := by decide +kernel
theorem dX1_passOne_45 : decode cX1_passOne 45 = .ok (.getfield 27, 3) := by decide +kernel
theorem dX1_passOne_48 : decode cX1_passOne 48 = .ok (.if_icmp .ge 50, 3) := by decide +kernel
theorem dX1_passOne_51 : decode cX1_passOne 51 = .ok (.aload_n 0, 1) := by decide +kernel
theorem dX1_passOne_52 : decode cX1_passOne 52 = .ok (.iload 5, 2) := by decide +kernel
theorem dX1_passOne_54 : decode cX1_passOne 54 = .ok (.invokevirtual 43, 3) := by decide +kernel
theorem dX1_passOne_57 : decode cX1_passOne 57 = .ok (.ifCond .ne 6, 3) := by decide +kernel
theorem dX1_passOne_60 : decode cX1_passOne 60 = .ok (.goto 32, 3) := by decide +kernel
theorem dX1_passOne_63 : decode cX1_passOne 63 = .ok (.iload_n 1, 1) := by decide +kernel
theorem dX1_passOne_64 : decode cX1_passOne 64 = .ok (.istore 6, 2) := by decide +kernel
theorem dX1_passOne_66 : decode cX1_passOne 66 = .ok (.iload 6, 2) := by decide +kernel
theorem dX1_passOne_68 : decode cX1_passOne 68 = .ok (.iload_n 2, 1) := by decide +kernel
theorem dX1_passOne_69 : decode cX1_passOne 69 = .ok (.if_icmp .ge 23, 3) := by decide +kernel
theorem dX1_passOne_72 : decode cX1_passOne 72 = .ok (.aload_n 0, 1) := by decide +kernel
theorem dX1_passOne_73 : decode cX1_passOne 73 = .ok (.iload 5, 2) := by decide +kernel
theorem dX1_passOne_75 : decode cX1_passOne 75 = .ok (.iload 6, 2) := by decide +kernel
theorem dX1_passOne_77 : decode cX1_passOne 77 = .ok (.invokevirtual 94, 3) := by decide +kernel
theorem dX1_passOne_80 : decode cX1_passOne 80 = .ok (.ifCond .eq 6, 3) := by decide +kernel
theorem dX1_passOne_83 : decode cX1_passOne 83 = .ok (.iconst 1, 1) := by decide +kernel
theorem dX1_passOne_84 : decode cX1_passOne 84 = .ok (.istore 4, 2) := by decide +kernel
theorem dX1_passOne_86 : decode cX1_passOne 86 = .ok (.iinc 6 1, 3) := by decide +kernel
theorem dX1_passOne_89 : decode cX1_passOne 89 = .ok (.goto (-23), 3) := by decide +kernel
theorem dX1_passOne_92 : decode cX1_passOne 92 = .ok (.iinc 5 1, 3) := by decide +kernel
theorem dX1_passOne_95 : decode cX1_passOne 95 = .ok (.goto (-53), 3) := by decide +kernel
theorem dX1_passOne_98 : decode cX1_passOne 98 = .ok (.iload 4, 2) := by decide +kernel
theorem dX1_passOne_100 : decode cX1_passOne 100 = .ok (.ireturn, 1) := by decide +kernel
set_option maxRecDepth 20000 in
theorem ggX1_growOlder_X1_isLiving : GoodIn wsX1_growOlder wsX1_isLiving := goodIn_r _ [11, 1, 12, 13, 14, 15, 16, 17, 18, 19, 20] (by decide +kernel) (by decide +kernel)
set_option maxRecDepth 20000 in
theorem gX1_growOlder_X1_isLiving : GoodIn wsX1_growOlder (wsV RX1 43 RX1 yX1_isLiving wsX1_isLiving) := goodIn_app (goodIn_of _ (by decide +kernel)) ggX1_growOlder_X1_isLiving
theorem dX1_growOlder_0 : decode cX1_growOlder 0 = .ok (.iconst 0, 1) := by decide +kernel
theorem dX1_growOlder_1 : decode cX1_growOlder 1 = .ok (.istore_n 2, 1) := by decide +kernel
theorem dX1_growOlder_2 : decode cX1_growOlder 2 = .ok (.iload_n 2, 1) := by decide +kernel
theorem dX1_growOlder_3 : decode cX1_growOlder 3 = .ok (.aload_n 0, 1) := by decide +kernel
theorem dX1_growOlder_4 : decode cX1_growOlder 4 = .ok (.getfield 27, 3) := by decide +kernel
theorem dX1_growOlder_7 : decode cX1_growOlder 7 = .ok (.if_icmp .ge 36, 3) := by decide +kernel
theorem dX1_growOlder_10 : decode cX1_growOlder 10 = .ok (.aload_n 0, 1) := by decide +kernel
theorem dX1_growOlder_11 : decode cX1_growOlder 11 = .ok (.iload_n 2, 1) := by decide +kernel
theorem dX1_growOlder_12 : decode cX1_growOlder 12 = .ok (.invokevirtual 43, 3) := by decide +kernel
theorem dX1_growOlder_15 : decode cX1_growOlder 15 = .ok (.ifCond .eq 22, 3) := by decide +kernel
theorem dX1_growOlder_18 : decode cX1_growOlder 18 = .ok (.aload_n 0, 1) := by decide +kernel
theorem dX1_growOlder_19 : decode cX1_growOlder 19 = .ok (.getfield 18, 3) := by decide +kernel
theorem dX1_growOlder_22 : decode cX1_growOlder 22 = .ok (.iload_n 2, 1) := by decide +kernel
theorem dX1_growOlder_23 : decode cX1_growOlder 23 = .ok (.bipush 99, 2) := by decide +kernel
theorem dX1_growOlder_25 : decode cX1_growOlder 25 = .ok (.aload_n 0, 1) := by decide +kernel
theorem dX1_growOlder_26 : decode cX1_growOlder 26 = .ok (.getfield 18, 3) := by decide +kernel
theorem dX1_growOlder_29 : decode cX1_growOlder 29 = .ok (.iload_n 2, 1) := by decide +kernel
theorem dX1_growOlder_30 : decode cX1_growOlder 30 = .ok (.iaload, 1) := by decide +kernel
theorem dX1_growOlder_31 : decode cX1_growOlder 31 = .ok (.iload_n 1, 1) := by decide +kernel
theorem dX1_growOlder_32 : decode cX1_growOlder 32 = .ok (.iadd, 1) := by decide +kernel
theorem dX1_growOlder_33 : decode cX1_growOlder 33 = .ok (.invokestatic 97, 3) := by decide +kernel
theorem dX1_growOlder_36 : decode cX1_growOlder 36 = .ok (.iastore, 1) := by decide +kernel
theorem dX1_growOlder_37 : decode cX1_growOlder 37 = .ok (.iinc 2 1, 3) := by decide +kernel
theorem dX1_growOlder_40 : decode cX1_growOlder 40 = .ok (.goto (-38), 3) := by decide +kernel
theorem dX1_growOlder_43 : decode cX1_growOlder 43 = .ok (.return_, 1) := by decide +kernel
set_option maxRecDepth 20000 in
theorem ggX1_buryTheOld_X1_lifeOf : GoodIn wsX1_buryTheOld wsX1_lifeOf := goodIn_r _ [7, 8, 9, 19, 20, 21, 22, 23, 24, 25, 26] (by decide +kernel) (by decide +kernel)
set_option maxRecDepth 20000 in
theorem gX1_buryTheOld_X1_lifeOf : GoodIn wsX1_buryTheOld (wsV RX1 102 RX1 yX1_lifeOf wsX1_lifeOf) := goodIn_app (goodIn_of _ (by decide +kernel)) ggX1_buryTheOld_X1_lifeOf
set_option maxRecDepth 20000 in
theorem ggX1_buryTheOld_X1_bury : GoodIn wsX1_buryTheOld wsX1_bury := goodIn_r _ [13, 14, 15, 16, 17, 6, 18, 1, 19, 20, 21, 22, 23, 24, 25, 26] (by decide +kernel) (by decide +kernel)
set_option maxRecDepth 20000 in
theorem gX1_buryTheOld_X1_bury : GoodIn wsX1_buryTheOld (wsV RX1 105 RX1 yX1_bury wsX1_bury) := goodIn_app (goodIn_of _ (by decide +kernel)) ggX1_buryTheOld_X1_bury
theorem dX1_buryTheOld_0 : decode cX1_buryTheOld 0 = .ok (.iconst 0, 1) := by decide +kernel
theorem dX1_buryTheOld_1 : decode cX1_buryTheOld 1 = .ok (.istore_n 1, 1) := by decide +kernel
theorem dX1_buryTheOld_2 : decode cX1_buryTheOld 2 = .ok (.iload_n 1, 1) := by decide +kernel
theorem dX1_buryTheOld_3 : decode cX1_buryTheOld 3 = .ok (.aload_n 0, 1) := by decide +kernel
theorem dX1_buryTheOld_4 : decode cX1_buryTheOld 4 = .ok (.getfield 27, 3) := by decide +kernel
theorem dX1_buryTheOld_7 : decode cX1_buryTheOld 7 = .ok (.if_icmp .ge 29, 3) := by decide +kernel
theorem dX1_buryTheOld_10 : decode cX1_buryTheOld 10 = .ok (.aload_n 0, 1) := by decide +kernel
theorem dX1_buryTheOld_11 : decode cX1_buryTheOld 11 = .ok (.getfield 18, 3) := by decide +kernel
theorem dX1_buryTheOld_14 : decode cX1_buryTheOld 14 = .ok (.iload_n 1, 1) := by decide +kernel
theorem dX1_buryTheOld_15 : decode cX1_buryTheOld 15 = .ok (.iaload, 1) := by decide +kernel
theorem dX1_buryTheOld_16 : decode cX1_buryTheOld 16 = .ok (.aload_n 0, 1) := by decide +kernel
theorem dX1_buryTheOld_17 : decode cX1_buryTheOld 17 = .ok (.iload_n 1, 1) := by decide +kernel
theorem dX1_buryTheOld_18 : decode cX1_buryTheOld 18 = .ok (.invokevirtual 102, 3) := by decide +kernel
theorem dX1_buryTheOld_21 : decode cX1_buryTheOld 21 = .ok (.if_icmp .lt 9, 3) := by decide +kernel
theorem dX1_buryTheOld_24 : decode cX1_buryTheOld 24 = .ok (.aload_n 0, 1) := by decide +kernel
theorem dX1_buryTheOld_25 : decode cX1_buryTheOld 25 = .ok (.iload_n 1, 1) := by decide +kernel
theorem dX1_buryTheOld_26 : decode cX1_buryTheOld 26 = .ok (.invokevirtual 105, 3) := by decide +kernel
theorem dX1_buryTheOld_29 : decode cX1_buryTheOld 29 = .ok (.pop, 1) := by decide +kernel
theorem dX1_buryTheOld_30 : decode cX1_buryTheOld 30 = .ok (.iinc 1 1, 3) := by decide +kernel
theorem dX1_buryTheOld_33 : decode cX1_buryTheOld 33 = .ok (.goto (-31), 3) := by decide +kernel
theorem dX1_buryTheOld_36 : decode cX1_buryTheOld 36 = .ok (.return_, 1) := by decide +kernel
set_option maxRecDepth 20000 in
theorem ggX1_thinkAgain_X1_wordOf : GoodIn wsX1_thinkAgain wsX1_wordOf := goodIn_r _ [5, 6, 7, 39, 40, 41, 42, 43, 44, 45, 46] (by decide +kernel) (by decide +kernel)
set_option maxRecDepth 20000 in
theorem gX1_thinkAgain_X1_wordOf : GoodIn wsX1_thinkAgain (wsV RX1 63 RX1 yX1_wordOf wsX1_wordOf) := goodIn_app (goodIn_of _ (by decide +kernel)) ggX1_thinkAgain_X1_wordOf
set_option maxRecDepth 20000 in
theorem ggX1_thinkAgain_X1_livingYes : GoodIn wsX1_thinkAgain wsX1_livingYes := goodIn_r _ [11, 6, 12, 39, 40, 41, 42, 43, 44, 45, 46] (by decide +kernel) (by decide +kernel)
set_option maxRecDepth 20000 in
theorem gX1_thinkAgain_X1_livingYes : GoodIn wsX1_thinkAgain (wsV RX1 67 RX1 yX1_livingYes wsX1_livingYes) := goodIn_app (goodIn_of _ (by decide +kernel)) ggX1_thinkAgain_X1_livingYes
set_option maxRecDepth 20000 in
theorem ggX1_thinkAgain_J6_bitCount_0f7a4 : GoodIn wsX1_thinkAgain wsJ6_bitCount_0f7a4 := goodIn_r _ [16, 17, 18, 19] (by decide +kernel) (by decide +kernel)
set_option maxRecDepth 20000 in
theorem gX1_thinkAgain_J6_bitCount_0f7a4 : GoodIn wsX1_thinkAgain (va_wsS RX1 47 yJ6_bitCount_0f7a4 wsJ6_bitCount_0f7a4) := goodIn_app (goodIn_of _ (by decide +kernel)) ggX1_thinkAgain_J6_bitCount_0f7a4
set_option maxRecDepth 20000 in
theorem ggX1_thinkAgain_X1_livingNo : GoodIn wsX1_thinkAgain wsX1_livingNo := goodIn_r _ [23, 7, 12, 39, 40, 41, 42, 43, 44, 45, 46] (by decide +kernel) (by decide +kernel)
set_option maxRecDepth 20000 in
theorem gX1_thinkAgain_X1_livingNo : GoodIn wsX1_thinkAgain (wsV RX1 70 RX1 yX1_livingNo wsX1_livingNo) := goodIn_app (goodIn_of _ (by decide +kernel)) ggX1_thinkAgain_X1_livingNo
set_option maxRecDepth 20000 in
theorem ggX1_thinkAgain_X1_deedOf : GoodIn wsX1_thinkAgain wsX1_deedOf := goodIn_r _ [27, 28, 29, 30, 31, 32, 4, 33, 34, 39, 40, 41, 42, 43, 44, 45, 46] (by decide +kernel) (by decide +kernel)
set_option maxRecDepth 20000 in
theorem gX1_thinkAgain_X1_deedOf : GoodIn wsX1_thinkAgain (wsV RX1 108 RX1 yX1_deedOf wsX1_deedOf) := goodIn_app (goodIn_of _ (by decide +kernel)) ggX1_thinkAgain_X1_deedOf
set_option maxRecDepth 20000 in
theorem ggX1_thinkAgain_X1_put : GoodIn wsX1_thinkAgain wsX1_put := goodIn_r _ [38, 6, 7, 39, 40, 41, 42, 43, 44, 45, 46] (by decide +kernel) (by decide +kernel)
set_option maxRecDepth 20000 in
theorem gX1_thinkAgain_X1_put : GoodIn wsX1_thinkAgain (wsV RX1 59 RX1 yX1_put wsX1_put) := goodIn_app (goodIn_of _ (by decide +kernel)) ggX1_thinkAgain_X1_put
theorem dX1_thinkAgain_0 : decode cX1_thinkAgain 0 = .ok (.aload_n 0, 1) := by decide +kernel
theorem dX1_thinkAgain_1 : decode cX1_thinkAgain 1 = .ok (.iload_n 1, 1) := by decide +kernel
theorem dX1_thinkAgain_2 : decode cX1_thinkAgain 2 = .ok (.iload_n 2, 1) := by decide +kernel
theorem dX1_thinkAgain_3 : decode cX1_thinkAgain 3 = .ok (.invokevirtual 63, 3) := by decide +kernel
theorem dX1_thinkAgain_6 : decode cX1_thinkAgain 6 = .ok (.istore_n 3, 1) := by decide +kernel
theorem dX1_thinkAgain_7 : decode cX1_thinkAgain 7 = .ok (.iload_n 3, 1) := by decide +kernel
theorem dX1_thinkAgain_8 : decode cX1_thinkAgain 8 = .ok (.ifCond .ne 5, 3) := by decide +kernel
theorem dX1_thinkAgain_11 : decode cX1_thinkAgain 11 = .ok (.iconst 0, 1) := by decide +kernel
theorem dX1_thinkAgain_12 : decode cX1_thinkAgain 12 = .ok (.ireturn, 1) := by decide +kernel
theorem dX1_thinkAgain_13 : decode cX1_thinkAgain 13 = .ok (.aload_n 0, 1) := by decide +kernel
theorem dX1_thinkAgain_14 : decode cX1_thinkAgain 14 = .ok (.iload_n 2, 1) := by decide +kernel
theorem dX1_thinkAgain_15 : decode cX1_thinkAgain 15 = .ok (.invokevirtual 67, 3) := by decide +kernel
theorem dX1_thinkAgain_18 : decode cX1_thinkAgain 18 = .ok (.invokestatic 47, 3) := by decide +kernel
theorem dX1_thinkAgain_21 : decode cX1_thinkAgain 21 = .ok (.istore 4, 2) := by decide +kernel
theorem dX1_thinkAgain_23 : decode cX1_thinkAgain 23 = .ok (.aload_n 0, 1) := by decide +kernel
theorem dX1_thinkAgain_24 : decode cX1_thinkAgain 24 = .ok (.iload_n 2, 1) := by decide +kernel
theorem dX1_thinkAgain_25 : decode cX1_thinkAgain 25 = .ok (.invokevirtual 70, 3) := by decide +kernel
theorem dX1_thinkAgain_28 : decode cX1_thinkAgain 28 = .ok (.invokestatic 47, 3) := by decide +kernel
theorem dX1_thinkAgain_31 : decode cX1_thinkAgain 31 = .ok (.istore 5, 2) := by decide +kernel
theorem dX1_thinkAgain_33 : decode cX1_thinkAgain 33 = .ok (.iload_n 3, 1) := by decide +kernel
theorem dX1_thinkAgain_34 : decode cX1_thinkAgain 34 = .ok (.iconst 1, 1) := by decide +kernel
theorem dX1_thinkAgain_35 : decode cX1_thinkAgain 35 = .ok (.if_icmp .ne 8, 3) := by decide +kernel
theorem dX1_thinkAgain_38 : decode cX1_thinkAgain 38 = .ok (.iload 4, 2) := by decide +kernel
theorem dX1_thinkAgain_40 : decode cX1_thinkAgain 40 = .ok (.goto 5, 3) := by decide +kernel
theorem dX1_thinkAgain_43 : decode cX1_thinkAgain 43 = .ok (.iload 5, 2) := by decide +kernel
theorem dX1_thinkAgain_45 : decode cX1_thinkAgain 45 = .ok (.istore 6, 2) := by decide +kernel
theorem dX1_thinkAgain_47 : decode cX1_thinkAgain 47 = .ok (.iload_n 3, 1) := by decide +kernel
theorem dX1_thinkAgain_48 : decode cX1_thinkAgain 48 = .ok (.iconst 1, 1) := by decide +kernel
theorem dX1_thinkAgain_49 : decode cX1_thinkAgain 49 = .ok (.if_icmp .ne 8, 3) := by decide +kernel
theorem dX1_thinkAgain_52 : decode cX1_thinkAgain 52 = .ok (.iload 5, 2) := by decide +kernel
theorem dX1_thinkAgain_54 : decode cX1_thinkAgain 54 = .ok (.goto 5, 3) := by decide +kernel
theorem dX1_thinkAgain_57 : decode cX1_thinkAgain 57 = .ok (.iload 4, 2) := by decide +kernel
theorem dX1_thinkAgain_59 : decode cX1_thinkAgain 59 = .ok (.istore 7, 2) := by decide +kernel
theorem dX1_thinkAgain_61 : decode cX1_thinkAgain 61 = .ok (.aload_n 0, 1) := by decide +kernel
theorem dX1_thinkAgain_62 : decode cX1_thinkAgain 62 = .ok (.iload_n 1, 1) := by decide +kernel
theorem dX1_thinkAgain_63 : decode cX1_thinkAgain 63 = .ok (.iload 6, 2) := by decide +kernel
theorem dX1_thinkAgain_65 : decode cX1_thinkAgain 65 = .ok (.iload 7, 2) := by decide +kernel
theorem dX1_thinkAgain_67 : decode cX1_thinkAgain 67 = .ok (.invokevirtual 108, 3) := by decide +kernel
theorem dX1_thinkAgain_70 : decode cX1_thinkAgain 70 = .ok (.istore 8, 2) := by decide +kernel
theorem dX1_thinkAgain_72 : decode cX1_thinkAgain 72 = .ok (.iload 8, 2) := by decide +kernel
theorem dX1_thinkAgain_74 : decode cX1_thinkAgain 74 = .ok (.ifCond .ne 5, 3) := by decide +kernel
theorem dX1_thinkAgain_77 : decode cX1_thinkAgain 77 = .ok (.iconst 0, 1) := by decide +kernel
theorem dX1_thinkAgain_78 : decode cX1_thinkAgain 78 = .ok (.ireturn, 1) := by decide +kernel
theorem dX1_thinkAgain_79 : decode cX1_thinkAgain 79 = .ok (.aload_n 0, 1) := by decide +kernel
theorem dX1_thinkAgain_80 : decode cX1_thinkAgain 80 = .ok (.iload_n 1, 1) := by decide +kernel
theorem dX1_thinkAgain_81 : decode cX1_thinkAgain 81 = .ok (.iload_n 2, 1) := by decide +kernel
theorem dX1_thinkAgain_82 : decode cX1_thinkAgain 82 = .ok (.iload 8, 2) := by decide +kernel
theorem dX1_thinkAgain_84 : decode cX1_thinkAgain 84 = .ok (.iconst 1, 1) := by decide +kernel
theorem dX1_thinkAgain_85 : decode cX1_thinkAgain 85 = .ok (.if_icmp .ne 7, 3) := by decide +kernel
theorem dX1_thinkAgain_88 : decode cX1_thinkAgain 88 = .ok (.iconst 0, 1) := by decide +kernel
theorem dX1_thinkAgain_89 : decode cX1_thinkAgain 89 = .ok (.goto 6, 3) := by decide +kernel
theorem dX1_thinkAgain_92 : decode cX1_thinkAgain 92 = .ok (.iconst 3, 1) := by decide +kernel
theorem dX1_thinkAgain_93 : decode cX1_thinkAgain 93 = .ok (.iload_n 3, 1) := by decide +kernel
theorem dX1_thinkAgain_94 : decode cX1_thinkAgain 94 = .ok (.isub, 1) := by decide +kernel
theorem dX1_thinkAgain_95 : decode cX1_thinkAgain 95 = .ok (.invokevirtual 59, 3) := by decide +kernel
theorem dX1_thinkAgain_98 : decode cX1_thinkAgain 98 = .ok (.iconst 1, 1) := by decide +kernel
theorem dX1_thinkAgain_99 : decode cX1_thinkAgain 99 = .ok (.ireturn, 1) := by decide +kernel
set_option maxRecDepth 20000 in
theorem ggX1_deedOf_X1_isYearOf : GoodIn wsX1_deedOf wsX1_isYearOf := goodIn_r _ [7, 8, 9, 10, 11, 12, 13, 14, 15, 16] (by decide +kernel) (by decide +kernel)
set_option maxRecDepth 20000 in
theorem gX1_deedOf_X1_isYearOf : GoodIn wsX1_deedOf (wsV RX1 112 RX1 yX1_isYearOf wsX1_isYearOf) := goodIn_app (goodIn_of _ (by decide +kernel)) ggX1_deedOf_X1_isYearOf
theorem dX1_deedOf_0 : decode cX1_deedOf 0 = .ok (.iload_n 2, 1) := by decide +kernel
theorem dX1_deedOf_1 : decode cX1_deedOf 1 = .ok (.iconst 1, 1) := by decide +kernel
theorem dX1_deedOf_2 : decode cX1_deedOf 2 = .ok (.if_icmp .ne 12, 3) := by decide +kernel
theorem dX1_deedOf_5 : decode cX1_deedOf 5 = .ok (.iload_n 3, 1) := by decide +kernel
theorem dX1_deedOf_6 : decode cX1_deedOf 6 = .ok (.iconst 2, 1) := by decide +kernel
theorem dX1_deedOf_7 : decode cX1_deedOf 7 = .ok (.if_icmp .lt 7, 3) := by decide +kernel
theorem dX1_deedOf_10 : decode cX1_deedOf 10 = .ok (.iconst 1, 1) := by decide +kernel
theorem dX1_deedOf_11 : decode cX1_deedOf 11 = .ok (.goto 4, 3) := by decide +kernel
theorem dX1_deedOf_14 : decode cX1_deedOf 14 = .ok (.iconst 0, 1) := by decide +kernel
theorem dX1_deedOf_15 : decode cX1_deedOf 15 = .ok (.istore 4, 2) := by decide +kernel
theorem dX1_deedOf_17 : decode cX1_deedOf 17 = .ok (.aload_n 0, 1) := by decide +kernel
theorem dX1_deedOf_18 : decode cX1_deedOf 18 = .ok (.getfield 9, 3) := by decide +kernel
theorem dX1_deedOf_21 : decode cX1_deedOf 21 = .ok (.iload_n 1, 1) := by decide +kernel
theorem dX1_deedOf_22 : decode cX1_deedOf 22 = .ok (.iaload, 1) := by decide +kernel
theorem dX1_deedOf_23 : decode cX1_deedOf 23 = .ok (.tableswitch 121 0 5 #[37, 48, 121, 74, 85, 111], 37) := by decide +kernel
theorem dX1_deedOf_60 : decode cX1_deedOf 60 = .ok (.iload 4, 2) := by decide +kernel
theorem dX1_deedOf_62 : decode cX1_deedOf 62 = .ok (.ifCond .eq 7, 3) := by decide +kernel
theorem dX1_deedOf_65 : decode cX1_deedOf 65 = .ok (.iconst 1, 1) := by decide +kernel
theorem dX1_deedOf_66 : decode cX1_deedOf 66 = .ok (.goto 4, 3) := by decide +kernel
theorem dX1_deedOf_69 : decode cX1_deedOf 69 = .ok (.iconst 0, 1) := by decide +kernel
theorem dX1_deedOf_70 : decode cX1_deedOf 70 = .ok (.ireturn, 1) := by decide +kernel
theorem dX1_deedOf_71 : decode cX1_deedOf 71 = .ok (.iload 4, 2) := by decide +kernel
theorem dX1_deedOf_73 : decode cX1_deedOf 73 = .ok (.ifCond .ne 18, 3) := by decide +kernel
theorem dX1_deedOf_76 : decode cX1_deedOf 76 = .ok (.aload_n 0, 1) := by decide +kernel
theorem dX1_deedOf_77 : decode cX1_deedOf 77 = .ok (.aload_n 0, 1) := by decide +kernel
theorem dX1_deedOf_78 : decode cX1_deedOf 78 = .ok (.getfield 15, 3) := by decide +kernel
theorem dX1_deedOf_81 : decode cX1_deedOf 81 = .ok (.iload_n 1, 1) := by decide +kernel
theorem dX1_deedOf_82 : decode cX1_deedOf 82 = .ok (.iaload, 1) := by decide +kernel
theorem dX1_deedOf_83 : decode cX1_deedOf 83 = .ok (.iconst 1, 1) := by decide +kernel
theorem dX1_deedOf_84 : decode cX1_deedOf 84 = .ok (.iadd, 1) := by decide +kernel
theorem dX1_deedOf_85 : decode cX1_deedOf 85 = .ok (.invokevirtual 112, 3) := by decide +kernel
theorem dX1_deedOf_88 : decode cX1_deedOf 88 = .ok (.ifCond .eq 7, 3) := by decide +kernel
theorem dX1_deedOf_91 : decode cX1_deedOf 91 = .ok (.iconst 1, 1) := by decide +kernel
theorem dX1_deedOf_92 : decode cX1_deedOf 92 = .ok (.goto 4, 3) := by decide +kernel
theorem dX1_deedOf_95 : decode cX1_deedOf 95 = .ok (.iconst 0, 1) := by decide +kernel
theorem dX1_deedOf_96 : decode cX1_deedOf 96 = .ok (.ireturn, 1) := by decide +kernel
theorem dX1_deedOf_97 : decode cX1_deedOf 97 = .ok (.iload 4, 2) := by decide +kernel
theorem dX1_deedOf_99 : decode cX1_deedOf 99 = .ok (.ifCond .eq 7, 3) := by decide +kernel
theorem dX1_deedOf_102 : decode cX1_deedOf 102 = .ok (.iconst 2, 1) := by decide +kernel
theorem dX1_deedOf_103 : decode cX1_deedOf 103 = .ok (.goto 4, 3) := by decide +kernel
theorem dX1_deedOf_106 : decode cX1_deedOf 106 = .ok (.iconst 0, 1) := by decide +kernel
theorem dX1_deedOf_107 : decode cX1_deedOf 107 = .ok (.ireturn, 1) := by decide +kernel
theorem dX1_deedOf_108 : decode cX1_deedOf 108 = .ok (.iload 4, 2) := by decide +kernel
theorem dX1_deedOf_110 : decode cX1_deedOf 110 = .ok (.ifCond .ne 18, 3) := by decide +kernel
theorem dX1_deedOf_113 : decode cX1_deedOf 113 = .ok (.aload_n 0, 1) := by decide +kernel
theorem dX1_deedOf_114 : decode cX1_deedOf 114 = .ok (.aload_n 0, 1) := by decide +kernel
theorem dX1_deedOf_115 : decode cX1_deedOf 115 = .ok (.getfield 15, 3) := by decide +kernel
theorem dX1_deedOf_118 : decode cX1_deedOf 118 = .ok (.iload_n 1, 1) := by decide +kernel
theorem dX1_deedOf_119 : decode cX1_deedOf 119 = .ok (.iaload, 1) := by decide +kernel
theorem dX1_deedOf_120 : decode cX1_deedOf 120 = .ok (.iconst 2, 1) := by decide +kernel
theorem dX1_deedOf_121 : decode cX1_deedOf 121 = .ok (.iadd, 1) := by decide +kernel
theorem dX1_deedOf_122 : decode cX1_deedOf 122 = .ok (.invokevirtual 112, 3) := by decide +kernel
theorem dX1_deedOf_125 : decode cX1_deedOf 125 = .ok (.ifCond .eq 7, 3) := by decide +kernel
theorem dX1_deedOf_128 : decode cX1_deedOf 128 = .ok (.iconst 2, 1) := by decide +kernel
theorem dX1_deedOf_129 : decode cX1_deedOf 129 = .ok (.goto 4, 3) := by decide +kernel
theorem dX1_deedOf_132 : decode cX1_deedOf 132 = .ok (.iconst 0, 1) := by decide +kernel
theorem dX1_deedOf_133 : decode cX1_deedOf 133 = .ok (.ireturn, 1) := by decide +kernel
theorem dX1_deedOf_134 : decode cX1_deedOf 134 = .ok (.iload_n 3, 1) := by decide +kernel
theorem dX1_deedOf_135 : decode cX1_deedOf 135 = .ok (.ifCond .ne 7, 3) := by decide +kernel
theorem dX1_deedOf_138 : decode cX1_deedOf 138 = .ok (.iconst 1, 1) := by decide +kernel
theorem dX1_deedOf_139 : decode cX1_deedOf 139 = .ok (.goto 4, 3) := by decide +kernel
theorem dX1_deedOf_142 : decode cX1_deedOf 142 = .ok (.iconst 0, 1) := by decide +kernel
theorem dX1_deedOf_143 : decode cX1_deedOf 143 = .ok (.ireturn, 1) := by decide +kernel
theorem dX1_deedOf_144 : decode cX1_deedOf 144 = .ok (.iconst 0, 1) := by decide +kernel
theorem dX1_deedOf_145 : decode cX1_deedOf 145 = .ok (.ireturn, 1) := by decide +kernel
theorem dX1_isYearOf_0 : decode cX1_isYearOf 0 = .ok (.iload_n 1, 1) := by decide +kernel
theorem dX1_isYearOf_1 : decode cX1_isYearOf 1 = .ok (.ifCond .le 16, 3) := by decide +kernel
theorem dX1_isYearOf_4 : decode cX1_isYearOf 4 = .ok (.aload_n 0, 1) := by decide +kernel
theorem dX1_isYearOf_5 : decode cX1_isYearOf 5 = .ok (.getfield 34, 3) := by decide +kernel
theorem dX1_isYearOf_8 : decode cX1_isYearOf 8 = .ok (.iload_n 1, 1) := by decide +kernel
theorem dX1_isYearOf_9 : decode cX1_isYearOf 9 = .ok (.irem, 1) := by decide +kernel
theorem dX1_isYearOf_10 : decode cX1_isYearOf 10 = .ok (.ifCond .ne 7, 3) := by decide +kernel
theorem dX1_isYearOf_13 : decode cX1_isYearOf 13 = .ok (.iconst 1, 1) := by decide +kernel
theorem dX1_isYearOf_14 : decode cX1_isYearOf 14 = .ok (.goto 4, 3) := by decide +kernel
theorem dX1_isYearOf_17 : decode cX1_isYearOf 17 = .ok (.iconst 0, 1) := by decide +kernel
theorem dX1_isYearOf_18 : decode cX1_isYearOf 18 = .ok (.ireturn, 1) := by decide +kernel
theorem dX2_noTopic_0 : decode cX2_noTopic 0 = .ok (.iload_n 0, 1) := by decide +kernel
theorem dX2_noTopic_1 : decode cX2_noTopic 1 = .ok (.ifCond .lt 9, 3) := by decide +kernel
theorem dX2_noTopic_4 : decode cX2_noTopic 4 = .ok (.iload_n 0, 1) := by decide +kernel
theorem dX2_noTopic_5 : decode cX2_noTopic 5 = .ok (.bipush 8, 2) := by decide +kernel
theorem dX2_noTopic_7 : decode cX2_noTopic 7 = .ok (.if_icmp .lt 7, 3) := by decide +kernel
theorem dX2_noTopic_10 : decode cX2_noTopic 10 = .ok (.iconst 1, 1) := by decide +kernel
theorem dX2_noTopic_11 : decode cX2_noTopic 11 = .ok (.goto 4, 3) := by decide +kernel
theorem dX2_noTopic_14 : decode cX2_noTopic 14 = .ok (.iconst 0, 1) := by decide +kernel
theorem dX2_noTopic_15 : decode cX2_noTopic 15 = .ok (.ireturn, 1) := by decide +kernel
theorem dJ6_numberOfTrailingZeros_0f7a4_0 : decode cJ6_numberOfTrailingZeros_0f7a4 0 = .ok (.iload_n 0, 1) := by decide +kernel
theorem dJ6_numberOfTrailingZeros_0f7a4_1 : decode cJ6_numberOfTrailingZeros_0f7a4 1 = .ok (.iconst (-1), 1) := by decide +kernel
theorem dJ6_numberOfTrailingZeros_0f7a4_2 : decode cJ6_numberOfTrailingZeros_0f7a4 2 = .ok (.ixor, 1) := by decide +kernel
theorem dJ6_numberOfTrailingZeros_0f7a4_3 : decode cJ6_numberOfTrailingZeros_0f7a4 3 = .ok (.iload_n 0, 1) := by decide +kernel
theorem dJ6_numberOfTrailingZeros_0f7a4_4 : decode cJ6_numberOfTrailingZeros_0f7a4 4 = .ok (.iconst 1, 1) := by decide +kernel
theorem dJ6_numberOfTrailingZeros_0f7a4_5 : decode cJ6_numberOfTrailingZeros_0f7a4 5 = .ok (.isub, 1) := by decide +kernel
theorem dJ6_numberOfTrailingZeros_0f7a4_6 : decode cJ6_numberOfTrailingZeros_0f7a4 6 = .ok (.iand, 1) := by decide +kernel
theorem dJ6_numberOfTrailingZeros_0f7a4_7 : decode cJ6_numberOfTrailingZeros_0f7a4 7 = .ok (.istore_n 0, 1) := by decide +kernel
theorem dJ6_numberOfTrailingZeros_0f7a4_8 : decode cJ6_numberOfTrailingZeros_0f7a4 8 = .ok (.iload_n 0, 1) := by decide +kernel
theorem dJ6_numberOfTrailingZeros_0f7a4_9 : decode cJ6_numberOfTrailingZeros_0f7a4 9 = .ok (.ifCond .gt 8, 3) := by decide +kernel
theorem dJ6_numberOfTrailingZeros_0f7a4_12 : decode cJ6_numberOfTrailingZeros_0f7a4 12 = .ok (.iload_n 0, 1) := by decide +kernel
theorem dJ6_numberOfTrailingZeros_0f7a4_13 : decode cJ6_numberOfTrailingZeros_0f7a4 13 = .ok (.bipush 32, 2) := by decide +kernel
theorem dJ6_numberOfTrailingZeros_0f7a4_15 : decode cJ6_numberOfTrailingZeros_0f7a4 15 = .ok (.iand, 1) := by decide +kernel
theorem dJ6_numberOfTrailingZeros_0f7a4_16 : decode cJ6_numberOfTrailingZeros_0f7a4 16 = .ok (.ireturn, 1) := by decide +kernel
theorem dJ6_numberOfTrailingZeros_0f7a4_17 : decode cJ6_numberOfTrailingZeros_0f7a4 17 = .ok (.iconst 1, 1) := by decide +kernel
theorem dJ6_numberOfTrailingZeros_0f7a4_18 : decode cJ6_numberOfTrailingZeros_0f7a4 18 = .ok (.istore_n 1, 1) := by decide +kernel
theorem dJ6_numberOfTrailingZeros_0f7a4_19 : decode cJ6_numberOfTrailingZeros_0f7a4 19 = .ok (.iload_n 0, 1) := by decide +kernel
theorem dJ6_numberOfTrailingZeros_0f7a4_20 : decode cJ6_numberOfTrailingZeros_0f7a4 20 = .ok (.ldc_w 264, 3) := by decide +kernel
theorem dJ6_numberOfTrailingZeros_0f7a4_23 : decode cJ6_numberOfTrailingZeros_0f7a4 23 = .ok (.if_icmp .le 11, 3) := by decide +kernel
theorem dJ6_numberOfTrailingZeros_0f7a4_26 : decode cJ6_numberOfTrailingZeros_0f7a4 26 = .ok (.iinc 1 16, 3) := by decide +kernel
theorem dJ6_numberOfTrailingZeros_0f7a4_29 : decode cJ6_numberOfTrailingZeros_0f7a4 29 = .ok (.iload_n 0, 1) := by decide +kernel
theorem dJ6_numberOfTrailingZeros_0f7a4_30 : decode cJ6_numberOfTrailingZeros_0f7a4 30 = .ok (.bipush 16, 2) := by decide +kernel
theorem dJ6_numberOfTrailingZeros_0f7a4_32 : decode cJ6_numberOfTrailingZeros_0f7a4 32 = .ok (.iushr, 1) := by decide +kernel
theorem dJ6_numberOfTrailingZeros_0f7a4_33 : decode cJ6_numberOfTrailingZeros_0f7a4 33 = .ok (.istore_n 0, 1) := by decide +kernel
theorem dJ6_numberOfTrailingZeros_0f7a4_34 : decode cJ6_numberOfTrailingZeros_0f7a4 34 = .ok (.iload_n 0, 1) := by decide +kernel
theorem dJ6_numberOfTrailingZeros_0f7a4_35 : decode cJ6_numberOfTrailingZeros_0f7a4 35 = .ok (.sipush 256, 3) := by decide +kernel
theorem dJ6_numberOfTrailingZeros_0f7a4_38 : decode cJ6_numberOfTrailingZeros_0f7a4 38 = .ok (.if_icmp .le 11, 3) := by decide +kernel
theorem dJ6_numberOfTrailingZeros_0f7a4_41 : decode cJ6_numberOfTrailingZeros_0f7a4 41 = .ok (.iinc 1 8, 3) := by decide +kernel
theorem dJ6_numberOfTrailingZeros_0f7a4_44 : decode cJ6_numberOfTrailingZeros_0f7a4 44 = .ok (.iload_n 0, 1) := by decide +kernel
theorem dJ6_numberOfTrailingZeros_0f7a4_45 : decode cJ6_numberOfTrailingZeros_0f7a4 45 = .ok (.bipush 8, 2) := by decide +kernel
theorem dJ6_numberOfTrailingZeros_0f7a4_47 : decode cJ6_numberOfTrailingZeros_0f7a4 47 = .ok (.iushr, 1) := by decide +kernel
theorem dJ6_numberOfTrailingZeros_0f7a4_48 : decode cJ6_numberOfTrailingZeros_0f7a4 48 = .ok (.istore_n 0, 1) := by decide +kernel
theorem dJ6_numberOfTrailingZeros_0f7a4_49 : decode cJ6_numberOfTrailingZeros_0f7a4 49 = .ok (.iload_n 0, 1) := by decide +kernel
theorem dJ6_numberOfTrailingZeros_0f7a4_50 : decode cJ6_numberOfTrailingZeros_0f7a4 50 = .ok (.bipush 16, 2) := by decide +kernel
theorem dJ6_numberOfTrailingZeros_0f7a4_52 : decode cJ6_numberOfTrailingZeros_0f7a4 52 = .ok (.if_icmp .le 10, 3) := by decide +kernel
theorem dJ6_numberOfTrailingZeros_0f7a4_55 : decode cJ6_numberOfTrailingZeros_0f7a4 55 = .ok (.iinc 1 4, 3) := by decide +kernel
theorem dJ6_numberOfTrailingZeros_0f7a4_58 : decode cJ6_numberOfTrailingZeros_0f7a4 58 = .ok (.iload_n 0, 1) := by decide +kernel
theorem dJ6_numberOfTrailingZeros_0f7a4_59 : decode cJ6_numberOfTrailingZeros_0f7a4 59 = .ok (.iconst 4, 1) := by decide +kernel
theorem dJ6_numberOfTrailingZeros_0f7a4_60 : decode cJ6_numberOfTrailingZeros_0f7a4 60 = .ok (.iushr, 1) := by decide +kernel
theorem dJ6_numberOfTrailingZeros_0f7a4_61 : decode cJ6_numberOfTrailingZeros_0f7a4 61 = .ok (.istore_n 0, 1) := by decide +kernel
theorem dJ6_numberOfTrailingZeros_0f7a4_62 : decode cJ6_numberOfTrailingZeros_0f7a4 62 = .ok (.iload_n 0, 1) := by decide +kernel
theorem dJ6_numberOfTrailingZeros_0f7a4_63 : decode cJ6_numberOfTrailingZeros_0f7a4 63 = .ok (.iconst 4, 1) := by decide +kernel
theorem dJ6_numberOfTrailingZeros_0f7a4_64 : decode cJ6_numberOfTrailingZeros_0f7a4 64 = .ok (.if_icmp .le 10, 3) := by decide +kernel
theorem dJ6_numberOfTrailingZeros_0f7a4_67 : decode cJ6_numberOfTrailingZeros_0f7a4 67 = .ok (.iinc 1 2, 3) := by decide +kernel
theorem dJ6_numberOfTrailingZeros_0f7a4_70 : decode cJ6_numberOfTrailingZeros_0f7a4 70 = .ok (.iload_n 0, 1) := by decide +kernel
theorem dJ6_numberOfTrailingZeros_0f7a4_71 : decode cJ6_numberOfTrailingZeros_0f7a4 71 = .ok (.iconst 2, 1) := by decide +kernel
theorem dJ6_numberOfTrailingZeros_0f7a4_72 : decode cJ6_numberOfTrailingZeros_0f7a4 72 = .ok (.iushr, 1) := by decide +kernel
theorem dJ6_numberOfTrailingZeros_0f7a4_73 : decode cJ6_numberOfTrailingZeros_0f7a4 73 = .ok (.istore_n 0, 1) := by decide +kernel
theorem dJ6_numberOfTrailingZeros_0f7a4_74 : decode cJ6_numberOfTrailingZeros_0f7a4 74 = .ok (.iload_n 1, 1) := by decide +kernel
theorem dJ6_numberOfTrailingZeros_0f7a4_75 : decode cJ6_numberOfTrailingZeros_0f7a4 75 = .ok (.iload_n 0, 1) := by decide +kernel
theorem dJ6_numberOfTrailingZeros_0f7a4_76 : decode cJ6_numberOfTrailingZeros_0f7a4 76 = .ok (.iconst 1, 1) := by decide +kernel
theorem dJ6_numberOfTrailingZeros_0f7a4_77 : decode cJ6_numberOfTrailingZeros_0f7a4 77 = .ok (.iushr, 1) := by decide +kernel
theorem dJ6_numberOfTrailingZeros_0f7a4_78 : decode cJ6_numberOfTrailingZeros_0f7a4 78 = .ok (.iadd, 1) := by decide +kernel
theorem dJ6_numberOfTrailingZeros_0f7a4_79 : decode cJ6_numberOfTrailingZeros_0f7a4 79 = .ok (.ireturn, 1) := by decide +kernel
theorem dJ6_bitCount_0f7a4_0 : decode cJ6_bitCount_0f7a4 0 = .ok (.iload_n 0, 1) := by decide +kernel
theorem dJ6_bitCount_0f7a4_1 : decode cJ6_bitCount_0f7a4 1 = .ok (.iload_n 0, 1) := by decide +kernel
theorem dJ6_bitCount_0f7a4_2 : decode cJ6_bitCount_0f7a4 2 = .ok (.iconst 1, 1) := by decide +kernel
theorem dJ6_bitCount_0f7a4_3 : decode cJ6_bitCount_0f7a4 3 = .ok (.iushr, 1) := by decide +kernel
theorem dJ6_bitCount_0f7a4_4 : decode cJ6_bitCount_0f7a4 4 = .ok (.ldc_w 265, 3) := by decide +kernel
theorem dJ6_bitCount_0f7a4_7 : decode cJ6_bitCount_0f7a4 7 = .ok (.iand, 1) := by decide +kernel
theorem dJ6_bitCount_0f7a4_8 : decode cJ6_bitCount_0f7a4 8 = .ok (.isub, 1) := by decide +kernel
theorem dJ6_bitCount_0f7a4_9 : decode cJ6_bitCount_0f7a4 9 = .ok (.istore_n 0, 1) := by decide +kernel
theorem dJ6_bitCount_0f7a4_10 : decode cJ6_bitCount_0f7a4 10 = .ok (.iload_n 0, 1) := by decide +kernel
theorem dJ6_bitCount_0f7a4_11 : decode cJ6_bitCount_0f7a4 11 = .ok (.ldc_w 266, 3) := by decide +kernel
theorem dJ6_bitCount_0f7a4_14 : decode cJ6_bitCount_0f7a4 14 = .ok (.iand, 1) := by decide +kernel
theorem dJ6_bitCount_0f7a4_15 : decode cJ6_bitCount_0f7a4 15 = .ok (.iload_n 0, 1) := by decide +kernel
theorem dJ6_bitCount_0f7a4_16 : decode cJ6_bitCount_0f7a4 16 = .ok (.iconst 2, 1) := by decide +kernel
theorem dJ6_bitCount_0f7a4_17 : decode cJ6_bitCount_0f7a4 17 = .ok (.iushr, 1) := by decide +kernel
theorem dJ6_bitCount_0f7a4_18 : decode cJ6_bitCount_0f7a4 18 = .ok (.ldc_w 266, 3) := by decide +kernel
theorem dJ6_bitCount_0f7a4_21 : decode cJ6_bitCount_0f7a4 21 = .ok (.iand, 1) := by decide +kernel
theorem dJ6_bitCount_0f7a4_22 : decode cJ6_bitCount_0f7a4 22 = .ok (.iadd, 1) := by decide +kernel
theorem dJ6_bitCount_0f7a4_23 : decode cJ6_bitCount_0f7a4 23 = .ok (.istore_n 0, 1) := by decide +kernel
theorem dJ6_bitCount_0f7a4_24 : decode cJ6_bitCount_0f7a4 24 = .ok (.iload_n 0, 1) := by decide +kernel
theorem dJ6_bitCount_0f7a4_25 : decode cJ6_bitCount_0f7a4 25 = .ok (.iload_n 0, 1) := by decide +kernel
theorem dJ6_bitCount_0f7a4_26 : decode cJ6_bitCount_0f7a4 26 = .ok (.iconst 4, 1) := by decide +kernel
theorem dJ6_bitCount_0f7a4_27 : decode cJ6_bitCount_0f7a4 27 = .ok (.iushr, 1) := by decide +kernel
theorem dJ6_bitCount_0f7a4_28 : decode cJ6_bitCount_0f7a4 28 = .ok (.iadd, 1) := by decide +kernel
theorem dJ6_bitCount_0f7a4_29 : decode cJ6_bitCount_0f7a4 29 = .ok (.ldc_w 267, 3) := by decide +kernel
theorem dJ6_bitCount_0f7a4_32 : decode cJ6_bitCount_0f7a4 32 = .ok (.iand, 1) := by decide +kernel
theorem dJ6_bitCount_0f7a4_33 : decode cJ6_bitCount_0f7a4 33 = .ok (.istore_n 0, 1) := by decide +kernel
theorem dJ6_bitCount_0f7a4_34 : decode cJ6_bitCount_0f7a4 34 = .ok (.iload_n 0, 1) := by decide +kernel
theorem dJ6_bitCount_0f7a4_35 : decode cJ6_bitCount_0f7a4 35 = .ok (.iload_n 0, 1) := by decide +kernel
theorem dJ6_bitCount_0f7a4_36 : decode cJ6_bitCount_0f7a4 36 = .ok (.bipush 8, 2) := by decide +kernel
theorem dJ6_bitCount_0f7a4_38 : decode cJ6_bitCount_0f7a4 38 = .ok (.iushr, 1) := by decide +kernel
theorem dJ6_bitCount_0f7a4_39 : decode cJ6_bitCount_0f7a4 39 = .ok (.iadd, 1) := by decide +kernel
theorem dJ6_bitCount_0f7a4_40 : decode cJ6_bitCount_0f7a4 40 = .ok (.istore_n 0, 1) := by decide +kernel
theorem dJ6_bitCount_0f7a4_41 : decode cJ6_bitCount_0f7a4 41 = .ok (.iload_n 0, 1) := by decide +kernel
theorem dJ6_bitCount_0f7a4_42 : decode cJ6_bitCount_0f7a4 42 = .ok (.iload_n 0, 1) := by decide +kernel
theorem dJ6_bitCount_0f7a4_43 : decode cJ6_bitCount_0f7a4 43 = .ok (.bipush 16, 2) := by decide +kernel
theorem dJ6_bitCount_0f7a4_45 : decode cJ6_bitCount_0f7a4 45 = .ok (.iushr, 1) := by decide +kernel
theorem dJ6_bitCount_0f7a4_46 : decode cJ6_bitCount_0f7a4 46 = .ok (.iadd, 1) := by decide +kernel
theorem dJ6_bitCount_0f7a4_47 : decode cJ6_bitCount_0f7a4 47 = .ok (.istore_n 0, 1) := by decide +kernel
theorem dJ6_bitCount_0f7a4_48 : decode cJ6_bitCount_0f7a4 48 = .ok (.iload_n 0, 1) := by decide +kernel
theorem dJ6_bitCount_0f7a4_49 : decode cJ6_bitCount_0f7a4 49 = .ok (.bipush 63, 2) := by decide +kernel
theorem dJ6_bitCount_0f7a4_51 : decode cJ6_bitCount_0f7a4 51 = .ok (.iand, 1) := by decide +kernel
theorem dJ6_bitCount_0f7a4_52 : decode cJ6_bitCount_0f7a4 52 = .ok (.ireturn, 1) := by decide +kernel
theorem dJ9_max_7cf53_0 : decode cJ9_max_7cf53 0 = .ok (.iload_n 0, 1) := by decide +kernel
theorem dJ9_max_7cf53_1 : decode cJ9_max_7cf53 1 = .ok (.iload_n 1, 1) := by decide +kernel
theorem dJ9_max_7cf53_2 : decode cJ9_max_7cf53 2 = .ok (.if_icmp .lt 7, 3) := by decide +kernel
theorem dJ9_max_7cf53_5 : decode cJ9_max_7cf53 5 = .ok (.iload_n 0, 1) := by decide +kernel
theorem dJ9_max_7cf53_6 : decode cJ9_max_7cf53 6 = .ok (.goto 4, 3) := by decide +kernel
theorem dJ9_max_7cf53_9 : decode cJ9_max_7cf53 9 = .ok (.iload_n 1, 1) := by decide +kernel
theorem dJ9_max_7cf53_10 : decode cJ9_max_7cf53 10 = .ok (.ireturn, 1) := by decide +kernel
theorem dJ9_min_7cf53_0 : decode cJ9_min_7cf53 0 = .ok (.iload_n 0, 1) := by decide +kernel
theorem dJ9_min_7cf53_1 : decode cJ9_min_7cf53 1 = .ok (.iload_n 1, 1) := by decide +kernel
theorem dJ9_min_7cf53_2 : decode cJ9_min_7cf53 2 = .ok (.if_icmp .gt 7, 3) := by decide +kernel
theorem dJ9_min_7cf53_5 : decode cJ9_min_7cf53 5 = .ok (.iload_n 0, 1) := by decide +kernel
theorem dJ9_min_7cf53_6 : decode cJ9_min_7cf53 6 = .ok (.goto 4, 3) := by decide +kernel
theorem dJ9_min_7cf53_9 : decode cJ9_min_7cf53 9 = .ok (.iload_n 1, 1) := by decide +kernel
theorem dJ9_min_7cf53_10 : decode cJ9_min_7cf53 10 = .ok (.ireturn, 1) := by decide +kernel
set_option maxRecDepth 20000 in
theorem ggJ0_length_8abf5_J0_coder_7d493 : GoodIn wsJ0_length_8abf5 wsJ0_coder_7d493 := goodIn_r _ [6, 7, 8] (by decide +kernel) (by decide +kernel)
set_option maxRecDepth 20000 in
theorem gJ0_length_8abf5_J0_coder_7d493 : GoodIn wsJ0_length_8abf5 (wsV RJ0 335 RJ0 yJ0_coder_7d493 wsJ0_coder_7d493) := goodIn_app (goodIn_of _ (by decide +kernel)) ggJ0_length_8abf5_J0_coder_7d493
theorem dJ0_length_8abf5_0 : decode cJ0_length_8abf5 0 = .ok (.aload_n 0, 1) := by decide +kernel
theorem dJ0_length_8abf5_1 : decode cJ0_length_8abf5 1 = .ok (.getfield 9, 3) := by decide +kernel
theorem dJ0_length_8abf5_4 : decode cJ0_length_8abf5 4 = .ok (.arraylength, 1) := by decide +kernel
theorem dJ0_length_8abf5_5 : decode cJ0_length_8abf5 5 = .ok (.aload_n 0, 1) := by decide +kernel
theorem dJ0_length_8abf5_6 : decode cJ0_length_8abf5 6 = .ok (.invokevirtual 335, 3) := by decide +kernel
theorem dJ0_length_8abf5_9 : decode cJ0_length_8abf5 9 = .ok (.ishr, 1) := by decide +kernel
theorem dJ0_length_8abf5_10 : decode cJ0_length_8abf5 10 = .ok (.ireturn, 1) := by decide +kernel
set_option maxRecDepth 20000 in
theorem ggJ0_charAt_5068e_J0_isLatin1_aae02 : GoodIn wsJ0_charAt_5068e wsJ0_isLatin1_aae02 := goodIn_r _ [6, 7, 8] (by decide +kernel) (by decide +kernel)
set_option maxRecDepth 20000 in
theorem gJ0_charAt_5068e_J0_isLatin1_aae02 : GoodIn wsJ0_charAt_5068e (wsV RJ0 492 RJ0 yJ0_isLatin1_aae02 wsJ0_isLatin1_aae02) := goodIn_app (goodIn_of _ (by decide +kernel)) ggJ0_charAt_5068e_J0_isLatin1_aae02
set_option maxRecDepth 20000 in
theorem ggJ0_charAt_5068e_J1_charAt_3b067 : GoodIn wsJ0_charAt_5068e wsJ1_charAt_3b067 := goodIn_r _ [12, 13, 14, 5, 15, 16, 17, 18, 19, 20] (by decide +kernel) (by decide +kernel)
set_option maxRecDepth 20000 in
theorem gJ0_charAt_5068e_J1_charAt_3b067 : GoodIn wsJ0_charAt_5068e (va_wsS RJ0 495 yJ1_charAt_3b067 wsJ1_charAt_3b067) := goodIn_app (goodIn_of _ (by decide +kernel)) ggJ0_charAt_5068e_J1_charAt_3b067
set_option maxRecDepth 20000 in
theorem ggJ0_charAt_5068e_J2_charAt_3b067 : GoodIn wsJ0_charAt_5068e wsJ2_charAt_3b067 := goodIn_r _ [24, 25, 26, 23, 27, 28, 29, 30, 31, 14, 5, 15, 16, 17, 18, 19, 20, 32, 33, 34, 35, 36, 37] (by decide +kernel) (by decide +kernel)
set_option maxRecDepth 20000 in
theorem gJ0_charAt_5068e_J2_charAt_3b067 : GoodIn wsJ0_charAt_5068e (va_wsS RJ0 498 yJ2_charAt_3b067 wsJ2_charAt_3b067) := goodIn_app (goodIn_of _ (by decide +kernel)) ggJ0_charAt_5068e_J2_charAt_3b067
theorem dJ0_charAt_5068e_0 : decode cJ0_charAt_5068e 0 = .ok (.aload_n 0, 1) := by decide +kernel
theorem dJ0_charAt_5068e_1 : decode cJ0_charAt_5068e 1 = .ok (.invokevirtual 492, 3) := by decide +kernel
theorem dJ0_charAt_5068e_4 : decode cJ0_charAt_5068e 4 = .ok (.ifCond .eq 12, 3) := by decide +kernel
theorem dJ0_charAt_5068e_7 : decode cJ0_charAt_5068e 7 = .ok (.aload_n 0, 1) := by decide +kernel
theorem dJ0_charAt_5068e_8 : decode cJ0_charAt_5068e 8 = .ok (.getfield 9, 3) := by decide +kernel
theorem dJ0_charAt_5068e_11 : decode cJ0_charAt_5068e 11 = .ok (.iload_n 1, 1) := by decide +kernel
theorem dJ0_charAt_5068e_12 : decode cJ0_charAt_5068e 12 = .ok (.invokestatic 495, 3) := by decide +kernel
theorem dJ0_charAt_5068e_15 : decode cJ0_charAt_5068e 15 = .ok (.ireturn, 1) := by decide +kernel
theorem dJ0_charAt_5068e_16 : decode cJ0_charAt_5068e 16 = .ok (.aload_n 0, 1) := by decide +kernel
theorem dJ0_charAt_5068e_17 : decode cJ0_charAt_5068e 17 = .ok (.getfield 9, 3) := by decide +kernel
theorem dJ0_charAt_5068e_20 : decode cJ0_charAt_5068e 20 = .ok (.iload_n 1, 1) := by decide +kernel
theorem dJ0_charAt_5068e_21 : decode cJ0_charAt_5068e 21 = .ok (.invokestatic 498, 3) := by decide +kernel
theorem dJ0_charAt_5068e_24 : decode cJ0_charAt_5068e 24 = .ok (.ireturn, 1) := by decide +kernel
theorem dJ0_coder_7d493_0 : decode cJ0_coder_7d493 0 = .ok (.getstatic 38, 3) := by decide +kernel
theorem dJ0_coder_7d493_3 : decode cJ0_coder_7d493 3 = .ok (.ifCond .eq 10, 3) := by decide +kernel
theorem dJ0_coder_7d493_6 : decode cJ0_coder_7d493 6 = .ok (.aload_n 0, 1) := by decide +kernel
theorem dJ0_coder_7d493_7 : decode cJ0_coder_7d493 7 = .ok (.getfield 15, 3) := by decide +kernel
theorem dJ0_coder_7d493_10 : decode cJ0_coder_7d493 10 = .ok (.goto 4, 3) := by decide +kernel
theorem dJ0_coder_7d493_13 : decode cJ0_coder_7d493 13 = .ok (.iconst 1, 1) := by decide +kernel
theorem dJ0_coder_7d493_14 : decode cJ0_coder_7d493 14 = .ok (.ireturn, 1) := by decide +kernel
theorem dJ0_isLatin1_aae02_0 : decode cJ0_isLatin1_aae02 0 = .ok (.getstatic 38, 3) := by decide +kernel
theorem dJ0_isLatin1_aae02_3 : decode cJ0_isLatin1_aae02 3 = .ok (.ifCond .eq 14, 3) := by decide +kernel
theorem dJ0_isLatin1_aae02_6 : decode cJ0_isLatin1_aae02 6 = .ok (.aload_n 0, 1) := by decide +kernel
theorem dJ0_isLatin1_aae02_7 : decode cJ0_isLatin1_aae02 7 = .ok (.getfield 15, 3) := by decide +kernel
theorem dJ0_isLatin1_aae02_10 : decode cJ0_isLatin1_aae02 10 = .ok (.ifCond .ne 7, 3) := by decide +kernel
theorem dJ0_isLatin1_aae02_13 : decode cJ0_isLatin1_aae02 13 = .ok (.iconst 1, 1) := by decide +kernel
theorem dJ0_isLatin1_aae02_14 : decode cJ0_isLatin1_aae02 14 = .ok (.goto 4, 3) := by decide +kernel
theorem dJ0_isLatin1_aae02_17 : decode cJ0_isLatin1_aae02 17 = .ok (.iconst 0, 1) := by decide +kernel
theorem dJ0_isLatin1_aae02_18 : decode cJ0_isLatin1_aae02 18 = .ok (.ireturn, 1) := by decide +kernel
set_option maxRecDepth 20000 in
theorem ggJ0_checkIndex_df160_J3_checkIndex_8e157 : GoodIn wsJ0_checkIndex_df160 wsJ3_checkIndex_8e157 := goodIn_r _ [5] (by decide +kernel) (by decide +kernel)
set_option maxRecDepth 20000 in
theorem gJ0_checkIndex_df160_J3_checkIndex_8e157 : GoodIn wsJ0_checkIndex_df160 (va_wsS RJ0 1059 yJ3_checkIndex_8e157 wsJ3_checkIndex_8e157) := goodIn_app (goodIn_of _ (by decide +kernel)) ggJ0_checkIndex_df160_J3_checkIndex_8e157
theorem dJ0_checkIndex_df160_0 : decode cJ0_checkIndex_df160 0 = .ok (.iload_n 0, 1) := by decide +kernel
theorem dJ0_checkIndex_df160_1 : decode cJ0_checkIndex_df160 1 = .ok (.iload_n 1, 1) := by decide +kernel
theorem dJ0_checkIndex_df160_2 : decode cJ0_checkIndex_df160 2 = .ok (.getstatic 1053, 3) := by decide +kernel
theorem dJ0_checkIndex_df160_5 : decode cJ0_checkIndex_df160 5 = .ok (.invokestatic 1059, 3) := by decide +kernel
theorem dJ0_checkIndex_df160_8 : decode cJ0_checkIndex_df160 8 = .ok (.pop, 1) := by decide +kernel
theorem dJ0_checkIndex_df160_9 : decode cJ0_checkIndex_df160 9 = .ok (.return_, 1) := by decide +kernel
set_option maxRecDepth 20000 in
theorem ggJ1_charAt_3b067_J0_checkIndex_df160 : GoodIn wsJ1_charAt_3b067 wsJ0_checkIndex_df160 := goodIn_r _ [4, 5, 6, 7, 8, 9] (by decide +kernel) (by decide +kernel)
set_option maxRecDepth 20000 in
theorem gJ1_charAt_3b067_J0_checkIndex_df160 : GoodIn wsJ1_charAt_3b067 (va_wsS RJ1 9 yJ0_checkIndex_df160 wsJ0_checkIndex_df160) := goodIn_app (goodIn_of _ (by decide +kernel)) ggJ1_charAt_3b067_J0_checkIndex_df160
theorem dJ1_charAt_3b067_0 : decode cJ1_charAt_3b067 0 = .ok (.iload_n 1, 1) := by decide +kernel
theorem dJ1_charAt_3b067_1 : decode cJ1_charAt_3b067 1 = .ok (.aload_n 0, 1) := by decide +kernel
theorem dJ1_charAt_3b067_2 : decode cJ1_charAt_3b067 2 = .ok (.arraylength, 1) := by decide +kernel
theorem dJ1_charAt_3b067_3 : decode cJ1_charAt_3b067 3 = .ok (.invokestatic 9, 3) := by decide +kernel
theorem dJ1_charAt_3b067_6 : decode cJ1_charAt_3b067 6 = .ok (.aload_n 0, 1) := by decide +kernel
theorem dJ1_charAt_3b067_7 : decode cJ1_charAt_3b067 7 = .ok (.iload_n 1, 1) := by decide +kernel
theorem dJ1_charAt_3b067_8 : decode cJ1_charAt_3b067 8 = .ok (.baload, 1) := by decide +kernel
theorem dJ1_charAt_3b067_9 : decode cJ1_charAt_3b067 9 = .ok (.sipush 255, 3) := by decide +kernel
theorem dJ1_charAt_3b067_12 : decode cJ1_charAt_3b067 12 = .ok (.iand, 1) := by decide +kernel
theorem dJ1_charAt_3b067_13 : decode cJ1_charAt_3b067 13 = .ok (.i2c, 1) := by decide +kernel
theorem dJ1_charAt_3b067_14 : decode cJ1_charAt_3b067 14 = .ok (.ireturn, 1) := by decide +kernel
set_option maxRecDepth 20000 in
theorem ggJ2_getChar_3b067_J2_length_9d52b : GoodIn wsJ2_getChar_3b067 wsJ2_length_9d52b := goodIn_r _ [7] (by decide +kernel) (by decide +kernel)
set_option maxRecDepth 20000 in
theorem gJ2_getChar_3b067_J2_length_9d52b : GoodIn wsJ2_getChar_3b067 (va_wsS RJ2 48 yJ2_length_9d52b wsJ2_length_9d52b) := goodIn_app (goodIn_of _ (by decide +kernel)) ggJ2_getChar_3b067_J2_length_9d52b
theorem dJ2_getChar_3b067_0 : decode cJ2_getChar_3b067 0 = .ok (.getstatic 44, 3) := by decide +kernel
theorem dJ2_getChar_3b067_3 : decode cJ2_getChar_3b067 3 = .ok (.ifCond .ne 25, 3) := by decide +kernel
theorem dJ2_getChar_3b067_6 : decode cJ2_getChar_3b067 6 = .ok (.iload_n 1, 1) := by decide +kernel
theorem dJ2_getChar_3b067_7 : decode cJ2_getChar_3b067 7 = .ok (.ifCond .lt 11, 3) := by decide +kernel
theorem dJ2_getChar_3b067_10 : decode cJ2_getChar_3b067 10 = .ok (.iload_n 1, 1) := by decide +kernel
theorem dJ2_getChar_3b067_11 : decode cJ2_getChar_3b067 11 = .ok (.aload_n 0, 1) := by decide +kernel
theorem dJ2_getChar_3b067_12 : decode cJ2_getChar_3b067 12 = .ok (.invokestatic 48, 3) := by decide +kernel
theorem dJ2_getChar_3b067_15 : decode cJ2_getChar_3b067 15 = .ok (.if_icmp .lt 13, 3) := by decide +kernel
theorem dJ2_getChar_3b067_18 : decode cJ2_getChar_3b067 18 = .ok (.new 52, 3) := by decide +kernel
theorem dJ2_getChar_3b067_21 : decode cJ2_getChar_3b067 21 = .ok (.dup, 1) := by decide +kernel
theorem dJ2_getChar_3b067_22 : decode cJ2_getChar_3b067 22 = .ok (.ldc 54, 2) := by decide +kernel
theorem dJ2_getChar_3b067_24 : decode cJ2_getChar_3b067 24 = .ok (.invokespecial 56, 3) := by decide +kernel
theorem dJ2_getChar_3b067_27 : decode cJ2_getChar_3b067 27 = .ok (.athrow, 1) := by decide +kernel
theorem dJ2_getChar_3b067_28 : decode cJ2_getChar_3b067 28 = .ok (.iload_n 1, 1) := by decide +kernel
theorem dJ2_getChar_3b067_29 : decode cJ2_getChar_3b067 29 = .ok (.iconst 1, 1) := by decide +kernel
theorem dJ2_getChar_3b067_30 : decode cJ2_getChar_3b067 30 = .ok (.ishl, 1) := by decide +kernel
theorem dJ2_getChar_3b067_31 : decode cJ2_getChar_3b067 31 = .ok (.istore_n 1, 1) := by decide +kernel
theorem dJ2_getChar_3b067_32 : decode cJ2_getChar_3b067 32 = .ok (.aload_n 0, 1) := by decide +kernel
theorem dJ2_getChar_3b067_33 : decode cJ2_getChar_3b067 33 = .ok (.iload_n 1, 1) := by decide +kernel
theorem dJ2_getChar_3b067_34 : decode cJ2_getChar_3b067 34 = .ok (.iinc 1 1, 3) := by decide +kernel
theorem dJ2_getChar_3b067_37 : decode cJ2_getChar_3b067 37 = .ok (.baload, 1) := by decide +kernel
theorem dJ2_getChar_3b067_38 : decode cJ2_getChar_3b067 38 = .ok (.sipush 255, 3) := by decide +kernel
theorem dJ2_getChar_3b067_41 : decode cJ2_getChar_3b067 41 = .ok (.iand, 1) := by decide +kernel
theorem dJ2_getChar_3b067_42 : decode cJ2_getChar_3b067 42 = .ok (.getstatic 59, 3) := by decide +kernel
theorem dJ2_getChar_3b067_45 : decode cJ2_getChar_3b067 45 = .ok (.ishl, 1) := by decide +kernel
theorem dJ2_getChar_3b067_46 : decode cJ2_getChar_3b067 46 = .ok (.aload_n 0, 1) := by decide +kernel
theorem dJ2_getChar_3b067_47 : decode cJ2_getChar_3b067 47 = .ok (.iload_n 1, 1) := by decide +kernel
theorem dJ2_getChar_3b067_48 : decode cJ2_getChar_3b067 48 = .ok (.baload, 1) := by decide +kernel
theorem dJ2_getChar_3b067_49 : decode cJ2_getChar_3b067 49 = .ok (.sipush 255, 3) := by decide +kernel
theorem dJ2_getChar_3b067_52 : decode cJ2_getChar_3b067 52 = .ok (.iand, 1) := by decide +kernel
theorem dJ2_getChar_3b067_53 : decode cJ2_getChar_3b067 53 = .ok (.getstatic 63, 3) := by decide +kernel
theorem dJ2_getChar_3b067_56 : decode cJ2_getChar_3b067 56 = .ok (.ishl, 1) := by decide +kernel
theorem dJ2_getChar_3b067_57 : decode cJ2_getChar_3b067 57 = .ok (.ior, 1) := by decide +kernel
theorem dJ2_getChar_3b067_58 : decode cJ2_getChar_3b067 58 = .ok (.i2c, 1) := by decide +kernel
theorem dJ2_getChar_3b067_59 : decode cJ2_getChar_3b067 59 = .ok (.ireturn, 1) := by decide +kernel
theorem dJ2_length_9d52b_0 : decode cJ2_length_9d52b 0 = .ok (.aload_n 0, 1) := by decide +kernel
theorem dJ2_length_9d52b_1 : decode cJ2_length_9d52b 1 = .ok (.arraylength, 1) := by decide +kernel
theorem dJ2_length_9d52b_2 : decode cJ2_length_9d52b 2 = .ok (.iconst 1, 1) := by decide +kernel
theorem dJ2_length_9d52b_3 : decode cJ2_length_9d52b 3 = .ok (.ishr, 1) := by decide +kernel
theorem dJ2_length_9d52b_4 : decode cJ2_length_9d52b 4 = .ok (.ireturn, 1) := by decide +kernel
set_option maxRecDepth 20000 in
theorem ggJ2_charAt_3b067_J2_checkIndex_2214a : GoodIn wsJ2_charAt_3b067 wsJ2_checkIndex_2214a := goodIn_r _ [4, 5, 6, 3, 7, 8, 9, 10, 11, 12, 13, 14, 15, 16] (by decide +kernel) (by decide +kernel)
set_option maxRecDepth 20000 in
theorem gJ2_charAt_3b067_J2_checkIndex_2214a : GoodIn wsJ2_charAt_3b067 (va_wsS RJ2 67 yJ2_checkIndex_2214a wsJ2_checkIndex_2214a) := goodIn_app (goodIn_of _ (by decide +kernel)) ggJ2_charAt_3b067_J2_checkIndex_2214a
set_option maxRecDepth 20000 in
theorem ggJ2_charAt_3b067_J2_getChar_3b067 : GoodIn wsJ2_charAt_3b067 wsJ2_getChar_3b067 := goodIn_r _ [19, 20, 21, 22, 5, 6, 3, 7] (by decide +kernel) (by decide +kernel)
set_option maxRecDepth 20000 in
theorem gJ2_charAt_3b067_J2_getChar_3b067 : GoodIn wsJ2_charAt_3b067 (va_wsS RJ2 71 yJ2_getChar_3b067 wsJ2_getChar_3b067) := goodIn_app (goodIn_of _ (by decide +kernel)) ggJ2_charAt_3b067_J2_getChar_3b067
theorem dJ2_charAt_3b067_0 : decode cJ2_charAt_3b067 0 = .ok (.iload_n 1, 1) := by decide +kernel
theorem dJ2_charAt_3b067_1 : decode cJ2_charAt_3b067 1 = .ok (.aload_n 0, 1) := by decide +kernel
theorem dJ2_charAt_3b067_2 : decode cJ2_charAt_3b067 2 = .ok (.invokestatic 67, 3) := by decide +kernel
theorem dJ2_charAt_3b067_5 : decode cJ2_charAt_3b067 5 = .ok (.aload_n 0, 1) := by decide +kernel
theorem dJ2_charAt_3b067_6 : decode cJ2_charAt_3b067 6 = .ok (.iload_n 1, 1) := by decide +kernel
theorem dJ2_charAt_3b067_7 : decode cJ2_charAt_3b067 7 = .ok (.invokestatic 71, 3) := by decide +kernel
theorem dJ2_charAt_3b067_10 : decode cJ2_charAt_3b067 10 = .ok (.ireturn, 1) := by decide +kernel
set_option maxRecDepth 20000 in
theorem ggJ2_checkIndex_2214a_J2_length_9d52b : GoodIn wsJ2_checkIndex_2214a wsJ2_length_9d52b := goodIn_r _ [4] (by decide +kernel) (by decide +kernel)
set_option maxRecDepth 20000 in
theorem gJ2_checkIndex_2214a_J2_length_9d52b : GoodIn wsJ2_checkIndex_2214a (va_wsS RJ2 48 yJ2_length_9d52b wsJ2_length_9d52b) := goodIn_app (goodIn_of _ (by decide +kernel)) ggJ2_checkIndex_2214a_J2_length_9d52b
set_option maxRecDepth 20000 in
theorem ggJ2_checkIndex_2214a_J0_checkIndex_df160 : GoodIn wsJ2_checkIndex_2214a wsJ0_checkIndex_df160 := goodIn_r _ [8, 9, 10, 11, 12, 13] (by decide +kernel) (by decide +kernel)
set_option maxRecDepth 20000 in
theorem gJ2_checkIndex_2214a_J0_checkIndex_df160 : GoodIn wsJ2_checkIndex_2214a (va_wsS RJ2 414 yJ0_checkIndex_df160 wsJ0_checkIndex_df160) := goodIn_app (goodIn_of _ (by decide +kernel)) ggJ2_checkIndex_2214a_J0_checkIndex_df160
theorem dJ2_checkIndex_2214a_0 : decode cJ2_checkIndex_2214a 0 = .ok (.iload_n 0, 1) := by decide +kernel
theorem dJ2_checkIndex_2214a_1 : decode cJ2_checkIndex_2214a 1 = .ok (.aload_n 1, 1) := by decide +kernel
theorem dJ2_checkIndex_2214a_2 : decode cJ2_checkIndex_2214a 2 = .ok (.invokestatic 48, 3) := by decide +kernel
theorem dJ2_checkIndex_2214a_5 : decode cJ2_checkIndex_2214a 5 = .ok (.invokestatic 414, 3) := by decide +kernel
theorem dJ2_checkIndex_2214a_8 : decode cJ2_checkIndex_2214a 8 = .ok (.return_, 1) := by decide +kernel
theorem dJ3_checkIndex_8e157_0 : decode cJ3_checkIndex_8e157 0 = .ok (.iload_n 0, 1) := by decide +kernel
theorem dJ3_checkIndex_8e157_1 : decode cJ3_checkIndex_8e157 1 = .ok (.ifCond .lt 8, 3) := by decide +kernel
theorem dJ3_checkIndex_8e157_4 : decode cJ3_checkIndex_8e157 4 = .ok (.iload_n 0, 1) := by decide +kernel
theorem dJ3_checkIndex_8e157_5 : decode cJ3_checkIndex_8e157 5 = .ok (.iload_n 1, 1) := by decide +kernel
theorem dJ3_checkIndex_8e157_6 : decode cJ3_checkIndex_8e157 6 = .ok (.if_icmp .lt 10, 3) := by decide +kernel
theorem dJ3_checkIndex_8e157_9 : decode cJ3_checkIndex_8e157 9 = .ok (.aload_n 2, 1) := by decide +kernel
theorem dJ3_checkIndex_8e157_10 : decode cJ3_checkIndex_8e157 10 = .ok (.iload_n 0, 1) := by decide +kernel
theorem dJ3_checkIndex_8e157_11 : decode cJ3_checkIndex_8e157 11 = .ok (.iload_n 1, 1) := by decide +kernel
theorem dJ3_checkIndex_8e157_12 : decode cJ3_checkIndex_8e157 12 = .ok (.invokestatic 95, 3) := by decide +kernel
theorem dJ3_checkIndex_8e157_15 : decode cJ3_checkIndex_8e157 15 = .ok (.athrow, 1) := by decide +kernel
theorem dJ3_checkIndex_8e157_16 : decode cJ3_checkIndex_8e157 16 = .ok (.iload_n 0, 1) := by decide +kernel
theorem dJ3_checkIndex_8e157_17 : decode cJ3_checkIndex_8e157 17 = .ok (.ireturn, 1) := by decide +kernel
