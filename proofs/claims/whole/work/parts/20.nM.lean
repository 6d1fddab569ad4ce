theorem dX3_init_0 : decode cX3_init 0 = .ok (.aload_n 0, 1) := by decide +kernel
theorem dX3_init_1 : decode cX3_init 1 = .ok (.invokespecial 1, 3) := by decide +kernel
theorem dX3_init_4 : decode cX3_init 4 = .ok (.aload_n 0, 1) := by decide +kernel
theorem dX3_init_5 : decode cX3_init 5 = .ok (.bipush 74, 2) := by decide +kernel
theorem dX3_init_7 : decode cX3_init 7 = .ok (.newarray .int, 2) := by decide +kernel
theorem dX3_init_9 : decode cX3_init 9 = .ok (.putfield 9, 3) := by decide +kernel
theorem dX3_init_12 : decode cX3_init 12 = .ok (.aload_n 0, 1) := by decide +kernel
theorem dX3_init_13 : decode cX3_init 13 = .ok (.bipush 74, 2) := by decide +kernel
theorem dX3_init_15 : decode cX3_init 15 = .ok (.newarray .int, 2) := by decide +kernel
theorem dX3_init_17 : decode cX3_init 17 = .ok (.putfield 13, 3) := by decide +kernel
theorem dX3_init_20 : decode cX3_init 20 = .ok (.aload_n 0, 1) := by decide +kernel
theorem dX3_init_21 : decode cX3_init 21 = .ok (.bipush 74, 2) := by decide +kernel
theorem dX3_init_23 : decode cX3_init 23 = .ok (.newarray .int, 2) := by decide +kernel
theorem dX3_init_25 : decode cX3_init 25 = .ok (.putfield 16, 3) := by decide +kernel
theorem dX3_init_28 : decode cX3_init 28 = .ok (.aload_n 0, 1) := by decide +kernel
theorem dX3_init_29 : decode cX3_init 29 = .ok (.bipush 74, 2) := by decide +kernel
theorem dX3_init_31 : decode cX3_init 31 = .ok (.newarray .int, 2) := by decide +kernel
theorem dX3_init_33 : decode cX3_init 33 = .ok (.putfield 19, 3) := by decide +kernel
theorem dX3_init_36 : decode cX3_init 36 = .ok (.aload_n 0, 1) := by decide +kernel
theorem dX3_init_37 : decode cX3_init 37 = .ok (.bipush 96, 2) := by decide +kernel
theorem dX3_init_39 : decode cX3_init 39 = .ok (.newarray .int, 2) := by decide +kernel
theorem dX3_init_41 : decode cX3_init 41 = .ok (.putfield 22, 3) := by decide +kernel
theorem dX3_init_44 : decode cX3_init 44 = .ok (.aload_n 0, 1) := by decide +kernel
theorem dX3_init_45 : decode cX3_init 45 = .ok (.bipush 16, 2) := by decide +kernel
theorem dX3_init_47 : decode cX3_init 47 = .ok (.newarray .int, 2) := by decide +kernel
theorem dX3_init_49 : decode cX3_init 49 = .ok (.putfield 25, 3) := by decide +kernel
theorem dX3_init_52 : decode cX3_init 52 = .ok (.aload_n 0, 1) := by decide +kernel
theorem dX3_init_53 : decode cX3_init 53 = .ok (.bipush 7, 2) := by decide +kernel
theorem dX3_init_55 : decode cX3_init 55 = .ok (.newarray .int, 2) := by decide +kernel
theorem dX3_init_57 : decode cX3_init 57 = .ok (.putfield 28, 3) := by decide +kernel
theorem dX3_init_60 : decode cX3_init 60 = .ok (.aload_n 0, 1) := by decide +kernel
theorem dX3_init_61 : decode cX3_init 61 = .ok (.iconst 3, 1) := by decide +kernel
theorem dX3_init_62 : decode cX3_init 62 = .ok (.newarray .int, 2) := by decide +kernel
theorem dX3_init_64 : decode cX3_init 64 = .ok (.putfield 31, 3) := by decide +kernel
theorem dX3_init_67 : decode cX3_init 67 = .ok (.aload_n 0, 1) := by decide +kernel
theorem dX3_init_68 : decode cX3_init 68 = .ok (.bipush 8, 2) := by decide +kernel
theorem dX3_init_70 : decode cX3_init 70 = .ok (.newarray .int, 2) := by decide +kernel
theorem dX3_init_72 : decode cX3_init 72 = .ok (.putfield 34, 3) := by decide +kernel
theorem dX3_init_75 : decode cX3_init 75 = .ok (.return_, 1) := by decide +kernel
theorem dX3_isIn_0 : decode cX3_isIn 0 = .ok (.iload_n 0, 1) := by decide +kernel
theorem dX3_isIn_1 : decode cX3_isIn 1 = .ok (.iload_n 1, 1) := by decide +kernel
theorem dX3_isIn_2 : decode cX3_isIn 2 = .ok (.if_icmp .lt 12, 3) := by decide +kernel
theorem dX3_isIn_5 : decode cX3_isIn 5 = .ok (.iload_n 0, 1) := by decide +kernel
theorem dX3_isIn_6 : decode cX3_isIn 6 = .ok (.iload_n 2, 1) := by decide +kernel
theorem dX3_isIn_7 : decode cX3_isIn 7 = .ok (.if_icmp .gt 7, 3) := by decide +kernel
theorem dX3_isIn_10 : decode cX3_isIn 10 = .ok (.iconst 1, 1) := by decide +kernel
theorem dX3_isIn_11 : decode cX3_isIn 11 = .ok (.goto 4, 3) := by decide +kernel
theorem dX3_isIn_14 : decode cX3_isIn 14 = .ok (.iconst 0, 1) := by decide +kernel
theorem dX3_isIn_15 : decode cX3_isIn 15 = .ok (.ireturn, 1) := by decide +kernel
theorem dX3_least_0 : decode cX3_least 0 = .ok (.iload_n 0, 1) := by decide +kernel
theorem dX3_least_1 : decode cX3_least 1 = .ok (.iload_n 1, 1) := by decide +kernel
theorem dX3_least_2 : decode cX3_least 2 = .ok (.if_icmp .ge 7, 3) := by decide +kernel
theorem dX3_least_5 : decode cX3_least 5 = .ok (.iload_n 0, 1) := by decide +kernel
theorem dX3_least_6 : decode cX3_least 6 = .ok (.goto 4, 3) := by decide +kernel
theorem dX3_least_9 : decode cX3_least 9 = .ok (.iload_n 1, 1) := by decide +kernel
theorem dX3_least_10 : decode cX3_least 10 = .ok (.ireturn, 1) := by decide +kernel
theorem dX3_copies_0 : decode cX3_copies 0 = .ok (.iconst 0, 1) := by decide +kernel
theorem dX3_copies_1 : decode cX3_copies 1 = .ok (.istore_n 2, 1) := by decide +kernel
theorem dX3_copies_2 : decode cX3_copies 2 = .ok (.iload_n 2, 1) := by decide +kernel
theorem dX3_copies_3 : decode cX3_copies 3 = .ok (.bipush 74, 2) := by decide +kernel
theorem dX3_copies_5 : decode cX3_copies 5 = .ok (.if_icmp .ge 15, 3) := by decide +kernel
theorem dX3_copies_8 : decode cX3_copies 8 = .ok (.aload_n 1, 1) := by decide +kernel
theorem dX3_copies_9 : decode cX3_copies 9 = .ok (.iload_n 2, 1) := by decide +kernel
theorem dX3_copies_10 : decode cX3_copies 10 = .ok (.aload_n 0, 1) := by decide +kernel
theorem dX3_copies_11 : decode cX3_copies 11 = .ok (.iload_n 2, 1) := by decide +kernel
theorem dX3_copies_12 : decode cX3_copies 12 = .ok (.iaload, 1) := by decide +kernel
theorem dX3_copies_13 : decode cX3_copies 13 = .ok (.iastore, 1) := by decide +kernel
theorem dX3_copies_14 : decode cX3_copies 14 = .ok (.iinc 2 1, 3) := by decide +kernel
theorem dX3_copies_17 : decode cX3_copies 17 = .ok (.goto (-15), 3) := by decide +kernel
theorem dX3_copies_20 : decode cX3_copies 20 = .ok (.return_, 1) := by decide +kernel
theorem dX3_no_0 : decode cX3_no 0 = .ok (.aload_n 0, 1) := by decide +kernel
theorem dX3_no_1 : decode cX3_no 1 = .ok (.getfield 28, 3) := by decide +kernel
theorem dX3_no_4 : decode cX3_no 4 = .ok (.iload_n 1, 1) := by decide +kernel
theorem dX3_no_5 : decode cX3_no 5 = .ok (.ineg, 1) := by decide +kernel
theorem dX3_no_6 : decode cX3_no 6 = .ok (.dup2, 1) := by decide +kernel
theorem dX3_no_7 : decode cX3_no 7 = .ok (.iaload, 1) := by decide +kernel
theorem dX3_no_8 : decode cX3_no 8 = .ok (.iconst 1, 1) := by decide +kernel
theorem dX3_no_9 : decode cX3_no 9 = .ok (.iadd, 1) := by decide +kernel
theorem dX3_no_10 : decode cX3_no 10 = .ok (.iastore, 1) := by decide +kernel
theorem dX3_no_11 : decode cX3_no 11 = .ok (.iload_n 1, 1) := by decide +kernel
theorem dX3_no_12 : decode cX3_no 12 = .ok (.ireturn, 1) := by decide +kernel
set_option maxRecDepth 20000 in
theorem ggX3_noWide_X3_no : GoodIn wsX3_noWide wsX3_no := goodIn_r _ [6, 7, 8, 9, 10, 11, 12, 13, 14, 15, 16, 17, 18, 19, 20, 21, 22] (by decide +kernel) (by decide +kernel)
set_option maxRecDepth 20000 in
theorem gX3_noWide_X3_no : GoodIn wsX3_noWide (wsV RX3 39 RX3 yX3_no wsX3_no) := goodIn_app (goodIn_of _ (by decide +kernel)) ggX3_noWide_X3_no
theorem dX3_noWide_0 : decode cX3_noWide 0 = .ok (.ldc2_w 37, 3) := by decide +kernel
theorem dX3_noWide_3 : decode cX3_noWide 3 = .ok (.aload_n 0, 1) := by decide +kernel
theorem dX3_noWide_4 : decode cX3_noWide 4 = .ok (.iload_n 1, 1) := by decide +kernel
theorem dX3_noWide_5 : decode cX3_noWide 5 = .ok (.invokevirtual 39, 3) := by decide +kernel
theorem dX3_noWide_8 : decode cX3_noWide 8 = .ok (.i2l, 1) := by decide +kernel
theorem dX3_noWide_9 : decode cX3_noWide 9 = .ok (.lsub, 1) := by decide +kernel
theorem dX3_noWide_10 : decode cX3_noWide 10 = .ok (.lreturn, 1) := by decide +kernel
theorem dX3_of_0 : decode cX3_of 0 = .ok (.iconst 2, 1) := by decide +kernel
theorem dX3_of_1 : decode cX3_of 1 = .ok (.bipush 12, 2) := by decide +kernel
theorem dX3_of_3 : decode cX3_of 3 = .ok (.iload_n 0, 1) := by decide +kernel
theorem dX3_of_4 : decode cX3_of 4 = .ok (.imul, 1) := by decide +kernel
theorem dX3_of_5 : decode cX3_of 5 = .ok (.iadd, 1) := by decide +kernel
theorem dX3_of_6 : decode cX3_of 6 = .ok (.iload_n 1, 1) := by decide +kernel
theorem dX3_of_7 : decode cX3_of 7 = .ok (.iadd, 1) := by decide +kernel
theorem dX3_of_8 : decode cX3_of 8 = .ok (.ireturn, 1) := by decide +kernel
set_option maxRecDepth 20000 in
theorem ggX3_isCitizen_X3_isIn : GoodIn wsX3_isCitizen wsX3_isIn := goodIn_r _ [5] (by decide +kernel) (by decide +kernel)
set_option maxRecDepth 20000 in
theorem gX3_isCitizen_X3_isIn : GoodIn wsX3_isCitizen (va_wsS RX3 43 yX3_isIn wsX3_isIn) := goodIn_app (goodIn_of _ (by decide +kernel)) ggX3_isCitizen_X3_isIn
theorem dX3_isCitizen_0 : decode cX3_isCitizen 0 = .ok (.iload_n 1, 1) := by decide +kernel
theorem dX3_isCitizen_1 : decode cX3_isCitizen 1 = .ok (.iconst 0, 1) := by decide +kernel
theorem dX3_isCitizen_2 : decode cX3_isCitizen 2 = .ok (.aload_n 0, 1) := by decide +kernel
theorem dX3_isCitizen_3 : decode cX3_isCitizen 3 = .ok (.getfield 9, 3) := by decide +kernel
theorem dX3_isCitizen_6 : decode cX3_isCitizen 6 = .ok (.iconst 0, 1) := by decide +kernel
theorem dX3_isCitizen_7 : decode cX3_isCitizen 7 = .ok (.iaload, 1) := by decide +kernel
theorem dX3_isCitizen_8 : decode cX3_isCitizen 8 = .ok (.iconst 1, 1) := by decide +kernel
theorem dX3_isCitizen_9 : decode cX3_isCitizen 9 = .ok (.isub, 1) := by decide +kernel
theorem dX3_isCitizen_10 : decode cX3_isCitizen 10 = .ok (.invokestatic 43, 3) := by decide +kernel
theorem dX3_isCitizen_13 : decode cX3_isCitizen 13 = .ok (.ireturn, 1) := by decide +kernel
set_option maxRecDepth 20000 in
theorem ggX3_isTopic_X3_isIn : GoodIn wsX3_isTopic wsX3_isIn := goodIn_r _ [4] (by decide +kernel) (by decide +kernel)
set_option maxRecDepth 20000 in
theorem gX3_isTopic_X3_isIn : GoodIn wsX3_isTopic (va_wsS RX3 43 yX3_isIn wsX3_isIn) := goodIn_app (goodIn_of _ (by decide +kernel)) ggX3_isTopic_X3_isIn
theorem dX3_isTopic_0 : decode cX3_isTopic 0 = .ok (.iload_n 0, 1) := by decide +kernel
theorem dX3_isTopic_1 : decode cX3_isTopic 1 = .ok (.iconst 0, 1) := by decide +kernel
theorem dX3_isTopic_2 : decode cX3_isTopic 2 = .ok (.bipush 7, 2) := by decide +kernel
theorem dX3_isTopic_4 : decode cX3_isTopic 4 = .ok (.invokestatic 43, 3) := by decide +kernel
theorem dX3_isTopic_7 : decode cX3_isTopic 7 = .ok (.ireturn, 1) := by decide +kernel
set_option maxRecDepth 20000 in
theorem ggX3_areTwo_X3_isCitizen : GoodIn wsX3_areTwo wsX3_isCitizen := goodIn_r _ [5, 6, 7, 8, 4, 9, 10, 11, 12, 13, 14, 15, 16, 17, 18, 19, 20, 21, 22, 23, 24] (by decide +kernel) (by decide +kernel)
set_option maxRecDepth 20000 in
theorem gX3_areTwo_X3_isCitizen : GoodIn wsX3_areTwo (wsV RX3 47 RX3 yX3_isCitizen wsX3_isCitizen) := goodIn_app (goodIn_of _ (by decide +kernel)) ggX3_areTwo_X3_isCitizen
theorem dX3_areTwo_0 : decode cX3_areTwo 0 = .ok (.aload_n 0, 1) := by decide +kernel
theorem dX3_areTwo_1 : decode cX3_areTwo 1 = .ok (.iload_n 1, 1) := by decide +kernel
theorem dX3_areTwo_2 : decode cX3_areTwo 2 = .ok (.invokevirtual 47, 3) := by decide +kernel
theorem dX3_areTwo_5 : decode cX3_areTwo 5 = .ok (.ifCond .eq 20, 3) := by decide +kernel
theorem dX3_areTwo_8 : decode cX3_areTwo 8 = .ok (.aload_n 0, 1) := by decide +kernel
theorem dX3_areTwo_9 : decode cX3_areTwo 9 = .ok (.iload_n 2, 1) := by decide +kernel
theorem dX3_areTwo_10 : decode cX3_areTwo 10 = .ok (.invokevirtual 47, 3) := by decide +kernel
theorem dX3_areTwo_13 : decode cX3_areTwo 13 = .ok (.ifCond .eq 12, 3) := by decide +kernel
theorem dX3_areTwo_16 : decode cX3_areTwo 16 = .ok (.iload_n 1, 1) := by decide +kernel
theorem dX3_areTwo_17 : decode cX3_areTwo 17 = .ok (.iload_n 2, 1) := by decide +kernel
theorem dX3_areTwo_18 : decode cX3_areTwo 18 = .ok (.if_icmp .eq 7, 3) := by decide +kernel
theorem dX3_areTwo_21 : decode cX3_areTwo 21 = .ok (.iconst 1, 1) := by decide +kernel
theorem dX3_areTwo_22 : decode cX3_areTwo 22 = .ok (.goto 4, 3) := by decide +kernel
theorem dX3_areTwo_25 : decode cX3_areTwo 25 = .ok (.iconst 0, 1) := by decide +kernel
theorem dX3_areTwo_26 : decode cX3_areTwo 26 = .ok (.ireturn, 1) := by decide +kernel
set_option maxRecDepth 20000 in
theorem ggX3_isAlive_X3_of : GoodIn wsX3_isAlive wsX3_of := goodIn_r _ [4] (by decide +kernel) (by decide +kernel)
set_option maxRecDepth 20000 in
theorem gX3_isAlive_X3_of : GoodIn wsX3_isAlive (va_wsS RX3 51 yX3_of wsX3_of) := goodIn_app (goodIn_of _ (by decide +kernel)) ggX3_isAlive_X3_of
theorem dX3_isAlive_0 : decode cX3_isAlive 0 = .ok (.aload_n 0, 1) := by decide +kernel
theorem dX3_isAlive_1 : decode cX3_isAlive 1 = .ok (.iload_n 1, 1) := by decide +kernel
theorem dX3_isAlive_2 : decode cX3_isAlive 2 = .ok (.iconst 3, 1) := by decide +kernel
theorem dX3_isAlive_3 : decode cX3_isAlive 3 = .ok (.invokestatic 51, 3) := by decide +kernel
theorem dX3_isAlive_6 : decode cX3_isAlive 6 = .ok (.iaload, 1) := by decide +kernel
theorem dX3_isAlive_7 : decode cX3_isAlive 7 = .ok (.ifCond .ne 7, 3) := by decide +kernel
theorem dX3_isAlive_10 : decode cX3_isAlive 10 = .ok (.iconst 1, 1) := by decide +kernel
theorem dX3_isAlive_11 : decode cX3_isAlive 11 = .ok (.goto 4, 3) := by decide +kernel
theorem dX3_isAlive_14 : decode cX3_isAlive 14 = .ok (.iconst 0, 1) := by decide +kernel
theorem dX3_isAlive_15 : decode cX3_isAlive 15 = .ok (.ireturn, 1) := by decide +kernel
theorem dX3_has_0 : decode cX3_has 0 = .ok (.iload_n 0, 1) := by decide +kernel
theorem dX3_has_1 : decode cX3_has 1 = .ok (.iload_n 1, 1) := by decide +kernel
theorem dX3_has_2 : decode cX3_has 2 = .ok (.ishr, 1) := by decide +kernel
theorem dX3_has_3 : decode cX3_has 3 = .ok (.iconst 1, 1) := by decide +kernel
theorem dX3_has_4 : decode cX3_has 4 = .ok (.iand, 1) := by decide +kernel
theorem dX3_has_5 : decode cX3_has 5 = .ok (.iconst 1, 1) := by decide +kernel
theorem dX3_has_6 : decode cX3_has 6 = .ok (.if_icmp .ne 7, 3) := by decide +kernel
theorem dX3_has_9 : decode cX3_has 9 = .ok (.iconst 1, 1) := by decide +kernel
theorem dX3_has_10 : decode cX3_has 10 = .ok (.goto 4, 3) := by decide +kernel
theorem dX3_has_13 : decode cX3_has 13 = .ok (.iconst 0, 1) := by decide +kernel
theorem dX3_has_14 : decode cX3_has 14 = .ok (.ireturn, 1) := by decide +kernel
theorem dX3_bits_0 : decode cX3_bits 0 = .ok (.iconst 0, 1) := by decide +kernel
theorem dX3_bits_1 : decode cX3_bits 1 = .ok (.istore_n 1, 1) := by decide +kernel
theorem dX3_bits_2 : decode cX3_bits 2 = .ok (.iconst 0, 1) := by decide +kernel
theorem dX3_bits_3 : decode cX3_bits 3 = .ok (.istore_n 2, 1) := by decide +kernel
theorem dX3_bits_4 : decode cX3_bits 4 = .ok (.iload_n 2, 1) := by decide +kernel
theorem dX3_bits_5 : decode cX3_bits 5 = .ok (.bipush 8, 2) := by decide +kernel
theorem dX3_bits_7 : decode cX3_bits 7 = .ok (.if_icmp .ge 17, 3) := by decide +kernel
theorem dX3_bits_10 : decode cX3_bits 10 = .ok (.iload_n 1, 1) := by decide +kernel
theorem dX3_bits_11 : decode cX3_bits 11 = .ok (.iload_n 0, 1) := by decide +kernel
theorem dX3_bits_12 : decode cX3_bits 12 = .ok (.iload_n 2, 1) := by decide +kernel
theorem dX3_bits_13 : decode cX3_bits 13 = .ok (.ishr, 1) := by decide +kernel
theorem dX3_bits_14 : decode cX3_bits 14 = .ok (.iconst 1, 1) := by decide +kernel
theorem dX3_bits_15 : decode cX3_bits 15 = .ok (.iand, 1) := by decide +kernel
theorem dX3_bits_16 : decode cX3_bits 16 = .ok (.iadd, 1) := by decide +kernel
theorem dX3_bits_17 : decode cX3_bits 17 = .ok (.istore_n 1, 1) := by decide +kernel
theorem dX3_bits_18 : decode cX3_bits 18 = .ok (.iinc 2 1, 3) := by decide +kernel
theorem dX3_bits_21 : decode cX3_bits 21 = .ok (.goto (-17), 3) := by decide +kernel
theorem dX3_bits_24 : decode cX3_bits 24 = .ok (.iload_n 1, 1) := by decide +kernel
theorem dX3_bits_25 : decode cX3_bits 25 = .ok (.ireturn, 1) := by decide +kernel
theorem dX3_life_0 : decode cX3_life 0 = .ok (.iload_n 0, 1) := by decide +kernel
theorem dX3_life_1 : decode cX3_life 1 = .ok (.tableswitch 55 1 5 #[35, 40, 55, 45, 50], 35) := by decide +kernel
theorem dX3_life_36 : decode cX3_life 36 = .ok (.bipush 50, 2) := by decide +kernel
theorem dX3_life_38 : decode cX3_life 38 = .ok (.iload_n 1, 1) := by decide +kernel
theorem dX3_life_39 : decode cX3_life 39 = .ok (.iadd, 1) := by decide +kernel
theorem dX3_life_40 : decode cX3_life 40 = .ok (.ireturn, 1) := by decide +kernel
theorem dX3_life_41 : decode cX3_life 41 = .ok (.bipush 80, 2) := by decide +kernel
theorem dX3_life_43 : decode cX3_life 43 = .ok (.iload_n 1, 1) := by decide +kernel
theorem dX3_life_44 : decode cX3_life 44 = .ok (.iadd, 1) := by decide +kernel
theorem dX3_life_45 : decode cX3_life 45 = .ok (.ireturn, 1) := by decide +kernel
theorem dX3_life_46 : decode cX3_life 46 = .ok (.bipush 65, 2) := by decide +kernel
theorem dX3_life_48 : decode cX3_life 48 = .ok (.iload_n 1, 1) := by decide +kernel
theorem dX3_life_49 : decode cX3_life 49 = .ok (.iadd, 1) := by decide +kernel
theorem dX3_life_50 : decode cX3_life 50 = .ok (.ireturn, 1) := by decide +kernel
theorem dX3_life_51 : decode cX3_life 51 = .ok (.bipush 85, 2) := by decide +kernel
theorem dX3_life_53 : decode cX3_life 53 = .ok (.iload_n 1, 1) := by decide +kernel
theorem dX3_life_54 : decode cX3_life 54 = .ok (.iadd, 1) := by decide +kernel
theorem dX3_life_55 : decode cX3_life 55 = .ok (.ireturn, 1) := by decide +kernel
theorem dX3_life_56 : decode cX3_life 56 = .ok (.bipush 60, 2) := by decide +kernel
theorem dX3_life_58 : decode cX3_life 58 = .ok (.iload_n 1, 1) := by decide +kernel
theorem dX3_life_59 : decode cX3_life 59 = .ok (.iadd, 1) := by decide +kernel
theorem dX3_life_60 : decode cX3_life 60 = .ok (.ireturn, 1) := by decide +kernel
set_option maxRecDepth 20000 in
theorem ggX3_saying_X3_isAlive : GoodIn wsX3_saying wsX3_isAlive := goodIn_r _ [4, 5, 6, 3, 7] (by decide +kernel) (by decide +kernel)
set_option maxRecDepth 20000 in
theorem gX3_saying_X3_isAlive : GoodIn wsX3_saying (va_wsS RX3 55 yX3_isAlive wsX3_isAlive) := goodIn_app (goodIn_of _ (by decide +kernel)) ggX3_saying_X3_isAlive
set_option maxRecDepth 20000 in
theorem ggX3_saying_X3_of : GoodIn wsX3_saying wsX3_of := goodIn_r _ [7] (by decide +kernel) (by decide +kernel)
set_option maxRecDepth 20000 in
theorem gX3_saying_X3_of : GoodIn wsX3_saying (va_wsS RX3 51 yX3_of wsX3_of) := goodIn_app (goodIn_of _ (by decide +kernel)) ggX3_saying_X3_of
theorem dX3_saying_0 : decode cX3_saying 0 = .ok (.iconst 0, 1) := by decide +kernel
theorem dX3_saying_1 : decode cX3_saying 1 = .ok (.istore_n 3, 1) := by decide +kernel
theorem dX3_saying_2 : decode cX3_saying 2 = .ok (.iconst 0, 1) := by decide +kernel
theorem dX3_saying_3 : decode cX3_saying 3 = .ok (.istore 4, 2) := by decide +kernel
theorem dX3_saying_5 : decode cX3_saying 5 = .ok (.iload 4, 2) := by decide +kernel
theorem dX3_saying_7 : decode cX3_saying 7 = .ok (.aload_n 0, 1) := by decide +kernel
theorem dX3_saying_8 : decode cX3_saying 8 = .ok (.iconst 0, 1) := by decide +kernel
theorem dX3_saying_9 : decode cX3_saying 9 = .ok (.iaload, 1) := by decide +kernel
theorem dX3_saying_10 : decode cX3_saying 10 = .ok (.if_icmp .ge 40, 3) := by decide +kernel
theorem dX3_saying_13 : decode cX3_saying 13 = .ok (.iload_n 3, 1) := by decide +kernel
theorem dX3_saying_14 : decode cX3_saying 14 = .ok (.aload_n 0, 1) := by decide +kernel
theorem dX3_saying_15 : decode cX3_saying 15 = .ok (.iload 4, 2) := by decide +kernel
theorem dX3_saying_17 : decode cX3_saying 17 = .ok (.invokestatic 55, 3) := by decide +kernel
theorem dX3_saying_20 : decode cX3_saying 20 = .ok (.ifCond .eq 21, 3) := by decide +kernel
theorem dX3_saying_23 : decode cX3_saying 23 = .ok (.aload_n 0, 1) := by decide +kernel
theorem dX3_saying_24 : decode cX3_saying 24 = .ok (.iload 4, 2) := by decide +kernel
theorem dX3_saying_26 : decode cX3_saying 26 = .ok (.iconst 4, 1) := by decide +kernel
theorem dX3_saying_27 : decode cX3_saying 27 = .ok (.iload_n 1, 1) := by decide +kernel
theorem dX3_saying_28 : decode cX3_saying 28 = .ok (.iadd, 1) := by decide +kernel
theorem dX3_saying_29 : decode cX3_saying 29 = .ok (.invokestatic 51, 3) := by decide +kernel
theorem dX3_saying_32 : decode cX3_saying 32 = .ok (.iaload, 1) := by decide +kernel
theorem dX3_saying_33 : decode cX3_saying 33 = .ok (.iload_n 2, 1) := by decide +kernel
theorem dX3_saying_34 : decode cX3_saying 34 = .ok (.if_icmp .ne 7, 3) := by decide +kernel
theorem dX3_saying_37 : decode cX3_saying 37 = .ok (.iconst 1, 1) := by decide +kernel
theorem dX3_saying_38 : decode cX3_saying 38 = .ok (.goto 4, 3) := by decide +kernel
theorem dX3_saying_41 : decode cX3_saying 41 = .ok (.iconst 0, 1) := by decide +kernel
theorem dX3_saying_42 : decode cX3_saying 42 = .ok (.iadd, 1) := by decide +kernel
theorem dX3_saying_43 : decode cX3_saying 43 = .ok (.istore_n 3, 1) := by decide +kernel
theorem dX3_saying_44 : decode cX3_saying 44 = .ok (.iinc 4 1, 3) := by decide +kernel
theorem dX3_saying_47 : decode cX3_saying 47 = .ok (.goto (-42), 3) := by decide +kernel
theorem dX3_saying_50 : decode cX3_saying 50 = .ok (.iload_n 3, 1) := by decide +kernel
theorem dX3_saying_51 : decode cX3_saying 51 = .ok (.ireturn, 1) := by decide +kernel
set_option maxRecDepth 20000 in
theorem ggX3_isWritten_X3_saying : GoodIn wsX3_isWritten wsX3_saying := goodIn_r _ [4, 5, 6, 3, 7, 8, 9, 10] (by decide +kernel) (by decide +kernel)
set_option maxRecDepth 20000 in
theorem gX3_isWritten_X3_saying : GoodIn wsX3_isWritten (va_wsS RX3 59 yX3_saying wsX3_saying) := goodIn_app (goodIn_of _ (by decide +kernel)) ggX3_isWritten_X3_saying
theorem dX3_isWritten_0 : decode cX3_isWritten 0 = .ok (.aload_n 0, 1) := by decide +kernel
theorem dX3_isWritten_1 : decode cX3_isWritten 1 = .ok (.iload_n 1, 1) := by decide +kernel
theorem dX3_isWritten_2 : decode cX3_isWritten 2 = .ok (.iconst 1, 1) := by decide +kernel
theorem dX3_isWritten_3 : decode cX3_isWritten 3 = .ok (.invokestatic 59, 3) := by decide +kernel
theorem dX3_isWritten_6 : decode cX3_isWritten 6 = .ok (.ifCond .le 16, 3) := by decide +kernel
theorem dX3_isWritten_9 : decode cX3_isWritten 9 = .ok (.aload_n 0, 1) := by decide +kernel
theorem dX3_isWritten_10 : decode cX3_isWritten 10 = .ok (.iload_n 1, 1) := by decide +kernel
theorem dX3_isWritten_11 : decode cX3_isWritten 11 = .ok (.iconst 2, 1) := by decide +kernel
theorem dX3_isWritten_12 : decode cX3_isWritten 12 = .ok (.invokestatic 59, 3) := by decide +kernel
theorem dX3_isWritten_15 : decode cX3_isWritten 15 = .ok (.ifCond .le 7, 3) := by decide +kernel
theorem dX3_isWritten_18 : decode cX3_isWritten 18 = .ok (.iconst 1, 1) := by decide +kernel
theorem dX3_isWritten_19 : decode cX3_isWritten 19 = .ok (.goto 4, 3) := by decide +kernel
theorem dX3_isWritten_22 : decode cX3_isWritten 22 = .ok (.iconst 0, 1) := by decide +kernel
theorem dX3_isWritten_23 : decode cX3_isWritten 23 = .ok (.ireturn, 1) := by decide +kernel
set_option maxRecDepth 20000 in
theorem ggX3_writtenIn_X3_isWritten : GoodIn wsX3_writtenIn wsX3_isWritten := goodIn_r _ [4, 5, 6, 3, 7, 8, 9, 10, 11, 12, 13] (by decide +kernel) (by decide +kernel)
set_option maxRecDepth 20000 in
theorem gX3_writtenIn_X3_isWritten : GoodIn wsX3_writtenIn (va_wsS RX3 63 yX3_isWritten wsX3_isWritten) := goodIn_app (goodIn_of _ (by decide +kernel)) ggX3_writtenIn_X3_isWritten
theorem dX3_writtenIn_0 : decode cX3_writtenIn 0 = .ok (.iconst 0, 1) := by decide +kernel
theorem dX3_writtenIn_1 : decode cX3_writtenIn 1 = .ok (.istore_n 1, 1) := by decide +kernel
theorem dX3_writtenIn_2 : decode cX3_writtenIn 2 = .ok (.iconst 0, 1) := by decide +kernel
theorem dX3_writtenIn_3 : decode cX3_writtenIn 3 = .ok (.istore_n 2, 1) := by decide +kernel
theorem dX3_writtenIn_4 : decode cX3_writtenIn 4 = .ok (.iload_n 2, 1) := by decide +kernel
theorem dX3_writtenIn_5 : decode cX3_writtenIn 5 = .ok (.bipush 8, 2) := by decide +kernel
theorem dX3_writtenIn_7 : decode cX3_writtenIn 7 = .ok (.if_icmp .ge 27, 3) := by decide +kernel
theorem dX3_writtenIn_10 : decode cX3_writtenIn 10 = .ok (.iload_n 1, 1) := by decide +kernel
theorem dX3_writtenIn_11 : decode cX3_writtenIn 11 = .ok (.aload_n 0, 1) := by decide +kernel
theorem dX3_writtenIn_12 : decode cX3_writtenIn 12 = .ok (.iload_n 2, 1) := by decide +kernel
theorem dX3_writtenIn_13 : decode cX3_writtenIn 13 = .ok (.invokestatic 63, 3) := by decide +kernel
theorem dX3_writtenIn_16 : decode cX3_writtenIn 16 = .ok (.ifCond .eq 9, 3) := by decide +kernel
theorem dX3_writtenIn_19 : decode cX3_writtenIn 19 = .ok (.iconst 1, 1) := by decide +kernel
theorem dX3_writtenIn_20 : decode cX3_writtenIn 20 = .ok (.iload_n 2, 1) := by decide +kernel
theorem dX3_writtenIn_21 : decode cX3_writtenIn 21 = .ok (.ishl, 1) := by decide +kernel
theorem dX3_writtenIn_22 : decode cX3_writtenIn 22 = .ok (.goto 4, 3) := by decide +kernel
theorem dX3_writtenIn_25 : decode cX3_writtenIn 25 = .ok (.iconst 0, 1) := by decide +kernel
theorem dX3_writtenIn_26 : decode cX3_writtenIn 26 = .ok (.ior, 1) := by decide +kernel
theorem dX3_writtenIn_27 : decode cX3_writtenIn 27 = .ok (.istore_n 1, 1) := by decide +kernel
theorem dX3_writtenIn_28 : decode cX3_writtenIn 28 = .ok (.iinc 2 1, 3) := by decide +kernel
theorem dX3_writtenIn_31 : decode cX3_writtenIn 31 = .ok (.goto (-27), 3) := by decide +kernel
theorem dX3_writtenIn_34 : decode cX3_writtenIn 34 = .ok (.iload_n 1, 1) := by decide +kernel
theorem dX3_writtenIn_35 : decode cX3_writtenIn 35 = .ok (.ireturn, 1) := by decide +kernel
set_option maxRecDepth 20000 in
theorem ggX3_livingIn_X3_isAlive : GoodIn wsX3_livingIn wsX3_isAlive := goodIn_r _ [4, 5, 6, 3, 7] (by decide +kernel) (by decide +kernel)
set_option maxRecDepth 20000 in
theorem gX3_livingIn_X3_isAlive : GoodIn wsX3_livingIn (va_wsS RX3 55 yX3_isAlive wsX3_isAlive) := goodIn_app (goodIn_of _ (by decide +kernel)) ggX3_livingIn_X3_isAlive
theorem dX3_livingIn_0 : decode cX3_livingIn 0 = .ok (.iconst 0, 1) := by decide +kernel
theorem dX3_livingIn_1 : decode cX3_livingIn 1 = .ok (.istore_n 1, 1) := by decide +kernel
theorem dX3_livingIn_2 : decode cX3_livingIn 2 = .ok (.iconst 0, 1) := by decide +kernel
theorem dX3_livingIn_3 : decode cX3_livingIn 3 = .ok (.istore_n 2, 1) := by decide +kernel
theorem dX3_livingIn_4 : decode cX3_livingIn 4 = .ok (.iload_n 2, 1) := by decide +kernel
theorem dX3_livingIn_5 : decode cX3_livingIn 5 = .ok (.aload_n 0, 1) := by decide +kernel
theorem dX3_livingIn_6 : decode cX3_livingIn 6 = .ok (.iconst 0, 1) := by decide +kernel
theorem dX3_livingIn_7 : decode cX3_livingIn 7 = .ok (.iaload, 1) := by decide +kernel
theorem dX3_livingIn_8 : decode cX3_livingIn 8 = .ok (.if_icmp .ge 27, 3) := by decide +kernel
theorem dX3_livingIn_11 : decode cX3_livingIn 11 = .ok (.iload_n 1, 1) := by decide +kernel
theorem dX3_livingIn_12 : decode cX3_livingIn 12 = .ok (.aload_n 0, 1) := by decide +kernel
theorem dX3_livingIn_13 : decode cX3_livingIn 13 = .ok (.iload_n 2, 1) := by decide +kernel
theorem dX3_livingIn_14 : decode cX3_livingIn 14 = .ok (.invokestatic 55, 3) := by decide +kernel
theorem dX3_livingIn_17 : decode cX3_livingIn 17 = .ok (.ifCond .eq 9, 3) := by decide +kernel
theorem dX3_livingIn_20 : decode cX3_livingIn 20 = .ok (.iconst 1, 1) := by decide +kernel
theorem dX3_livingIn_21 : decode cX3_livingIn 21 = .ok (.iload_n 2, 1) := by decide +kernel
theorem dX3_livingIn_22 : decode cX3_livingIn 22 = .ok (.ishl, 1) := by decide +kernel
theorem dX3_livingIn_23 : decode cX3_livingIn 23 = .ok (.goto 4, 3) := by decide +kernel
theorem dX3_livingIn_26 : decode cX3_livingIn 26 = .ok (.iconst 0, 1) := by decide +kernel
theorem dX3_livingIn_27 : decode cX3_livingIn 27 = .ok (.ior, 1) := by decide +kernel
theorem dX3_livingIn_28 : decode cX3_livingIn 28 = .ok (.istore_n 1, 1) := by decide +kernel
theorem dX3_livingIn_29 : decode cX3_livingIn 29 = .ok (.iinc 2 1, 3) := by decide +kernel
theorem dX3_livingIn_32 : decode cX3_livingIn 32 = .ok (.goto (-28), 3) := by decide +kernel
theorem dX3_livingIn_35 : decode cX3_livingIn 35 = .ok (.iload_n 1, 1) := by decide +kernel
theorem dX3_livingIn_36 : decode cX3_livingIn 36 = .ok (.ireturn, 1) := by decide +kernel
set_option maxRecDepth 20000 in
theorem ggX3_then_X3_of : GoodIn wsX3_then wsX3_of := goodIn_r _ [4] (by decide +kernel) (by decide +kernel)
set_option maxRecDepth 20000 in
theorem gX3_then_X3_of : GoodIn wsX3_then (va_wsS RX3 51 yX3_of wsX3_of) := goodIn_app (goodIn_of _ (by decide +kernel)) ggX3_then_X3_of
set_option maxRecDepth 20000 in
theorem ggX3_then_X3_saying : GoodIn wsX3_then wsX3_saying := goodIn_r _ [7, 8, 9, 3, 10, 1, 2, 4] (by decide +kernel) (by decide +kernel)
set_option maxRecDepth 20000 in
theorem gX3_then_X3_saying : GoodIn wsX3_then (va_wsS RX3 59 yX3_saying wsX3_saying) := goodIn_app (goodIn_of _ (by decide +kernel)) ggX3_then_X3_saying
theorem dX3_then_0 : decode cX3_then 0 = .ok (.aload_n 0, 1) := by decide +kernel
theorem dX3_then_1 : decode cX3_then 1 = .ok (.iload_n 1, 1) := by decide +kernel
theorem dX3_then_2 : decode cX3_then 2 = .ok (.iconst 4, 1) := by decide +kernel
theorem dX3_then_3 : decode cX3_then 3 = .ok (.iload_n 2, 1) := by decide +kernel
theorem dX3_then_4 : decode cX3_then 4 = .ok (.iadd, 1) := by decide +kernel
theorem dX3_then_5 : decode cX3_then 5 = .ok (.invokestatic 51, 3) := by decide +kernel
theorem dX3_then_8 : decode cX3_then 8 = .ok (.iaload, 1) := by decide +kernel
theorem dX3_then_9 : decode cX3_then 9 = .ok (.istore_n 3, 1) := by decide +kernel
theorem dX3_then_10 : decode cX3_then 10 = .ok (.aload_n 0, 1) := by decide +kernel
theorem dX3_then_11 : decode cX3_then 11 = .ok (.iload_n 1, 1) := by decide +kernel
theorem dX3_then_12 : decode cX3_then 12 = .ok (.iconst 1, 1) := by decide +kernel
theorem dX3_then_13 : decode cX3_then 13 = .ok (.invokestatic 51, 3) := by decide +kernel
theorem dX3_then_16 : decode cX3_then 16 = .ok (.iaload, 1) := by decide +kernel
theorem dX3_then_17 : decode cX3_then 17 = .ok (.istore 4, 2) := by decide +kernel
theorem dX3_then_19 : decode cX3_then 19 = .ok (.aload_n 0, 1) := by decide +kernel
theorem dX3_then_20 : decode cX3_then 20 = .ok (.iload_n 2, 1) := by decide +kernel
theorem dX3_then_21 : decode cX3_then 21 = .ok (.iconst 3, 1) := by decide +kernel
theorem dX3_then_22 : decode cX3_then 22 = .ok (.iload_n 3, 1) := by decide +kernel
theorem dX3_then_23 : decode cX3_then 23 = .ok (.isub, 1) := by decide +kernel
theorem dX3_then_24 : decode cX3_then 24 = .ok (.invokestatic 59, 3) := by decide +kernel
theorem dX3_then_27 : decode cX3_then 27 = .ok (.istore 5, 2) := by decide +kernel
theorem dX3_then_29 : decode cX3_then 29 = .ok (.aload_n 0, 1) := by decide +kernel
theorem dX3_then_30 : decode cX3_then 30 = .ok (.iload_n 2, 1) := by decide +kernel
theorem dX3_then_31 : decode cX3_then 31 = .ok (.iload_n 3, 1) := by decide +kernel
theorem dX3_then_32 : decode cX3_then 32 = .ok (.invokestatic 59, 3) := by decide +kernel
theorem dX3_then_35 : decode cX3_then 35 = .ok (.iconst 1, 1) := by decide +kernel
theorem dX3_then_36 : decode cX3_then 36 = .ok (.if_icmp .ne 13, 3) := by decide +kernel
theorem dX3_then_39 : decode cX3_then 39 = .ok (.iload 5, 2) := by decide +kernel
theorem dX3_then_41 : decode cX3_then 41 = .ok (.iconst 2, 1) := by decide +kernel
theorem dX3_then_42 : decode cX3_then 42 = .ok (.if_icmp .lt 7, 3) := by decide +kernel
theorem dX3_then_45 : decode cX3_then 45 = .ok (.iconst 1, 1) := by decide +kernel
theorem dX3_then_46 : decode cX3_then 46 = .ok (.goto 4, 3) := by decide +kernel
theorem dX3_then_49 : decode cX3_then 49 = .ok (.iconst 0, 1) := by decide +kernel
theorem dX3_then_50 : decode cX3_then 50 = .ok (.istore 6, 2) := by decide +kernel
theorem dX3_then_52 : decode cX3_then 52 = .ok (.aload_n 0, 1) := by decide +kernel
theorem dX3_then_53 : decode cX3_then 53 = .ok (.iload_n 1, 1) := by decide +kernel
theorem dX3_then_54 : decode cX3_then 54 = .ok (.iconst 0, 1) := by decide +kernel
theorem dX3_then_55 : decode cX3_then 55 = .ok (.invokestatic 51, 3) := by decide +kernel
theorem dX3_then_58 : decode cX3_then 58 = .ok (.iaload, 1) := by decide +kernel
theorem dX3_then_59 : decode cX3_then 59 = .ok (.tableswitch 105 1 5 #[33, 55, 57, 70, 94], 33) := by decide +kernel
theorem dX3_then_92 : decode cX3_then 92 = .ok (.aload_n 0, 1) := by decide +kernel
theorem dX3_then_93 : decode cX3_then 93 = .ok (.iconst 1, 1) := by decide +kernel
theorem dX3_then_94 : decode cX3_then 94 = .ok (.iaload, 1) := by decide +kernel
theorem dX3_then_95 : decode cX3_then 95 = .ok (.iload 4, 2) := by decide +kernel
theorem dX3_then_97 : decode cX3_then 97 = .ok (.iconst 1, 1) := by decide +kernel
theorem dX3_then_98 : decode cX3_then 98 = .ok (.iadd, 1) := by decide +kernel
theorem dX3_then_99 : decode cX3_then 99 = .ok (.irem, 1) := by decide +kernel
theorem dX3_then_100 : decode cX3_then 100 = .ok (.ifCond .eq 8, 3) := by decide +kernel
theorem dX3_then_103 : decode cX3_then 103 = .ok (.iload 6, 2) := by decide +kernel
theorem dX3_then_105 : decode cX3_then 105 = .ok (.ifCond .eq 7, 3) := by decide +kernel
theorem dX3_then_108 : decode cX3_then 108 = .ok (.iconst 0, 1) := by decide +kernel
theorem dX3_then_109 : decode cX3_then 109 = .ok (.goto 4, 3) := by decide +kernel
theorem dX3_then_112 : decode cX3_then 112 = .ok (.iload_n 3, 1) := by decide +kernel
theorem dX3_then_113 : decode cX3_then 113 = .ok (.ireturn, 1) := by decide +kernel
theorem dX3_then_114 : decode cX3_then 114 = .ok (.iload_n 3, 1) := by decide +kernel
theorem dX3_then_115 : decode cX3_then 115 = .ok (.ireturn, 1) := by decide +kernel
theorem dX3_then_116 : decode cX3_then 116 = .ok (.iload 6, 2) := by decide +kernel
theorem dX3_then_118 : decode cX3_then 118 = .ok (.ifCond .eq 9, 3) := by decide +kernel
theorem dX3_then_121 : decode cX3_then 121 = .ok (.iconst 3, 1) := by decide +kernel
theorem dX3_then_122 : decode cX3_then 122 = .ok (.iload_n 3, 1) := by decide +kernel
theorem dX3_then_123 : decode cX3_then 123 = .ok (.isub, 1) := by decide +kernel
theorem dX3_then_124 : decode cX3_then 124 = .ok (.goto 4, 3) := by decide +kernel
theorem dX3_then_127 : decode cX3_then 127 = .ok (.iload_n 3, 1) := by decide +kernel
theorem dX3_then_128 : decode cX3_then 128 = .ok (.ireturn, 1) := by decide +kernel
theorem dX3_then_129 : decode cX3_then 129 = .ok (.aload_n 0, 1) := by decide +kernel
theorem dX3_then_130 : decode cX3_then 130 = .ok (.iconst 1, 1) := by decide +kernel
theorem dX3_then_131 : decode cX3_then 131 = .ok (.iaload, 1) := by decide +kernel
theorem dX3_then_132 : decode cX3_then 132 = .ok (.iload 4, 2) := by decide +kernel
theorem dX3_then_134 : decode cX3_then 134 = .ok (.iconst 2, 1) := by decide +kernel
theorem dX3_then_135 : decode cX3_then 135 = .ok (.iadd, 1) := by decide +kernel
theorem dX3_then_136 : decode cX3_then 136 = .ok (.irem, 1) := by decide +kernel
theorem dX3_then_137 : decode cX3_then 137 = .ok (.ifCond .eq 8, 3) := by decide +kernel
theorem dX3_then_140 : decode cX3_then 140 = .ok (.iload 6, 2) := by decide +kernel
theorem dX3_then_142 : decode cX3_then 142 = .ok (.ifCond .eq 9, 3) := by decide +kernel
theorem dX3_then_145 : decode cX3_then 145 = .ok (.iconst 3, 1) := by decide +kernel
theorem dX3_then_146 : decode cX3_then 146 = .ok (.iload_n 3, 1) := by decide +kernel
theorem dX3_then_147 : decode cX3_then 147 = .ok (.isub, 1) := by decide +kernel
theorem dX3_then_148 : decode cX3_then 148 = .ok (.goto 4, 3) := by decide +kernel
theorem dX3_then_151 : decode cX3_then 151 = .ok (.iload_n 3, 1) := by decide +kernel
theorem dX3_then_152 : decode cX3_then 152 = .ok (.ireturn, 1) := by decide +kernel
theorem dX3_then_153 : decode cX3_then 153 = .ok (.iload 5, 2) := by decide +kernel
theorem dX3_then_155 : decode cX3_then 155 = .ok (.ifCond .ne 7, 3) := by decide +kernel
theorem dX3_then_158 : decode cX3_then 158 = .ok (.iconst 0, 1) := by decide +kernel
theorem dX3_then_159 : decode cX3_then 159 = .ok (.goto 4, 3) := by decide +kernel
theorem dX3_then_162 : decode cX3_then 162 = .ok (.iload_n 3, 1) := by decide +kernel
theorem dX3_then_163 : decode cX3_then 163 = .ok (.ireturn, 1) := by decide +kernel
theorem dX3_then_164 : decode cX3_then 164 = .ok (.iload 6, 2) := by decide +kernel
theorem dX3_then_166 : decode cX3_then 166 = .ok (.ifCond .eq 7, 3) := by decide +kernel
theorem dX3_then_169 : decode cX3_then 169 = .ok (.iconst 0, 1) := by decide +kernel
theorem dX3_then_170 : decode cX3_then 170 = .ok (.goto 4, 3) := by decide +kernel
theorem dX3_then_173 : decode cX3_then 173 = .ok (.iload_n 3, 1) := by decide +kernel
theorem dX3_then_174 : decode cX3_then 174 = .ok (.ireturn, 1) := by decide +kernel
set_option maxRecDepth 20000 in
theorem ggX3_year_X3_isAlive : GoodIn wsX3_year wsX3_isAlive := goodIn_r _ [4, 5, 6, 3, 7] (by decide +kernel) (by decide +kernel)
set_option maxRecDepth 20000 in
theorem gX3_year_X3_isAlive : GoodIn wsX3_year (va_wsS RX3 55 yX3_isAlive wsX3_isAlive) := goodIn_app (goodIn_of _ (by decide +kernel)) ggX3_year_X3_isAlive
set_option maxRecDepth 20000 in
theorem ggX3_year_X3_of : GoodIn wsX3_year wsX3_of := goodIn_r _ [7] (by decide +kernel) (by decide +kernel)
set_option maxRecDepth 20000 in
theorem gX3_year_X3_of : GoodIn wsX3_year (va_wsS RX3 51 yX3_of wsX3_of) := goodIn_app (goodIn_of _ (by decide +kernel)) ggX3_year_X3_of
set_option maxRecDepth 20000 in
theorem ggX3_year_X3_least : GoodIn wsX3_year wsX3_least := goodIn_r _ [10] (by decide +kernel) (by decide +kernel)
set_option maxRecDepth 20000 in
theorem gX3_year_X3_least : GoodIn wsX3_year (va_wsS RX3 66 yX3_least wsX3_least) := goodIn_app (goodIn_of _ (by decide +kernel)) ggX3_year_X3_least
set_option maxRecDepth 20000 in
theorem ggX3_year_X3_life : GoodIn wsX3_year wsX3_life := goodIn_r _ [13] (by decide +kernel) (by decide +kernel)
set_option maxRecDepth 20000 in
theorem gX3_year_X3_life : GoodIn wsX3_year (va_wsS RX3 69 yX3_life wsX3_life) := goodIn_app (goodIn_of _ (by decide +kernel)) ggX3_year_X3_life
set_option maxRecDepth 20000 in
theorem ggX3_year_X3_then : GoodIn wsX3_year wsX3_then := goodIn_r _ [16, 5, 6, 3, 7, 17, 18, 19, 1, 2, 4] (by decide +kernel) (by decide +kernel)
set_option maxRecDepth 20000 in
theorem gX3_year_X3_then : GoodIn wsX3_year (va_wsS RX3 72 yX3_then wsX3_then) := goodIn_app (goodIn_of _ (by decide +kernel)) ggX3_year_X3_then
theorem dX3_year_0 : decode cX3_year 0 = .ok (.iconst 1, 1) := by decide +kernel
theorem dX3_year_1 : decode cX3_year 1 = .ok (.istore_n 1, 1) := by decide +kernel
theorem dX3_year_2 : decode cX3_year 2 = .ok (.aload_n 0, 1) := by decide +kernel
theorem dX3_year_3 : decode cX3_year 3 = .ok (.iconst 1, 1) := by decide +kernel
theorem dX3_year_4 : decode cX3_year 4 = .ok (.dup2, 1) := by decide +kernel
theorem dX3_year_5 : decode cX3_year 5 = .ok (.iaload, 1) := by decide +kernel
theorem dX3_year_6 : decode cX3_year 6 = .ok (.iconst 1, 1) := by decide +kernel
theorem dX3_year_7 : decode cX3_year 7 = .ok (.iadd, 1) := by decide +kernel
theorem dX3_year_8 : decode cX3_year 8 = .ok (.iastore, 1) := by decide +kernel
theorem dX3_year_9 : decode cX3_year 9 = .ok (.iconst 0, 1) := by decide +kernel
theorem dX3_year_10 : decode cX3_year 10 = .ok (.istore_n 2, 1) := by decide +kernel
theorem dX3_year_11 : decode cX3_year 11 = .ok (.iload_n 2, 1) := by decide +kernel
theorem dX3_year_12 : decode cX3_year 12 = .ok (.aload_n 0, 1) := by decide +kernel
theorem dX3_year_13 : decode cX3_year 13 = .ok (.iconst 0, 1) := by decide +kernel
theorem dX3_year_14 : decode cX3_year 14 = .ok (.iaload, 1) := by decide +kernel
theorem dX3_year_15 : decode cX3_year 15 = .ok (.if_icmp .ge 81, 3) := by decide +kernel
theorem dX3_year_18 : decode cX3_year 18 = .ok (.aload_n 0, 1) := by decide +kernel
theorem dX3_year_19 : decode cX3_year 19 = .ok (.iload_n 2, 1) := by decide +kernel
theorem dX3_year_20 : decode cX3_year 20 = .ok (.invokestatic 55, 3) := by decide +kernel
theorem dX3_year_23 : decode cX3_year 23 = .ok (.ifCond .ne 6, 3) := by decide +kernel
theorem dX3_year_26 : decode cX3_year 26 = .ok (.goto 64, 3) := by decide +kernel
theorem dX3_year_29 : decode cX3_year 29 = .ok (.aload_n 0, 1) := by decide +kernel
theorem dX3_year_30 : decode cX3_year 30 = .ok (.iload_n 2, 1) := by decide +kernel
theorem dX3_year_31 : decode cX3_year 31 = .ok (.iconst 2, 1) := by decide +kernel
theorem dX3_year_32 : decode cX3_year 32 = .ok (.invokestatic 51, 3) := by decide +kernel
theorem dX3_year_35 : decode cX3_year 35 = .ok (.bipush 99, 2) := by decide +kernel
theorem dX3_year_37 : decode cX3_year 37 = .ok (.aload_n 0, 1) := by decide +kernel
theorem dX3_year_38 : decode cX3_year 38 = .ok (.iload_n 2, 1) := by decide +kernel
theorem dX3_year_39 : decode cX3_year 39 = .ok (.iconst 2, 1) := by decide +kernel
theorem dX3_year_40 : decode cX3_year 40 = .ok (.invokestatic 51, 3) := by decide +kernel
theorem dX3_year_43 : decode cX3_year 43 = .ok (.iaload, 1) := by decide +kernel
theorem dX3_year_44 : decode cX3_year 44 = .ok (.iconst 1, 1) := by decide +kernel
theorem dX3_year_45 : decode cX3_year 45 = .ok (.iadd, 1) := by decide +kernel
theorem dX3_year_46 : decode cX3_year 46 = .ok (.invokestatic 66, 3) := by decide +kernel
theorem dX3_year_49 : decode cX3_year 49 = .ok (.iastore, 1) := by decide +kernel
theorem dX3_year_50 : decode cX3_year 50 = .ok (.aload_n 0, 1) := by decide +kernel
theorem dX3_year_51 : decode cX3_year 51 = .ok (.iload_n 2, 1) := by decide +kernel
theorem dX3_year_52 : decode cX3_year 52 = .ok (.iconst 2, 1) := by decide +kernel
theorem dX3_year_53 : decode cX3_year 53 = .ok (.invokestatic 51, 3) := by decide +kernel
theorem dX3_year_56 : decode cX3_year 56 = .ok (.iaload, 1) := by decide +kernel
theorem dX3_year_57 : decode cX3_year 57 = .ok (.aload_n 0, 1) := by decide +kernel
theorem dX3_year_58 : decode cX3_year 58 = .ok (.iload_n 2, 1) := by decide +kernel
theorem dX3_year_59 : decode cX3_year 59 = .ok (.iconst 0, 1) := by decide +kernel
theorem dX3_year_60 : decode cX3_year 60 = .ok (.invokestatic 51, 3) := by decide +kernel
theorem dX3_year_63 : decode cX3_year 63 = .ok (.iaload, 1) := by decide +kernel
theorem dX3_year_64 : decode cX3_year 64 = .ok (.aload_n 0, 1) := by decide +kernel
theorem dX3_year_65 : decode cX3_year 65 = .ok (.iload_n 2, 1) := by decide +kernel
theorem dX3_year_66 : decode cX3_year 66 = .ok (.iconst 1, 1) := by decide +kernel
theorem dX3_year_67 : decode cX3_year 67 = .ok (.invokestatic 51, 3) := by decide +kernel
theorem dX3_year_70 : decode cX3_year 70 = .ok (.iaload, 1) := by decide +kernel
theorem dX3_year_71 : decode cX3_year 71 = .ok (.invokestatic 69, 3) := by decide +kernel
theorem dX3_year_74 : decode cX3_year 74 = .ok (.if_icmp .ge 6, 3) := by decide +kernel
theorem dX3_year_77 : decode cX3_year 77 = .ok (.goto 13, 3) := by decide +kernel
theorem dX3_year_80 : decode cX3_year 80 = .ok (.aload_n 0, 1) := by decide +kernel
theorem dX3_year_81 : decode cX3_year 81 = .ok (.iload_n 2, 1) := by decide +kernel
theorem dX3_year_82 : decode cX3_year 82 = .ok (.iconst 3, 1) := by decide +kernel
theorem dX3_year_83 : decode cX3_year 83 = .ok (.invokestatic 51, 3) := by decide +kernel
theorem dX3_year_86 : decode cX3_year 86 = .ok (.iconst 1, 1) := by decide +kernel
theorem dX3_year_87 : decode cX3_year 87 = .ok (.iastore, 1) := by decide +kernel
theorem dX3_year_88 : decode cX3_year 88 = .ok (.iconst 0, 1) := by decide +kernel
theorem dX3_year_89 : decode cX3_year 89 = .ok (.istore_n 1, 1) := by decide +kernel
theorem dX3_year_90 : decode cX3_year 90 = .ok (.iinc 2 1, 3) := by decide +kernel
theorem dX3_year_93 : decode cX3_year 93 = .ok (.goto (-82), 3) := by decide +kernel
theorem dX3_year_96 : decode cX3_year 96 = .ok (.iconst 0, 1) := by decide +kernel
theorem dX3_year_97 : decode cX3_year 97 = .ok (.istore_n 2, 1) := by decide +kernel
theorem dX3_year_98 : decode cX3_year 98 = .ok (.iload_n 2, 1) := by decide +kernel
theorem dX3_year_99 : decode cX3_year 99 = .ok (.aload_n 0, 1) := by decide +kernel
theorem dX3_year_100 : decode cX3_year 100 = .ok (.iconst 0, 1) := by decide +kernel
theorem dX3_year_101 : decode cX3_year 101 = .ok (.iaload, 1) := by decide +kernel
theorem dX3_year_102 : decode cX3_year 102 = .ok (.if_icmp .ge 87, 3) := by decide +kernel
theorem dX3_year_105 : decode cX3_year 105 = .ok (.iconst 0, 1) := by decide +kernel
theorem dX3_year_106 : decode cX3_year 106 = .ok (.istore_n 3, 1) := by decide +kernel
theorem dX3_year_107 : decode cX3_year 107 = .ok (.iload_n 3, 1) := by decide +kernel
theorem dX3_year_108 : decode cX3_year 108 = .ok (.bipush 8, 2) := by decide +kernel
theorem dX3_year_110 : decode cX3_year 110 = .ok (.if_icmp .ge 73, 3) := by decide +kernel
theorem dX3_year_113 : decode cX3_year 113 = .ok (.aload_n 0, 1) := by decide +kernel
theorem dX3_year_114 : decode cX3_year 114 = .ok (.iload_n 2, 1) := by decide +kernel
theorem dX3_year_115 : decode cX3_year 115 = .ok (.invokestatic 55, 3) := by decide +kernel
theorem dX3_year_118 : decode cX3_year 118 = .ok (.ifCond .eq 59, 3) := by decide +kernel
theorem dX3_year_121 : decode cX3_year 121 = .ok (.aload_n 0, 1) := by decide +kernel
theorem dX3_year_122 : decode cX3_year 122 = .ok (.iload_n 2, 1) := by decide +kernel
theorem dX3_year_123 : decode cX3_year 123 = .ok (.iconst 4, 1) := by decide +kernel
theorem dX3_year_124 : decode cX3_year 124 = .ok (.iload_n 3, 1) := by decide +kernel
theorem dX3_year_125 : decode cX3_year 125 = .ok (.iadd, 1) := by decide +kernel
theorem dX3_year_126 : decode cX3_year 126 = .ok (.invokestatic 51, 3) := by decide +kernel
theorem dX3_year_129 : decode cX3_year 129 = .ok (.iaload, 1) := by decide +kernel
theorem dX3_year_130 : decode cX3_year 130 = .ok (.ifCond .ne 6, 3) := by decide +kernel
theorem dX3_year_133 : decode cX3_year 133 = .ok (.goto 44, 3) := by decide +kernel
theorem dX3_year_136 : decode cX3_year 136 = .ok (.aload_n 0, 1) := by decide +kernel
theorem dX3_year_137 : decode cX3_year 137 = .ok (.iload_n 2, 1) := by decide +kernel
theorem dX3_year_138 : decode cX3_year 138 = .ok (.iload_n 3, 1) := by decide +kernel
theorem dX3_year_139 : decode cX3_year 139 = .ok (.invokestatic 72, 3) := by decide +kernel
theorem dX3_year_142 : decode cX3_year 142 = .ok (.istore 4, 2) := by decide +kernel
theorem dX3_year_144 : decode cX3_year 144 = .ok (.iload_n 1, 1) := by decide +kernel
theorem dX3_year_145 : decode cX3_year 145 = .ok (.iload 4, 2) := by decide +kernel
theorem dX3_year_147 : decode cX3_year 147 = .ok (.aload_n 0, 1) := by decide +kernel
theorem dX3_year_148 : decode cX3_year 148 = .ok (.iload_n 2, 1) := by decide +kernel
theorem dX3_year_149 : decode cX3_year 149 = .ok (.iconst 4, 1) := by decide +kernel
theorem dX3_year_150 : decode cX3_year 150 = .ok (.iload_n 3, 1) := by decide +kernel
theorem dX3_year_151 : decode cX3_year 151 = .ok (.iadd, 1) := by decide +kernel
theorem dX3_year_152 : decode cX3_year 152 = .ok (.invokestatic 51, 3) := by decide +kernel
theorem dX3_year_155 : decode cX3_year 155 = .ok (.iaload, 1) := by decide +kernel
theorem dX3_year_156 : decode cX3_year 156 = .ok (.if_icmp .ne 7, 3) := by decide +kernel
theorem dX3_year_159 : decode cX3_year 159 = .ok (.iconst 1, 1) := by decide +kernel
theorem dX3_year_160 : decode cX3_year 160 = .ok (.goto 4, 3) := by decide +kernel
theorem dX3_year_163 : decode cX3_year 163 = .ok (.iconst 0, 1) := by decide +kernel
theorem dX3_year_164 : decode cX3_year 164 = .ok (.iand, 1) := by decide +kernel
theorem dX3_year_165 : decode cX3_year 165 = .ok (.istore_n 1, 1) := by decide +kernel
theorem dX3_year_166 : decode cX3_year 166 = .ok (.aload_n 0, 1) := by decide +kernel
theorem dX3_year_167 : decode cX3_year 167 = .ok (.iload_n 2, 1) := by decide +kernel
theorem dX3_year_168 : decode cX3_year 168 = .ok (.iconst 4, 1) := by decide +kernel
theorem dX3_year_169 : decode cX3_year 169 = .ok (.iload_n 3, 1) := by decide +kernel
theorem dX3_year_170 : decode cX3_year 170 = .ok (.iadd, 1) := by decide +kernel
theorem dX3_year_171 : decode cX3_year 171 = .ok (.invokestatic 51, 3) := by decide +kernel
theorem dX3_year_174 : decode cX3_year 174 = .ok (.iload 4, 2) := by decide +kernel
theorem dX3_year_176 : decode cX3_year 176 = .ok (.iastore, 1) := by decide +kernel
theorem dX3_year_177 : decode cX3_year 177 = .ok (.iinc 3 1, 3) := by decide +kernel
theorem dX3_year_180 : decode cX3_year 180 = .ok (.goto (-73), 3) := by decide +kernel
theorem dX3_year_183 : decode cX3_year 183 = .ok (.iinc 2 1, 3) := by decide +kernel
theorem dX3_year_186 : decode cX3_year 186 = .ok (.goto (-88), 3) := by decide +kernel
theorem dX3_year_189 : decode cX3_year 189 = .ok (.iload_n 1, 1) := by decide +kernel
theorem dX3_year_190 : decode cX3_year 190 = .ok (.ireturn, 1) := by decide +kernel
set_option maxRecDepth 20000 in
theorem ggX3_yearsOn_X3_year : GoodIn wsX3_yearsOn wsX3_year := goodIn_r _ [4, 5, 6, 3, 7, 8, 9, 10, 11, 12, 13, 14, 15, 16, 17, 18, 19, 20, 21, 22] (by decide +kernel) (by decide +kernel)
set_option maxRecDepth 20000 in
theorem gX3_yearsOn_X3_year : GoodIn wsX3_yearsOn (va_wsS RX3 75 yX3_year wsX3_year) := goodIn_app (goodIn_of _ (by decide +kernel)) ggX3_yearsOn_X3_year
theorem dX3_yearsOn_0 : decode cX3_yearsOn 0 = .ok (.iconst 0, 1) := by decide +kernel
theorem dX3_yearsOn_1 : decode cX3_yearsOn 1 = .ok (.istore_n 2, 1) := by decide +kernel
theorem dX3_yearsOn_2 : decode cX3_yearsOn 2 = .ok (.iload_n 2, 1) := by decide +kernel
theorem dX3_yearsOn_3 : decode cX3_yearsOn 3 = .ok (.iload_n 1, 1) := by decide +kernel
theorem dX3_yearsOn_4 : decode cX3_yearsOn 4 = .ok (.if_icmp .ge 14, 3) := by decide +kernel
theorem dX3_yearsOn_7 : decode cX3_yearsOn 7 = .ok (.aload_n 0, 1) := by decide +kernel
theorem dX3_yearsOn_8 : decode cX3_yearsOn 8 = .ok (.invokestatic 75, 3) := by decide +kernel
theorem dX3_yearsOn_11 : decode cX3_yearsOn 11 = .ok (.istore_n 3, 1) := by decide +kernel
theorem dX3_yearsOn_12 : decode cX3_yearsOn 12 = .ok (.iinc 2 1, 3) := by decide +kernel
theorem dX3_yearsOn_15 : decode cX3_yearsOn 15 = .ok (.goto (-13), 3) := by decide +kernel
theorem dX3_yearsOn_18 : decode cX3_yearsOn 18 = .ok (.return_, 1) := by decide +kernel
set_option maxRecDepth 20000 in
theorem ggX3_writtenBehind_X3_yearsOn : GoodIn wsX3_writtenBehind wsX3_yearsOn := goodIn_r _ [5, 6, 7, 4, 8, 9, 10, 11, 12, 13, 14, 15, 16, 17, 18, 19, 20, 21, 22, 23, 24, 25, 26] (by decide +kernel) (by decide +kernel)
set_option maxRecDepth 20000 in
theorem gX3_writtenBehind_X3_yearsOn : GoodIn wsX3_writtenBehind (va_wsS RX3 79 yX3_yearsOn wsX3_yearsOn) := goodIn_app (goodIn_of _ (by decide +kernel)) ggX3_writtenBehind_X3_yearsOn
set_option maxRecDepth 20000 in
theorem ggX3_writtenBehind_X3_writtenIn : GoodIn wsX3_writtenBehind wsX3_writtenIn := goodIn_r _ [29, 30, 31, 4, 32, 24, 25, 26, 9, 10, 11, 12, 13, 14] (by decide +kernel) (by decide +kernel)
set_option maxRecDepth 20000 in
theorem gX3_writtenBehind_X3_writtenIn : GoodIn wsX3_writtenBehind (va_wsS RX3 83 yX3_writtenIn wsX3_writtenIn) := goodIn_app (goodIn_of _ (by decide +kernel)) ggX3_writtenBehind_X3_writtenIn
set_option maxRecDepth 20000 in
theorem ggX3_writtenBehind_X3_bits : GoodIn wsX3_writtenBehind wsX3_bits := goodIn_r _ [35] (by decide +kernel) (by decide +kernel)
set_option maxRecDepth 20000 in
theorem gX3_writtenBehind_X3_bits : GoodIn wsX3_writtenBehind (va_wsS RX3 87 yX3_bits wsX3_bits) := goodIn_app (goodIn_of _ (by decide +kernel)) ggX3_writtenBehind_X3_bits
theorem dX3_writtenBehind_0 : decode cX3_writtenBehind 0 = .ok (.aload_n 0, 1) := by decide +kernel
theorem dX3_writtenBehind_1 : decode cX3_writtenBehind 1 = .ok (.getfield 13, 3) := by decide +kernel
theorem dX3_writtenBehind_4 : decode cX3_writtenBehind 4 = .ok (.iload_n 1, 1) := by decide +kernel
theorem dX3_writtenBehind_5 : decode cX3_writtenBehind 5 = .ok (.invokestatic 79, 3) := by decide +kernel
theorem dX3_writtenBehind_8 : decode cX3_writtenBehind 8 = .ok (.aload_n 0, 1) := by decide +kernel
theorem dX3_writtenBehind_9 : decode cX3_writtenBehind 9 = .ok (.getfield 13, 3) := by decide +kernel
theorem dX3_writtenBehind_12 : decode cX3_writtenBehind 12 = .ok (.invokestatic 83, 3) := by decide +kernel
theorem dX3_writtenBehind_15 : decode cX3_writtenBehind 15 = .ok (.invokestatic 87, 3) := by decide +kernel
theorem dX3_writtenBehind_18 : decode cX3_writtenBehind 18 = .ok (.ireturn, 1) := by decide +kernel
set_option maxRecDepth 20000 in
theorem ggX3_letter_X3_no : GoodIn wsX3_letter wsX3_no := goodIn_r _ [7, 8, 9, 10, 11, 12, 13, 14, 15, 16, 17, 18, 19, 20, 21, 22, 23] (by decide +kernel) (by decide +kernel)
set_option maxRecDepth 20000 in
theorem gX3_letter_X3_no : GoodIn wsX3_letter (wsV RX3 39 RX3 yX3_no wsX3_no) := goodIn_app (goodIn_of _ (by decide +kernel)) ggX3_letter_X3_no
theorem dX3_letter_0 : decode cX3_letter 0 = .ok (.iload_n 1, 1) := by decide +kernel
theorem dX3_letter_1 : decode cX3_letter 1 = .ok (.ifCond .ge 10, 3) := by decide +kernel
theorem dX3_letter_4 : decode cX3_letter 4 = .ok (.aload_n 0, 1) := by decide +kernel
theorem dX3_letter_5 : decode cX3_letter 5 = .ok (.bipush (-4), 2) := by decide +kernel
theorem dX3_letter_7 : decode cX3_letter 7 = .ok (.invokevirtual 39, 3) := by decide +kernel
theorem dX3_letter_10 : decode cX3_letter 10 = .ok (.ireturn, 1) := by decide +kernel
theorem dX3_letter_11 : decode cX3_letter 11 = .ok (.iload_n 1, 1) := by decide +kernel
theorem dX3_letter_12 : decode cX3_letter 12 = .ok (.sipush 255, 3) := by decide +kernel
theorem dX3_letter_15 : decode cX3_letter 15 = .ok (.if_icmp .gt 12, 3) := by decide +kernel
theorem dX3_letter_18 : decode cX3_letter 18 = .ok (.aload_n 0, 1) := by decide +kernel
theorem dX3_letter_19 : decode cX3_letter 19 = .ok (.getfield 90, 3) := by decide +kernel
theorem dX3_letter_22 : decode cX3_letter 22 = .ok (.bipush 96, 2) := by decide +kernel
theorem dX3_letter_24 : decode cX3_letter 24 = .ok (.if_icmp .ne 10, 3) := by decide +kernel
theorem dX3_letter_27 : decode cX3_letter 27 = .ok (.aload_n 0, 1) := by decide +kernel
theorem dX3_letter_28 : decode cX3_letter 28 = .ok (.bipush (-6), 2) := by decide +kernel
theorem dX3_letter_30 : decode cX3_letter 30 = .ok (.invokevirtual 39, 3) := by decide +kernel
theorem dX3_letter_33 : decode cX3_letter 33 = .ok (.ireturn, 1) := by decide +kernel
theorem dX3_letter_34 : decode cX3_letter 34 = .ok (.aload_n 0, 1) := by decide +kernel
theorem dX3_letter_35 : decode cX3_letter 35 = .ok (.getfield 22, 3) := by decide +kernel
theorem dX3_letter_38 : decode cX3_letter 38 = .ok (.aload_n 0, 1) := by decide +kernel
theorem dX3_letter_39 : decode cX3_letter 39 = .ok (.getfield 90, 3) := by decide +kernel
theorem dX3_letter_42 : decode cX3_letter 42 = .ok (.iload_n 1, 1) := by decide +kernel
theorem dX3_letter_43 : decode cX3_letter 43 = .ok (.iastore, 1) := by decide +kernel
theorem dX3_letter_44 : decode cX3_letter 44 = .ok (.aload_n 0, 1) := by decide +kernel
theorem dX3_letter_45 : decode cX3_letter 45 = .ok (.dup, 1) := by decide +kernel
theorem dX3_letter_46 : decode cX3_letter 46 = .ok (.getfield 90, 3) := by decide +kernel
theorem dX3_letter_49 : decode cX3_letter 49 = .ok (.iconst 1, 1) := by decide +kernel
theorem dX3_letter_50 : decode cX3_letter 50 = .ok (.iadd, 1) := by decide +kernel
theorem dX3_letter_51 : decode cX3_letter 51 = .ok (.putfield 90, 3) := by decide +kernel
theorem dX3_letter_54 : decode cX3_letter 54 = .ok (.aload_n 0, 1) := by decide +kernel
theorem dX3_letter_55 : decode cX3_letter 55 = .ok (.getfield 90, 3) := by decide +kernel
theorem dX3_letter_58 : decode cX3_letter 58 = .ok (.ireturn, 1) := by decide +kernel
theorem dX3_here_0 : decode cX3_here 0 = .ok (.aload_n 0, 1) := by decide +kernel
theorem dX3_here_1 : decode cX3_here 1 = .ok (.getfield 94, 3) := by decide +kernel
theorem dX3_here_4 : decode cX3_here 4 = .ok (.aload_n 0, 1) := by decide +kernel
theorem dX3_here_5 : decode cX3_here 5 = .ok (.getfield 90, 3) := by decide +kernel
theorem dX3_here_8 : decode cX3_here 8 = .ok (.if_icmp .ge 15, 3) := by decide +kernel
theorem dX3_here_11 : decode cX3_here 11 = .ok (.aload_n 0, 1) := by decide +kernel
theorem dX3_here_12 : decode cX3_here 12 = .ok (.getfield 22, 3) := by decide +kernel
theorem dX3_here_15 : decode cX3_here 15 = .ok (.aload_n 0, 1) := by decide +kernel
theorem dX3_here_16 : decode cX3_here 16 = .ok (.getfield 94, 3) := by decide +kernel
theorem dX3_here_19 : decode cX3_here 19 = .ok (.iaload, 1) := by decide +kernel
theorem dX3_here_20 : decode cX3_here 20 = .ok (.goto 4, 3) := by decide +kernel
theorem dX3_here_23 : decode cX3_here 23 = .ok (.iconst (-1), 1) := by decide +kernel
theorem dX3_here_24 : decode cX3_here 24 = .ok (.ireturn, 1) := by decide +kernel
set_option maxRecDepth 20000 in
theorem ggX3_isDigit_X3_here : GoodIn wsX3_isDigit wsX3_here := goodIn_r _ [5, 6, 7, 8, 12, 13, 14, 15, 16, 17, 18, 19, 20, 21, 22, 23, 24, 25, 26] (by decide +kernel) (by decide +kernel)
set_option maxRecDepth 20000 in
theorem gX3_isDigit_X3_here : GoodIn wsX3_isDigit (wsV RX3 97 RX3 yX3_here wsX3_here) := goodIn_app (goodIn_of _ (by decide +kernel)) ggX3_isDigit_X3_here
set_option maxRecDepth 20000 in
theorem ggX3_isDigit_X3_isIn : GoodIn wsX3_isDigit wsX3_isIn := goodIn_r _ [11] (by decide +kernel) (by decide +kernel)
set_option maxRecDepth 20000 in
theorem gX3_isDigit_X3_isIn : GoodIn wsX3_isDigit (va_wsS RX3 43 yX3_isIn wsX3_isIn) := goodIn_app (goodIn_of _ (by decide +kernel)) ggX3_isDigit_X3_isIn
theorem dX3_isDigit_0 : decode cX3_isDigit 0 = .ok (.aload_n 0, 1) := by decide +kernel
theorem dX3_isDigit_1 : decode cX3_isDigit 1 = .ok (.invokevirtual 97, 3) := by decide +kernel
theorem dX3_isDigit_4 : decode cX3_isDigit 4 = .ok (.bipush 48, 2) := by decide +kernel
theorem dX3_isDigit_6 : decode cX3_isDigit 6 = .ok (.bipush 57, 2) := by decide +kernel
theorem dX3_isDigit_8 : decode cX3_isDigit 8 = .ok (.invokestatic 43, 3) := by decide +kernel
theorem dX3_isDigit_11 : decode cX3_isDigit 11 = .ok (.ireturn, 1) := by decide +kernel
set_option maxRecDepth 20000 in
theorem ggX3_readsNumber_X3_isDigit : GoodIn wsX3_readsNumber wsX3_isDigit := goodIn_r _ [7, 8, 9, 10, 6, 11, 2, 12, 13, 14, 15, 16, 17, 18, 19, 20, 21, 22, 23, 24, 25, 26, 27, 28, 29, 30, 31] (by decide +kernel) (by decide +kernel)
set_option maxRecDepth 20000 in
theorem gX3_readsNumber_X3_isDigit : GoodIn wsX3_readsNumber (wsV RX3 101 RX3 yX3_isDigit wsX3_isDigit) := goodIn_app (goodIn_of _ (by decide +kernel)) ggX3_readsNumber_X3_isDigit
set_option maxRecDepth 20000 in
theorem ggX3_readsNumber_X3_here : GoodIn wsX3_readsNumber wsX3_here := goodIn_r _ [11, 2, 12, 13, 17, 18, 19, 20, 21, 22, 23, 24, 25, 26, 27, 28, 29, 30, 31] (by decide +kernel) (by decide +kernel)
set_option maxRecDepth 20000 in
theorem gX3_readsNumber_X3_here : GoodIn wsX3_readsNumber (wsV RX3 97 RX3 yX3_here wsX3_here) := goodIn_app (goodIn_of _ (by decide +kernel)) ggX3_readsNumber_X3_here
theorem dX3_readsNumber_0 : decode cX3_readsNumber 0 = .ok (.aload_n 0, 1) := by decide +kernel
theorem dX3_readsNumber_1 : decode cX3_readsNumber 1 = .ok (.getfield 31, 3) := by decide +kernel
theorem dX3_readsNumber_4 : decode cX3_readsNumber 4 = .ok (.iload_n 1, 1) := by decide +kernel
theorem dX3_readsNumber_5 : decode cX3_readsNumber 5 = .ok (.iconst 0, 1) := by decide +kernel
theorem dX3_readsNumber_6 : decode cX3_readsNumber 6 = .ok (.iastore, 1) := by decide +kernel
theorem dX3_readsNumber_7 : decode cX3_readsNumber 7 = .ok (.iconst 0, 1) := by decide +kernel
theorem dX3_readsNumber_8 : decode cX3_readsNumber 8 = .ok (.istore_n 3, 1) := by decide +kernel
theorem dX3_readsNumber_9 : decode cX3_readsNumber 9 = .ok (.iload_n 3, 1) := by decide +kernel
theorem dX3_readsNumber_10 : decode cX3_readsNumber 10 = .ok (.iload_n 2, 1) := by decide +kernel
theorem dX3_readsNumber_11 : decode cX3_readsNumber 11 = .ok (.if_icmp .ge 51, 3) := by decide +kernel
theorem dX3_readsNumber_14 : decode cX3_readsNumber 14 = .ok (.aload_n 0, 1) := by decide +kernel
theorem dX3_readsNumber_15 : decode cX3_readsNumber 15 = .ok (.invokevirtual 101, 3) := by decide +kernel
theorem dX3_readsNumber_18 : decode cX3_readsNumber 18 = .ok (.ifCond .ne 5, 3) := by decide +kernel
theorem dX3_readsNumber_21 : decode cX3_readsNumber 21 = .ok (.iconst 0, 1) := by decide +kernel
theorem dX3_readsNumber_22 : decode cX3_readsNumber 22 = .ok (.ireturn, 1) := by decide +kernel
theorem dX3_readsNumber_23 : decode cX3_readsNumber 23 = .ok (.aload_n 0, 1) := by decide +kernel
theorem dX3_readsNumber_24 : decode cX3_readsNumber 24 = .ok (.getfield 31, 3) := by decide +kernel
theorem dX3_readsNumber_27 : decode cX3_readsNumber 27 = .ok (.iload_n 1, 1) := by decide +kernel
theorem dX3_readsNumber_28 : decode cX3_readsNumber 28 = .ok (.bipush 10, 2) := by decide +kernel
theorem dX3_readsNumber_30 : decode cX3_readsNumber 30 = .ok (.aload_n 0, 1) := by decide +kernel
theorem dX3_readsNumber_31 : decode cX3_readsNumber 31 = .ok (.getfield 31, 3) := by decide +kernel
theorem dX3_readsNumber_34 : decode cX3_readsNumber 34 = .ok (.iload_n 1, 1) := by decide +kernel
theorem dX3_readsNumber_35 : decode cX3_readsNumber 35 = .ok (.iaload, 1) := by decide +kernel
theorem dX3_readsNumber_36 : decode cX3_readsNumber 36 = .ok (.imul, 1) := by decide +kernel
theorem dX3_readsNumber_37 : decode cX3_readsNumber 37 = .ok (.aload_n 0, 1) := by decide +kernel
theorem dX3_readsNumber_38 : decode cX3_readsNumber 38 = .ok (.invokevirtual 97, 3) := by decide +kernel
theorem dX3_readsNumber_41 : decode cX3_readsNumber 41 = .ok (.iadd, 1) := by decide +kernel
theorem dX3_readsNumber_42 : decode cX3_readsNumber 42 = .ok (.bipush 48, 2) := by decide +kernel
theorem dX3_readsNumber_44 : decode cX3_readsNumber 44 = .ok (.isub, 1) := by decide +kernel
theorem dX3_readsNumber_45 : decode cX3_readsNumber 45 = .ok (.iastore, 1) := by decide +kernel
theorem dX3_readsNumber_46 : decode cX3_readsNumber 46 = .ok (.aload_n 0, 1) := by decide +kernel
theorem dX3_readsNumber_47 : decode cX3_readsNumber 47 = .ok (.dup, 1) := by decide +kernel
theorem dX3_readsNumber_48 : decode cX3_readsNumber 48 = .ok (.getfield 94, 3) := by decide +kernel
theorem dX3_readsNumber_51 : decode cX3_readsNumber 51 = .ok (.iconst 1, 1) := by decide +kernel
theorem dX3_readsNumber_52 : decode cX3_readsNumber 52 = .ok (.iadd, 1) := by decide +kernel
theorem dX3_readsNumber_53 : decode cX3_readsNumber 53 = .ok (.putfield 94, 3) := by decide +kernel
theorem dX3_readsNumber_56 : decode cX3_readsNumber 56 = .ok (.iinc 3 1, 3) := by decide +kernel
theorem dX3_readsNumber_59 : decode cX3_readsNumber 59 = .ok (.goto (-50), 3) := by decide +kernel
theorem dX3_readsNumber_62 : decode cX3_readsNumber 62 = .ok (.iconst 1, 1) := by decide +kernel
theorem dX3_readsNumber_63 : decode cX3_readsNumber 63 = .ok (.ireturn, 1) := by decide +kernel
theorem dX3_kindBy_0 : decode cX3_kindBy 0 = .ok (.iload_n 0, 1) := by decide +kernel
theorem dX3_kindBy_1 : decode cX3_kindBy 1 = .ok (.lookupswitch 71 #[(99, 59), (102, 65), (104, 61), (107, 69), (108, 67), (119, 63)], 59) := by decide +kernel
theorem dX3_kindBy_60 : decode cX3_kindBy 60 = .ok (.iconst 0, 1) := by decide +kernel
theorem dX3_kindBy_61 : decode cX3_kindBy 61 = .ok (.ireturn, 1) := by decide +kernel
theorem dX3_kindBy_62 : decode cX3_kindBy 62 = .ok (.iconst 1, 1) := by decide +kernel
theorem dX3_kindBy_63 : decode cX3_kindBy 63 = .ok (.ireturn, 1) := by decide +kernel
theorem dX3_kindBy_64 : decode cX3_kindBy 64 = .ok (.iconst 2, 1) := by decide +kernel
theorem dX3_kindBy_65 : decode cX3_kindBy 65 = .ok (.ireturn, 1) := by decide +kernel
theorem dX3_kindBy_66 : decode cX3_kindBy 66 = .ok (.iconst 3, 1) := by decide +kernel
theorem dX3_kindBy_67 : decode cX3_kindBy 67 = .ok (.ireturn, 1) := by decide +kernel
theorem dX3_kindBy_68 : decode cX3_kindBy 68 = .ok (.iconst 4, 1) := by decide +kernel
theorem dX3_kindBy_69 : decode cX3_kindBy 69 = .ok (.ireturn, 1) := by decide +kernel
theorem dX3_kindBy_70 : decode cX3_kindBy 70 = .ok (.iconst 5, 1) := by decide +kernel
theorem dX3_kindBy_71 : decode cX3_kindBy 71 = .ok (.ireturn, 1) := by decide +kernel
theorem dX3_kindBy_72 : decode cX3_kindBy 72 = .ok (.bipush (-9), 2) := by decide +kernel
theorem dX3_kindBy_74 : decode cX3_kindBy 74 = .ok (.ireturn, 1) := by decide +kernel
set_option maxRecDepth 20000 in
theorem ggX3_readsKind_X3_here : GoodIn wsX3_readsKind wsX3_here := goodIn_r _ [7, 2, 8, 9, 13, 14, 15, 16, 17, 18, 19, 20, 21, 22, 23, 24, 25, 26, 27] (by decide +kernel) (by decide +kernel)
set_option maxRecDepth 20000 in
theorem gX3_readsKind_X3_here : GoodIn wsX3_readsKind (wsV RX3 97 RX3 yX3_here wsX3_here) := goodIn_app (goodIn_of _ (by decide +kernel)) ggX3_readsKind_X3_here
set_option maxRecDepth 20000 in
theorem ggX3_readsKind_X3_kindBy : GoodIn wsX3_readsKind wsX3_kindBy := goodIn_r _ [12] (by decide +kernel) (by decide +kernel)
set_option maxRecDepth 20000 in
theorem gX3_readsKind_X3_kindBy : GoodIn wsX3_readsKind (va_wsS RX3 105 yX3_kindBy wsX3_kindBy) := goodIn_app (goodIn_of _ (by decide +kernel)) ggX3_readsKind_X3_kindBy
theorem dX3_readsKind_0 : decode cX3_readsKind 0 = .ok (.aload_n 0, 1) := by decide +kernel
theorem dX3_readsKind_1 : decode cX3_readsKind 1 = .ok (.getfield 31, 3) := by decide +kernel
theorem dX3_readsKind_4 : decode cX3_readsKind 4 = .ok (.iconst 0, 1) := by decide +kernel
theorem dX3_readsKind_5 : decode cX3_readsKind 5 = .ok (.aload_n 0, 1) := by decide +kernel
theorem dX3_readsKind_6 : decode cX3_readsKind 6 = .ok (.invokevirtual 97, 3) := by decide +kernel
theorem dX3_readsKind_9 : decode cX3_readsKind 9 = .ok (.invokestatic 105, 3) := by decide +kernel
theorem dX3_readsKind_12 : decode cX3_readsKind 12 = .ok (.iastore, 1) := by decide +kernel
theorem dX3_readsKind_13 : decode cX3_readsKind 13 = .ok (.aload_n 0, 1) := by decide +kernel
theorem dX3_readsKind_14 : decode cX3_readsKind 14 = .ok (.dup, 1) := by decide +kernel
theorem dX3_readsKind_15 : decode cX3_readsKind 15 = .ok (.getfield 94, 3) := by decide +kernel
theorem dX3_readsKind_18 : decode cX3_readsKind 18 = .ok (.aload_n 0, 1) := by decide +kernel
theorem dX3_readsKind_19 : decode cX3_readsKind 19 = .ok (.getfield 31, 3) := by decide +kernel
theorem dX3_readsKind_22 : decode cX3_readsKind 22 = .ok (.iconst 0, 1) := by decide +kernel
theorem dX3_readsKind_23 : decode cX3_readsKind 23 = .ok (.iaload, 1) := by decide +kernel
theorem dX3_readsKind_24 : decode cX3_readsKind 24 = .ok (.ifCond .ge 7, 3) := by decide +kernel
theorem dX3_readsKind_27 : decode cX3_readsKind 27 = .ok (.iconst 0, 1) := by decide +kernel
theorem dX3_readsKind_28 : decode cX3_readsKind 28 = .ok (.goto 4, 3) := by decide +kernel
theorem dX3_readsKind_31 : decode cX3_readsKind 31 = .ok (.iconst 1, 1) := by decide +kernel
theorem dX3_readsKind_32 : decode cX3_readsKind 32 = .ok (.iadd, 1) := by decide +kernel
theorem dX3_readsKind_33 : decode cX3_readsKind 33 = .ok (.putfield 94, 3) := by decide +kernel
theorem dX3_readsKind_36 : decode cX3_readsKind 36 = .ok (.aload_n 0, 1) := by decide +kernel
theorem dX3_readsKind_37 : decode cX3_readsKind 37 = .ok (.getfield 31, 3) := by decide +kernel
theorem dX3_readsKind_40 : decode cX3_readsKind 40 = .ok (.iconst 0, 1) := by decide +kernel
theorem dX3_readsKind_41 : decode cX3_readsKind 41 = .ok (.iaload, 1) := by decide +kernel
theorem dX3_readsKind_42 : decode cX3_readsKind 42 = .ok (.ifCond .lt 7, 3) := by decide +kernel
theorem dX3_readsKind_45 : decode cX3_readsKind 45 = .ok (.iconst 1, 1) := by decide +kernel
theorem dX3_readsKind_46 : decode cX3_readsKind 46 = .ok (.goto 4, 3) := by decide +kernel
theorem dX3_readsKind_49 : decode cX3_readsKind 49 = .ok (.iconst 0, 1) := by decide +kernel
theorem dX3_readsKind_50 : decode cX3_readsKind 50 = .ok (.ireturn, 1) := by decide +kernel
set_option maxRecDepth 20000 in
theorem ggX3_readsWords_X3_isDigit : GoodIn wsX3_readsWords wsX3_isDigit := goodIn_r _ [8, 9, 10, 11, 7, 12, 3, 13, 14, 15, 16, 17, 18, 19, 20, 21, 22, 23, 24, 25, 26, 27, 28, 29, 30, 31, 32] (by decide +kernel) (by decide +kernel)
set_option maxRecDepth 20000 in
theorem gX3_readsWords_X3_isDigit : GoodIn wsX3_readsWords (wsV RX3 101 RX3 yX3_isDigit wsX3_isDigit) := goodIn_app (goodIn_of _ (by decide +kernel)) ggX3_readsWords_X3_isDigit
set_option maxRecDepth 20000 in
theorem ggX3_readsWords_X3_here : GoodIn wsX3_readsWords wsX3_here := goodIn_r _ [12, 3, 13, 14, 18, 19, 20, 21, 22, 23, 24, 25, 26, 27, 28, 29, 30, 31, 32] (by decide +kernel) (by decide +kernel)
set_option maxRecDepth 20000 in
theorem gX3_readsWords_X3_here : GoodIn wsX3_readsWords (wsV RX3 97 RX3 yX3_here wsX3_here) := goodIn_app (goodIn_of _ (by decide +kernel)) ggX3_readsWords_X3_here
theorem dX3_readsWords_0 : decode cX3_readsWords 0 = .ok (.aload_n 0, 1) := by decide +kernel
theorem dX3_readsWords_1 : decode cX3_readsWords 1 = .ok (.iconst 0, 1) := by decide +kernel
theorem dX3_readsWords_2 : decode cX3_readsWords 2 = .ok (.putfield 108, 3) := by decide +kernel
theorem dX3_readsWords_5 : decode cX3_readsWords 5 = .ok (.aload_n 0, 1) := by decide +kernel
theorem dX3_readsWords_6 : decode cX3_readsWords 6 = .ok (.getfield 108, 3) := by decide +kernel
theorem dX3_readsWords_9 : decode cX3_readsWords 9 = .ok (.bipush 8, 2) := by decide +kernel
theorem dX3_readsWords_11 : decode cX3_readsWords 11 = .ok (.if_icmp .ge 49, 3) := by decide +kernel
theorem dX3_readsWords_14 : decode cX3_readsWords 14 = .ok (.aload_n 0, 1) := by decide +kernel
theorem dX3_readsWords_15 : decode cX3_readsWords 15 = .ok (.invokevirtual 101, 3) := by decide +kernel
theorem dX3_readsWords_18 : decode cX3_readsWords 18 = .ok (.ifCond .eq 42, 3) := by decide +kernel
theorem dX3_readsWords_21 : decode cX3_readsWords 21 = .ok (.aload_n 0, 1) := by decide +kernel
theorem dX3_readsWords_22 : decode cX3_readsWords 22 = .ok (.getfield 34, 3) := by decide +kernel
theorem dX3_readsWords_25 : decode cX3_readsWords 25 = .ok (.aload_n 0, 1) := by decide +kernel
theorem dX3_readsWords_26 : decode cX3_readsWords 26 = .ok (.getfield 108, 3) := by decide +kernel
theorem dX3_readsWords_29 : decode cX3_readsWords 29 = .ok (.aload_n 0, 1) := by decide +kernel
theorem dX3_readsWords_30 : decode cX3_readsWords 30 = .ok (.invokevirtual 97, 3) := by decide +kernel
theorem dX3_readsWords_33 : decode cX3_readsWords 33 = .ok (.bipush 48, 2) := by decide +kernel
theorem dX3_readsWords_35 : decode cX3_readsWords 35 = .ok (.isub, 1) := by decide +kernel
theorem dX3_readsWords_36 : decode cX3_readsWords 36 = .ok (.iastore, 1) := by decide +kernel
theorem dX3_readsWords_37 : decode cX3_readsWords 37 = .ok (.aload_n 0, 1) := by decide +kernel
theorem dX3_readsWords_38 : decode cX3_readsWords 38 = .ok (.dup, 1) := by decide +kernel
theorem dX3_readsWords_39 : decode cX3_readsWords 39 = .ok (.getfield 108, 3) := by decide +kernel
theorem dX3_readsWords_42 : decode cX3_readsWords 42 = .ok (.iconst 1, 1) := by decide +kernel
theorem dX3_readsWords_43 : decode cX3_readsWords 43 = .ok (.iadd, 1) := by decide +kernel
theorem dX3_readsWords_44 : decode cX3_readsWords 44 = .ok (.putfield 108, 3) := by decide +kernel
theorem dX3_readsWords_47 : decode cX3_readsWords 47 = .ok (.aload_n 0, 1) := by decide +kernel
theorem dX3_readsWords_48 : decode cX3_readsWords 48 = .ok (.dup, 1) := by decide +kernel
theorem dX3_readsWords_49 : decode cX3_readsWords 49 = .ok (.getfield 94, 3) := by decide +kernel
theorem dX3_readsWords_52 : decode cX3_readsWords 52 = .ok (.iconst 1, 1) := by decide +kernel
theorem dX3_readsWords_53 : decode cX3_readsWords 53 = .ok (.iadd, 1) := by decide +kernel
theorem dX3_readsWords_54 : decode cX3_readsWords 54 = .ok (.putfield 94, 3) := by decide +kernel
theorem dX3_readsWords_57 : decode cX3_readsWords 57 = .ok (.goto (-52), 3) := by decide +kernel
theorem dX3_readsWords_60 : decode cX3_readsWords 60 = .ok (.aload_n 0, 1) := by decide +kernel
theorem dX3_readsWords_61 : decode cX3_readsWords 61 = .ok (.getfield 108, 3) := by decide +kernel
theorem dX3_readsWords_64 : decode cX3_readsWords 64 = .ok (.ifCond .le 7, 3) := by decide +kernel
theorem dX3_readsWords_67 : decode cX3_readsWords 67 = .ok (.iconst 1, 1) := by decide +kernel
theorem dX3_readsWords_68 : decode cX3_readsWords 68 = .ok (.goto 4, 3) := by decide +kernel
theorem dX3_readsWords_71 : decode cX3_readsWords 71 = .ok (.iconst 0, 1) := by decide +kernel
theorem dX3_readsWords_72 : decode cX3_readsWords 72 = .ok (.ireturn, 1) := by decide +kernel
set_option maxRecDepth 20000 in
theorem ggX3_readsStatement_X3_here : GoodIn wsX3_readsStatement wsX3_here := goodIn_r _ [6, 1, 7, 8, 34, 35, 36, 37, 38, 39, 40, 41, 42, 43, 44, 45, 46, 47, 48] (by decide +kernel) (by decide +kernel)
set_option maxRecDepth 20000 in
theorem gX3_readsStatement_X3_here : GoodIn wsX3_readsStatement (wsV RX3 97 RX3 yX3_here wsX3_here) := goodIn_app (goodIn_of _ (by decide +kernel)) ggX3_readsStatement_X3_here
set_option maxRecDepth 20000 in
theorem ggX3_readsStatement_X3_readsKind : GoodIn wsX3_readsStatement wsX3_readsKind := goodIn_r _ [12, 13, 1, 2, 3, 4, 5, 6, 7, 8, 14, 15, 16, 34, 35, 36, 37, 38, 39, 40, 41, 42, 43, 44, 45, 46, 47, 48] (by decide +kernel) (by decide +kernel)
set_option maxRecDepth 20000 in
theorem gX3_readsStatement_X3_readsKind : GoodIn wsX3_readsStatement (wsV RX3 111 RX3 yX3_readsKind wsX3_readsKind) := goodIn_app (goodIn_of _ (by decide +kernel)) ggX3_readsStatement_X3_readsKind
set_option maxRecDepth 20000 in
theorem ggX3_readsStatement_X3_readsNumber : GoodIn wsX3_readsStatement wsX3_readsNumber := goodIn_r _ [20, 13, 1, 21, 22, 23, 5, 24, 2, 3, 4, 6, 7, 8, 25, 26, 27, 34, 35, 36, 37, 38, 39, 40, 41, 42, 43, 44, 45, 46, 47, 48] (by decide +kernel) (by decide +kernel)
set_option maxRecDepth 20000 in
theorem gX3_readsStatement_X3_readsNumber : GoodIn wsX3_readsStatement (wsV RX3 114 RX3 yX3_readsNumber wsX3_readsNumber) := goodIn_app (goodIn_of _ (by decide +kernel)) ggX3_readsStatement_X3_readsNumber
set_option maxRecDepth 20000 in
theorem ggX3_readsStatement_X3_readsWords : GoodIn wsX3_readsStatement wsX3_readsWords := goodIn_r _ [31, 32, 33, 1, 21, 22, 23, 5, 24, 2, 3, 4, 6, 7, 8, 25, 26, 27, 34, 35, 36, 37, 38, 39, 40, 41, 42, 43, 44, 45, 46, 47, 48] (by decide +kernel) (by decide +kernel)
set_option maxRecDepth 20000 in
theorem gX3_readsStatement_X3_readsWords : GoodIn wsX3_readsStatement (wsV RX3 118 RX3 yX3_readsWords wsX3_readsWords) := goodIn_app (goodIn_of _ (by decide +kernel)) ggX3_readsStatement_X3_readsWords
theorem dX3_readsStatement_0 : decode cX3_readsStatement 0 = .ok (.aload_n 0, 1) := by decide +kernel
theorem dX3_readsStatement_1 : decode cX3_readsStatement 1 = .ok (.invokevirtual 97, 3) := by decide +kernel
theorem dX3_readsStatement_4 : decode cX3_readsStatement 4 = .ok (.istore_n 1, 1) := by decide +kernel
theorem dX3_readsStatement_5 : decode cX3_readsStatement 5 = .ok (.aload_n 0, 1) := by decide +kernel
theorem dX3_readsStatement_6 : decode cX3_readsStatement 6 = .ok (.dup, 1) := by decide +kernel
theorem dX3_readsStatement_7 : decode cX3_readsStatement 7 = .ok (.getfield 94, 3) := by decide +kernel
theorem dX3_readsStatement_10 : decode cX3_readsStatement 10 = .ok (.iconst 1, 1) := by decide +kernel
theorem dX3_readsStatement_11 : decode cX3_readsStatement 11 = .ok (.iadd, 1) := by decide +kernel
theorem dX3_readsStatement_12 : decode cX3_readsStatement 12 = .ok (.putfield 94, 3) := by decide +kernel
theorem dX3_readsStatement_15 : decode cX3_readsStatement 15 = .ok (.iload_n 1, 1) := by decide +kernel
theorem dX3_readsStatement_16 : decode cX3_readsStatement 16 = .ok (.lookupswitch 175 #[(97, 130), (99, 60), (100, 155), (113, 94), (119, 94), (121, 165)], 60) := by decide +kernel
theorem dX3_readsStatement_76 : decode cX3_readsStatement 76 = .ok (.aload_n 0, 1) := by decide +kernel
theorem dX3_readsStatement_77 : decode cX3_readsStatement 77 = .ok (.invokevirtual 111, 3) := by decide +kernel
theorem dX3_readsStatement_80 : decode cX3_readsStatement 80 = .ok (.ifCond .eq 25, 3) := by decide +kernel
theorem dX3_readsStatement_83 : decode cX3_readsStatement 83 = .ok (.aload_n 0, 1) := by decide +kernel
theorem dX3_readsStatement_84 : decode cX3_readsStatement 84 = .ok (.iconst 1, 1) := by decide +kernel
theorem dX3_readsStatement_85 : decode cX3_readsStatement 85 = .ok (.iconst 1, 1) := by decide +kernel
theorem dX3_readsStatement_86 : decode cX3_readsStatement 86 = .ok (.invokevirtual 114, 3) := by decide +kernel
theorem dX3_readsStatement_89 : decode cX3_readsStatement 89 = .ok (.ifCond .eq 16, 3) := by decide +kernel
theorem dX3_readsStatement_92 : decode cX3_readsStatement 92 = .ok (.aload_n 0, 1) := by decide +kernel
theorem dX3_readsStatement_93 : decode cX3_readsStatement 93 = .ok (.iconst 2, 1) := by decide +kernel
theorem dX3_readsStatement_94 : decode cX3_readsStatement 94 = .ok (.iconst 2, 1) := by decide +kernel
theorem dX3_readsStatement_95 : decode cX3_readsStatement 95 = .ok (.invokevirtual 114, 3) := by decide +kernel
theorem dX3_readsStatement_98 : decode cX3_readsStatement 98 = .ok (.ifCond .eq 7, 3) := by decide +kernel
theorem dX3_readsStatement_101 : decode cX3_readsStatement 101 = .ok (.iconst 1, 1) := by decide +kernel
theorem dX3_readsStatement_102 : decode cX3_readsStatement 102 = .ok (.goto 4, 3) := by decide +kernel
theorem dX3_readsStatement_105 : decode cX3_readsStatement 105 = .ok (.iconst 0, 1) := by decide +kernel
theorem dX3_readsStatement_106 : decode cX3_readsStatement 106 = .ok (.istore_n 2, 1) := by decide +kernel
theorem dX3_readsStatement_107 : decode cX3_readsStatement 107 = .ok (.goto 96, 3) := by decide +kernel
theorem dX3_readsStatement_110 : decode cX3_readsStatement 110 = .ok (.aload_n 0, 1) := by decide +kernel
theorem dX3_readsStatement_111 : decode cX3_readsStatement 111 = .ok (.iconst 0, 1) := by decide +kernel
theorem dX3_readsStatement_112 : decode cX3_readsStatement 112 = .ok (.iconst 1, 1) := by decide +kernel
theorem dX3_readsStatement_113 : decode cX3_readsStatement 113 = .ok (.invokevirtual 114, 3) := by decide +kernel
theorem dX3_readsStatement_116 : decode cX3_readsStatement 116 = .ok (.ifCond .eq 25, 3) := by decide +kernel
theorem dX3_readsStatement_119 : decode cX3_readsStatement 119 = .ok (.aload_n 0, 1) := by decide +kernel
theorem dX3_readsStatement_120 : decode cX3_readsStatement 120 = .ok (.iconst 1, 1) := by decide +kernel
theorem dX3_readsStatement_121 : decode cX3_readsStatement 121 = .ok (.iconst 1, 1) := by decide +kernel
theorem dX3_readsStatement_122 : decode cX3_readsStatement 122 = .ok (.invokevirtual 114, 3) := by decide +kernel
theorem dX3_readsStatement_125 : decode cX3_readsStatement 125 = .ok (.ifCond .eq 16, 3) := by decide +kernel
theorem dX3_readsStatement_128 : decode cX3_readsStatement 128 = .ok (.aload_n 0, 1) := by decide +kernel
theorem dX3_readsStatement_129 : decode cX3_readsStatement 129 = .ok (.iconst 2, 1) := by decide +kernel
theorem dX3_readsStatement_130 : decode cX3_readsStatement 130 = .ok (.iconst 1, 1) := by decide +kernel
theorem dX3_readsStatement_131 : decode cX3_readsStatement 131 = .ok (.invokevirtual 114, 3) := by decide +kernel
theorem dX3_readsStatement_134 : decode cX3_readsStatement 134 = .ok (.ifCond .eq 7, 3) := by decide +kernel
theorem dX3_readsStatement_137 : decode cX3_readsStatement 137 = .ok (.iconst 1, 1) := by decide +kernel
theorem dX3_readsStatement_138 : decode cX3_readsStatement 138 = .ok (.goto 4, 3) := by decide +kernel
theorem dX3_readsStatement_141 : decode cX3_readsStatement 141 = .ok (.iconst 0, 1) := by decide +kernel
theorem dX3_readsStatement_142 : decode cX3_readsStatement 142 = .ok (.istore_n 2, 1) := by decide +kernel
theorem dX3_readsStatement_143 : decode cX3_readsStatement 143 = .ok (.goto 60, 3) := by decide +kernel
theorem dX3_readsStatement_146 : decode cX3_readsStatement 146 = .ok (.aload_n 0, 1) := by decide +kernel
theorem dX3_readsStatement_147 : decode cX3_readsStatement 147 = .ok (.iconst 0, 1) := by decide +kernel
theorem dX3_readsStatement_148 : decode cX3_readsStatement 148 = .ok (.iconst 1, 1) := by decide +kernel
theorem dX3_readsStatement_149 : decode cX3_readsStatement 149 = .ok (.invokevirtual 114, 3) := by decide +kernel
theorem dX3_readsStatement_152 : decode cX3_readsStatement 152 = .ok (.ifCond .eq 14, 3) := by decide +kernel
theorem dX3_readsStatement_155 : decode cX3_readsStatement 155 = .ok (.aload_n 0, 1) := by decide +kernel
theorem dX3_readsStatement_156 : decode cX3_readsStatement 156 = .ok (.invokevirtual 118, 3) := by decide +kernel
theorem dX3_readsStatement_159 : decode cX3_readsStatement 159 = .ok (.ifCond .eq 7, 3) := by decide +kernel
theorem dX3_readsStatement_162 : decode cX3_readsStatement 162 = .ok (.iconst 1, 1) := by decide +kernel
theorem dX3_readsStatement_163 : decode cX3_readsStatement 163 = .ok (.goto 4, 3) := by decide +kernel
theorem dX3_readsStatement_166 : decode cX3_readsStatement 166 = .ok (.iconst 0, 1) := by decide +kernel
theorem dX3_readsStatement_167 : decode cX3_readsStatement 167 = .ok (.istore_n 2, 1) := by decide +kernel
theorem dX3_readsStatement_168 : decode cX3_readsStatement 168 = .ok (.goto 35, 3) := by decide +kernel
theorem dX3_readsStatement_171 : decode cX3_readsStatement 171 = .ok (.aload_n 0, 1) := by decide +kernel
theorem dX3_readsStatement_172 : decode cX3_readsStatement 172 = .ok (.iconst 0, 1) := by decide +kernel
theorem dX3_readsStatement_173 : decode cX3_readsStatement 173 = .ok (.iconst 1, 1) := by decide +kernel
theorem dX3_readsStatement_174 : decode cX3_readsStatement 174 = .ok (.invokevirtual 114, 3) := by decide +kernel
theorem dX3_readsStatement_177 : decode cX3_readsStatement 177 = .ok (.istore_n 2, 1) := by decide +kernel
theorem dX3_readsStatement_178 : decode cX3_readsStatement 178 = .ok (.goto 25, 3) := by decide +kernel
theorem dX3_readsStatement_181 : decode cX3_readsStatement 181 = .ok (.aload_n 0, 1) := by decide +kernel
theorem dX3_readsStatement_182 : decode cX3_readsStatement 182 = .ok (.iconst 0, 1) := by decide +kernel
theorem dX3_readsStatement_183 : decode cX3_readsStatement 183 = .ok (.iconst 2, 1) := by decide +kernel
theorem dX3_readsStatement_184 : decode cX3_readsStatement 184 = .ok (.invokevirtual 114, 3) := by decide +kernel
theorem dX3_readsStatement_187 : decode cX3_readsStatement 187 = .ok (.istore_n 2, 1) := by decide +kernel
theorem dX3_readsStatement_188 : decode cX3_readsStatement 188 = .ok (.goto 15, 3) := by decide +kernel
theorem dX3_readsStatement_191 : decode cX3_readsStatement 191 = .ok (.aload_n 0, 1) := by decide +kernel
theorem dX3_readsStatement_192 : decode cX3_readsStatement 192 = .ok (.dup, 1) := by decide +kernel
theorem dX3_readsStatement_193 : decode cX3_readsStatement 193 = .ok (.getfield 94, 3) := by decide +kernel
theorem dX3_readsStatement_196 : decode cX3_readsStatement 196 = .ok (.iconst 1, 1) := by decide +kernel
theorem dX3_readsStatement_197 : decode cX3_readsStatement 197 = .ok (.isub, 1) := by decide +kernel
theorem dX3_readsStatement_198 : decode cX3_readsStatement 198 = .ok (.putfield 94, 3) := by decide +kernel
theorem dX3_readsStatement_201 : decode cX3_readsStatement 201 = .ok (.iconst 0, 1) := by decide +kernel
theorem dX3_readsStatement_202 : decode cX3_readsStatement 202 = .ok (.ireturn, 1) := by decide +kernel
theorem dX3_readsStatement_203 : decode cX3_readsStatement 203 = .ok (.iload_n 2, 1) := by decide +kernel
theorem dX3_readsStatement_204 : decode cX3_readsStatement 204 = .ok (.ifCond .eq 12, 3) := by decide +kernel
theorem dX3_readsStatement_207 : decode cX3_readsStatement 207 = .ok (.aload_n 0, 1) := by decide +kernel
theorem dX3_readsStatement_208 : decode cX3_readsStatement 208 = .ok (.invokevirtual 97, 3) := by decide +kernel
theorem dX3_readsStatement_211 : decode cX3_readsStatement 211 = .ok (.bipush 59, 2) := by decide +kernel
theorem dX3_readsStatement_213 : decode cX3_readsStatement 213 = .ok (.if_icmp .eq 5, 3) := by decide +kernel
theorem dX3_readsStatement_216 : decode cX3_readsStatement 216 = .ok (.iconst 0, 1) := by decide +kernel
theorem dX3_readsStatement_217 : decode cX3_readsStatement 217 = .ok (.ireturn, 1) := by decide +kernel
theorem dX3_readsStatement_218 : decode cX3_readsStatement 218 = .ok (.aload_n 0, 1) := by decide +kernel
theorem dX3_readsStatement_219 : decode cX3_readsStatement 219 = .ok (.dup, 1) := by decide +kernel
theorem dX3_readsStatement_220 : decode cX3_readsStatement 220 = .ok (.getfield 94, 3) := by decide +kernel
theorem dX3_readsStatement_223 : decode cX3_readsStatement 223 = .ok (.iconst 1, 1) := by decide +kernel
theorem dX3_readsStatement_224 : decode cX3_readsStatement 224 = .ok (.iadd, 1) := by decide +kernel
theorem dX3_readsStatement_225 : decode cX3_readsStatement 225 = .ok (.putfield 94, 3) := by decide +kernel
theorem dX3_readsStatement_228 : decode cX3_readsStatement 228 = .ok (.iconst 1, 1) := by decide +kernel
theorem dX3_readsStatement_229 : decode cX3_readsStatement 229 = .ok (.ireturn, 1) := by decide +kernel
set_option maxRecDepth 20000 in
theorem ggX3_adds_X3_of : GoodIn wsX3_adds wsX3_of := goodIn_r _ [5] (by decide +kernel) (by decide +kernel)
set_option maxRecDepth 20000 in
theorem gX3_adds_X3_of : GoodIn wsX3_adds (va_wsS RX3 51 yX3_of wsX3_of) := goodIn_app (goodIn_of _ (by decide +kernel)) ggX3_adds_X3_of
theorem dX3_adds_0 : decode cX3_adds 0 = .ok (.aload_n 0, 1) := by decide +kernel
theorem dX3_adds_1 : decode cX3_adds 1 = .ok (.getfield 9, 3) := by decide +kernel
theorem dX3_adds_4 : decode cX3_adds 4 = .ok (.iconst 0, 1) := by decide +kernel
theorem dX3_adds_5 : decode cX3_adds 5 = .ok (.iaload, 1) := by decide +kernel
theorem dX3_adds_6 : decode cX3_adds 6 = .ok (.bipush 6, 2) := by decide +kernel
theorem dX3_adds_8 : decode cX3_adds 8 = .ok (.if_icmp .ne 5, 3) := by decide +kernel
theorem dX3_adds_11 : decode cX3_adds 11 = .ok (.iconst 0, 1) := by decide +kernel
theorem dX3_adds_12 : decode cX3_adds 12 = .ok (.ireturn, 1) := by decide +kernel
theorem dX3_adds_13 : decode cX3_adds 13 = .ok (.aload_n 0, 1) := by decide +kernel
theorem dX3_adds_14 : decode cX3_adds 14 = .ok (.getfield 9, 3) := by decide +kernel
theorem dX3_adds_17 : decode cX3_adds 17 = .ok (.iconst 0, 1) := by decide +kernel
theorem dX3_adds_18 : decode cX3_adds 18 = .ok (.iaload, 1) := by decide +kernel
theorem dX3_adds_19 : decode cX3_adds 19 = .ok (.istore 4, 2) := by decide +kernel
theorem dX3_adds_21 : decode cX3_adds 21 = .ok (.aload_n 0, 1) := by decide +kernel
theorem dX3_adds_22 : decode cX3_adds 22 = .ok (.getfield 9, 3) := by decide +kernel
theorem dX3_adds_25 : decode cX3_adds 25 = .ok (.iload 4, 2) := by decide +kernel
theorem dX3_adds_27 : decode cX3_adds 27 = .ok (.iconst 0, 1) := by decide +kernel
theorem dX3_adds_28 : decode cX3_adds 28 = .ok (.invokestatic 51, 3) := by decide +kernel
theorem dX3_adds_31 : decode cX3_adds 31 = .ok (.iload_n 1, 1) := by decide +kernel
theorem dX3_adds_32 : decode cX3_adds 32 = .ok (.iastore, 1) := by decide +kernel
theorem dX3_adds_33 : decode cX3_adds 33 = .ok (.aload_n 0, 1) := by decide +kernel
theorem dX3_adds_34 : decode cX3_adds 34 = .ok (.getfield 9, 3) := by decide +kernel
theorem dX3_adds_37 : decode cX3_adds 37 = .ok (.iload 4, 2) := by decide +kernel
theorem dX3_adds_39 : decode cX3_adds 39 = .ok (.iconst 1, 1) := by decide +kernel
theorem dX3_adds_40 : decode cX3_adds 40 = .ok (.invokestatic 51, 3) := by decide +kernel
theorem dX3_adds_43 : decode cX3_adds 43 = .ok (.iload_n 2, 1) := by decide +kernel
theorem dX3_adds_44 : decode cX3_adds 44 = .ok (.iastore, 1) := by decide +kernel
theorem dX3_adds_45 : decode cX3_adds 45 = .ok (.aload_n 0, 1) := by decide +kernel
theorem dX3_adds_46 : decode cX3_adds 46 = .ok (.getfield 9, 3) := by decide +kernel
theorem dX3_adds_49 : decode cX3_adds 49 = .ok (.iload 4, 2) := by decide +kernel
theorem dX3_adds_51 : decode cX3_adds 51 = .ok (.iconst 2, 1) := by decide +kernel
theorem dX3_adds_52 : decode cX3_adds 52 = .ok (.invokestatic 51, 3) := by decide +kernel
theorem dX3_adds_55 : decode cX3_adds 55 = .ok (.iload_n 3, 1) := by decide +kernel
theorem dX3_adds_56 : decode cX3_adds 56 = .ok (.iastore, 1) := by decide +kernel
theorem dX3_adds_57 : decode cX3_adds 57 = .ok (.aload_n 0, 1) := by decide +kernel
theorem dX3_adds_58 : decode cX3_adds 58 = .ok (.getfield 9, 3) := by decide +kernel
theorem dX3_adds_61 : decode cX3_adds 61 = .ok (.iload 4, 2) := by decide +kernel
theorem dX3_adds_63 : decode cX3_adds 63 = .ok (.iconst 3, 1) := by decide +kernel
theorem dX3_adds_64 : decode cX3_adds 64 = .ok (.invokestatic 51, 3) := by decide +kernel
theorem dX3_adds_67 : decode cX3_adds 67 = .ok (.iconst 0, 1) := by decide +kernel
theorem dX3_adds_68 : decode cX3_adds 68 = .ok (.iastore, 1) := by decide +kernel
theorem dX3_adds_69 : decode cX3_adds 69 = .ok (.iconst 0, 1) := by decide +kernel
theorem dX3_adds_70 : decode cX3_adds 70 = .ok (.istore 5, 2) := by decide +kernel
theorem dX3_adds_72 : decode cX3_adds 72 = .ok (.iload 5, 2) := by decide +kernel
theorem dX3_adds_74 : decode cX3_adds 74 = .ok (.bipush 8, 2) := by decide +kernel
theorem dX3_adds_76 : decode cX3_adds 76 = .ok (.if_icmp .ge 24, 3) := by decide +kernel
theorem dX3_adds_79 : decode cX3_adds 79 = .ok (.aload_n 0, 1) := by decide +kernel
theorem dX3_adds_80 : decode cX3_adds 80 = .ok (.getfield 9, 3) := by decide +kernel
theorem dX3_adds_83 : decode cX3_adds 83 = .ok (.iload 4, 2) := by decide +kernel
theorem dX3_adds_85 : decode cX3_adds 85 = .ok (.iconst 4, 1) := by decide +kernel
theorem dX3_adds_86 : decode cX3_adds 86 = .ok (.iload 5, 2) := by decide +kernel
theorem dX3_adds_88 : decode cX3_adds 88 = .ok (.iadd, 1) := by decide +kernel
theorem dX3_adds_89 : decode cX3_adds 89 = .ok (.invokestatic 51, 3) := by decide +kernel
theorem dX3_adds_92 : decode cX3_adds 92 = .ok (.iconst 0, 1) := by decide +kernel
theorem dX3_adds_93 : decode cX3_adds 93 = .ok (.iastore, 1) := by decide +kernel
theorem dX3_adds_94 : decode cX3_adds 94 = .ok (.iinc 5 1, 3) := by decide +kernel
theorem dX3_adds_97 : decode cX3_adds 97 = .ok (.goto (-25), 3) := by decide +kernel
theorem dX3_adds_100 : decode cX3_adds 100 = .ok (.aload_n 0, 1) := by decide +kernel
theorem dX3_adds_101 : decode cX3_adds 101 = .ok (.getfield 9, 3) := by decide +kernel
theorem dX3_adds_104 : decode cX3_adds 104 = .ok (.iconst 0, 1) := by decide +kernel
theorem dX3_adds_105 : decode cX3_adds 105 = .ok (.dup2, 1) := by decide +kernel
theorem dX3_adds_106 : decode cX3_adds 106 = .ok (.iaload, 1) := by decide +kernel
theorem dX3_adds_107 : decode cX3_adds 107 = .ok (.iconst 1, 1) := by decide +kernel
theorem dX3_adds_108 : decode cX3_adds 108 = .ok (.iadd, 1) := by decide +kernel
theorem dX3_adds_109 : decode cX3_adds 109 = .ok (.iastore, 1) := by decide +kernel
theorem dX3_adds_110 : decode cX3_adds 110 = .ok (.iconst 1, 1) := by decide +kernel
theorem dX3_adds_111 : decode cX3_adds 111 = .ok (.ireturn, 1) := by decide +kernel
set_option maxRecDepth 20000 in
theorem ggX3_isLiving_X3_isCitizen : GoodIn wsX3_isLiving wsX3_isCitizen := goodIn_r _ [6, 1, 7, 8, 5, 9, 16, 17, 18, 19, 20, 21, 22, 23, 24, 25, 26, 27, 28, 29, 30] (by decide +kernel) (by decide +kernel)
set_option maxRecDepth 20000 in
theorem gX3_isLiving_X3_isCitizen : GoodIn wsX3_isLiving (wsV RX3 47 RX3 yX3_isCitizen wsX3_isCitizen) := goodIn_app (goodIn_of _ (by decide +kernel)) ggX3_isLiving_X3_isCitizen
set_option maxRecDepth 20000 in
theorem ggX3_isLiving_X3_isAlive : GoodIn wsX3_isLiving wsX3_isAlive := goodIn_r _ [12, 13, 14, 5, 15] (by decide +kernel) (by decide +kernel)
set_option maxRecDepth 20000 in
theorem gX3_isLiving_X3_isAlive : GoodIn wsX3_isLiving (va_wsS RX3 55 yX3_isAlive wsX3_isAlive) := goodIn_app (goodIn_of _ (by decide +kernel)) ggX3_isLiving_X3_isAlive
theorem dX3_isLiving_0 : decode cX3_isLiving 0 = .ok (.aload_n 0, 1) := by decide +kernel
theorem dX3_isLiving_1 : decode cX3_isLiving 1 = .ok (.iload_n 1, 1) := by decide +kernel
theorem dX3_isLiving_2 : decode cX3_isLiving 2 = .ok (.invokevirtual 47, 3) := by decide +kernel
theorem dX3_isLiving_5 : decode cX3_isLiving 5 = .ok (.ifCond .eq 18, 3) := by decide +kernel
theorem dX3_isLiving_8 : decode cX3_isLiving 8 = .ok (.aload_n 0, 1) := by decide +kernel
theorem dX3_isLiving_9 : decode cX3_isLiving 9 = .ok (.getfield 9, 3) := by decide +kernel
theorem dX3_isLiving_12 : decode cX3_isLiving 12 = .ok (.iload_n 1, 1) := by decide +kernel
theorem dX3_isLiving_13 : decode cX3_isLiving 13 = .ok (.invokestatic 55, 3) := by decide +kernel
theorem dX3_isLiving_16 : decode cX3_isLiving 16 = .ok (.ifCond .eq 7, 3) := by decide +kernel
theorem dX3_isLiving_19 : decode cX3_isLiving 19 = .ok (.iconst 1, 1) := by decide +kernel
theorem dX3_isLiving_20 : decode cX3_isLiving 20 = .ok (.goto 4, 3) := by decide +kernel
theorem dX3_isLiving_23 : decode cX3_isLiving 23 = .ok (.iconst 0, 1) := by decide +kernel
theorem dX3_isLiving_24 : decode cX3_isLiving 24 = .ok (.ireturn, 1) := by decide +kernel
set_option maxRecDepth 20000 in
theorem ggX3_saysAll_X3_isLiving : GoodIn wsX3_saysAll wsX3_isLiving := goodIn_r _ [8, 3, 9, 10, 11, 7, 12, 13, 14, 15, 16, 17, 18, 19, 20, 21, 22, 23, 24, 25, 26, 27, 28, 29, 30, 31, 32, 33, 34, 35, 36] (by decide +kernel) (by decide +kernel)
set_option maxRecDepth 20000 in
theorem gX3_saysAll_X3_isLiving : GoodIn wsX3_saysAll (wsV RX3 121 RX3 yX3_isLiving wsX3_isLiving) := goodIn_app (goodIn_of _ (by decide +kernel)) ggX3_saysAll_X3_isLiving
set_option maxRecDepth 20000 in
theorem ggX3_saysAll_X3_of : GoodIn wsX3_saysAll wsX3_of := goodIn_r _ [21] (by decide +kernel) (by decide +kernel)
set_option maxRecDepth 20000 in
theorem gX3_saysAll_X3_of : GoodIn wsX3_saysAll (va_wsS RX3 51 yX3_of wsX3_of) := goodIn_app (goodIn_of _ (by decide +kernel)) ggX3_saysAll_X3_of
theorem dX3_saysAll_0 : decode cX3_saysAll 0 = .ok (.aload_n 0, 1) := by decide +kernel
theorem dX3_saysAll_1 : decode cX3_saysAll 1 = .ok (.iload_n 1, 1) := by decide +kernel
theorem dX3_saysAll_2 : decode cX3_saysAll 2 = .ok (.invokevirtual 121, 3) := by decide +kernel
theorem dX3_saysAll_5 : decode cX3_saysAll 5 = .ok (.ifCond .ne 5, 3) := by decide +kernel
theorem dX3_saysAll_8 : decode cX3_saysAll 8 = .ok (.iconst 0, 1) := by decide +kernel
theorem dX3_saysAll_9 : decode cX3_saysAll 9 = .ok (.ireturn, 1) := by decide +kernel
theorem dX3_saysAll_10 : decode cX3_saysAll 10 = .ok (.iconst 0, 1) := by decide +kernel
theorem dX3_saysAll_11 : decode cX3_saysAll 11 = .ok (.istore_n 2, 1) := by decide +kernel
theorem dX3_saysAll_12 : decode cX3_saysAll 12 = .ok (.iload_n 2, 1) := by decide +kernel
theorem dX3_saysAll_13 : decode cX3_saysAll 13 = .ok (.aload_n 0, 1) := by decide +kernel
theorem dX3_saysAll_14 : decode cX3_saysAll 14 = .ok (.getfield 108, 3) := by decide +kernel
theorem dX3_saysAll_17 : decode cX3_saysAll 17 = .ok (.if_icmp .ge 21, 3) := by decide +kernel
theorem dX3_saysAll_20 : decode cX3_saysAll 20 = .ok (.aload_n 0, 1) := by decide +kernel
theorem dX3_saysAll_21 : decode cX3_saysAll 21 = .ok (.getfield 34, 3) := by decide +kernel
theorem dX3_saysAll_24 : decode cX3_saysAll 24 = .ok (.iload_n 2, 1) := by decide +kernel
theorem dX3_saysAll_25 : decode cX3_saysAll 25 = .ok (.iaload, 1) := by decide +kernel
theorem dX3_saysAll_26 : decode cX3_saysAll 26 = .ok (.iconst 2, 1) := by decide +kernel
theorem dX3_saysAll_27 : decode cX3_saysAll 27 = .ok (.if_icmp .le 5, 3) := by decide +kernel
theorem dX3_saysAll_30 : decode cX3_saysAll 30 = .ok (.iconst 0, 1) := by decide +kernel
theorem dX3_saysAll_31 : decode cX3_saysAll 31 = .ok (.ireturn, 1) := by decide +kernel
theorem dX3_saysAll_32 : decode cX3_saysAll 32 = .ok (.iinc 2 1, 3) := by decide +kernel
theorem dX3_saysAll_35 : decode cX3_saysAll 35 = .ok (.goto (-23), 3) := by decide +kernel
theorem dX3_saysAll_38 : decode cX3_saysAll 38 = .ok (.iconst 0, 1) := by decide +kernel
theorem dX3_saysAll_39 : decode cX3_saysAll 39 = .ok (.istore_n 2, 1) := by decide +kernel
theorem dX3_saysAll_40 : decode cX3_saysAll 40 = .ok (.iload_n 2, 1) := by decide +kernel
theorem dX3_saysAll_41 : decode cX3_saysAll 41 = .ok (.aload_n 0, 1) := by decide +kernel
theorem dX3_saysAll_42 : decode cX3_saysAll 42 = .ok (.getfield 108, 3) := by decide +kernel
theorem dX3_saysAll_45 : decode cX3_saysAll 45 = .ok (.if_icmp .ge 27, 3) := by decide +kernel
theorem dX3_saysAll_48 : decode cX3_saysAll 48 = .ok (.aload_n 0, 1) := by decide +kernel
theorem dX3_saysAll_49 : decode cX3_saysAll 49 = .ok (.getfield 9, 3) := by decide +kernel
theorem dX3_saysAll_52 : decode cX3_saysAll 52 = .ok (.iload_n 1, 1) := by decide +kernel
theorem dX3_saysAll_53 : decode cX3_saysAll 53 = .ok (.iconst 4, 1) := by decide +kernel
theorem dX3_saysAll_54 : decode cX3_saysAll 54 = .ok (.iload_n 2, 1) := by decide +kernel
theorem dX3_saysAll_55 : decode cX3_saysAll 55 = .ok (.iadd, 1) := by decide +kernel
theorem dX3_saysAll_56 : decode cX3_saysAll 56 = .ok (.invokestatic 51, 3) := by decide +kernel
theorem dX3_saysAll_59 : decode cX3_saysAll 59 = .ok (.aload_n 0, 1) := by decide +kernel
theorem dX3_saysAll_60 : decode cX3_saysAll 60 = .ok (.getfield 34, 3) := by decide +kernel
theorem dX3_saysAll_63 : decode cX3_saysAll 63 = .ok (.iload_n 2, 1) := by decide +kernel
theorem dX3_saysAll_64 : decode cX3_saysAll 64 = .ok (.iaload, 1) := by decide +kernel
theorem dX3_saysAll_65 : decode cX3_saysAll 65 = .ok (.iastore, 1) := by decide +kernel
theorem dX3_saysAll_66 : decode cX3_saysAll 66 = .ok (.iinc 2 1, 3) := by decide +kernel
theorem dX3_saysAll_69 : decode cX3_saysAll 69 = .ok (.goto (-29), 3) := by decide +kernel
theorem dX3_saysAll_72 : decode cX3_saysAll 72 = .ok (.iconst 1, 1) := by decide +kernel
theorem dX3_saysAll_73 : decode cX3_saysAll 73 = .ok (.ireturn, 1) := by decide +kernel
set_option maxRecDepth 20000 in
theorem ggX3_isDone_X3_adds : GoodIn wsX3_isDone wsX3_adds := goodIn_r _ [7, 2, 8, 9, 6, 10, 52, 53, 54, 55, 56, 57, 58, 59, 60, 61, 62, 63, 64, 65, 66] (by decide +kernel) (by decide +kernel)
set_option maxRecDepth 20000 in
theorem gX3_isDone_X3_adds : GoodIn wsX3_isDone (wsV RX3 124 RX3 yX3_adds wsX3_adds) := goodIn_app (goodIn_of _ (by decide +kernel)) ggX3_isDone_X3_adds
set_option maxRecDepth 20000 in
theorem ggX3_isDone_X3_isLiving : GoodIn wsX3_isDone wsX3_isLiving := goodIn_r _ [14, 2, 15, 16, 17, 6, 18, 19, 20, 21, 22, 23, 24, 8, 9, 10, 52, 53, 54, 55, 56, 57, 58, 59, 60, 61, 62, 63, 64, 65, 66] (by decide +kernel) (by decide +kernel)
set_option maxRecDepth 20000 in
theorem gX3_isDone_X3_isLiving : GoodIn wsX3_isDone (wsV RX3 121 RX3 yX3_isLiving wsX3_isLiving) := goodIn_app (goodIn_of _ (by decide +kernel)) ggX3_isDone_X3_isLiving
set_option maxRecDepth 20000 in
theorem ggX3_isDone_X3_isTopic : GoodIn wsX3_isDone wsX3_isTopic := goodIn_r _ [27, 19, 20, 6, 21] (by decide +kernel) (by decide +kernel)
set_option maxRecDepth 20000 in
theorem gX3_isDone_X3_isTopic : GoodIn wsX3_isDone (va_wsS RX3 127 yX3_isTopic wsX3_isTopic) := goodIn_app (goodIn_of _ (by decide +kernel)) ggX3_isDone_X3_isTopic
set_option maxRecDepth 20000 in
theorem ggX3_isDone_X3_of : GoodIn wsX3_isDone wsX3_of := goodIn_r _ [10] (by decide +kernel) (by decide +kernel)
set_option maxRecDepth 20000 in
theorem gX3_isDone_X3_of : GoodIn wsX3_isDone (va_wsS RX3 51 yX3_of wsX3_of) := goodIn_app (goodIn_of _ (by decide +kernel)) ggX3_isDone_X3_of
set_option maxRecDepth 20000 in
theorem ggX3_isDone_X3_saysAll : GoodIn wsX3_isDone wsX3_saysAll := goodIn_r _ [31, 32, 33, 2, 11, 12, 13, 6, 14, 15, 16, 17, 18, 19, 20, 21, 22, 23, 24, 8, 9, 10, 52, 53, 54, 55, 56, 57, 58, 59, 60, 61, 62, 63, 64, 65, 66] (by decide +kernel) (by decide +kernel)
set_option maxRecDepth 20000 in
theorem gX3_isDone_X3_saysAll : GoodIn wsX3_isDone (wsV RX3 130 RX3 yX3_saysAll wsX3_saysAll) := goodIn_app (goodIn_of _ (by decide +kernel)) ggX3_isDone_X3_saysAll
set_option maxRecDepth 20000 in
theorem ggX3_isDone_X3_isIn : GoodIn wsX3_isDone wsX3_isIn := goodIn_r _ [21] (by decide +kernel) (by decide +kernel)
set_option maxRecDepth 20000 in
theorem gX3_isDone_X3_isIn : GoodIn wsX3_isDone (va_wsS RX3 43 yX3_isIn wsX3_isIn) := goodIn_app (goodIn_of _ (by decide +kernel)) ggX3_isDone_X3_isIn
set_option maxRecDepth 20000 in
theorem ggX3_isDone_X3_yearsOn : GoodIn wsX3_isDone wsX3_yearsOn := goodIn_r _ [36, 37, 38, 6, 39, 22, 23, 24, 8, 9, 10, 40, 41, 42, 43, 44, 45, 46, 47, 48, 49, 50, 51] (by decide +kernel) (by decide +kernel)
set_option maxRecDepth 20000 in
theorem gX3_isDone_X3_yearsOn : GoodIn wsX3_isDone (va_wsS RX3 79 yX3_yearsOn wsX3_yearsOn) := goodIn_app (goodIn_of _ (by decide +kernel)) ggX3_isDone_X3_yearsOn
theorem dX3_isDone_0 : decode cX3_isDone 0 = .ok (.aload_n 0, 1) := by decide +kernel
theorem dX3_isDone_1 : decode cX3_isDone 1 = .ok (.getfield 31, 3) := by decide +kernel
theorem dX3_isDone_4 : decode cX3_isDone 4 = .ok (.iconst 0, 1) := by decide +kernel
theorem dX3_isDone_5 : decode cX3_isDone 5 = .ok (.iaload, 1) := by decide +kernel
theorem dX3_isDone_6 : decode cX3_isDone 6 = .ok (.istore_n 2, 1) := by decide +kernel
theorem dX3_isDone_7 : decode cX3_isDone 7 = .ok (.aload_n 0, 1) := by decide +kernel
theorem dX3_isDone_8 : decode cX3_isDone 8 = .ok (.getfield 31, 3) := by decide +kernel
theorem dX3_isDone_11 : decode cX3_isDone 11 = .ok (.iconst 1, 1) := by decide +kernel
theorem dX3_isDone_12 : decode cX3_isDone 12 = .ok (.iaload, 1) := by decide +kernel
theorem dX3_isDone_13 : decode cX3_isDone 13 = .ok (.istore_n 3, 1) := by decide +kernel
theorem dX3_isDone_14 : decode cX3_isDone 14 = .ok (.aload_n 0, 1) := by decide +kernel
theorem dX3_isDone_15 : decode cX3_isDone 15 = .ok (.getfield 31, 3) := by decide +kernel
theorem dX3_isDone_18 : decode cX3_isDone 18 = .ok (.iconst 2, 1) := by decide +kernel
theorem dX3_isDone_19 : decode cX3_isDone 19 = .ok (.iaload, 1) := by decide +kernel
theorem dX3_isDone_20 : decode cX3_isDone 20 = .ok (.istore 4, 2) := by decide +kernel
theorem dX3_isDone_22 : decode cX3_isDone 22 = .ok (.iload_n 1, 1) := by decide +kernel
theorem dX3_isDone_23 : decode cX3_isDone 23 = .ok (.lookupswitch 187 #[(97, 97), (99, 49), (100, 164), (113, 103), (119, 58)], 49) := by decide +kernel
theorem dX3_isDone_72 : decode cX3_isDone 72 = .ok (.aload_n 0, 1) := by decide +kernel
theorem dX3_isDone_73 : decode cX3_isDone 73 = .ok (.iload_n 2, 1) := by decide +kernel
theorem dX3_isDone_74 : decode cX3_isDone 74 = .ok (.iload_n 3, 1) := by decide +kernel
theorem dX3_isDone_75 : decode cX3_isDone 75 = .ok (.iload 4, 2) := by decide +kernel
theorem dX3_isDone_77 : decode cX3_isDone 77 = .ok (.invokevirtual 124, 3) := by decide +kernel
theorem dX3_isDone_80 : decode cX3_isDone 80 = .ok (.ireturn, 1) := by decide +kernel
theorem dX3_isDone_81 : decode cX3_isDone 81 = .ok (.aload_n 0, 1) := by decide +kernel
theorem dX3_isDone_82 : decode cX3_isDone 82 = .ok (.iload_n 2, 1) := by decide +kernel
theorem dX3_isDone_83 : decode cX3_isDone 83 = .ok (.invokevirtual 121, 3) := by decide +kernel
theorem dX3_isDone_86 : decode cX3_isDone 86 = .ok (.ifCond .eq 16, 3) := by decide +kernel
theorem dX3_isDone_89 : decode cX3_isDone 89 = .ok (.iload_n 3, 1) := by decide +kernel
theorem dX3_isDone_90 : decode cX3_isDone 90 = .ok (.invokestatic 127, 3) := by decide +kernel
theorem dX3_isDone_93 : decode cX3_isDone 93 = .ok (.ifCond .eq 9, 3) := by decide +kernel
theorem dX3_isDone_96 : decode cX3_isDone 96 = .ok (.iload 4, 2) := by decide +kernel
theorem dX3_isDone_98 : decode cX3_isDone 98 = .ok (.iconst 2, 1) := by decide +kernel
theorem dX3_isDone_99 : decode cX3_isDone 99 = .ok (.if_icmp .le 5, 3) := by decide +kernel
theorem dX3_isDone_102 : decode cX3_isDone 102 = .ok (.iconst 0, 1) := by decide +kernel
theorem dX3_isDone_103 : decode cX3_isDone 103 = .ok (.ireturn, 1) := by decide +kernel
theorem dX3_isDone_104 : decode cX3_isDone 104 = .ok (.aload_n 0, 1) := by decide +kernel
theorem dX3_isDone_105 : decode cX3_isDone 105 = .ok (.getfield 9, 3) := by decide +kernel
theorem dX3_isDone_108 : decode cX3_isDone 108 = .ok (.iload_n 2, 1) := by decide +kernel
theorem dX3_isDone_109 : decode cX3_isDone 109 = .ok (.iconst 4, 1) := by decide +kernel
theorem dX3_isDone_110 : decode cX3_isDone 110 = .ok (.iload_n 3, 1) := by decide +kernel
theorem dX3_isDone_111 : decode cX3_isDone 111 = .ok (.iadd, 1) := by decide +kernel
theorem dX3_isDone_112 : decode cX3_isDone 112 = .ok (.invokestatic 51, 3) := by decide +kernel
theorem dX3_isDone_115 : decode cX3_isDone 115 = .ok (.iload 4, 2) := by decide +kernel
theorem dX3_isDone_117 : decode cX3_isDone 117 = .ok (.iastore, 1) := by decide +kernel
theorem dX3_isDone_118 : decode cX3_isDone 118 = .ok (.iconst 1, 1) := by decide +kernel
theorem dX3_isDone_119 : decode cX3_isDone 119 = .ok (.ireturn, 1) := by decide +kernel
theorem dX3_isDone_120 : decode cX3_isDone 120 = .ok (.aload_n 0, 1) := by decide +kernel
theorem dX3_isDone_121 : decode cX3_isDone 121 = .ok (.iload_n 2, 1) := by decide +kernel
theorem dX3_isDone_122 : decode cX3_isDone 122 = .ok (.invokevirtual 130, 3) := by decide +kernel
theorem dX3_isDone_125 : decode cX3_isDone 125 = .ok (.ireturn, 1) := by decide +kernel
theorem dX3_isDone_126 : decode cX3_isDone 126 = .ok (.aload_n 0, 1) := by decide +kernel
theorem dX3_isDone_127 : decode cX3_isDone 127 = .ok (.iload_n 2, 1) := by decide +kernel
theorem dX3_isDone_128 : decode cX3_isDone 128 = .ok (.invokevirtual 121, 3) := by decide +kernel
theorem dX3_isDone_131 : decode cX3_isDone 131 = .ok (.ifCond .eq 24, 3) := by decide +kernel
theorem dX3_isDone_134 : decode cX3_isDone 134 = .ok (.aload_n 0, 1) := by decide +kernel
theorem dX3_isDone_135 : decode cX3_isDone 135 = .ok (.iload_n 3, 1) := by decide +kernel
theorem dX3_isDone_136 : decode cX3_isDone 136 = .ok (.invokevirtual 121, 3) := by decide +kernel
theorem dX3_isDone_139 : decode cX3_isDone 139 = .ok (.ifCond .eq 16, 3) := by decide +kernel
theorem dX3_isDone_142 : decode cX3_isDone 142 = .ok (.iload_n 2, 1) := by decide +kernel
theorem dX3_isDone_143 : decode cX3_isDone 143 = .ok (.iload_n 3, 1) := by decide +kernel
theorem dX3_isDone_144 : decode cX3_isDone 144 = .ok (.if_icmp .eq 11, 3) := by decide +kernel
theorem dX3_isDone_147 : decode cX3_isDone 147 = .ok (.iload 4, 2) := by decide +kernel
theorem dX3_isDone_149 : decode cX3_isDone 149 = .ok (.invokestatic 127, 3) := by decide +kernel
theorem dX3_isDone_152 : decode cX3_isDone 152 = .ok (.ifCond .ne 5, 3) := by decide +kernel
theorem dX3_isDone_155 : decode cX3_isDone 155 = .ok (.iconst 0, 1) := by decide +kernel
theorem dX3_isDone_156 : decode cX3_isDone 156 = .ok (.ireturn, 1) := by decide +kernel
theorem dX3_isDone_157 : decode cX3_isDone 157 = .ok (.aload_n 0, 1) := by decide +kernel
theorem dX3_isDone_158 : decode cX3_isDone 158 = .ok (.getfield 9, 3) := by decide +kernel
theorem dX3_isDone_161 : decode cX3_isDone 161 = .ok (.iload_n 2, 1) := by decide +kernel
theorem dX3_isDone_162 : decode cX3_isDone 162 = .ok (.iconst 4, 1) := by decide +kernel
theorem dX3_isDone_163 : decode cX3_isDone 163 = .ok (.iload 4, 2) := by decide +kernel
theorem dX3_isDone_165 : decode cX3_isDone 165 = .ok (.iadd, 1) := by decide +kernel
theorem dX3_isDone_166 : decode cX3_isDone 166 = .ok (.invokestatic 51, 3) := by decide +kernel
theorem dX3_isDone_169 : decode cX3_isDone 169 = .ok (.iconst 1, 1) := by decide +kernel
theorem dX3_isDone_170 : decode cX3_isDone 170 = .ok (.iastore, 1) := by decide +kernel
theorem dX3_isDone_171 : decode cX3_isDone 171 = .ok (.aload_n 0, 1) := by decide +kernel
theorem dX3_isDone_172 : decode cX3_isDone 172 = .ok (.getfield 9, 3) := by decide +kernel
theorem dX3_isDone_175 : decode cX3_isDone 175 = .ok (.iload_n 3, 1) := by decide +kernel
theorem dX3_isDone_176 : decode cX3_isDone 176 = .ok (.iconst 4, 1) := by decide +kernel
theorem dX3_isDone_177 : decode cX3_isDone 177 = .ok (.iload 4, 2) := by decide +kernel
theorem dX3_isDone_179 : decode cX3_isDone 179 = .ok (.iadd, 1) := by decide +kernel
theorem dX3_isDone_180 : decode cX3_isDone 180 = .ok (.invokestatic 51, 3) := by decide +kernel
theorem dX3_isDone_183 : decode cX3_isDone 183 = .ok (.iconst 2, 1) := by decide +kernel
theorem dX3_isDone_184 : decode cX3_isDone 184 = .ok (.iastore, 1) := by decide +kernel
theorem dX3_isDone_185 : decode cX3_isDone 185 = .ok (.iconst 1, 1) := by decide +kernel
theorem dX3_isDone_186 : decode cX3_isDone 186 = .ok (.ireturn, 1) := by decide +kernel
theorem dX3_isDone_187 : decode cX3_isDone 187 = .ok (.aload_n 0, 1) := by decide +kernel
theorem dX3_isDone_188 : decode cX3_isDone 188 = .ok (.iload_n 2, 1) := by decide +kernel
theorem dX3_isDone_189 : decode cX3_isDone 189 = .ok (.invokevirtual 121, 3) := by decide +kernel
theorem dX3_isDone_192 : decode cX3_isDone 192 = .ok (.ifCond .ne 5, 3) := by decide +kernel
theorem dX3_isDone_195 : decode cX3_isDone 195 = .ok (.iconst 0, 1) := by decide +kernel
theorem dX3_isDone_196 : decode cX3_isDone 196 = .ok (.ireturn, 1) := by decide +kernel
theorem dX3_isDone_197 : decode cX3_isDone 197 = .ok (.aload_n 0, 1) := by decide +kernel
theorem dX3_isDone_198 : decode cX3_isDone 198 = .ok (.getfield 9, 3) := by decide +kernel
theorem dX3_isDone_201 : decode cX3_isDone 201 = .ok (.iload_n 2, 1) := by decide +kernel
theorem dX3_isDone_202 : decode cX3_isDone 202 = .ok (.iconst 3, 1) := by decide +kernel
theorem dX3_isDone_203 : decode cX3_isDone 203 = .ok (.invokestatic 51, 3) := by decide +kernel
theorem dX3_isDone_206 : decode cX3_isDone 206 = .ok (.iconst 1, 1) := by decide +kernel
theorem dX3_isDone_207 : decode cX3_isDone 207 = .ok (.iastore, 1) := by decide +kernel
theorem dX3_isDone_208 : decode cX3_isDone 208 = .ok (.iconst 1, 1) := by decide +kernel
theorem dX3_isDone_209 : decode cX3_isDone 209 = .ok (.ireturn, 1) := by decide +kernel
theorem dX3_isDone_210 : decode cX3_isDone 210 = .ok (.iload_n 2, 1) := by decide +kernel
theorem dX3_isDone_211 : decode cX3_isDone 211 = .ok (.iconst 1, 1) := by decide +kernel
theorem dX3_isDone_212 : decode cX3_isDone 212 = .ok (.bipush 60, 2) := by decide +kernel
theorem dX3_isDone_214 : decode cX3_isDone 214 = .ok (.invokestatic 43, 3) := by decide +kernel
theorem dX3_isDone_217 : decode cX3_isDone 217 = .ok (.ifCond .eq 17, 3) := by decide +kernel
theorem dX3_isDone_220 : decode cX3_isDone 220 = .ok (.aload_n 0, 1) := by decide +kernel
theorem dX3_isDone_221 : decode cX3_isDone 221 = .ok (.getfield 9, 3) := by decide +kernel
theorem dX3_isDone_224 : decode cX3_isDone 224 = .ok (.iconst 1, 1) := by decide +kernel
theorem dX3_isDone_225 : decode cX3_isDone 225 = .ok (.iaload, 1) := by decide +kernel
theorem dX3_isDone_226 : decode cX3_isDone 226 = .ok (.iload_n 2, 1) := by decide +kernel
theorem dX3_isDone_227 : decode cX3_isDone 227 = .ok (.iadd, 1) := by decide +kernel
theorem dX3_isDone_228 : decode cX3_isDone 228 = .ok (.sipush 999, 3) := by decide +kernel
theorem dX3_isDone_231 : decode cX3_isDone 231 = .ok (.if_icmp .le 5, 3) := by decide +kernel
theorem dX3_isDone_234 : decode cX3_isDone 234 = .ok (.iconst 0, 1) := by decide +kernel
theorem dX3_isDone_235 : decode cX3_isDone 235 = .ok (.ireturn, 1) := by decide +kernel
theorem dX3_isDone_236 : decode cX3_isDone 236 = .ok (.aload_n 0, 1) := by decide +kernel
theorem dX3_isDone_237 : decode cX3_isDone 237 = .ok (.getfield 9, 3) := by decide +kernel
theorem dX3_isDone_240 : decode cX3_isDone 240 = .ok (.iload_n 2, 1) := by decide +kernel
theorem dX3_isDone_241 : decode cX3_isDone 241 = .ok (.invokestatic 79, 3) := by decide +kernel
theorem dX3_isDone_244 : decode cX3_isDone 244 = .ok (.iconst 1, 1) := by decide +kernel
theorem dX3_isDone_245 : decode cX3_isDone 245 = .ok (.ireturn, 1) := by decide +kernel
set_option maxRecDepth 20000 in
theorem ggX3_town_X3_readsStatement : GoodIn wsX3_town wsX3_readsStatement := goodIn_r _ [9, 1, 10, 11, 12, 8, 13, 2, 14, 15, 16, 17, 18, 19, 20, 21, 22, 23, 24, 25, 26, 27, 28, 29, 30, 31, 32, 33, 34, 35, 36, 37, 38, 39, 90, 91, 92, 93, 94, 95, 96, 97, 98, 99, 100, 101, 102, 103, 104] (by decide +kernel) (by decide +kernel)
set_option maxRecDepth 20000 in
theorem gX3_town_X3_readsStatement : GoodIn wsX3_town (wsV RX3 133 RX3 yX3_readsStatement wsX3_readsStatement) := goodIn_app (goodIn_of _ (by decide +kernel)) ggX3_town_X3_readsStatement
set_option maxRecDepth 20000 in
theorem ggX3_town_X3_copies : GoodIn wsX3_town wsX3_copies := goodIn_r _ [42] (by decide +kernel) (by decide +kernel)
set_option maxRecDepth 20000 in
theorem gX3_town_X3_copies : GoodIn wsX3_town (va_wsS RX3 136 yX3_copies wsX3_copies) := goodIn_app (goodIn_of _ (by decide +kernel)) ggX3_town_X3_copies
set_option maxRecDepth 20000 in
theorem ggX3_town_X3_here : GoodIn wsX3_town wsX3_here := goodIn_r _ [13, 1, 2, 14, 90, 91, 92, 93, 94, 95, 96, 97, 98, 99, 100, 101, 102, 103, 104] (by decide +kernel) (by decide +kernel)
set_option maxRecDepth 20000 in
theorem gX3_town_X3_here : GoodIn wsX3_town (wsV RX3 97 RX3 yX3_here wsX3_here) := goodIn_app (goodIn_of _ (by decide +kernel)) ggX3_town_X3_here
set_option maxRecDepth 20000 in
theorem ggX3_town_X3_isDone : GoodIn wsX3_town wsX3_isDone := goodIn_r _ [46, 19, 3, 47, 48, 49, 8, 50, 51, 52, 53, 54, 55, 56, 57, 58, 59, 60, 61, 31, 32, 33, 62, 63, 64, 65, 66, 67, 68, 69, 70, 71, 38, 39, 72, 73, 74, 75, 76, 77, 78, 79, 80, 81, 82, 83, 84, 85, 86, 87, 88, 89, 90, 91, 92, 93, 94, 95, 96, 97, 98, 99, 100, 101, 102, 103, 104] (by decide +kernel) (by decide +kernel)
set_option maxRecDepth 20000 in
theorem gX3_town_X3_isDone : GoodIn wsX3_town (wsV RX3 140 RX3 yX3_isDone wsX3_isDone) := goodIn_app (goodIn_of _ (by decide +kernel)) ggX3_town_X3_isDone
theorem dX3_town_0 : decode cX3_town 0 = .ok (.aload_n 0, 1) := by decide +kernel
theorem dX3_town_1 : decode cX3_town 1 = .ok (.iconst 0, 1) := by decide +kernel
theorem dX3_town_2 : decode cX3_town 2 = .ok (.putfield 94, 3) := by decide +kernel
theorem dX3_town_5 : decode cX3_town 5 = .ok (.iconst 0, 1) := by decide +kernel
theorem dX3_town_6 : decode cX3_town 6 = .ok (.istore_n 1, 1) := by decide +kernel
theorem dX3_town_7 : decode cX3_town 7 = .ok (.bipush (-9), 2) := by decide +kernel
theorem dX3_town_9 : decode cX3_town 9 = .ok (.istore_n 2, 1) := by decide +kernel
theorem dX3_town_10 : decode cX3_town 10 = .ok (.aload_n 0, 1) := by decide +kernel
theorem dX3_town_11 : decode cX3_town 11 = .ok (.invokevirtual 133, 3) := by decide +kernel
theorem dX3_town_14 : decode cX3_town 14 = .ok (.ifCond .ne 12, 3) := by decide +kernel
theorem dX3_town_17 : decode cX3_town 17 = .ok (.sipush (-1000), 3) := by decide +kernel
theorem dX3_town_20 : decode cX3_town 20 = .ok (.aload_n 0, 1) := by decide +kernel
theorem dX3_town_21 : decode cX3_town 21 = .ok (.getfield 94, 3) := by decide +kernel
theorem dX3_town_24 : decode cX3_town 24 = .ok (.isub, 1) := by decide +kernel
theorem dX3_town_25 : decode cX3_town 25 = .ok (.istore_n 2, 1) := by decide +kernel
theorem dX3_town_26 : decode cX3_town 26 = .ok (.iinc 1 1, 3) := by decide +kernel
theorem dX3_town_29 : decode cX3_town 29 = .ok (.iload_n 2, 1) := by decide +kernel
theorem dX3_town_30 : decode cX3_town 30 = .ok (.bipush (-9), 2) := by decide +kernel
theorem dX3_town_32 : decode cX3_town 32 = .ok (.if_icmp .ne 14, 3) := by decide +kernel
theorem dX3_town_35 : decode cX3_town 35 = .ok (.aload_n 0, 1) := by decide +kernel
theorem dX3_town_36 : decode cX3_town 36 = .ok (.getfield 94, 3) := by decide +kernel
theorem dX3_town_39 : decode cX3_town 39 = .ok (.aload_n 0, 1) := by decide +kernel
theorem dX3_town_40 : decode cX3_town 40 = .ok (.getfield 90, 3) := by decide +kernel
theorem dX3_town_43 : decode cX3_town 43 = .ok (.if_icmp .lt (-33), 3) := by decide +kernel
theorem dX3_town_46 : decode cX3_town 46 = .ok (.aload_n 0, 1) := by decide +kernel
theorem dX3_town_47 : decode cX3_town 47 = .ok (.getfield 9, 3) := by decide +kernel
theorem dX3_town_50 : decode cX3_town 50 = .ok (.aload_n 0, 1) := by decide +kernel
theorem dX3_town_51 : decode cX3_town 51 = .ok (.getfield 19, 3) := by decide +kernel
theorem dX3_town_54 : decode cX3_town 54 = .ok (.invokestatic 136, 3) := by decide +kernel
theorem dX3_town_57 : decode cX3_town 57 = .ok (.aload_n 0, 1) := by decide +kernel
theorem dX3_town_58 : decode cX3_town 58 = .ok (.iconst 0, 1) := by decide +kernel
theorem dX3_town_59 : decode cX3_town 59 = .ok (.putfield 94, 3) := by decide +kernel
theorem dX3_town_62 : decode cX3_town 62 = .ok (.iload_n 2, 1) := by decide +kernel
theorem dX3_town_63 : decode cX3_town 63 = .ok (.bipush (-9), 2) := by decide +kernel
theorem dX3_town_65 : decode cX3_town 65 = .ok (.if_icmp .ne 63, 3) := by decide +kernel
theorem dX3_town_68 : decode cX3_town 68 = .ok (.aload_n 0, 1) := by decide +kernel
theorem dX3_town_69 : decode cX3_town 69 = .ok (.getfield 94, 3) := by decide +kernel
theorem dX3_town_72 : decode cX3_town 72 = .ok (.aload_n 0, 1) := by decide +kernel
theorem dX3_town_73 : decode cX3_town 73 = .ok (.getfield 90, 3) := by decide +kernel
theorem dX3_town_76 : decode cX3_town 76 = .ok (.if_icmp .ge 52, 3) := by decide +kernel
theorem dX3_town_79 : decode cX3_town 79 = .ok (.aload_n 0, 1) := by decide +kernel
theorem dX3_town_80 : decode cX3_town 80 = .ok (.getfield 94, 3) := by decide +kernel
theorem dX3_town_83 : decode cX3_town 83 = .ok (.istore_n 3, 1) := by decide +kernel
theorem dX3_town_84 : decode cX3_town 84 = .ok (.aload_n 0, 1) := by decide +kernel
theorem dX3_town_85 : decode cX3_town 85 = .ok (.invokevirtual 97, 3) := by decide +kernel
theorem dX3_town_88 : decode cX3_town 88 = .ok (.istore 4, 2) := by decide +kernel
theorem dX3_town_90 : decode cX3_town 90 = .ok (.aload_n 0, 1) := by decide +kernel
theorem dX3_town_91 : decode cX3_town 91 = .ok (.invokevirtual 133, 3) := by decide +kernel
theorem dX3_town_94 : decode cX3_town 94 = .ok (.istore 5, 2) := by decide +kernel
theorem dX3_town_96 : decode cX3_town 96 = .ok (.aload_n 0, 1) := by decide +kernel
theorem dX3_town_97 : decode cX3_town 97 = .ok (.iload 4, 2) := by decide +kernel
theorem dX3_town_99 : decode cX3_town 99 = .ok (.invokevirtual 140, 3) := by decide +kernel
theorem dX3_town_102 : decode cX3_town 102 = .ok (.ifCond .eq 6, 3) := by decide +kernel
theorem dX3_town_105 : decode cX3_town 105 = .ok (.goto (-43), 3) := by decide +kernel
theorem dX3_town_108 : decode cX3_town 108 = .ok (.sipush (-2000), 3) := by decide +kernel
theorem dX3_town_111 : decode cX3_town 111 = .ok (.iload_n 3, 1) := by decide +kernel
theorem dX3_town_112 : decode cX3_town 112 = .ok (.isub, 1) := by decide +kernel
theorem dX3_town_113 : decode cX3_town 113 = .ok (.istore_n 2, 1) := by decide +kernel
theorem dX3_town_114 : decode cX3_town 114 = .ok (.aload_n 0, 1) := by decide +kernel
theorem dX3_town_115 : decode cX3_town 115 = .ok (.getfield 19, 3) := by decide +kernel
theorem dX3_town_118 : decode cX3_town 118 = .ok (.aload_n 0, 1) := by decide +kernel
theorem dX3_town_119 : decode cX3_town 119 = .ok (.getfield 9, 3) := by decide +kernel
theorem dX3_town_122 : decode cX3_town 122 = .ok (.invokestatic 136, 3) := by decide +kernel
theorem dX3_town_125 : decode cX3_town 125 = .ok (.goto (-63), 3) := by decide +kernel
theorem dX3_town_128 : decode cX3_town 128 = .ok (.aload_n 0, 1) := by decide +kernel
theorem dX3_town_129 : decode cX3_town 129 = .ok (.iconst 0, 1) := by decide +kernel
theorem dX3_town_130 : decode cX3_town 130 = .ok (.putfield 90, 3) := by decide +kernel
theorem dX3_town_133 : decode cX3_town 133 = .ok (.iload_n 2, 1) := by decide +kernel
theorem dX3_town_134 : decode cX3_town 134 = .ok (.bipush (-9), 2) := by decide +kernel
theorem dX3_town_136 : decode cX3_town 136 = .ok (.if_icmp .ne 7, 3) := by decide +kernel
theorem dX3_town_139 : decode cX3_town 139 = .ok (.iload_n 1, 1) := by decide +kernel
theorem dX3_town_140 : decode cX3_town 140 = .ok (.goto 4, 3) := by decide +kernel
theorem dX3_town_143 : decode cX3_town 143 = .ok (.iload_n 2, 1) := by decide +kernel
theorem dX3_town_144 : decode cX3_town 144 = .ok (.ireturn, 1) := by decide +kernel
set_option maxRecDepth 20000 in
theorem ggX3_wordsOf_X3_of : GoodIn wsX3_wordsOf wsX3_of := goodIn_r _ [4] (by decide +kernel) (by decide +kernel)
set_option maxRecDepth 20000 in
theorem gX3_wordsOf_X3_of : GoodIn wsX3_wordsOf (va_wsS RX3 51 yX3_of wsX3_of) := goodIn_app (goodIn_of _ (by decide +kernel)) ggX3_wordsOf_X3_of
theorem dX3_wordsOf_0 : decode cX3_wordsOf 0 = .ok (.iconst 0, 1) := by decide +kernel
theorem dX3_wordsOf_1 : decode cX3_wordsOf 1 = .ok (.istore_n 2, 1) := by decide +kernel
theorem dX3_wordsOf_2 : decode cX3_wordsOf 2 = .ok (.iconst 0, 1) := by decide +kernel
theorem dX3_wordsOf_3 : decode cX3_wordsOf 3 = .ok (.istore_n 3, 1) := by decide +kernel
theorem dX3_wordsOf_4 : decode cX3_wordsOf 4 = .ok (.iload_n 3, 1) := by decide +kernel
theorem dX3_wordsOf_5 : decode cX3_wordsOf 5 = .ok (.bipush 8, 2) := by decide +kernel
theorem dX3_wordsOf_7 : decode cX3_wordsOf 7 = .ok (.if_icmp .ge 29, 3) := by decide +kernel
theorem dX3_wordsOf_10 : decode cX3_wordsOf 10 = .ok (.iload_n 2, 1) := by decide +kernel
theorem dX3_wordsOf_11 : decode cX3_wordsOf 11 = .ok (.aload_n 0, 1) := by decide +kernel
theorem dX3_wordsOf_12 : decode cX3_wordsOf 12 = .ok (.iload_n 1, 1) := by decide +kernel
theorem dX3_wordsOf_13 : decode cX3_wordsOf 13 = .ok (.iconst 4, 1) := by decide +kernel
theorem dX3_wordsOf_14 : decode cX3_wordsOf 14 = .ok (.iload_n 3, 1) := by decide +kernel
theorem dX3_wordsOf_15 : decode cX3_wordsOf 15 = .ok (.iadd, 1) := by decide +kernel
theorem dX3_wordsOf_16 : decode cX3_wordsOf 16 = .ok (.invokestatic 51, 3) := by decide +kernel
theorem dX3_wordsOf_19 : decode cX3_wordsOf 19 = .ok (.iaload, 1) := by decide +kernel
theorem dX3_wordsOf_20 : decode cX3_wordsOf 20 = .ok (.ifCond .ne 7, 3) := by decide +kernel
theorem dX3_wordsOf_23 : decode cX3_wordsOf 23 = .ok (.iconst 0, 1) := by decide +kernel
theorem dX3_wordsOf_24 : decode cX3_wordsOf 24 = .ok (.goto 4, 3) := by decide +kernel
theorem dX3_wordsOf_27 : decode cX3_wordsOf 27 = .ok (.iconst 1, 1) := by decide +kernel
theorem dX3_wordsOf_28 : decode cX3_wordsOf 28 = .ok (.iadd, 1) := by decide +kernel
theorem dX3_wordsOf_29 : decode cX3_wordsOf 29 = .ok (.istore_n 2, 1) := by decide +kernel
theorem dX3_wordsOf_30 : decode cX3_wordsOf 30 = .ok (.iinc 3 1, 3) := by decide +kernel
theorem dX3_wordsOf_33 : decode cX3_wordsOf 33 = .ok (.goto (-29), 3) := by decide +kernel
theorem dX3_wordsOf_36 : decode cX3_wordsOf 36 = .ok (.iload_n 2, 1) := by decide +kernel
theorem dX3_wordsOf_37 : decode cX3_wordsOf 37 = .ok (.ireturn, 1) := by decide +kernel
set_option maxRecDepth 20000 in
theorem ggX3_citizen_X3_isCitizen : GoodIn wsX3_citizen wsX3_isCitizen := goodIn_r _ [6, 1, 7, 8, 5, 9, 24, 25, 26, 27, 28, 29, 30, 31, 32, 33, 34, 35, 36, 37, 38] (by decide +kernel) (by decide +kernel)
set_option maxRecDepth 20000 in
theorem gX3_citizen_X3_isCitizen : GoodIn wsX3_citizen (wsV RX3 47 RX3 yX3_isCitizen wsX3_isCitizen) := goodIn_app (goodIn_of _ (by decide +kernel)) ggX3_citizen_X3_isCitizen
set_option maxRecDepth 20000 in
theorem ggX3_citizen_X3_no : GoodIn wsX3_citizen wsX3_no := goodIn_r _ [13, 14, 24, 25, 26, 27, 28, 29, 30, 31, 32, 33, 34, 35, 36, 37, 38] (by decide +kernel) (by decide +kernel)
set_option maxRecDepth 20000 in
theorem gX3_citizen_X3_no : GoodIn wsX3_citizen (wsV RX3 39 RX3 yX3_no wsX3_no) := goodIn_app (goodIn_of _ (by decide +kernel)) ggX3_citizen_X3_no
set_option maxRecDepth 20000 in
theorem ggX3_citizen_X3_isIn : GoodIn wsX3_citizen wsX3_isIn := goodIn_r _ [9] (by decide +kernel) (by decide +kernel)
set_option maxRecDepth 20000 in
theorem gX3_citizen_X3_isIn : GoodIn wsX3_citizen (va_wsS RX3 43 yX3_isIn wsX3_isIn) := goodIn_app (goodIn_of _ (by decide +kernel)) ggX3_citizen_X3_isIn
set_option maxRecDepth 20000 in
theorem ggX3_citizen_X3_of : GoodIn wsX3_citizen wsX3_of := goodIn_r _ [17] (by decide +kernel) (by decide +kernel)
set_option maxRecDepth 20000 in
theorem gX3_citizen_X3_of : GoodIn wsX3_citizen (va_wsS RX3 51 yX3_of wsX3_of) := goodIn_app (goodIn_of _ (by decide +kernel)) ggX3_citizen_X3_of
set_option maxRecDepth 20000 in
theorem ggX3_citizen_X3_life : GoodIn wsX3_citizen wsX3_life := goodIn_r _ [20] (by decide +kernel) (by decide +kernel)
set_option maxRecDepth 20000 in
theorem gX3_citizen_X3_life : GoodIn wsX3_citizen (va_wsS RX3 69 yX3_life wsX3_life) := goodIn_app (goodIn_of _ (by decide +kernel)) ggX3_citizen_X3_life
set_option maxRecDepth 20000 in
theorem ggX3_citizen_X3_wordsOf : GoodIn wsX3_citizen wsX3_wordsOf := goodIn_r _ [23, 15, 16, 5, 17] (by decide +kernel) (by decide +kernel)
set_option maxRecDepth 20000 in
theorem gX3_citizen_X3_wordsOf : GoodIn wsX3_citizen (va_wsS RX3 143 yX3_wordsOf wsX3_wordsOf) := goodIn_app (goodIn_of _ (by decide +kernel)) ggX3_citizen_X3_wordsOf
theorem dX3_citizen_0 : decode cX3_citizen 0 = .ok (.aload_n 0, 1) := by decide +kernel
theorem dX3_citizen_1 : decode cX3_citizen 1 = .ok (.iload_n 1, 1) := by decide +kernel
theorem dX3_citizen_2 : decode cX3_citizen 2 = .ok (.invokevirtual 47, 3) := by decide +kernel
theorem dX3_citizen_5 : decode cX3_citizen 5 = .ok (.ifCond .ne 9, 3) := by decide +kernel
theorem dX3_citizen_8 : decode cX3_citizen 8 = .ok (.aload_n 0, 1) := by decide +kernel
theorem dX3_citizen_9 : decode cX3_citizen 9 = .ok (.iconst (-1), 1) := by decide +kernel
theorem dX3_citizen_10 : decode cX3_citizen 10 = .ok (.invokevirtual 39, 3) := by decide +kernel
theorem dX3_citizen_13 : decode cX3_citizen 13 = .ok (.ireturn, 1) := by decide +kernel
theorem dX3_citizen_14 : decode cX3_citizen 14 = .ok (.iload_n 2, 1) := by decide +kernel
theorem dX3_citizen_15 : decode cX3_citizen 15 = .ok (.iconst 0, 1) := by decide +kernel
theorem dX3_citizen_16 : decode cX3_citizen 16 = .ok (.iconst 3, 1) := by decide +kernel
theorem dX3_citizen_17 : decode cX3_citizen 17 = .ok (.invokestatic 43, 3) := by decide +kernel
theorem dX3_citizen_20 : decode cX3_citizen 20 = .ok (.ifCond .eq 14, 3) := by decide +kernel
theorem dX3_citizen_23 : decode cX3_citizen 23 = .ok (.aload_n 0, 1) := by decide +kernel
theorem dX3_citizen_24 : decode cX3_citizen 24 = .ok (.getfield 9, 3) := by decide +kernel
theorem dX3_citizen_27 : decode cX3_citizen 27 = .ok (.iload_n 1, 1) := by decide +kernel
theorem dX3_citizen_28 : decode cX3_citizen 28 = .ok (.iload_n 2, 1) := by decide +kernel
theorem dX3_citizen_29 : decode cX3_citizen 29 = .ok (.invokestatic 51, 3) := by decide +kernel
theorem dX3_citizen_32 : decode cX3_citizen 32 = .ok (.iaload, 1) := by decide +kernel
theorem dX3_citizen_33 : decode cX3_citizen 33 = .ok (.ireturn, 1) := by decide +kernel
theorem dX3_citizen_34 : decode cX3_citizen 34 = .ok (.iload_n 2, 1) := by decide +kernel
theorem dX3_citizen_35 : decode cX3_citizen 35 = .ok (.iconst 4, 1) := by decide +kernel
theorem dX3_citizen_36 : decode cX3_citizen 36 = .ok (.if_icmp .ne 29, 3) := by decide +kernel
theorem dX3_citizen_39 : decode cX3_citizen 39 = .ok (.aload_n 0, 1) := by decide +kernel
theorem dX3_citizen_40 : decode cX3_citizen 40 = .ok (.getfield 9, 3) := by decide +kernel
theorem dX3_citizen_43 : decode cX3_citizen 43 = .ok (.iload_n 1, 1) := by decide +kernel
theorem dX3_citizen_44 : decode cX3_citizen 44 = .ok (.iconst 0, 1) := by decide +kernel
theorem dX3_citizen_45 : decode cX3_citizen 45 = .ok (.invokestatic 51, 3) := by decide +kernel
theorem dX3_citizen_48 : decode cX3_citizen 48 = .ok (.iaload, 1) := by decide +kernel
theorem dX3_citizen_49 : decode cX3_citizen 49 = .ok (.aload_n 0, 1) := by decide +kernel
theorem dX3_citizen_50 : decode cX3_citizen 50 = .ok (.getfield 9, 3) := by decide +kernel
theorem dX3_citizen_53 : decode cX3_citizen 53 = .ok (.iload_n 1, 1) := by decide +kernel
theorem dX3_citizen_54 : decode cX3_citizen 54 = .ok (.iconst 1, 1) := by decide +kernel
theorem dX3_citizen_55 : decode cX3_citizen 55 = .ok (.invokestatic 51, 3) := by decide +kernel
theorem dX3_citizen_58 : decode cX3_citizen 58 = .ok (.iaload, 1) := by decide +kernel
theorem dX3_citizen_59 : decode cX3_citizen 59 = .ok (.invokestatic 69, 3) := by decide +kernel
theorem dX3_citizen_62 : decode cX3_citizen 62 = .ok (.goto 25, 3) := by decide +kernel
theorem dX3_citizen_65 : decode cX3_citizen 65 = .ok (.iload_n 2, 1) := by decide +kernel
theorem dX3_citizen_66 : decode cX3_citizen 66 = .ok (.iconst 5, 1) := by decide +kernel
theorem dX3_citizen_67 : decode cX3_citizen 67 = .ok (.if_icmp .ne 14, 3) := by decide +kernel
theorem dX3_citizen_70 : decode cX3_citizen 70 = .ok (.aload_n 0, 1) := by decide +kernel
theorem dX3_citizen_71 : decode cX3_citizen 71 = .ok (.getfield 9, 3) := by decide +kernel
theorem dX3_citizen_74 : decode cX3_citizen 74 = .ok (.iload_n 1, 1) := by decide +kernel
theorem dX3_citizen_75 : decode cX3_citizen 75 = .ok (.invokestatic 143, 3) := by decide +kernel
theorem dX3_citizen_78 : decode cX3_citizen 78 = .ok (.goto 9, 3) := by decide +kernel
theorem dX3_citizen_81 : decode cX3_citizen 81 = .ok (.aload_n 0, 1) := by decide +kernel
theorem dX3_citizen_82 : decode cX3_citizen 82 = .ok (.bipush (-2), 2) := by decide +kernel
theorem dX3_citizen_84 : decode cX3_citizen 84 = .ok (.invokevirtual 39, 3) := by decide +kernel
theorem dX3_citizen_87 : decode cX3_citizen 87 = .ok (.ireturn, 1) := by decide +kernel
set_option maxRecDepth 20000 in
theorem ggX3_word_X3_isCitizen : GoodIn wsX3_word wsX3_isCitizen := goodIn_r _ [6, 1, 7, 8, 5, 9, 21, 22, 23, 24, 25, 26, 27, 28, 29, 30, 31, 32, 33, 34, 35] (by decide +kernel) (by decide +kernel)
set_option maxRecDepth 20000 in
theorem gX3_word_X3_isCitizen : GoodIn wsX3_word (wsV RX3 47 RX3 yX3_isCitizen wsX3_isCitizen) := goodIn_app (goodIn_of _ (by decide +kernel)) ggX3_word_X3_isCitizen
set_option maxRecDepth 20000 in
theorem ggX3_word_X3_isTopic : GoodIn wsX3_word wsX3_isTopic := goodIn_r _ [12, 7, 8, 5, 9] (by decide +kernel) (by decide +kernel)
set_option maxRecDepth 20000 in
theorem gX3_word_X3_isTopic : GoodIn wsX3_word (va_wsS RX3 127 yX3_isTopic wsX3_isTopic) := goodIn_app (goodIn_of _ (by decide +kernel)) ggX3_word_X3_isTopic
set_option maxRecDepth 20000 in
theorem ggX3_word_X3_of : GoodIn wsX3_word wsX3_of := goodIn_r _ [15] (by decide +kernel) (by decide +kernel)
set_option maxRecDepth 20000 in
theorem gX3_word_X3_of : GoodIn wsX3_word (va_wsS RX3 51 yX3_of wsX3_of) := goodIn_app (goodIn_of _ (by decide +kernel)) ggX3_word_X3_of
set_option maxRecDepth 20000 in
theorem ggX3_word_X3_no : GoodIn wsX3_word wsX3_no := goodIn_r _ [19, 20, 21, 22, 23, 24, 25, 26, 27, 28, 29, 30, 31, 32, 33, 34, 35] (by decide +kernel) (by decide +kernel)
set_option maxRecDepth 20000 in
theorem gX3_word_X3_no : GoodIn wsX3_word (wsV RX3 39 RX3 yX3_no wsX3_no) := goodIn_app (goodIn_of _ (by decide +kernel)) ggX3_word_X3_no
theorem dX3_word_0 : decode cX3_word 0 = .ok (.aload_n 0, 1) := by decide +kernel
theorem dX3_word_1 : decode cX3_word 1 = .ok (.iload_n 1, 1) := by decide +kernel
theorem dX3_word_2 : decode cX3_word 2 = .ok (.invokevirtual 47, 3) := by decide +kernel
theorem dX3_word_5 : decode cX3_word 5 = .ok (.ifCond .eq 25, 3) := by decide +kernel
theorem dX3_word_8 : decode cX3_word 8 = .ok (.iload_n 2, 1) := by decide +kernel
theorem dX3_word_9 : decode cX3_word 9 = .ok (.invokestatic 127, 3) := by decide +kernel
theorem dX3_word_12 : decode cX3_word 12 = .ok (.ifCond .eq 18, 3) := by decide +kernel
theorem dX3_word_15 : decode cX3_word 15 = .ok (.aload_n 0, 1) := by decide +kernel
theorem dX3_word_16 : decode cX3_word 16 = .ok (.getfield 9, 3) := by decide +kernel
theorem dX3_word_19 : decode cX3_word 19 = .ok (.iload_n 1, 1) := by decide +kernel
theorem dX3_word_20 : decode cX3_word 20 = .ok (.iconst 4, 1) := by decide +kernel
theorem dX3_word_21 : decode cX3_word 21 = .ok (.iload_n 2, 1) := by decide +kernel
theorem dX3_word_22 : decode cX3_word 22 = .ok (.iadd, 1) := by decide +kernel
theorem dX3_word_23 : decode cX3_word 23 = .ok (.invokestatic 51, 3) := by decide +kernel
theorem dX3_word_26 : decode cX3_word 26 = .ok (.iaload, 1) := by decide +kernel
theorem dX3_word_27 : decode cX3_word 27 = .ok (.goto 8, 3) := by decide +kernel
theorem dX3_word_30 : decode cX3_word 30 = .ok (.aload_n 0, 1) := by decide +kernel
theorem dX3_word_31 : decode cX3_word 31 = .ok (.iconst (-1), 1) := by decide +kernel
theorem dX3_word_32 : decode cX3_word 32 = .ok (.invokevirtual 39, 3) := by decide +kernel
theorem dX3_word_35 : decode cX3_word 35 = .ok (.ireturn, 1) := by decide +kernel
set_option maxRecDepth 20000 in
theorem ggX3_written_X3_writtenIn : GoodIn wsX3_written wsX3_writtenIn := goodIn_r _ [5, 6, 7, 4, 8, 9, 10, 11, 12, 13, 14, 15, 16, 17] (by decide +kernel) (by decide +kernel)
set_option maxRecDepth 20000 in
theorem gX3_written_X3_writtenIn : GoodIn wsX3_written (va_wsS RX3 83 yX3_writtenIn wsX3_writtenIn) := goodIn_app (goodIn_of _ (by decide +kernel)) ggX3_written_X3_writtenIn
theorem dX3_written_0 : decode cX3_written 0 = .ok (.aload_n 0, 1) := by decide +kernel
theorem dX3_written_1 : decode cX3_written 1 = .ok (.getfield 9, 3) := by decide +kernel
theorem dX3_written_4 : decode cX3_written 4 = .ok (.invokestatic 83, 3) := by decide +kernel
theorem dX3_written_7 : decode cX3_written 7 = .ok (.ireturn, 1) := by decide +kernel
set_option maxRecDepth 20000 in
theorem ggX3_says_X3_isCitizen : GoodIn wsX3_says wsX3_isCitizen := goodIn_r _ [6, 1, 7, 8, 5, 9, 24, 25, 26, 27, 28, 29, 30, 31, 32, 33, 34, 35, 36, 37, 38] (by decide +kernel) (by decide +kernel)
set_option maxRecDepth 20000 in
theorem gX3_says_X3_isCitizen : GoodIn wsX3_says (wsV RX3 47 RX3 yX3_isCitizen wsX3_isCitizen) := goodIn_app (goodIn_of _ (by decide +kernel)) ggX3_says_X3_isCitizen
set_option maxRecDepth 20000 in
theorem ggX3_says_X3_isTopic : GoodIn wsX3_says wsX3_isTopic := goodIn_r _ [12, 7, 8, 5, 9] (by decide +kernel) (by decide +kernel)
set_option maxRecDepth 20000 in
theorem gX3_says_X3_isTopic : GoodIn wsX3_says (va_wsS RX3 127 yX3_isTopic wsX3_isTopic) := goodIn_app (goodIn_of _ (by decide +kernel)) ggX3_says_X3_isTopic
set_option maxRecDepth 20000 in
theorem ggX3_says_X3_isIn : GoodIn wsX3_says wsX3_isIn := goodIn_r _ [9] (by decide +kernel) (by decide +kernel)
set_option maxRecDepth 20000 in
theorem gX3_says_X3_isIn : GoodIn wsX3_says (va_wsS RX3 43 yX3_isIn wsX3_isIn) := goodIn_app (goodIn_of _ (by decide +kernel)) ggX3_says_X3_isIn
set_option maxRecDepth 20000 in
theorem ggX3_says_X3_isAlive : GoodIn wsX3_says wsX3_isAlive := goodIn_r _ [15, 16, 17, 5, 18] (by decide +kernel) (by decide +kernel)
set_option maxRecDepth 20000 in
theorem gX3_says_X3_isAlive : GoodIn wsX3_says (va_wsS RX3 55 yX3_isAlive wsX3_isAlive) := goodIn_app (goodIn_of _ (by decide +kernel)) ggX3_says_X3_isAlive
set_option maxRecDepth 20000 in
theorem ggX3_says_X3_no : GoodIn wsX3_says wsX3_no := goodIn_r _ [22, 23, 24, 25, 26, 27, 28, 29, 30, 31, 32, 33, 34, 35, 36, 37, 38] (by decide +kernel) (by decide +kernel)
set_option maxRecDepth 20000 in
theorem gX3_says_X3_no : GoodIn wsX3_says (wsV RX3 39 RX3 yX3_no wsX3_no) := goodIn_app (goodIn_of _ (by decide +kernel)) ggX3_says_X3_no
set_option maxRecDepth 20000 in
theorem ggX3_says_X3_of : GoodIn wsX3_says wsX3_of := goodIn_r _ [18] (by decide +kernel) (by decide +kernel)
set_option maxRecDepth 20000 in
theorem gX3_says_X3_of : GoodIn wsX3_says (va_wsS RX3 51 yX3_of wsX3_of) := goodIn_app (goodIn_of _ (by decide +kernel)) ggX3_says_X3_of
theorem dX3_says_0 : decode cX3_says 0 = .ok (.aload_n 0, 1) := by decide +kernel
theorem dX3_says_1 : decode cX3_says 1 = .ok (.iload_n 1, 1) := by decide +kernel
theorem dX3_says_2 : decode cX3_says 2 = .ok (.invokevirtual 47, 3) := by decide +kernel
theorem dX3_says_5 : decode cX3_says 5 = .ok (.ifCond .eq 10, 3) := by decide +kernel
theorem dX3_says_8 : decode cX3_says 8 = .ok (.iload_n 2, 1) := by decide +kernel
theorem dX3_says_9 : decode cX3_says 9 = .ok (.invokestatic 127, 3) := by decide +kernel
theorem dX3_says_12 : decode cX3_says 12 = .ok (.ifCond .ne 7, 3) := by decide +kernel
theorem dX3_says_15 : decode cX3_says 15 = .ok (.iconst (-1), 1) := by decide +kernel
theorem dX3_says_16 : decode cX3_says 16 = .ok (.goto 34, 3) := by decide +kernel
theorem dX3_says_19 : decode cX3_says 19 = .ok (.iload_n 3, 1) := by decide +kernel
theorem dX3_says_20 : decode cX3_says 20 = .ok (.iconst 0, 1) := by decide +kernel
theorem dX3_says_21 : decode cX3_says 21 = .ok (.iconst 2, 1) := by decide +kernel
theorem dX3_says_22 : decode cX3_says 22 = .ok (.invokestatic 43, 3) := by decide +kernel
theorem dX3_says_25 : decode cX3_says 25 = .ok (.ifCond .ne 8, 3) := by decide +kernel
theorem dX3_says_28 : decode cX3_says 28 = .ok (.bipush (-2), 2) := by decide +kernel
theorem dX3_says_30 : decode cX3_says 30 = .ok (.goto 20, 3) := by decide +kernel
theorem dX3_says_33 : decode cX3_says 33 = .ok (.aload_n 0, 1) := by decide +kernel
theorem dX3_says_34 : decode cX3_says 34 = .ok (.getfield 9, 3) := by decide +kernel
theorem dX3_says_37 : decode cX3_says 37 = .ok (.iload_n 1, 1) := by decide +kernel
theorem dX3_says_38 : decode cX3_says 38 = .ok (.invokestatic 55, 3) := by decide +kernel
theorem dX3_says_41 : decode cX3_says 41 = .ok (.ifCond .eq 7, 3) := by decide +kernel
theorem dX3_says_44 : decode cX3_says 44 = .ok (.iconst 0, 1) := by decide +kernel
theorem dX3_says_45 : decode cX3_says 45 = .ok (.goto 5, 3) := by decide +kernel
theorem dX3_says_48 : decode cX3_says 48 = .ok (.bipush (-3), 2) := by decide +kernel
theorem dX3_says_50 : decode cX3_says 50 = .ok (.istore 4, 2) := by decide +kernel
theorem dX3_says_52 : decode cX3_says 52 = .ok (.iload 4, 2) := by decide +kernel
theorem dX3_says_54 : decode cX3_says 54 = .ok (.ifCond .eq 10, 3) := by decide +kernel
theorem dX3_says_57 : decode cX3_says 57 = .ok (.aload_n 0, 1) := by decide +kernel
theorem dX3_says_58 : decode cX3_says 58 = .ok (.iload 4, 2) := by decide +kernel
theorem dX3_says_60 : decode cX3_says 60 = .ok (.invokevirtual 39, 3) := by decide +kernel
theorem dX3_says_63 : decode cX3_says 63 = .ok (.ireturn, 1) := by decide +kernel
theorem dX3_says_64 : decode cX3_says 64 = .ok (.aload_n 0, 1) := by decide +kernel
theorem dX3_says_65 : decode cX3_says 65 = .ok (.getfield 9, 3) := by decide +kernel
theorem dX3_says_68 : decode cX3_says 68 = .ok (.iload_n 1, 1) := by decide +kernel
theorem dX3_says_69 : decode cX3_says 69 = .ok (.iconst 4, 1) := by decide +kernel
theorem dX3_says_70 : decode cX3_says 70 = .ok (.iload_n 2, 1) := by decide +kernel
theorem dX3_says_71 : decode cX3_says 71 = .ok (.iadd, 1) := by decide +kernel
theorem dX3_says_72 : decode cX3_says 72 = .ok (.invokestatic 51, 3) := by decide +kernel
theorem dX3_says_75 : decode cX3_says 75 = .ok (.iaload, 1) := by decide +kernel
theorem dX3_says_76 : decode cX3_says 76 = .ok (.istore 5, 2) := by decide +kernel
theorem dX3_says_78 : decode cX3_says 78 = .ok (.aload_n 0, 1) := by decide +kernel
theorem dX3_says_79 : decode cX3_says 79 = .ok (.getfield 9, 3) := by decide +kernel
theorem dX3_says_82 : decode cX3_says 82 = .ok (.iload_n 1, 1) := by decide +kernel
theorem dX3_says_83 : decode cX3_says 83 = .ok (.iconst 4, 1) := by decide +kernel
theorem dX3_says_84 : decode cX3_says 84 = .ok (.iload_n 2, 1) := by decide +kernel
theorem dX3_says_85 : decode cX3_says 85 = .ok (.iadd, 1) := by decide +kernel
theorem dX3_says_86 : decode cX3_says 86 = .ok (.invokestatic 51, 3) := by decide +kernel
theorem dX3_says_89 : decode cX3_says 89 = .ok (.iload_n 3, 1) := by decide +kernel
theorem dX3_says_90 : decode cX3_says 90 = .ok (.iastore, 1) := by decide +kernel
theorem dX3_says_91 : decode cX3_says 91 = .ok (.iload 5, 2) := by decide +kernel
theorem dX3_says_93 : decode cX3_says 93 = .ok (.ireturn, 1) := by decide +kernel
theorem dX3_wrongBy_0 : decode cX3_wrongBy 0 = .ok (.iload_n 0, 1) := by decide +kernel
theorem dX3_wrongBy_1 : decode cX3_wrongBy 1 = .ok (.ifCond .ge 8, 3) := by decide +kernel
theorem dX3_wrongBy_4 : decode cX3_wrongBy 4 = .ok (.bipush (-4), 2) := by decide +kernel
theorem dX3_wrongBy_6 : decode cX3_wrongBy 6 = .ok (.goto 14, 3) := by decide +kernel
theorem dX3_wrongBy_9 : decode cX3_wrongBy 9 = .ok (.iload_n 0, 1) := by decide +kernel
theorem dX3_wrongBy_10 : decode cX3_wrongBy 10 = .ok (.iload_n 1, 1) := by decide +kernel
theorem dX3_wrongBy_11 : decode cX3_wrongBy 11 = .ok (.if_icmp .le 8, 3) := by decide +kernel
theorem dX3_wrongBy_14 : decode cX3_wrongBy 14 = .ok (.bipush (-6), 2) := by decide +kernel
theorem dX3_wrongBy_16 : decode cX3_wrongBy 16 = .ok (.goto 4, 3) := by decide +kernel
theorem dX3_wrongBy_19 : decode cX3_wrongBy 19 = .ok (.iconst 0, 1) := by decide +kernel
theorem dX3_wrongBy_20 : decode cX3_wrongBy 20 = .ok (.ireturn, 1) := by decide +kernel
set_option maxRecDepth 20000 in
theorem ggX3_ages_X3_isCitizen : GoodIn wsX3_ages wsX3_isCitizen := goodIn_r _ [6, 1, 7, 8, 5, 9, 21, 22, 23, 24, 25, 26, 27, 28, 29, 30, 31, 32, 33, 34, 35] (by decide +kernel) (by decide +kernel)
set_option maxRecDepth 20000 in
theorem gX3_ages_X3_isCitizen : GoodIn wsX3_ages (wsV RX3 47 RX3 yX3_isCitizen wsX3_isCitizen) := goodIn_app (goodIn_of _ (by decide +kernel)) ggX3_ages_X3_isCitizen
set_option maxRecDepth 20000 in
theorem ggX3_ages_X3_wrongBy : GoodIn wsX3_ages wsX3_wrongBy := goodIn_r _ [12] (by decide +kernel) (by decide +kernel)
set_option maxRecDepth 20000 in
theorem gX3_ages_X3_wrongBy : GoodIn wsX3_ages (va_wsS RX3 147 yX3_wrongBy wsX3_wrongBy) := goodIn_app (goodIn_of _ (by decide +kernel)) ggX3_ages_X3_wrongBy
set_option maxRecDepth 20000 in
theorem ggX3_ages_X3_no : GoodIn wsX3_ages wsX3_no := goodIn_r _ [16, 17, 21, 22, 23, 24, 25, 26, 27, 28, 29, 30, 31, 32, 33, 34, 35] (by decide +kernel) (by decide +kernel)
set_option maxRecDepth 20000 in
theorem gX3_ages_X3_no : GoodIn wsX3_ages (wsV RX3 39 RX3 yX3_no wsX3_no) := goodIn_app (goodIn_of _ (by decide +kernel)) ggX3_ages_X3_no
set_option maxRecDepth 20000 in
theorem ggX3_ages_X3_of : GoodIn wsX3_ages wsX3_of := goodIn_r _ [20] (by decide +kernel) (by decide +kernel)
set_option maxRecDepth 20000 in
theorem gX3_ages_X3_of : GoodIn wsX3_ages (va_wsS RX3 51 yX3_of wsX3_of) := goodIn_app (goodIn_of _ (by decide +kernel)) ggX3_ages_X3_of
theorem dX3_ages_0 : decode cX3_ages 0 = .ok (.aload_n 0, 1) := by decide +kernel
theorem dX3_ages_1 : decode cX3_ages 1 = .ok (.iload_n 1, 1) := by decide +kernel
theorem dX3_ages_2 : decode cX3_ages 2 = .ok (.invokevirtual 47, 3) := by decide +kernel
theorem dX3_ages_5 : decode cX3_ages 5 = .ok (.ifCond .eq 12, 3) := by decide +kernel
theorem dX3_ages_8 : decode cX3_ages 8 = .ok (.iload_n 2, 1) := by decide +kernel
theorem dX3_ages_9 : decode cX3_ages 9 = .ok (.bipush 99, 2) := by decide +kernel
theorem dX3_ages_11 : decode cX3_ages 11 = .ok (.invokestatic 147, 3) := by decide +kernel
theorem dX3_ages_14 : decode cX3_ages 14 = .ok (.goto 4, 3) := by decide +kernel
theorem dX3_ages_17 : decode cX3_ages 17 = .ok (.iconst (-1), 1) := by decide +kernel
theorem dX3_ages_18 : decode cX3_ages 18 = .ok (.istore_n 3, 1) := by decide +kernel
theorem dX3_ages_19 : decode cX3_ages 19 = .ok (.iload_n 3, 1) := by decide +kernel
theorem dX3_ages_20 : decode cX3_ages 20 = .ok (.ifCond .eq 9, 3) := by decide +kernel
theorem dX3_ages_23 : decode cX3_ages 23 = .ok (.aload_n 0, 1) := by decide +kernel
theorem dX3_ages_24 : decode cX3_ages 24 = .ok (.iload_n 3, 1) := by decide +kernel
theorem dX3_ages_25 : decode cX3_ages 25 = .ok (.invokevirtual 39, 3) := by decide +kernel
theorem dX3_ages_28 : decode cX3_ages 28 = .ok (.ireturn, 1) := by decide +kernel
theorem dX3_ages_29 : decode cX3_ages 29 = .ok (.aload_n 0, 1) := by decide +kernel
theorem dX3_ages_30 : decode cX3_ages 30 = .ok (.getfield 9, 3) := by decide +kernel
theorem dX3_ages_33 : decode cX3_ages 33 = .ok (.iload_n 1, 1) := by decide +kernel
theorem dX3_ages_34 : decode cX3_ages 34 = .ok (.iconst 2, 1) := by decide +kernel
theorem dX3_ages_35 : decode cX3_ages 35 = .ok (.invokestatic 51, 3) := by decide +kernel
theorem dX3_ages_38 : decode cX3_ages 38 = .ok (.iaload, 1) := by decide +kernel
theorem dX3_ages_39 : decode cX3_ages 39 = .ok (.istore 4, 2) := by decide +kernel
theorem dX3_ages_41 : decode cX3_ages 41 = .ok (.aload_n 0, 1) := by decide +kernel
theorem dX3_ages_42 : decode cX3_ages 42 = .ok (.getfield 9, 3) := by decide +kernel
theorem dX3_ages_45 : decode cX3_ages 45 = .ok (.iload_n 1, 1) := by decide +kernel
theorem dX3_ages_46 : decode cX3_ages 46 = .ok (.iconst 2, 1) := by decide +kernel
theorem dX3_ages_47 : decode cX3_ages 47 = .ok (.invokestatic 51, 3) := by decide +kernel
theorem dX3_ages_50 : decode cX3_ages 50 = .ok (.iload_n 2, 1) := by decide +kernel
theorem dX3_ages_51 : decode cX3_ages 51 = .ok (.iastore, 1) := by decide +kernel
theorem dX3_ages_52 : decode cX3_ages 52 = .ok (.iload 4, 2) := by decide +kernel
theorem dX3_ages_54 : decode cX3_ages 54 = .ok (.ireturn, 1) := by decide +kernel
set_option maxRecDepth 20000 in
theorem ggX3_dies_X3_isCitizen : GoodIn wsX3_dies wsX3_isCitizen := goodIn_r _ [6, 1, 7, 8, 5, 9, 27, 28, 29, 30, 31, 32, 33, 34, 35, 36, 37, 38, 39, 40, 41] (by decide +kernel) (by decide +kernel)
set_option maxRecDepth 20000 in
theorem gX3_dies_X3_isCitizen : GoodIn wsX3_dies (wsV RX3 47 RX3 yX3_isCitizen wsX3_isCitizen) := goodIn_app (goodIn_of _ (by decide +kernel)) ggX3_dies_X3_isCitizen
set_option maxRecDepth 20000 in
theorem ggX3_dies_X3_no : GoodIn wsX3_dies wsX3_no := goodIn_r _ [13, 14, 27, 28, 29, 30, 31, 32, 33, 34, 35, 36, 37, 38, 39, 40, 41] (by decide +kernel) (by decide +kernel)
set_option maxRecDepth 20000 in
theorem gX3_dies_X3_no : GoodIn wsX3_dies (wsV RX3 39 RX3 yX3_no wsX3_no) := goodIn_app (goodIn_of _ (by decide +kernel)) ggX3_dies_X3_no
set_option maxRecDepth 20000 in
theorem ggX3_dies_X3_isAlive : GoodIn wsX3_dies wsX3_isAlive := goodIn_r _ [17, 18, 19, 5, 20] (by decide +kernel) (by decide +kernel)
set_option maxRecDepth 20000 in
theorem gX3_dies_X3_isAlive : GoodIn wsX3_dies (va_wsS RX3 55 yX3_isAlive wsX3_isAlive) := goodIn_app (goodIn_of _ (by decide +kernel)) ggX3_dies_X3_isAlive
set_option maxRecDepth 20000 in
theorem ggX3_dies_X3_of : GoodIn wsX3_dies wsX3_of := goodIn_r _ [20] (by decide +kernel) (by decide +kernel)
set_option maxRecDepth 20000 in
theorem gX3_dies_X3_of : GoodIn wsX3_dies (va_wsS RX3 51 yX3_of wsX3_of) := goodIn_app (goodIn_of _ (by decide +kernel)) ggX3_dies_X3_of
set_option maxRecDepth 20000 in
theorem ggX3_dies_X3_livingIn : GoodIn wsX3_dies wsX3_livingIn := goodIn_r _ [23, 15, 16, 5, 17, 18, 19, 20] (by decide +kernel) (by decide +kernel)
set_option maxRecDepth 20000 in
theorem gX3_dies_X3_livingIn : GoodIn wsX3_dies (va_wsS RX3 150 yX3_livingIn wsX3_livingIn) := goodIn_app (goodIn_of _ (by decide +kernel)) ggX3_dies_X3_livingIn
set_option maxRecDepth 20000 in
theorem ggX3_dies_X3_bits : GoodIn wsX3_dies wsX3_bits := goodIn_r _ [26] (by decide +kernel) (by decide +kernel)
set_option maxRecDepth 20000 in
theorem gX3_dies_X3_bits : GoodIn wsX3_dies (va_wsS RX3 87 yX3_bits wsX3_bits) := goodIn_app (goodIn_of _ (by decide +kernel)) ggX3_dies_X3_bits
theorem dX3_dies_0 : decode cX3_dies 0 = .ok (.aload_n 0, 1) := by decide +kernel
theorem dX3_dies_1 : decode cX3_dies 1 = .ok (.iload_n 1, 1) := by decide +kernel
theorem dX3_dies_2 : decode cX3_dies 2 = .ok (.invokevirtual 47, 3) := by decide +kernel
theorem dX3_dies_5 : decode cX3_dies 5 = .ok (.ifCond .ne 9, 3) := by decide +kernel
theorem dX3_dies_8 : decode cX3_dies 8 = .ok (.aload_n 0, 1) := by decide +kernel
theorem dX3_dies_9 : decode cX3_dies 9 = .ok (.iconst (-1), 1) := by decide +kernel
theorem dX3_dies_10 : decode cX3_dies 10 = .ok (.invokevirtual 39, 3) := by decide +kernel
theorem dX3_dies_13 : decode cX3_dies 13 = .ok (.ireturn, 1) := by decide +kernel
theorem dX3_dies_14 : decode cX3_dies 14 = .ok (.aload_n 0, 1) := by decide +kernel
theorem dX3_dies_15 : decode cX3_dies 15 = .ok (.getfield 9, 3) := by decide +kernel
theorem dX3_dies_18 : decode cX3_dies 18 = .ok (.iload_n 1, 1) := by decide +kernel
theorem dX3_dies_19 : decode cX3_dies 19 = .ok (.invokestatic 55, 3) := by decide +kernel
theorem dX3_dies_22 : decode cX3_dies 22 = .ok (.ifCond .ne 10, 3) := by decide +kernel
theorem dX3_dies_25 : decode cX3_dies 25 = .ok (.aload_n 0, 1) := by decide +kernel
theorem dX3_dies_26 : decode cX3_dies 26 = .ok (.bipush (-3), 2) := by decide +kernel
theorem dX3_dies_28 : decode cX3_dies 28 = .ok (.invokevirtual 39, 3) := by decide +kernel
theorem dX3_dies_31 : decode cX3_dies 31 = .ok (.ireturn, 1) := by decide +kernel
theorem dX3_dies_32 : decode cX3_dies 32 = .ok (.aload_n 0, 1) := by decide +kernel
theorem dX3_dies_33 : decode cX3_dies 33 = .ok (.getfield 9, 3) := by decide +kernel
theorem dX3_dies_36 : decode cX3_dies 36 = .ok (.iload_n 1, 1) := by decide +kernel
theorem dX3_dies_37 : decode cX3_dies 37 = .ok (.iconst 3, 1) := by decide +kernel
theorem dX3_dies_38 : decode cX3_dies 38 = .ok (.invokestatic 51, 3) := by decide +kernel
theorem dX3_dies_41 : decode cX3_dies 41 = .ok (.iconst 1, 1) := by decide +kernel
theorem dX3_dies_42 : decode cX3_dies 42 = .ok (.iastore, 1) := by decide +kernel
theorem dX3_dies_43 : decode cX3_dies 43 = .ok (.aload_n 0, 1) := by decide +kernel
theorem dX3_dies_44 : decode cX3_dies 44 = .ok (.getfield 9, 3) := by decide +kernel
theorem dX3_dies_47 : decode cX3_dies 47 = .ok (.invokestatic 150, 3) := by decide +kernel
theorem dX3_dies_50 : decode cX3_dies 50 = .ok (.invokestatic 87, 3) := by decide +kernel
theorem dX3_dies_53 : decode cX3_dies 53 = .ok (.ireturn, 1) := by decide +kernel
set_option maxRecDepth 20000 in
theorem ggX3_turn_X3_isCitizen : GoodIn wsX3_turn wsX3_isCitizen := goodIn_r _ [6, 1, 7, 8, 5, 9, 21, 22, 23, 24, 25, 26, 27, 28, 29, 30, 31, 32, 33, 34, 35] (by decide +kernel) (by decide +kernel)
set_option maxRecDepth 20000 in
theorem gX3_turn_X3_isCitizen : GoodIn wsX3_turn (wsV RX3 47 RX3 yX3_isCitizen wsX3_isCitizen) := goodIn_app (goodIn_of _ (by decide +kernel)) ggX3_turn_X3_isCitizen
set_option maxRecDepth 20000 in
theorem ggX3_turn_X3_isIn : GoodIn wsX3_turn wsX3_isIn := goodIn_r _ [9] (by decide +kernel) (by decide +kernel)
set_option maxRecDepth 20000 in
theorem gX3_turn_X3_isIn : GoodIn wsX3_turn (va_wsS RX3 43 yX3_isIn wsX3_isIn) := goodIn_app (goodIn_of _ (by decide +kernel)) ggX3_turn_X3_isIn
set_option maxRecDepth 20000 in
theorem ggX3_turn_X3_wrongBy : GoodIn wsX3_turn wsX3_wrongBy := goodIn_r _ [12] (by decide +kernel) (by decide +kernel)
set_option maxRecDepth 20000 in
theorem gX3_turn_X3_wrongBy : GoodIn wsX3_turn (va_wsS RX3 147 yX3_wrongBy wsX3_wrongBy) := goodIn_app (goodIn_of _ (by decide +kernel)) ggX3_turn_X3_wrongBy
set_option maxRecDepth 20000 in
theorem ggX3_turn_X3_no : GoodIn wsX3_turn wsX3_no := goodIn_r _ [16, 17, 21, 22, 23, 24, 25, 26, 27, 28, 29, 30, 31, 32, 33, 34, 35] (by decide +kernel) (by decide +kernel)
set_option maxRecDepth 20000 in
theorem gX3_turn_X3_no : GoodIn wsX3_turn (wsV RX3 39 RX3 yX3_no wsX3_no) := goodIn_app (goodIn_of _ (by decide +kernel)) ggX3_turn_X3_no
set_option maxRecDepth 20000 in
theorem ggX3_turn_X3_of : GoodIn wsX3_turn wsX3_of := goodIn_r _ [20] (by decide +kernel) (by decide +kernel)
set_option maxRecDepth 20000 in
theorem gX3_turn_X3_of : GoodIn wsX3_turn (va_wsS RX3 51 yX3_of wsX3_of) := goodIn_app (goodIn_of _ (by decide +kernel)) ggX3_turn_X3_of
theorem dX3_turn_0 : decode cX3_turn 0 = .ok (.aload_n 0, 1) := by decide +kernel
theorem dX3_turn_1 : decode cX3_turn 1 = .ok (.iload_n 1, 1) := by decide +kernel
theorem dX3_turn_2 : decode cX3_turn 2 = .ok (.invokevirtual 47, 3) := by decide +kernel
theorem dX3_turn_5 : decode cX3_turn 5 = .ok (.ifCond .ne 7, 3) := by decide +kernel
theorem dX3_turn_8 : decode cX3_turn 8 = .ok (.iconst (-1), 1) := by decide +kernel
theorem dX3_turn_9 : decode cX3_turn 9 = .ok (.goto 23, 3) := by decide +kernel
theorem dX3_turn_12 : decode cX3_turn 12 = .ok (.iload_n 2, 1) := by decide +kernel
theorem dX3_turn_13 : decode cX3_turn 13 = .ok (.iconst 0, 1) := by decide +kernel
theorem dX3_turn_14 : decode cX3_turn 14 = .ok (.iconst 5, 1) := by decide +kernel
theorem dX3_turn_15 : decode cX3_turn 15 = .ok (.invokestatic 43, 3) := by decide +kernel
theorem dX3_turn_18 : decode cX3_turn 18 = .ok (.ifCond .ne 8, 3) := by decide +kernel
theorem dX3_turn_21 : decode cX3_turn 21 = .ok (.bipush (-2), 2) := by decide +kernel
theorem dX3_turn_23 : decode cX3_turn 23 = .ok (.goto 9, 3) := by decide +kernel
theorem dX3_turn_26 : decode cX3_turn 26 = .ok (.iload_n 3, 1) := by decide +kernel
theorem dX3_turn_27 : decode cX3_turn 27 = .ok (.bipush 9, 2) := by decide +kernel
theorem dX3_turn_29 : decode cX3_turn 29 = .ok (.invokestatic 147, 3) := by decide +kernel
theorem dX3_turn_32 : decode cX3_turn 32 = .ok (.istore 4, 2) := by decide +kernel
theorem dX3_turn_34 : decode cX3_turn 34 = .ok (.iload 4, 2) := by decide +kernel
theorem dX3_turn_36 : decode cX3_turn 36 = .ok (.ifCond .eq 10, 3) := by decide +kernel
theorem dX3_turn_39 : decode cX3_turn 39 = .ok (.aload_n 0, 1) := by decide +kernel
theorem dX3_turn_40 : decode cX3_turn 40 = .ok (.iload 4, 2) := by decide +kernel
theorem dX3_turn_42 : decode cX3_turn 42 = .ok (.invokevirtual 39, 3) := by decide +kernel
theorem dX3_turn_45 : decode cX3_turn 45 = .ok (.ireturn, 1) := by decide +kernel
theorem dX3_turn_46 : decode cX3_turn 46 = .ok (.bipush 10, 2) := by decide +kernel
theorem dX3_turn_48 : decode cX3_turn 48 = .ok (.aload_n 0, 1) := by decide +kernel
theorem dX3_turn_49 : decode cX3_turn 49 = .ok (.getfield 9, 3) := by decide +kernel
theorem dX3_turn_52 : decode cX3_turn 52 = .ok (.iload_n 1, 1) := by decide +kernel
theorem dX3_turn_53 : decode cX3_turn 53 = .ok (.iconst 0, 1) := by decide +kernel
theorem dX3_turn_54 : decode cX3_turn 54 = .ok (.invokestatic 51, 3) := by decide +kernel
theorem dX3_turn_57 : decode cX3_turn 57 = .ok (.iaload, 1) := by decide +kernel
theorem dX3_turn_58 : decode cX3_turn 58 = .ok (.imul, 1) := by decide +kernel
theorem dX3_turn_59 : decode cX3_turn 59 = .ok (.aload_n 0, 1) := by decide +kernel
theorem dX3_turn_60 : decode cX3_turn 60 = .ok (.getfield 9, 3) := by decide +kernel
theorem dX3_turn_63 : decode cX3_turn 63 = .ok (.iload_n 1, 1) := by decide +kernel
theorem dX3_turn_64 : decode cX3_turn 64 = .ok (.iconst 1, 1) := by decide +kernel
theorem dX3_turn_65 : decode cX3_turn 65 = .ok (.invokestatic 51, 3) := by decide +kernel
theorem dX3_turn_68 : decode cX3_turn 68 = .ok (.iaload, 1) := by decide +kernel
theorem dX3_turn_69 : decode cX3_turn 69 = .ok (.iadd, 1) := by decide +kernel
theorem dX3_turn_70 : decode cX3_turn 70 = .ok (.istore 5, 2) := by decide +kernel
theorem dX3_turn_72 : decode cX3_turn 72 = .ok (.aload_n 0, 1) := by decide +kernel
theorem dX3_turn_73 : decode cX3_turn 73 = .ok (.getfield 9, 3) := by decide +kernel
theorem dX3_turn_76 : decode cX3_turn 76 = .ok (.iload_n 1, 1) := by decide +kernel
theorem dX3_turn_77 : decode cX3_turn 77 = .ok (.iconst 0, 1) := by decide +kernel
theorem dX3_turn_78 : decode cX3_turn 78 = .ok (.invokestatic 51, 3) := by decide +kernel
theorem dX3_turn_81 : decode cX3_turn 81 = .ok (.iload_n 2, 1) := by decide +kernel
theorem dX3_turn_82 : decode cX3_turn 82 = .ok (.iastore, 1) := by decide +kernel
theorem dX3_turn_83 : decode cX3_turn 83 = .ok (.aload_n 0, 1) := by decide +kernel
theorem dX3_turn_84 : decode cX3_turn 84 = .ok (.getfield 9, 3) := by decide +kernel
theorem dX3_turn_87 : decode cX3_turn 87 = .ok (.iload_n 1, 1) := by decide +kernel
theorem dX3_turn_88 : decode cX3_turn 88 = .ok (.iconst 1, 1) := by decide +kernel
theorem dX3_turn_89 : decode cX3_turn 89 = .ok (.invokestatic 51, 3) := by decide +kernel
theorem dX3_turn_92 : decode cX3_turn 92 = .ok (.iload_n 3, 1) := by decide +kernel
theorem dX3_turn_93 : decode cX3_turn 93 = .ok (.iastore, 1) := by decide +kernel
theorem dX3_turn_94 : decode cX3_turn 94 = .ok (.iload 5, 2) := by decide +kernel
theorem dX3_turn_96 : decode cX3_turn 96 = .ok (.ireturn, 1) := by decide +kernel
set_option maxRecDepth 20000 in
theorem ggX3_years_X3_no : GoodIn wsX3_years wsX3_no := goodIn_r _ [6, 7, 41, 42, 43, 44, 45, 46, 47, 48, 49, 50, 51, 52, 53, 54, 55] (by decide +kernel) (by decide +kernel)
set_option maxRecDepth 20000 in
theorem gX3_years_X3_no : GoodIn wsX3_years (wsV RX3 39 RX3 yX3_no wsX3_no) := goodIn_app (goodIn_of _ (by decide +kernel)) ggX3_years_X3_no
set_option maxRecDepth 20000 in
theorem ggX3_years_X3_yearsOn : GoodIn wsX3_years wsX3_yearsOn := goodIn_r _ [10, 11, 12, 5, 13, 14, 15, 16, 17, 18, 19, 20, 21, 22, 23, 24, 25, 26, 27, 28, 29, 30, 31] (by decide +kernel) (by decide +kernel)
set_option maxRecDepth 20000 in
theorem gX3_years_X3_yearsOn : GoodIn wsX3_years (va_wsS RX3 79 yX3_yearsOn wsX3_yearsOn) := goodIn_app (goodIn_of _ (by decide +kernel)) ggX3_years_X3_yearsOn
set_option maxRecDepth 20000 in
theorem ggX3_years_X3_writtenIn : GoodIn wsX3_years wsX3_writtenIn := goodIn_r _ [34, 35, 36, 5, 37, 29, 30, 31, 14, 15, 16, 17, 18, 19] (by decide +kernel) (by decide +kernel)
set_option maxRecDepth 20000 in
theorem gX3_years_X3_writtenIn : GoodIn wsX3_years (va_wsS RX3 83 yX3_writtenIn wsX3_writtenIn) := goodIn_app (goodIn_of _ (by decide +kernel)) ggX3_years_X3_writtenIn
set_option maxRecDepth 20000 in
theorem ggX3_years_X3_bits : GoodIn wsX3_years wsX3_bits := goodIn_r _ [40] (by decide +kernel) (by decide +kernel)
set_option maxRecDepth 20000 in
theorem gX3_years_X3_bits : GoodIn wsX3_years (va_wsS RX3 87 yX3_bits wsX3_bits) := goodIn_app (goodIn_of _ (by decide +kernel)) ggX3_years_X3_bits
theorem dX3_years_0 : decode cX3_years 0 = .ok (.iload_n 1, 1) := by decide +kernel
theorem dX3_years_1 : decode cX3_years 1 = .ok (.iconst 1, 1) := by decide +kernel
theorem dX3_years_2 : decode cX3_years 2 = .ok (.if_icmp .ge 10, 3) := by decide +kernel
theorem dX3_years_5 : decode cX3_years 5 = .ok (.aload_n 0, 1) := by decide +kernel
theorem dX3_years_6 : decode cX3_years 6 = .ok (.bipush (-4), 2) := by decide +kernel
theorem dX3_years_8 : decode cX3_years 8 = .ok (.invokevirtual 39, 3) := by decide +kernel
theorem dX3_years_11 : decode cX3_years 11 = .ok (.ireturn, 1) := by decide +kernel
theorem dX3_years_12 : decode cX3_years 12 = .ok (.iload_n 1, 1) := by decide +kernel
theorem dX3_years_13 : decode cX3_years 13 = .ok (.bipush 60, 2) := by decide +kernel
theorem dX3_years_15 : decode cX3_years 15 = .ok (.if_icmp .gt 17, 3) := by decide +kernel
theorem dX3_years_18 : decode cX3_years 18 = .ok (.aload_n 0, 1) := by decide +kernel
theorem dX3_years_19 : decode cX3_years 19 = .ok (.getfield 9, 3) := by decide +kernel
theorem dX3_years_22 : decode cX3_years 22 = .ok (.iconst 1, 1) := by decide +kernel
theorem dX3_years_23 : decode cX3_years 23 = .ok (.iaload, 1) := by decide +kernel
theorem dX3_years_24 : decode cX3_years 24 = .ok (.iload_n 1, 1) := by decide +kernel
theorem dX3_years_25 : decode cX3_years 25 = .ok (.iadd, 1) := by decide +kernel
theorem dX3_years_26 : decode cX3_years 26 = .ok (.sipush 999, 3) := by decide +kernel
theorem dX3_years_29 : decode cX3_years 29 = .ok (.if_icmp .le 10, 3) := by decide +kernel
theorem dX3_years_32 : decode cX3_years 32 = .ok (.aload_n 0, 1) := by decide +kernel
theorem dX3_years_33 : decode cX3_years 33 = .ok (.bipush (-6), 2) := by decide +kernel
theorem dX3_years_35 : decode cX3_years 35 = .ok (.invokevirtual 39, 3) := by decide +kernel
theorem dX3_years_38 : decode cX3_years 38 = .ok (.ireturn, 1) := by decide +kernel
theorem dX3_years_39 : decode cX3_years 39 = .ok (.aload_n 0, 1) := by decide +kernel
theorem dX3_years_40 : decode cX3_years 40 = .ok (.getfield 9, 3) := by decide +kernel
theorem dX3_years_43 : decode cX3_years 43 = .ok (.iload_n 1, 1) := by decide +kernel
theorem dX3_years_44 : decode cX3_years 44 = .ok (.invokestatic 79, 3) := by decide +kernel
theorem dX3_years_47 : decode cX3_years 47 = .ok (.aload_n 0, 1) := by decide +kernel
theorem dX3_years_48 : decode cX3_years 48 = .ok (.getfield 9, 3) := by decide +kernel
theorem dX3_years_51 : decode cX3_years 51 = .ok (.invokestatic 83, 3) := by decide +kernel
theorem dX3_years_54 : decode cX3_years 54 = .ok (.invokestatic 87, 3) := by decide +kernel
theorem dX3_years_57 : decode cX3_years 57 = .ok (.ireturn, 1) := by decide +kernel
set_option maxRecDepth 20000 in
theorem ggX3_takes_X3_copies : GoodIn wsX3_takes wsX3_copies := goodIn_r _ [6] (by decide +kernel) (by decide +kernel)
set_option maxRecDepth 20000 in
theorem gX3_takes_X3_copies : GoodIn wsX3_takes (va_wsS RX3 136 yX3_copies wsX3_copies) := goodIn_app (goodIn_of _ (by decide +kernel)) ggX3_takes_X3_copies
set_option maxRecDepth 20000 in
theorem ggX3_takes_X3_yearsOn : GoodIn wsX3_takes wsX3_yearsOn := goodIn_r _ [9, 10, 11, 5, 12, 13, 14, 15, 16, 17, 18, 19, 20, 21, 22, 23, 24, 25, 26, 27, 28, 29, 30] (by decide +kernel) (by decide +kernel)
set_option maxRecDepth 20000 in
theorem gX3_takes_X3_yearsOn : GoodIn wsX3_takes (va_wsS RX3 79 yX3_yearsOn wsX3_yearsOn) := goodIn_app (goodIn_of _ (by decide +kernel)) ggX3_takes_X3_yearsOn
theorem dX3_takes_0 : decode cX3_takes 0 = .ok (.aload_n 0, 1) := by decide +kernel
theorem dX3_takes_1 : decode cX3_takes 1 = .ok (.getfield 9, 3) := by decide +kernel
theorem dX3_takes_4 : decode cX3_takes 4 = .ok (.aload_n 0, 1) := by decide +kernel
theorem dX3_takes_5 : decode cX3_takes 5 = .ok (.getfield 13, 3) := by decide +kernel
theorem dX3_takes_8 : decode cX3_takes 8 = .ok (.invokestatic 136, 3) := by decide +kernel
theorem dX3_takes_11 : decode cX3_takes 11 = .ok (.aload_n 0, 1) := by decide +kernel
theorem dX3_takes_12 : decode cX3_takes 12 = .ok (.getfield 13, 3) := by decide +kernel
theorem dX3_takes_15 : decode cX3_takes 15 = .ok (.iload_n 1, 1) := by decide +kernel
theorem dX3_takes_16 : decode cX3_takes 16 = .ok (.invokestatic 79, 3) := by decide +kernel
theorem dX3_takes_19 : decode cX3_takes 19 = .ok (.return_, 1) := by decide +kernel
set_option maxRecDepth 20000 in
theorem ggX3_writtenThen_X3_wrongBy : GoodIn wsX3_writtenThen wsX3_wrongBy := goodIn_r _ [5] (by decide +kernel) (by decide +kernel)
set_option maxRecDepth 20000 in
theorem gX3_writtenThen_X3_wrongBy : GoodIn wsX3_writtenThen (va_wsS RX3 147 yX3_wrongBy wsX3_wrongBy) := goodIn_app (goodIn_of _ (by decide +kernel)) ggX3_writtenThen_X3_wrongBy
set_option maxRecDepth 20000 in
theorem ggX3_writtenThen_X3_no : GoodIn wsX3_writtenThen wsX3_no := goodIn_r _ [9, 10, 49, 50, 51, 52, 53, 54, 55, 56, 57, 58, 59, 60, 61, 62, 63] (by decide +kernel) (by decide +kernel)
set_option maxRecDepth 20000 in
theorem gX3_writtenThen_X3_no : GoodIn wsX3_writtenThen (wsV RX3 39 RX3 yX3_no wsX3_no) := goodIn_app (goodIn_of _ (by decide +kernel)) ggX3_writtenThen_X3_no
set_option maxRecDepth 20000 in
theorem ggX3_writtenThen_X3_takes : GoodIn wsX3_writtenThen wsX3_takes := goodIn_r _ [14, 15, 1, 16, 17, 4, 18, 19, 20, 21, 22, 23, 24, 25, 26, 27, 28, 29, 30, 31, 32, 33, 34, 35, 36, 37, 38, 39, 40, 41, 42, 49, 50, 51, 52, 53, 54, 55, 56, 57, 58, 59, 60, 61, 62, 63] (by decide +kernel) (by decide +kernel)
set_option maxRecDepth 20000 in
theorem gX3_writtenThen_X3_takes : GoodIn wsX3_writtenThen (wsV RX3 153 RX3 yX3_takes wsX3_takes) := goodIn_app (goodIn_of _ (by decide +kernel)) ggX3_writtenThen_X3_takes
set_option maxRecDepth 20000 in
theorem ggX3_writtenThen_X3_writtenIn : GoodIn wsX3_writtenThen wsX3_writtenIn := goodIn_r _ [45, 46, 47, 4, 48, 40, 41, 42, 25, 26, 27, 28, 29, 30] (by decide +kernel) (by decide +kernel)
set_option maxRecDepth 20000 in
theorem gX3_writtenThen_X3_writtenIn : GoodIn wsX3_writtenThen (va_wsS RX3 83 yX3_writtenIn wsX3_writtenIn) := goodIn_app (goodIn_of _ (by decide +kernel)) ggX3_writtenThen_X3_writtenIn
theorem dX3_writtenThen_0 : decode cX3_writtenThen 0 = .ok (.iload_n 1, 1) := by decide +kernel
theorem dX3_writtenThen_1 : decode cX3_writtenThen 1 = .ok (.bipush 60, 2) := by decide +kernel
theorem dX3_writtenThen_3 : decode cX3_writtenThen 3 = .ok (.invokestatic 147, 3) := by decide +kernel
theorem dX3_writtenThen_6 : decode cX3_writtenThen 6 = .ok (.istore_n 2, 1) := by decide +kernel
theorem dX3_writtenThen_7 : decode cX3_writtenThen 7 = .ok (.iload_n 2, 1) := by decide +kernel
theorem dX3_writtenThen_8 : decode cX3_writtenThen 8 = .ok (.ifCond .eq 9, 3) := by decide +kernel
theorem dX3_writtenThen_11 : decode cX3_writtenThen 11 = .ok (.aload_n 0, 1) := by decide +kernel
theorem dX3_writtenThen_12 : decode cX3_writtenThen 12 = .ok (.iload_n 2, 1) := by decide +kernel
theorem dX3_writtenThen_13 : decode cX3_writtenThen 13 = .ok (.invokevirtual 39, 3) := by decide +kernel
theorem dX3_writtenThen_16 : decode cX3_writtenThen 16 = .ok (.ireturn, 1) := by decide +kernel
theorem dX3_writtenThen_17 : decode cX3_writtenThen 17 = .ok (.aload_n 0, 1) := by decide +kernel
theorem dX3_writtenThen_18 : decode cX3_writtenThen 18 = .ok (.iload_n 1, 1) := by decide +kernel
theorem dX3_writtenThen_19 : decode cX3_writtenThen 19 = .ok (.invokevirtual 153, 3) := by decide +kernel
theorem dX3_writtenThen_22 : decode cX3_writtenThen 22 = .ok (.aload_n 0, 1) := by decide +kernel
theorem dX3_writtenThen_23 : decode cX3_writtenThen 23 = .ok (.getfield 13, 3) := by decide +kernel
theorem dX3_writtenThen_26 : decode cX3_writtenThen 26 = .ok (.invokestatic 83, 3) := by decide +kernel
theorem dX3_writtenThen_29 : decode cX3_writtenThen 29 = .ok (.ireturn, 1) := by decide +kernel
set_option maxRecDepth 20000 in
theorem ggX3_wordThen_X3_isCitizen : GoodIn wsX3_wordThen wsX3_isCitizen := goodIn_r _ [6, 7, 8, 9, 5, 10, 53, 54, 55, 56, 57, 58, 59, 60, 61, 62, 63, 64, 65, 66, 67] (by decide +kernel) (by decide +kernel)
set_option maxRecDepth 20000 in
theorem gX3_wordThen_X3_isCitizen : GoodIn wsX3_wordThen (wsV RX3 47 RX3 yX3_isCitizen wsX3_isCitizen) := goodIn_app (goodIn_of _ (by decide +kernel)) ggX3_wordThen_X3_isCitizen
set_option maxRecDepth 20000 in
theorem ggX3_wordThen_X3_isTopic : GoodIn wsX3_wordThen wsX3_isTopic := goodIn_r _ [13, 8, 9, 5, 10] (by decide +kernel) (by decide +kernel)
set_option maxRecDepth 20000 in
theorem gX3_wordThen_X3_isTopic : GoodIn wsX3_wordThen (va_wsS RX3 127 yX3_isTopic wsX3_isTopic) := goodIn_app (goodIn_of _ (by decide +kernel)) ggX3_wordThen_X3_isTopic
set_option maxRecDepth 20000 in
theorem ggX3_wordThen_X3_wrongBy : GoodIn wsX3_wordThen wsX3_wrongBy := goodIn_r _ [16] (by decide +kernel) (by decide +kernel)
set_option maxRecDepth 20000 in
theorem gX3_wordThen_X3_wrongBy : GoodIn wsX3_wordThen (va_wsS RX3 147 yX3_wrongBy wsX3_wrongBy) := goodIn_app (goodIn_of _ (by decide +kernel)) ggX3_wordThen_X3_wrongBy
set_option maxRecDepth 20000 in
theorem ggX3_wordThen_X3_no : GoodIn wsX3_wordThen wsX3_no := goodIn_r _ [20, 21, 53, 54, 55, 56, 57, 58, 59, 60, 61, 62, 63, 64, 65, 66, 67] (by decide +kernel) (by decide +kernel)
set_option maxRecDepth 20000 in
theorem gX3_wordThen_X3_no : GoodIn wsX3_wordThen (wsV RX3 39 RX3 yX3_no wsX3_no) := goodIn_app (goodIn_of _ (by decide +kernel)) ggX3_wordThen_X3_no
set_option maxRecDepth 20000 in
theorem ggX3_wordThen_X3_takes : GoodIn wsX3_wordThen wsX3_takes := goodIn_r _ [25, 7, 1, 26, 27, 5, 28, 29, 30, 31, 32, 33, 34, 35, 36, 37, 38, 39, 40, 41, 42, 43, 44, 45, 46, 47, 48, 49, 50, 51, 52, 53, 54, 55, 56, 57, 58, 59, 60, 61, 62, 63, 64, 65, 66, 67] (by decide +kernel) (by decide +kernel)
set_option maxRecDepth 20000 in
theorem gX3_wordThen_X3_takes : GoodIn wsX3_wordThen (wsV RX3 153 RX3 yX3_takes wsX3_takes) := goodIn_app (goodIn_of _ (by decide +kernel)) ggX3_wordThen_X3_takes
set_option maxRecDepth 20000 in
theorem ggX3_wordThen_X3_of : GoodIn wsX3_wordThen wsX3_of := goodIn_r _ [40] (by decide +kernel) (by decide +kernel)
set_option maxRecDepth 20000 in
theorem gX3_wordThen_X3_of : GoodIn wsX3_wordThen (va_wsS RX3 51 yX3_of wsX3_of) := goodIn_app (goodIn_of _ (by decide +kernel)) ggX3_wordThen_X3_of
theorem dX3_wordThen_0 : decode cX3_wordThen 0 = .ok (.aload_n 0, 1) := by decide +kernel
theorem dX3_wordThen_1 : decode cX3_wordThen 1 = .ok (.iload_n 1, 1) := by decide +kernel
theorem dX3_wordThen_2 : decode cX3_wordThen 2 = .ok (.invokevirtual 47, 3) := by decide +kernel
theorem dX3_wordThen_5 : decode cX3_wordThen 5 = .ok (.ifCond .eq 19, 3) := by decide +kernel
theorem dX3_wordThen_8 : decode cX3_wordThen 8 = .ok (.iload_n 2, 1) := by decide +kernel
theorem dX3_wordThen_9 : decode cX3_wordThen 9 = .ok (.invokestatic 127, 3) := by decide +kernel
theorem dX3_wordThen_12 : decode cX3_wordThen 12 = .ok (.ifCond .eq 12, 3) := by decide +kernel
theorem dX3_wordThen_15 : decode cX3_wordThen 15 = .ok (.iload_n 3, 1) := by decide +kernel
theorem dX3_wordThen_16 : decode cX3_wordThen 16 = .ok (.bipush 60, 2) := by decide +kernel
theorem dX3_wordThen_18 : decode cX3_wordThen 18 = .ok (.invokestatic 147, 3) := by decide +kernel
theorem dX3_wordThen_21 : decode cX3_wordThen 21 = .ok (.goto 4, 3) := by decide +kernel
theorem dX3_wordThen_24 : decode cX3_wordThen 24 = .ok (.iconst (-1), 1) := by decide +kernel
theorem dX3_wordThen_25 : decode cX3_wordThen 25 = .ok (.istore 4, 2) := by decide +kernel
theorem dX3_wordThen_27 : decode cX3_wordThen 27 = .ok (.iload 4, 2) := by decide +kernel
theorem dX3_wordThen_29 : decode cX3_wordThen 29 = .ok (.ifCond .eq 10, 3) := by decide +kernel
theorem dX3_wordThen_32 : decode cX3_wordThen 32 = .ok (.aload_n 0, 1) := by decide +kernel
theorem dX3_wordThen_33 : decode cX3_wordThen 33 = .ok (.iload 4, 2) := by decide +kernel
theorem dX3_wordThen_35 : decode cX3_wordThen 35 = .ok (.invokevirtual 39, 3) := by decide +kernel
theorem dX3_wordThen_38 : decode cX3_wordThen 38 = .ok (.ireturn, 1) := by decide +kernel
theorem dX3_wordThen_39 : decode cX3_wordThen 39 = .ok (.aload_n 0, 1) := by decide +kernel
theorem dX3_wordThen_40 : decode cX3_wordThen 40 = .ok (.iload_n 3, 1) := by decide +kernel
theorem dX3_wordThen_41 : decode cX3_wordThen 41 = .ok (.invokevirtual 153, 3) := by decide +kernel
theorem dX3_wordThen_44 : decode cX3_wordThen 44 = .ok (.aload_n 0, 1) := by decide +kernel
theorem dX3_wordThen_45 : decode cX3_wordThen 45 = .ok (.getfield 13, 3) := by decide +kernel
theorem dX3_wordThen_48 : decode cX3_wordThen 48 = .ok (.iload_n 1, 1) := by decide +kernel
theorem dX3_wordThen_49 : decode cX3_wordThen 49 = .ok (.iconst 4, 1) := by decide +kernel
theorem dX3_wordThen_50 : decode cX3_wordThen 50 = .ok (.iload_n 2, 1) := by decide +kernel
theorem dX3_wordThen_51 : decode cX3_wordThen 51 = .ok (.iadd, 1) := by decide +kernel
theorem dX3_wordThen_52 : decode cX3_wordThen 52 = .ok (.invokestatic 51, 3) := by decide +kernel
theorem dX3_wordThen_55 : decode cX3_wordThen 55 = .ok (.iaload, 1) := by decide +kernel
theorem dX3_wordThen_56 : decode cX3_wordThen 56 = .ok (.ireturn, 1) := by decide +kernel
set_option maxRecDepth 20000 in
theorem ggX3_deadThen_X3_wrongBy : GoodIn wsX3_deadThen wsX3_wrongBy := goodIn_r _ [5] (by decide +kernel) (by decide +kernel)
set_option maxRecDepth 20000 in
theorem gX3_deadThen_X3_wrongBy : GoodIn wsX3_deadThen (va_wsS RX3 147 yX3_wrongBy wsX3_wrongBy) := goodIn_app (goodIn_of _ (by decide +kernel)) ggX3_deadThen_X3_wrongBy
set_option maxRecDepth 20000 in
theorem ggX3_deadThen_X3_no : GoodIn wsX3_deadThen wsX3_no := goodIn_r _ [9, 10, 46, 47, 48, 49, 50, 51, 52, 53, 54, 55, 56, 57, 58, 59, 60] (by decide +kernel) (by decide +kernel)
set_option maxRecDepth 20000 in
theorem gX3_deadThen_X3_no : GoodIn wsX3_deadThen (wsV RX3 39 RX3 yX3_no wsX3_no) := goodIn_app (goodIn_of _ (by decide +kernel)) ggX3_deadThen_X3_no
set_option maxRecDepth 20000 in
theorem ggX3_deadThen_X3_takes : GoodIn wsX3_deadThen wsX3_takes := goodIn_r _ [14, 15, 1, 16, 17, 4, 18, 19, 20, 21, 22, 23, 24, 25, 26, 27, 28, 29, 30, 31, 32, 33, 34, 35, 36, 37, 38, 39, 40, 41, 42, 46, 47, 48, 49, 50, 51, 52, 53, 54, 55, 56, 57, 58, 59, 60] (by decide +kernel) (by decide +kernel)
set_option maxRecDepth 20000 in
theorem gX3_deadThen_X3_takes : GoodIn wsX3_deadThen (wsV RX3 153 RX3 yX3_takes wsX3_takes) := goodIn_app (goodIn_of _ (by decide +kernel)) ggX3_deadThen_X3_takes
set_option maxRecDepth 20000 in
theorem ggX3_deadThen_X3_livingIn : GoodIn wsX3_deadThen wsX3_livingIn := goodIn_r _ [45, 25, 26, 4, 27, 28, 29, 30] (by decide +kernel) (by decide +kernel)
set_option maxRecDepth 20000 in
theorem gX3_deadThen_X3_livingIn : GoodIn wsX3_deadThen (va_wsS RX3 150 yX3_livingIn wsX3_livingIn) := goodIn_app (goodIn_of _ (by decide +kernel)) ggX3_deadThen_X3_livingIn
theorem dX3_deadThen_0 : decode cX3_deadThen 0 = .ok (.iload_n 1, 1) := by decide +kernel
theorem dX3_deadThen_1 : decode cX3_deadThen 1 = .ok (.bipush 60, 2) := by decide +kernel
theorem dX3_deadThen_3 : decode cX3_deadThen 3 = .ok (.invokestatic 147, 3) := by decide +kernel
theorem dX3_deadThen_6 : decode cX3_deadThen 6 = .ok (.istore_n 2, 1) := by decide +kernel
theorem dX3_deadThen_7 : decode cX3_deadThen 7 = .ok (.iload_n 2, 1) := by decide +kernel
theorem dX3_deadThen_8 : decode cX3_deadThen 8 = .ok (.ifCond .eq 9, 3) := by decide +kernel
theorem dX3_deadThen_11 : decode cX3_deadThen 11 = .ok (.aload_n 0, 1) := by decide +kernel
theorem dX3_deadThen_12 : decode cX3_deadThen 12 = .ok (.iload_n 2, 1) := by decide +kernel
theorem dX3_deadThen_13 : decode cX3_deadThen 13 = .ok (.invokevirtual 39, 3) := by decide +kernel
theorem dX3_deadThen_16 : decode cX3_deadThen 16 = .ok (.ireturn, 1) := by decide +kernel
theorem dX3_deadThen_17 : decode cX3_deadThen 17 = .ok (.aload_n 0, 1) := by decide +kernel
theorem dX3_deadThen_18 : decode cX3_deadThen 18 = .ok (.iload_n 1, 1) := by decide +kernel
theorem dX3_deadThen_19 : decode cX3_deadThen 19 = .ok (.invokevirtual 153, 3) := by decide +kernel
theorem dX3_deadThen_22 : decode cX3_deadThen 22 = .ok (.iconst 1, 1) := by decide +kernel
theorem dX3_deadThen_23 : decode cX3_deadThen 23 = .ok (.aload_n 0, 1) := by decide +kernel
theorem dX3_deadThen_24 : decode cX3_deadThen 24 = .ok (.getfield 13, 3) := by decide +kernel
theorem dX3_deadThen_27 : decode cX3_deadThen 27 = .ok (.iconst 0, 1) := by decide +kernel
theorem dX3_deadThen_28 : decode cX3_deadThen 28 = .ok (.iaload, 1) := by decide +kernel
theorem dX3_deadThen_29 : decode cX3_deadThen 29 = .ok (.ishl, 1) := by decide +kernel
theorem dX3_deadThen_30 : decode cX3_deadThen 30 = .ok (.iconst 1, 1) := by decide +kernel
theorem dX3_deadThen_31 : decode cX3_deadThen 31 = .ok (.isub, 1) := by decide +kernel
theorem dX3_deadThen_32 : decode cX3_deadThen 32 = .ok (.aload_n 0, 1) := by decide +kernel
theorem dX3_deadThen_33 : decode cX3_deadThen 33 = .ok (.getfield 13, 3) := by decide +kernel
theorem dX3_deadThen_36 : decode cX3_deadThen 36 = .ok (.invokestatic 150, 3) := by decide +kernel
theorem dX3_deadThen_39 : decode cX3_deadThen 39 = .ok (.iconst (-1), 1) := by decide +kernel
theorem dX3_deadThen_40 : decode cX3_deadThen 40 = .ok (.ixor, 1) := by decide +kernel
theorem dX3_deadThen_41 : decode cX3_deadThen 41 = .ok (.iand, 1) := by decide +kernel
theorem dX3_deadThen_42 : decode cX3_deadThen 42 = .ok (.ireturn, 1) := by decide +kernel
set_option maxRecDepth 20000 in
theorem ggX3_lastsIn_X3_writtenIn : GoodIn wsX3_lastsIn wsX3_writtenIn := goodIn_r _ [5, 6, 7, 4, 8, 9, 10, 11, 12, 13, 14, 15, 16, 17] (by decide +kernel) (by decide +kernel)
set_option maxRecDepth 20000 in
theorem gX3_lastsIn_X3_writtenIn : GoodIn wsX3_lastsIn (va_wsS RX3 83 yX3_writtenIn wsX3_writtenIn) := goodIn_app (goodIn_of _ (by decide +kernel)) ggX3_lastsIn_X3_writtenIn
set_option maxRecDepth 20000 in
theorem ggX3_lastsIn_X3_year : GoodIn wsX3_lastsIn wsX3_year := goodIn_r _ [20, 12, 13, 4, 14, 15, 16, 17, 21, 22, 23, 24, 25, 26, 27, 28, 29, 9, 10, 11] (by decide +kernel) (by decide +kernel)
set_option maxRecDepth 20000 in
theorem gX3_lastsIn_X3_year : GoodIn wsX3_lastsIn (va_wsS RX3 75 yX3_year wsX3_year) := goodIn_app (goodIn_of _ (by decide +kernel)) ggX3_lastsIn_X3_year
theorem dX3_lastsIn_0 : decode cX3_lastsIn 0 = .ok (.iconst 0, 1) := by decide +kernel
theorem dX3_lastsIn_1 : decode cX3_lastsIn 1 = .ok (.istore_n 2, 1) := by decide +kernel
theorem dX3_lastsIn_2 : decode cX3_lastsIn 2 = .ok (.iload_n 2, 1) := by decide +kernel
theorem dX3_lastsIn_3 : decode cX3_lastsIn 3 = .ok (.bipush 60, 2) := by decide +kernel
theorem dX3_lastsIn_5 : decode cX3_lastsIn 5 = .ok (.if_icmp .gt 31, 3) := by decide +kernel
theorem dX3_lastsIn_8 : decode cX3_lastsIn 8 = .ok (.aload_n 0, 1) := by decide +kernel
theorem dX3_lastsIn_9 : decode cX3_lastsIn 9 = .ok (.getfield 13, 3) := by decide +kernel
theorem dX3_lastsIn_12 : decode cX3_lastsIn 12 = .ok (.invokestatic 83, 3) := by decide +kernel
theorem dX3_lastsIn_15 : decode cX3_lastsIn 15 = .ok (.iload_n 1, 1) := by decide +kernel
theorem dX3_lastsIn_16 : decode cX3_lastsIn 16 = .ok (.iand, 1) := by decide +kernel
theorem dX3_lastsIn_17 : decode cX3_lastsIn 17 = .ok (.ifCond .ne 5, 3) := by decide +kernel
theorem dX3_lastsIn_20 : decode cX3_lastsIn 20 = .ok (.iload_n 2, 1) := by decide +kernel
theorem dX3_lastsIn_21 : decode cX3_lastsIn 21 = .ok (.ireturn, 1) := by decide +kernel
theorem dX3_lastsIn_22 : decode cX3_lastsIn 22 = .ok (.aload_n 0, 1) := by decide +kernel
theorem dX3_lastsIn_23 : decode cX3_lastsIn 23 = .ok (.getfield 13, 3) := by decide +kernel
theorem dX3_lastsIn_26 : decode cX3_lastsIn 26 = .ok (.invokestatic 75, 3) := by decide +kernel
theorem dX3_lastsIn_29 : decode cX3_lastsIn 29 = .ok (.istore_n 3, 1) := by decide +kernel
theorem dX3_lastsIn_30 : decode cX3_lastsIn 30 = .ok (.iinc 2 1, 3) := by decide +kernel
theorem dX3_lastsIn_33 : decode cX3_lastsIn 33 = .ok (.goto (-31), 3) := by decide +kernel
theorem dX3_lastsIn_36 : decode cX3_lastsIn 36 = .ok (.bipush (-9), 2) := by decide +kernel
theorem dX3_lastsIn_38 : decode cX3_lastsIn 38 = .ok (.ireturn, 1) := by decide +kernel
set_option maxRecDepth 20000 in
theorem ggX3_lastsOf_X3_copies : GoodIn wsX3_lastsOf wsX3_copies := goodIn_r _ [6] (by decide +kernel) (by decide +kernel)
set_option maxRecDepth 20000 in
theorem gX3_lastsOf_X3_copies : GoodIn wsX3_lastsOf (va_wsS RX3 136 yX3_copies wsX3_copies) := goodIn_app (goodIn_of _ (by decide +kernel)) ggX3_lastsOf_X3_copies
set_option maxRecDepth 20000 in
theorem ggX3_lastsOf_X3_lastsIn : GoodIn wsX3_lastsOf wsX3_lastsIn := goodIn_r _ [10, 2, 11, 12, 5, 13, 14, 15, 16, 17, 18, 19, 20, 21, 22, 23, 24, 25, 26, 27, 28, 29, 30, 31, 32, 33, 34, 35, 36, 37, 38, 39, 40, 41, 42, 43, 44, 45, 46, 47, 48, 49, 50, 51, 52] (by decide +kernel) (by decide +kernel)
set_option maxRecDepth 20000 in
theorem gX3_lastsOf_X3_lastsIn : GoodIn wsX3_lastsOf (wsV RX3 157 RX3 yX3_lastsIn wsX3_lastsIn) := goodIn_app (goodIn_of _ (by decide +kernel)) ggX3_lastsOf_X3_lastsIn
theorem dX3_lastsOf_0 : decode cX3_lastsOf 0 = .ok (.aload_n 0, 1) := by decide +kernel
theorem dX3_lastsOf_1 : decode cX3_lastsOf 1 = .ok (.getfield 9, 3) := by decide +kernel
theorem dX3_lastsOf_4 : decode cX3_lastsOf 4 = .ok (.aload_n 0, 1) := by decide +kernel
theorem dX3_lastsOf_5 : decode cX3_lastsOf 5 = .ok (.getfield 13, 3) := by decide +kernel
theorem dX3_lastsOf_8 : decode cX3_lastsOf 8 = .ok (.invokestatic 136, 3) := by decide +kernel
theorem dX3_lastsOf_11 : decode cX3_lastsOf 11 = .ok (.aload_n 0, 1) := by decide +kernel
theorem dX3_lastsOf_12 : decode cX3_lastsOf 12 = .ok (.iconst 1, 1) := by decide +kernel
theorem dX3_lastsOf_13 : decode cX3_lastsOf 13 = .ok (.iload_n 1, 1) := by decide +kernel
theorem dX3_lastsOf_14 : decode cX3_lastsOf 14 = .ok (.ishl, 1) := by decide +kernel
theorem dX3_lastsOf_15 : decode cX3_lastsOf 15 = .ok (.invokevirtual 157, 3) := by decide +kernel
theorem dX3_lastsOf_18 : decode cX3_lastsOf 18 = .ok (.ireturn, 1) := by decide +kernel
set_option maxRecDepth 20000 in
theorem ggX3_lasts_X3_isTopic : GoodIn wsX3_lasts wsX3_isTopic := goodIn_r _ [4, 5, 6, 3, 7] (by decide +kernel) (by decide +kernel)
set_option maxRecDepth 20000 in
theorem gX3_lasts_X3_isTopic : GoodIn wsX3_lasts (va_wsS RX3 127 yX3_isTopic wsX3_isTopic) := goodIn_app (goodIn_of _ (by decide +kernel)) ggX3_lasts_X3_isTopic
set_option maxRecDepth 20000 in
theorem ggX3_lasts_X3_lastsOf : GoodIn wsX3_lasts wsX3_lastsOf := goodIn_r _ [11, 12, 13, 14, 15, 3, 16, 17, 18, 19, 20, 21, 22, 23, 24, 25, 26, 27, 28, 29, 30, 31, 32, 33, 34, 35, 36, 37, 38, 39, 40, 41, 42, 43, 44, 45, 46, 47, 53, 54, 55, 56, 57, 58, 59, 60, 61, 62, 63, 64, 65, 66, 67] (by decide +kernel) (by decide +kernel)
set_option maxRecDepth 20000 in
theorem gX3_lasts_X3_lastsOf : GoodIn wsX3_lasts (wsV RX3 160 RX3 yX3_lastsOf wsX3_lastsOf) := goodIn_app (goodIn_of _ (by decide +kernel)) ggX3_lasts_X3_lastsOf
set_option maxRecDepth 20000 in
theorem ggX3_lasts_X3_no : GoodIn wsX3_lasts wsX3_no := goodIn_r _ [51, 52, 53, 54, 55, 56, 57, 58, 59, 60, 61, 62, 63, 64, 65, 66, 67] (by decide +kernel) (by decide +kernel)
set_option maxRecDepth 20000 in
theorem gX3_lasts_X3_no : GoodIn wsX3_lasts (wsV RX3 39 RX3 yX3_no wsX3_no) := goodIn_app (goodIn_of _ (by decide +kernel)) ggX3_lasts_X3_no
theorem dX3_lasts_0 : decode cX3_lasts 0 = .ok (.iload_n 1, 1) := by decide +kernel
theorem dX3_lasts_1 : decode cX3_lasts 1 = .ok (.invokestatic 127, 3) := by decide +kernel
theorem dX3_lasts_4 : decode cX3_lasts 4 = .ok (.ifCond .eq 11, 3) := by decide +kernel
theorem dX3_lasts_7 : decode cX3_lasts 7 = .ok (.aload_n 0, 1) := by decide +kernel
theorem dX3_lasts_8 : decode cX3_lasts 8 = .ok (.iload_n 1, 1) := by decide +kernel
theorem dX3_lasts_9 : decode cX3_lasts 9 = .ok (.invokevirtual 160, 3) := by decide +kernel
theorem dX3_lasts_12 : decode cX3_lasts 12 = .ok (.goto 8, 3) := by decide +kernel
theorem dX3_lasts_15 : decode cX3_lasts 15 = .ok (.aload_n 0, 1) := by decide +kernel
theorem dX3_lasts_16 : decode cX3_lasts 16 = .ok (.iconst (-1), 1) := by decide +kernel
theorem dX3_lasts_17 : decode cX3_lasts 17 = .ok (.invokevirtual 39, 3) := by decide +kernel
theorem dX3_lasts_20 : decode cX3_lasts 20 = .ok (.ireturn, 1) := by decide +kernel
set_option maxRecDepth 20000 in
theorem ggX3_lost_X3_isIn : GoodIn wsX3_lost wsX3_isIn := goodIn_r _ [5] (by decide +kernel) (by decide +kernel)
set_option maxRecDepth 20000 in
theorem gX3_lost_X3_isIn : GoodIn wsX3_lost (va_wsS RX3 43 yX3_isIn wsX3_isIn) := goodIn_app (goodIn_of _ (by decide +kernel)) ggX3_lost_X3_isIn
set_option maxRecDepth 20000 in
theorem ggX3_lost_X3_no : GoodIn wsX3_lost wsX3_no := goodIn_r _ [9, 10, 51, 52, 53, 54, 55, 56, 57, 58, 59, 60, 61, 62, 63, 64, 65] (by decide +kernel) (by decide +kernel)
set_option maxRecDepth 20000 in
theorem gX3_lost_X3_no : GoodIn wsX3_lost (wsV RX3 39 RX3 yX3_no wsX3_no) := goodIn_app (goodIn_of _ (by decide +kernel)) ggX3_lost_X3_no
set_option maxRecDepth 20000 in
theorem ggX3_lost_X3_lastsOf : GoodIn wsX3_lost wsX3_lastsOf := goodIn_r _ [14, 15, 16, 17, 18, 4, 19, 20, 21, 22, 23, 24, 25, 26, 27, 28, 29, 30, 31, 32, 33, 34, 35, 36, 37, 38, 39, 40, 41, 42, 43, 44, 45, 46, 47, 48, 49, 50, 51, 52, 53, 54, 55, 56, 57, 58, 59, 60, 61, 62, 63, 64, 65] (by decide +kernel) (by decide +kernel)
set_option maxRecDepth 20000 in
theorem gX3_lost_X3_lastsOf : GoodIn wsX3_lost (wsV RX3 160 RX3 yX3_lastsOf wsX3_lastsOf) := goodIn_app (goodIn_of _ (by decide +kernel)) ggX3_lost_X3_lastsOf
theorem dX3_lost_0 : decode cX3_lost 0 = .ok (.iload_n 1, 1) := by decide +kernel
theorem dX3_lost_1 : decode cX3_lost 1 = .ok (.iconst 0, 1) := by decide +kernel
theorem dX3_lost_2 : decode cX3_lost 2 = .ok (.iconst 1, 1) := by decide +kernel
theorem dX3_lost_3 : decode cX3_lost 3 = .ok (.invokestatic 43, 3) := by decide +kernel
theorem dX3_lost_6 : decode cX3_lost 6 = .ok (.ifCond .ne 10, 3) := by decide +kernel
theorem dX3_lost_9 : decode cX3_lost 9 = .ok (.aload_n 0, 1) := by decide +kernel
theorem dX3_lost_10 : decode cX3_lost 10 = .ok (.bipush (-2), 2) := by decide +kernel
theorem dX3_lost_12 : decode cX3_lost 12 = .ok (.invokevirtual 39, 3) := by decide +kernel
theorem dX3_lost_15 : decode cX3_lost 15 = .ok (.ireturn, 1) := by decide +kernel
theorem dX3_lost_16 : decode cX3_lost 16 = .ok (.bipush (-9), 2) := by decide +kernel
theorem dX3_lost_18 : decode cX3_lost 18 = .ok (.istore_n 2, 1) := by decide +kernel
theorem dX3_lost_19 : decode cX3_lost 19 = .ok (.ldc 163, 2) := by decide +kernel
theorem dX3_lost_21 : decode cX3_lost 21 = .ok (.istore_n 3, 1) := by decide +kernel
theorem dX3_lost_22 : decode cX3_lost 22 = .ok (.iconst 0, 1) := by decide +kernel
theorem dX3_lost_23 : decode cX3_lost 23 = .ok (.istore 4, 2) := by decide +kernel
theorem dX3_lost_25 : decode cX3_lost 25 = .ok (.iload 4, 2) := by decide +kernel
theorem dX3_lost_27 : decode cX3_lost 27 = .ok (.bipush 8, 2) := by decide +kernel
theorem dX3_lost_29 : decode cX3_lost 29 = .ok (.if_icmp .ge 37, 3) := by decide +kernel
theorem dX3_lost_32 : decode cX3_lost 32 = .ok (.aload_n 0, 1) := by decide +kernel
theorem dX3_lost_33 : decode cX3_lost 33 = .ok (.iload 4, 2) := by decide +kernel
theorem dX3_lost_35 : decode cX3_lost 35 = .ok (.invokevirtual 160, 3) := by decide +kernel
theorem dX3_lost_38 : decode cX3_lost 38 = .ok (.istore 5, 2) := by decide +kernel
theorem dX3_lost_40 : decode cX3_lost 40 = .ok (.iload 5, 2) := by decide +kernel
theorem dX3_lost_42 : decode cX3_lost 42 = .ok (.ifCond .le 18, 3) := by decide +kernel
theorem dX3_lost_45 : decode cX3_lost 45 = .ok (.iload 5, 2) := by decide +kernel
theorem dX3_lost_47 : decode cX3_lost 47 = .ok (.iload_n 3, 1) := by decide +kernel
theorem dX3_lost_48 : decode cX3_lost 48 = .ok (.if_icmp .lt 6, 3) := by decide +kernel
theorem dX3_lost_51 : decode cX3_lost 51 = .ok (.goto 9, 3) := by decide +kernel
theorem dX3_lost_54 : decode cX3_lost 54 = .ok (.iload 4, 2) := by decide +kernel
theorem dX3_lost_56 : decode cX3_lost 56 = .ok (.istore_n 2, 1) := by decide +kernel
theorem dX3_lost_57 : decode cX3_lost 57 = .ok (.iload 5, 2) := by decide +kernel
theorem dX3_lost_59 : decode cX3_lost 59 = .ok (.istore_n 3, 1) := by decide +kernel
theorem dX3_lost_60 : decode cX3_lost 60 = .ok (.iinc 4 1, 3) := by decide +kernel
theorem dX3_lost_63 : decode cX3_lost 63 = .ok (.goto (-38), 3) := by decide +kernel
theorem dX3_lost_66 : decode cX3_lost 66 = .ok (.iload_n 2, 1) := by decide +kernel
theorem dX3_lost_67 : decode cX3_lost 67 = .ok (.ifCond .lt 7, 3) := by decide +kernel
theorem dX3_lost_70 : decode cX3_lost 70 = .ok (.iload_n 1, 1) := by decide +kernel
theorem dX3_lost_71 : decode cX3_lost 71 = .ok (.ifCond .ne 7, 3) := by decide +kernel
theorem dX3_lost_74 : decode cX3_lost 74 = .ok (.iload_n 2, 1) := by decide +kernel
theorem dX3_lost_75 : decode cX3_lost 75 = .ok (.goto 4, 3) := by decide +kernel
theorem dX3_lost_78 : decode cX3_lost 78 = .ok (.iload_n 3, 1) := by decide +kernel
theorem dX3_lost_79 : decode cX3_lost 79 = .ok (.ireturn, 1) := by decide +kernel
set_option maxRecDepth 20000 in
theorem ggX3_still_X3_isIn : GoodIn wsX3_still wsX3_isIn := goodIn_r _ [6] (by decide +kernel) (by decide +kernel)
set_option maxRecDepth 20000 in
theorem gX3_still_X3_isIn : GoodIn wsX3_still (va_wsS RX3 43 yX3_isIn wsX3_isIn) := goodIn_app (goodIn_of _ (by decide +kernel)) ggX3_still_X3_isIn
set_option maxRecDepth 20000 in
theorem ggX3_still_X3_no : GoodIn wsX3_still wsX3_no := goodIn_r _ [10, 11, 46, 47, 48, 49, 50, 51, 52, 53, 54, 55, 56, 57, 58, 59, 60] (by decide +kernel) (by decide +kernel)
set_option maxRecDepth 20000 in
theorem gX3_still_X3_no : GoodIn wsX3_still (wsV RX3 39 RX3 yX3_no wsX3_no) := goodIn_app (goodIn_of _ (by decide +kernel)) ggX3_still_X3_no
set_option maxRecDepth 20000 in
theorem ggX3_still_X3_copies : GoodIn wsX3_still wsX3_copies := goodIn_r _ [14] (by decide +kernel) (by decide +kernel)
set_option maxRecDepth 20000 in
theorem gX3_still_X3_copies : GoodIn wsX3_still (va_wsS RX3 136 yX3_copies wsX3_copies) := goodIn_app (goodIn_of _ (by decide +kernel)) ggX3_still_X3_copies
set_option maxRecDepth 20000 in
theorem ggX3_still_X3_lastsIn : GoodIn wsX3_still wsX3_lastsIn := goodIn_r _ [18, 2, 19, 20, 5, 21, 22, 23, 24, 25, 26, 27, 28, 29, 30, 31, 32, 33, 34, 35, 36, 37, 38, 39, 40, 41, 42, 43, 44, 45, 46, 47, 48, 49, 50, 51, 52, 53, 54, 55, 56, 57, 58, 59, 60] (by decide +kernel) (by decide +kernel)
set_option maxRecDepth 20000 in
theorem gX3_still_X3_lastsIn : GoodIn wsX3_still (wsV RX3 157 RX3 yX3_lastsIn wsX3_lastsIn) := goodIn_app (goodIn_of _ (by decide +kernel)) ggX3_still_X3_lastsIn
set_option maxRecDepth 20000 in
theorem ggX3_still_X3_year : GoodIn wsX3_still wsX3_year := goodIn_r _ [36, 28, 29, 5, 30, 31, 32, 33, 37, 38, 39, 40, 41, 42, 43, 44, 45, 25, 26, 27] (by decide +kernel) (by decide +kernel)
set_option maxRecDepth 20000 in
theorem gX3_still_X3_year : GoodIn wsX3_still (va_wsS RX3 75 yX3_year wsX3_year) := goodIn_app (goodIn_of _ (by decide +kernel)) ggX3_still_X3_year
theorem dX3_still_0 : decode cX3_still 0 = .ok (.iload_n 1, 1) := by decide +kernel
theorem dX3_still_1 : decode cX3_still 1 = .ok (.iconst 0, 1) := by decide +kernel
theorem dX3_still_2 : decode cX3_still 2 = .ok (.iconst 1, 1) := by decide +kernel
theorem dX3_still_3 : decode cX3_still 3 = .ok (.invokestatic 43, 3) := by decide +kernel
theorem dX3_still_6 : decode cX3_still 6 = .ok (.ifCond .ne 10, 3) := by decide +kernel
theorem dX3_still_9 : decode cX3_still 9 = .ok (.aload_n 0, 1) := by decide +kernel
theorem dX3_still_10 : decode cX3_still 10 = .ok (.bipush (-2), 2) := by decide +kernel
theorem dX3_still_12 : decode cX3_still 12 = .ok (.invokevirtual 39, 3) := by decide +kernel
theorem dX3_still_15 : decode cX3_still 15 = .ok (.ireturn, 1) := by decide +kernel
theorem dX3_still_16 : decode cX3_still 16 = .ok (.aload_n 0, 1) := by decide +kernel
theorem dX3_still_17 : decode cX3_still 17 = .ok (.getfield 9, 3) := by decide +kernel
theorem dX3_still_20 : decode cX3_still 20 = .ok (.aload_n 0, 1) := by decide +kernel
theorem dX3_still_21 : decode cX3_still 21 = .ok (.getfield 13, 3) := by decide +kernel
theorem dX3_still_24 : decode cX3_still 24 = .ok (.invokestatic 136, 3) := by decide +kernel
theorem dX3_still_27 : decode cX3_still 27 = .ok (.iload_n 1, 1) := by decide +kernel
theorem dX3_still_28 : decode cX3_still 28 = .ok (.iconst 1, 1) := by decide +kernel
theorem dX3_still_29 : decode cX3_still 29 = .ok (.if_icmp .ne 11, 3) := by decide +kernel
theorem dX3_still_32 : decode cX3_still 32 = .ok (.aload_n 0, 1) := by decide +kernel
theorem dX3_still_33 : decode cX3_still 33 = .ok (.sipush 255, 3) := by decide +kernel
theorem dX3_still_36 : decode cX3_still 36 = .ok (.invokevirtual 157, 3) := by decide +kernel
theorem dX3_still_39 : decode cX3_still 39 = .ok (.ireturn, 1) := by decide +kernel
theorem dX3_still_40 : decode cX3_still 40 = .ok (.iconst 0, 1) := by decide +kernel
theorem dX3_still_41 : decode cX3_still 41 = .ok (.istore_n 2, 1) := by decide +kernel
theorem dX3_still_42 : decode cX3_still 42 = .ok (.iload_n 2, 1) := by decide +kernel
theorem dX3_still_43 : decode cX3_still 43 = .ok (.bipush 60, 2) := by decide +kernel
theorem dX3_still_45 : decode cX3_still 45 = .ok (.if_icmp .gt 21, 3) := by decide +kernel
theorem dX3_still_48 : decode cX3_still 48 = .ok (.aload_n 0, 1) := by decide +kernel
theorem dX3_still_49 : decode cX3_still 49 = .ok (.getfield 13, 3) := by decide +kernel
theorem dX3_still_52 : decode cX3_still 52 = .ok (.invokestatic 75, 3) := by decide +kernel
theorem dX3_still_55 : decode cX3_still 55 = .ok (.ifCond .eq 5, 3) := by decide +kernel
theorem dX3_still_58 : decode cX3_still 58 = .ok (.iload_n 2, 1) := by decide +kernel
theorem dX3_still_59 : decode cX3_still 59 = .ok (.ireturn, 1) := by decide +kernel
theorem dX3_still_60 : decode cX3_still 60 = .ok (.iinc 2 1, 3) := by decide +kernel
theorem dX3_still_63 : decode cX3_still 63 = .ok (.goto (-21), 3) := by decide +kernel
theorem dX3_still_66 : decode cX3_still 66 = .ok (.bipush (-9), 2) := by decide +kernel
theorem dX3_still_68 : decode cX3_still 68 = .ok (.ireturn, 1) := by decide +kernel
set_option maxRecDepth 20000 in
theorem ggX3_chapterOf_X3_isAlive : GoodIn wsX3_chapterOf wsX3_isAlive := goodIn_r _ [4, 5, 6, 3, 7] (by decide +kernel) (by decide +kernel)
set_option maxRecDepth 20000 in
theorem gX3_chapterOf_X3_isAlive : GoodIn wsX3_chapterOf (va_wsS RX3 55 yX3_isAlive wsX3_isAlive) := goodIn_app (goodIn_of _ (by decide +kernel)) ggX3_chapterOf_X3_isAlive
set_option maxRecDepth 20000 in
theorem ggX3_chapterOf_X3_of : GoodIn wsX3_chapterOf wsX3_of := goodIn_r _ [7] (by decide +kernel) (by decide +kernel)
set_option maxRecDepth 20000 in
theorem gX3_chapterOf_X3_of : GoodIn wsX3_chapterOf (va_wsS RX3 51 yX3_of wsX3_of) := goodIn_app (goodIn_of _ (by decide +kernel)) ggX3_chapterOf_X3_of
set_option maxRecDepth 20000 in
theorem ggX3_chapterOf_X3_isWritten : GoodIn wsX3_chapterOf wsX3_isWritten := goodIn_r _ [10, 11, 12, 3, 13, 1, 2, 4, 5, 6, 7] (by decide +kernel) (by decide +kernel)
set_option maxRecDepth 20000 in
theorem gX3_chapterOf_X3_isWritten : GoodIn wsX3_chapterOf (va_wsS RX3 63 yX3_isWritten wsX3_isWritten) := goodIn_app (goodIn_of _ (by decide +kernel)) ggX3_chapterOf_X3_isWritten
theorem dX3_chapterOf_0 : decode cX3_chapterOf 0 = .ok (.iconst 0, 1) := by decide +kernel
theorem dX3_chapterOf_1 : decode cX3_chapterOf 1 = .ok (.istore_n 2, 1) := by decide +kernel
theorem dX3_chapterOf_2 : decode cX3_chapterOf 2 = .ok (.iconst 0, 1) := by decide +kernel
theorem dX3_chapterOf_3 : decode cX3_chapterOf 3 = .ok (.istore_n 3, 1) := by decide +kernel
theorem dX3_chapterOf_4 : decode cX3_chapterOf 4 = .ok (.iload_n 3, 1) := by decide +kernel
theorem dX3_chapterOf_5 : decode cX3_chapterOf 5 = .ok (.bipush 8, 2) := by decide +kernel
theorem dX3_chapterOf_7 : decode cX3_chapterOf 7 = .ok (.if_icmp .ge 45, 3) := by decide +kernel
theorem dX3_chapterOf_10 : decode cX3_chapterOf 10 = .ok (.iload_n 2, 1) := by decide +kernel
theorem dX3_chapterOf_11 : decode cX3_chapterOf 11 = .ok (.aload_n 0, 1) := by decide +kernel
theorem dX3_chapterOf_12 : decode cX3_chapterOf 12 = .ok (.iload_n 1, 1) := by decide +kernel
theorem dX3_chapterOf_13 : decode cX3_chapterOf 13 = .ok (.invokestatic 55, 3) := by decide +kernel
theorem dX3_chapterOf_16 : decode cX3_chapterOf 16 = .ok (.ifCond .eq 27, 3) := by decide +kernel
theorem dX3_chapterOf_19 : decode cX3_chapterOf 19 = .ok (.aload_n 0, 1) := by decide +kernel
theorem dX3_chapterOf_20 : decode cX3_chapterOf 20 = .ok (.iload_n 1, 1) := by decide +kernel
theorem dX3_chapterOf_21 : decode cX3_chapterOf 21 = .ok (.iconst 4, 1) := by decide +kernel
theorem dX3_chapterOf_22 : decode cX3_chapterOf 22 = .ok (.iload_n 3, 1) := by decide +kernel
theorem dX3_chapterOf_23 : decode cX3_chapterOf 23 = .ok (.iadd, 1) := by decide +kernel
theorem dX3_chapterOf_24 : decode cX3_chapterOf 24 = .ok (.invokestatic 51, 3) := by decide +kernel
theorem dX3_chapterOf_27 : decode cX3_chapterOf 27 = .ok (.iaload, 1) := by decide +kernel
theorem dX3_chapterOf_28 : decode cX3_chapterOf 28 = .ok (.ifCond .eq 15, 3) := by decide +kernel
theorem dX3_chapterOf_31 : decode cX3_chapterOf 31 = .ok (.aload_n 0, 1) := by decide +kernel
theorem dX3_chapterOf_32 : decode cX3_chapterOf 32 = .ok (.iload_n 3, 1) := by decide +kernel
theorem dX3_chapterOf_33 : decode cX3_chapterOf 33 = .ok (.invokestatic 63, 3) := by decide +kernel
theorem dX3_chapterOf_36 : decode cX3_chapterOf 36 = .ok (.ifCond .eq 7, 3) := by decide +kernel
theorem dX3_chapterOf_39 : decode cX3_chapterOf 39 = .ok (.iconst 1, 1) := by decide +kernel
theorem dX3_chapterOf_40 : decode cX3_chapterOf 40 = .ok (.goto 4, 3) := by decide +kernel
theorem dX3_chapterOf_43 : decode cX3_chapterOf 43 = .ok (.iconst 0, 1) := by decide +kernel
theorem dX3_chapterOf_44 : decode cX3_chapterOf 44 = .ok (.iadd, 1) := by decide +kernel
theorem dX3_chapterOf_45 : decode cX3_chapterOf 45 = .ok (.istore_n 2, 1) := by decide +kernel
theorem dX3_chapterOf_46 : decode cX3_chapterOf 46 = .ok (.iinc 3 1, 3) := by decide +kernel
theorem dX3_chapterOf_49 : decode cX3_chapterOf 49 = .ok (.goto (-45), 3) := by decide +kernel
theorem dX3_chapterOf_52 : decode cX3_chapterOf 52 = .ok (.iload_n 2, 1) := by decide +kernel
theorem dX3_chapterOf_53 : decode cX3_chapterOf 53 = .ok (.ireturn, 1) := by decide +kernel
set_option maxRecDepth 20000 in
theorem ggX3_chapter_X3_isCitizen : GoodIn wsX3_chapter wsX3_isCitizen := goodIn_r _ [6, 1, 7, 8, 5, 9, 30, 31, 32, 33, 34, 35, 36, 37, 38, 39, 40, 41, 42, 43, 44] (by decide +kernel) (by decide +kernel)
set_option maxRecDepth 20000 in
theorem gX3_chapter_X3_isCitizen : GoodIn wsX3_chapter (wsV RX3 47 RX3 yX3_isCitizen wsX3_isCitizen) := goodIn_app (goodIn_of _ (by decide +kernel)) ggX3_chapter_X3_isCitizen
set_option maxRecDepth 20000 in
theorem ggX3_chapter_X3_no : GoodIn wsX3_chapter wsX3_no := goodIn_r _ [13, 14, 30, 31, 32, 33, 34, 35, 36, 37, 38, 39, 40, 41, 42, 43, 44] (by decide +kernel) (by decide +kernel)
set_option maxRecDepth 20000 in
theorem gX3_chapter_X3_no : GoodIn wsX3_chapter (wsV RX3 39 RX3 yX3_no wsX3_no) := goodIn_app (goodIn_of _ (by decide +kernel)) ggX3_chapter_X3_no
set_option maxRecDepth 20000 in
theorem ggX3_chapter_X3_chapterOf : GoodIn wsX3_chapter wsX3_chapterOf := goodIn_r _ [17, 18, 19, 5, 20, 21, 22, 23, 24, 25, 26, 27, 28, 29] (by decide +kernel) (by decide +kernel)
set_option maxRecDepth 20000 in
theorem gX3_chapter_X3_chapterOf : GoodIn wsX3_chapter (va_wsS RX3 164 yX3_chapterOf wsX3_chapterOf) := goodIn_app (goodIn_of _ (by decide +kernel)) ggX3_chapter_X3_chapterOf
set_option maxRecDepth 20000 in
theorem ggX3_chapter_X3_isAlive : GoodIn wsX3_chapter wsX3_isAlive := goodIn_r _ [20, 21, 22, 5, 23] (by decide +kernel) (by decide +kernel)
set_option maxRecDepth 20000 in
theorem gX3_chapter_X3_isAlive : GoodIn wsX3_chapter (va_wsS RX3 55 yX3_isAlive wsX3_isAlive) := goodIn_app (goodIn_of _ (by decide +kernel)) ggX3_chapter_X3_isAlive
theorem dX3_chapter_0 : decode cX3_chapter 0 = .ok (.iload_n 1, 1) := by decide +kernel
theorem dX3_chapter_1 : decode cX3_chapter 1 = .ok (.iconst (-1), 1) := by decide +kernel
theorem dX3_chapter_2 : decode cX3_chapter 2 = .ok (.if_icmp .eq 17, 3) := by decide +kernel
theorem dX3_chapter_5 : decode cX3_chapter 5 = .ok (.aload_n 0, 1) := by decide +kernel
theorem dX3_chapter_6 : decode cX3_chapter 6 = .ok (.iload_n 1, 1) := by decide +kernel
theorem dX3_chapter_7 : decode cX3_chapter 7 = .ok (.invokevirtual 47, 3) := by decide +kernel
theorem dX3_chapter_10 : decode cX3_chapter 10 = .ok (.ifCond .ne 9, 3) := by decide +kernel
theorem dX3_chapter_13 : decode cX3_chapter 13 = .ok (.aload_n 0, 1) := by decide +kernel
theorem dX3_chapter_14 : decode cX3_chapter 14 = .ok (.iconst (-1), 1) := by decide +kernel
theorem dX3_chapter_15 : decode cX3_chapter 15 = .ok (.invokevirtual 39, 3) := by decide +kernel
theorem dX3_chapter_18 : decode cX3_chapter 18 = .ok (.ireturn, 1) := by decide +kernel
theorem dX3_chapter_19 : decode cX3_chapter 19 = .ok (.iload_n 1, 1) := by decide +kernel
theorem dX3_chapter_20 : decode cX3_chapter 20 = .ok (.ifCond .lt 12, 3) := by decide +kernel
theorem dX3_chapter_23 : decode cX3_chapter 23 = .ok (.aload_n 0, 1) := by decide +kernel
theorem dX3_chapter_24 : decode cX3_chapter 24 = .ok (.getfield 9, 3) := by decide +kernel
theorem dX3_chapter_27 : decode cX3_chapter 27 = .ok (.iload_n 1, 1) := by decide +kernel
theorem dX3_chapter_28 : decode cX3_chapter 28 = .ok (.invokestatic 164, 3) := by decide +kernel
theorem dX3_chapter_31 : decode cX3_chapter 31 = .ok (.ireturn, 1) := by decide +kernel
theorem dX3_chapter_32 : decode cX3_chapter 32 = .ok (.bipush (-9), 2) := by decide +kernel
theorem dX3_chapter_34 : decode cX3_chapter 34 = .ok (.istore_n 2, 1) := by decide +kernel
theorem dX3_chapter_35 : decode cX3_chapter 35 = .ok (.iconst 0, 1) := by decide +kernel
theorem dX3_chapter_36 : decode cX3_chapter 36 = .ok (.istore_n 3, 1) := by decide +kernel
theorem dX3_chapter_37 : decode cX3_chapter 37 = .ok (.iload_n 3, 1) := by decide +kernel
theorem dX3_chapter_38 : decode cX3_chapter 38 = .ok (.aload_n 0, 1) := by decide +kernel
theorem dX3_chapter_39 : decode cX3_chapter 39 = .ok (.getfield 9, 3) := by decide +kernel
theorem dX3_chapter_42 : decode cX3_chapter 42 = .ok (.iconst 0, 1) := by decide +kernel
theorem dX3_chapter_43 : decode cX3_chapter 43 = .ok (.iaload, 1) := by decide +kernel
theorem dX3_chapter_44 : decode cX3_chapter 44 = .ok (.if_icmp .ge 45, 3) := by decide +kernel
theorem dX3_chapter_47 : decode cX3_chapter 47 = .ok (.aload_n 0, 1) := by decide +kernel
theorem dX3_chapter_48 : decode cX3_chapter 48 = .ok (.getfield 9, 3) := by decide +kernel
theorem dX3_chapter_51 : decode cX3_chapter 51 = .ok (.iload_n 3, 1) := by decide +kernel
theorem dX3_chapter_52 : decode cX3_chapter 52 = .ok (.invokestatic 55, 3) := by decide +kernel
theorem dX3_chapter_55 : decode cX3_chapter 55 = .ok (.ifCond .eq 28, 3) := by decide +kernel
theorem dX3_chapter_58 : decode cX3_chapter 58 = .ok (.iload_n 2, 1) := by decide +kernel
theorem dX3_chapter_59 : decode cX3_chapter 59 = .ok (.ifCond .lt 22, 3) := by decide +kernel
theorem dX3_chapter_62 : decode cX3_chapter 62 = .ok (.aload_n 0, 1) := by decide +kernel
theorem dX3_chapter_63 : decode cX3_chapter 63 = .ok (.getfield 9, 3) := by decide +kernel
theorem dX3_chapter_66 : decode cX3_chapter 66 = .ok (.iload_n 3, 1) := by decide +kernel
theorem dX3_chapter_67 : decode cX3_chapter 67 = .ok (.invokestatic 164, 3) := by decide +kernel
theorem dX3_chapter_70 : decode cX3_chapter 70 = .ok (.aload_n 0, 1) := by decide +kernel
theorem dX3_chapter_71 : decode cX3_chapter 71 = .ok (.getfield 9, 3) := by decide +kernel
theorem dX3_chapter_74 : decode cX3_chapter 74 = .ok (.iload_n 2, 1) := by decide +kernel
theorem dX3_chapter_75 : decode cX3_chapter 75 = .ok (.invokestatic 164, 3) := by decide +kernel
theorem dX3_chapter_78 : decode cX3_chapter 78 = .ok (.if_icmp .le 5, 3) := by decide +kernel
theorem dX3_chapter_81 : decode cX3_chapter 81 = .ok (.iload_n 3, 1) := by decide +kernel
theorem dX3_chapter_82 : decode cX3_chapter 82 = .ok (.istore_n 2, 1) := by decide +kernel
theorem dX3_chapter_83 : decode cX3_chapter 83 = .ok (.iinc 3 1, 3) := by decide +kernel
theorem dX3_chapter_86 : decode cX3_chapter 86 = .ok (.goto (-49), 3) := by decide +kernel
theorem dX3_chapter_89 : decode cX3_chapter 89 = .ok (.iload_n 2, 1) := by decide +kernel
theorem dX3_chapter_90 : decode cX3_chapter 90 = .ok (.ireturn, 1) := by decide +kernel
set_option maxRecDepth 20000 in
theorem ggX3_quarrel_X3_isTopic : GoodIn wsX3_quarrel wsX3_isTopic := goodIn_r _ [6, 7, 8, 5, 9] (by decide +kernel) (by decide +kernel)
set_option maxRecDepth 20000 in
theorem gX3_quarrel_X3_isTopic : GoodIn wsX3_quarrel (va_wsS RX3 127 yX3_isTopic wsX3_isTopic) := goodIn_app (goodIn_of _ (by decide +kernel)) ggX3_quarrel_X3_isTopic
set_option maxRecDepth 20000 in
theorem ggX3_quarrel_X3_no : GoodIn wsX3_quarrel wsX3_no := goodIn_r _ [13, 14, 49, 50, 51, 52, 53, 54, 55, 56, 57, 58, 59, 60, 61, 62, 63] (by decide +kernel) (by decide +kernel)
set_option maxRecDepth 20000 in
theorem gX3_quarrel_X3_no : GoodIn wsX3_quarrel (wsV RX3 39 RX3 yX3_no wsX3_no) := goodIn_app (goodIn_of _ (by decide +kernel)) ggX3_quarrel_X3_no
set_option maxRecDepth 20000 in
theorem ggX3_quarrel_X3_isAlive : GoodIn wsX3_quarrel wsX3_isAlive := goodIn_r _ [17, 18, 19, 5, 20] (by decide +kernel) (by decide +kernel)
set_option maxRecDepth 20000 in
theorem gX3_quarrel_X3_isAlive : GoodIn wsX3_quarrel (va_wsS RX3 55 yX3_isAlive wsX3_isAlive) := goodIn_app (goodIn_of _ (by decide +kernel)) ggX3_quarrel_X3_isAlive
set_option maxRecDepth 20000 in
theorem ggX3_quarrel_X3_copies : GoodIn wsX3_quarrel wsX3_copies := goodIn_r _ [23] (by decide +kernel) (by decide +kernel)
set_option maxRecDepth 20000 in
theorem gX3_quarrel_X3_copies : GoodIn wsX3_quarrel (va_wsS RX3 136 yX3_copies wsX3_copies) := goodIn_app (goodIn_of _ (by decide +kernel)) ggX3_quarrel_X3_copies
set_option maxRecDepth 20000 in
theorem ggX3_quarrel_X3_of : GoodIn wsX3_quarrel wsX3_of := goodIn_r _ [20] (by decide +kernel) (by decide +kernel)
set_option maxRecDepth 20000 in
theorem gX3_quarrel_X3_of : GoodIn wsX3_quarrel (va_wsS RX3 51 yX3_of wsX3_of) := goodIn_app (goodIn_of _ (by decide +kernel)) ggX3_quarrel_X3_of
set_option maxRecDepth 20000 in
theorem ggX3_quarrel_X3_lastsIn : GoodIn wsX3_quarrel wsX3_lastsIn := goodIn_r _ [27, 2, 28, 29, 5, 30, 31, 32, 33, 34, 35, 36, 15, 16, 17, 18, 19, 20, 37, 38, 39, 40, 41, 42, 43, 44, 45, 46, 47, 48, 49, 50, 51, 52, 53, 54, 55, 56, 57, 58, 59, 60, 61, 62, 63] (by decide +kernel) (by decide +kernel)
set_option maxRecDepth 20000 in
theorem gX3_quarrel_X3_lastsIn : GoodIn wsX3_quarrel (wsV RX3 157 RX3 yX3_lastsIn wsX3_lastsIn) := goodIn_app (goodIn_of _ (by decide +kernel)) ggX3_quarrel_X3_lastsIn
theorem dX3_quarrel_0 : decode cX3_quarrel 0 = .ok (.iload_n 1, 1) := by decide +kernel
theorem dX3_quarrel_1 : decode cX3_quarrel 1 = .ok (.invokestatic 127, 3) := by decide +kernel
theorem dX3_quarrel_4 : decode cX3_quarrel 4 = .ok (.ifCond .ne 9, 3) := by decide +kernel
theorem dX3_quarrel_7 : decode cX3_quarrel 7 = .ok (.aload_n 0, 1) := by decide +kernel
theorem dX3_quarrel_8 : decode cX3_quarrel 8 = .ok (.iconst (-1), 1) := by decide +kernel
theorem dX3_quarrel_9 : decode cX3_quarrel 9 = .ok (.invokevirtual 39, 3) := by decide +kernel
theorem dX3_quarrel_12 : decode cX3_quarrel 12 = .ok (.ireturn, 1) := by decide +kernel
theorem dX3_quarrel_13 : decode cX3_quarrel 13 = .ok (.bipush (-9), 2) := by decide +kernel
theorem dX3_quarrel_15 : decode cX3_quarrel 15 = .ok (.istore_n 2, 1) := by decide +kernel
theorem dX3_quarrel_16 : decode cX3_quarrel 16 = .ok (.iconst (-1), 1) := by decide +kernel
theorem dX3_quarrel_17 : decode cX3_quarrel 17 = .ok (.istore_n 3, 1) := by decide +kernel
theorem dX3_quarrel_18 : decode cX3_quarrel 18 = .ok (.iconst 0, 1) := by decide +kernel
theorem dX3_quarrel_19 : decode cX3_quarrel 19 = .ok (.istore 4, 2) := by decide +kernel
theorem dX3_quarrel_21 : decode cX3_quarrel 21 = .ok (.iload 4, 2) := by decide +kernel
theorem dX3_quarrel_23 : decode cX3_quarrel 23 = .ok (.aload_n 0, 1) := by decide +kernel
theorem dX3_quarrel_24 : decode cX3_quarrel 24 = .ok (.getfield 9, 3) := by decide +kernel
theorem dX3_quarrel_27 : decode cX3_quarrel 27 = .ok (.iconst 0, 1) := by decide +kernel
theorem dX3_quarrel_28 : decode cX3_quarrel 28 = .ok (.iaload, 1) := by decide +kernel
theorem dX3_quarrel_29 : decode cX3_quarrel 29 = .ok (.if_icmp .ge 146, 3) := by decide +kernel
theorem dX3_quarrel_32 : decode cX3_quarrel 32 = .ok (.iconst 0, 1) := by decide +kernel
theorem dX3_quarrel_33 : decode cX3_quarrel 33 = .ok (.istore 5, 2) := by decide +kernel
theorem dX3_quarrel_35 : decode cX3_quarrel 35 = .ok (.iload 5, 2) := by decide +kernel
theorem dX3_quarrel_37 : decode cX3_quarrel 37 = .ok (.aload_n 0, 1) := by decide +kernel
theorem dX3_quarrel_38 : decode cX3_quarrel 38 = .ok (.getfield 9, 3) := by decide +kernel
theorem dX3_quarrel_41 : decode cX3_quarrel 41 = .ok (.iconst 0, 1) := by decide +kernel
theorem dX3_quarrel_42 : decode cX3_quarrel 42 = .ok (.iaload, 1) := by decide +kernel
theorem dX3_quarrel_43 : decode cX3_quarrel 43 = .ok (.if_icmp .ge 126, 3) := by decide +kernel
theorem dX3_quarrel_46 : decode cX3_quarrel 46 = .ok (.iload 4, 2) := by decide +kernel
theorem dX3_quarrel_48 : decode cX3_quarrel 48 = .ok (.iload 5, 2) := by decide +kernel
theorem dX3_quarrel_50 : decode cX3_quarrel 50 = .ok (.if_icmp .eq 113, 3) := by decide +kernel
theorem dX3_quarrel_53 : decode cX3_quarrel 53 = .ok (.aload_n 0, 1) := by decide +kernel
theorem dX3_quarrel_54 : decode cX3_quarrel 54 = .ok (.getfield 9, 3) := by decide +kernel
theorem dX3_quarrel_57 : decode cX3_quarrel 57 = .ok (.iload 4, 2) := by decide +kernel
theorem dX3_quarrel_59 : decode cX3_quarrel 59 = .ok (.invokestatic 55, 3) := by decide +kernel
theorem dX3_quarrel_62 : decode cX3_quarrel 62 = .ok (.ifCond .eq 101, 3) := by decide +kernel
theorem dX3_quarrel_65 : decode cX3_quarrel 65 = .ok (.aload_n 0, 1) := by decide +kernel
theorem dX3_quarrel_66 : decode cX3_quarrel 66 = .ok (.getfield 9, 3) := by decide +kernel
theorem dX3_quarrel_69 : decode cX3_quarrel 69 = .ok (.iload 5, 2) := by decide +kernel
theorem dX3_quarrel_71 : decode cX3_quarrel 71 = .ok (.invokestatic 55, 3) := by decide +kernel
theorem dX3_quarrel_74 : decode cX3_quarrel 74 = .ok (.ifCond .ne 6, 3) := by decide +kernel
theorem dX3_quarrel_77 : decode cX3_quarrel 77 = .ok (.goto 86, 3) := by decide +kernel
theorem dX3_quarrel_80 : decode cX3_quarrel 80 = .ok (.aload_n 0, 1) := by decide +kernel
theorem dX3_quarrel_81 : decode cX3_quarrel 81 = .ok (.getfield 9, 3) := by decide +kernel
theorem dX3_quarrel_84 : decode cX3_quarrel 84 = .ok (.aload_n 0, 1) := by decide +kernel
theorem dX3_quarrel_85 : decode cX3_quarrel 85 = .ok (.getfield 13, 3) := by decide +kernel
theorem dX3_quarrel_88 : decode cX3_quarrel 88 = .ok (.invokestatic 136, 3) := by decide +kernel
theorem dX3_quarrel_91 : decode cX3_quarrel 91 = .ok (.aload_n 0, 1) := by decide +kernel
theorem dX3_quarrel_92 : decode cX3_quarrel 92 = .ok (.getfield 13, 3) := by decide +kernel
theorem dX3_quarrel_95 : decode cX3_quarrel 95 = .ok (.iload 4, 2) := by decide +kernel
theorem dX3_quarrel_97 : decode cX3_quarrel 97 = .ok (.iconst 4, 1) := by decide +kernel
theorem dX3_quarrel_98 : decode cX3_quarrel 98 = .ok (.iload_n 1, 1) := by decide +kernel
theorem dX3_quarrel_99 : decode cX3_quarrel 99 = .ok (.iadd, 1) := by decide +kernel
theorem dX3_quarrel_100 : decode cX3_quarrel 100 = .ok (.invokestatic 51, 3) := by decide +kernel
theorem dX3_quarrel_103 : decode cX3_quarrel 103 = .ok (.iconst 1, 1) := by decide +kernel
theorem dX3_quarrel_104 : decode cX3_quarrel 104 = .ok (.iastore, 1) := by decide +kernel
theorem dX3_quarrel_105 : decode cX3_quarrel 105 = .ok (.aload_n 0, 1) := by decide +kernel
theorem dX3_quarrel_106 : decode cX3_quarrel 106 = .ok (.getfield 13, 3) := by decide +kernel
theorem dX3_quarrel_109 : decode cX3_quarrel 109 = .ok (.iload 5, 2) := by decide +kernel
theorem dX3_quarrel_111 : decode cX3_quarrel 111 = .ok (.iconst 4, 1) := by decide +kernel
theorem dX3_quarrel_112 : decode cX3_quarrel 112 = .ok (.iload_n 1, 1) := by decide +kernel
theorem dX3_quarrel_113 : decode cX3_quarrel 113 = .ok (.iadd, 1) := by decide +kernel
theorem dX3_quarrel_114 : decode cX3_quarrel 114 = .ok (.invokestatic 51, 3) := by decide +kernel
theorem dX3_quarrel_117 : decode cX3_quarrel 117 = .ok (.iconst 2, 1) := by decide +kernel
theorem dX3_quarrel_118 : decode cX3_quarrel 118 = .ok (.iastore, 1) := by decide +kernel
theorem dX3_quarrel_119 : decode cX3_quarrel 119 = .ok (.aload_n 0, 1) := by decide +kernel
theorem dX3_quarrel_120 : decode cX3_quarrel 120 = .ok (.iconst 1, 1) := by decide +kernel
theorem dX3_quarrel_121 : decode cX3_quarrel 121 = .ok (.iload_n 1, 1) := by decide +kernel
theorem dX3_quarrel_122 : decode cX3_quarrel 122 = .ok (.ishl, 1) := by decide +kernel
theorem dX3_quarrel_123 : decode cX3_quarrel 123 = .ok (.invokevirtual 157, 3) := by decide +kernel
theorem dX3_quarrel_126 : decode cX3_quarrel 126 = .ok (.istore 6, 2) := by decide +kernel
theorem dX3_quarrel_128 : decode cX3_quarrel 128 = .ok (.iload 6, 2) := by decide +kernel
theorem dX3_quarrel_130 : decode cX3_quarrel 130 = .ok (.ifCond .ge 8, 3) := by decide +kernel
theorem dX3_quarrel_133 : decode cX3_quarrel 133 = .ok (.bipush 61, 2) := by decide +kernel
theorem dX3_quarrel_135 : decode cX3_quarrel 135 = .ok (.goto 5, 3) := by decide +kernel
theorem dX3_quarrel_138 : decode cX3_quarrel 138 = .ok (.iload 6, 2) := by decide +kernel
theorem dX3_quarrel_140 : decode cX3_quarrel 140 = .ok (.istore 6, 2) := by decide +kernel
theorem dX3_quarrel_142 : decode cX3_quarrel 142 = .ok (.iload 6, 2) := by decide +kernel
theorem dX3_quarrel_144 : decode cX3_quarrel 144 = .ok (.iload_n 3, 1) := by decide +kernel
theorem dX3_quarrel_145 : decode cX3_quarrel 145 = .ok (.if_icmp .gt 6, 3) := by decide +kernel
theorem dX3_quarrel_148 : decode cX3_quarrel 148 = .ok (.goto 15, 3) := by decide +kernel
theorem dX3_quarrel_151 : decode cX3_quarrel 151 = .ok (.bipush 10, 2) := by decide +kernel
theorem dX3_quarrel_153 : decode cX3_quarrel 153 = .ok (.iload 4, 2) := by decide +kernel
theorem dX3_quarrel_155 : decode cX3_quarrel 155 = .ok (.imul, 1) := by decide +kernel
theorem dX3_quarrel_156 : decode cX3_quarrel 156 = .ok (.iload 5, 2) := by decide +kernel
theorem dX3_quarrel_158 : decode cX3_quarrel 158 = .ok (.iadd, 1) := by decide +kernel
theorem dX3_quarrel_159 : decode cX3_quarrel 159 = .ok (.istore_n 2, 1) := by decide +kernel
theorem dX3_quarrel_160 : decode cX3_quarrel 160 = .ok (.iload 6, 2) := by decide +kernel
theorem dX3_quarrel_162 : decode cX3_quarrel 162 = .ok (.istore_n 3, 1) := by decide +kernel
theorem dX3_quarrel_163 : decode cX3_quarrel 163 = .ok (.iinc 5 1, 3) := by decide +kernel
theorem dX3_quarrel_166 : decode cX3_quarrel 166 = .ok (.goto (-131), 3) := by decide +kernel
theorem dX3_quarrel_169 : decode cX3_quarrel 169 = .ok (.iinc 4 1, 3) := by decide +kernel
theorem dX3_quarrel_172 : decode cX3_quarrel 172 = .ok (.goto (-151), 3) := by decide +kernel
theorem dX3_quarrel_175 : decode cX3_quarrel 175 = .ok (.iload_n 2, 1) := by decide +kernel
theorem dX3_quarrel_176 : decode cX3_quarrel 176 = .ok (.ireturn, 1) := by decide +kernel
set_option maxRecDepth 20000 in
theorem ggX3_keeps_X3_livingIn : GoodIn wsX3_keeps wsX3_livingIn := goodIn_r _ [5, 6, 7, 4, 8, 9, 10, 11] (by decide +kernel) (by decide +kernel)
set_option maxRecDepth 20000 in
theorem gX3_keeps_X3_livingIn : GoodIn wsX3_keeps (va_wsS RX3 150 yX3_livingIn wsX3_livingIn) := goodIn_app (goodIn_of _ (by decide +kernel)) ggX3_keeps_X3_livingIn
set_option maxRecDepth 20000 in
theorem ggX3_keeps_X3_bits : GoodIn wsX3_keeps wsX3_bits := goodIn_r _ [14] (by decide +kernel) (by decide +kernel)
set_option maxRecDepth 20000 in
theorem gX3_keeps_X3_bits : GoodIn wsX3_keeps (va_wsS RX3 87 yX3_bits wsX3_bits) := goodIn_app (goodIn_of _ (by decide +kernel)) ggX3_keeps_X3_bits
set_option maxRecDepth 20000 in
theorem ggX3_keeps_X3_isWritten : GoodIn wsX3_keeps wsX3_isWritten := goodIn_r _ [17, 18, 19, 4, 20, 6, 7, 8, 9, 10, 11] (by decide +kernel) (by decide +kernel)
set_option maxRecDepth 20000 in
theorem gX3_keeps_X3_isWritten : GoodIn wsX3_keeps (va_wsS RX3 63 yX3_isWritten wsX3_isWritten) := goodIn_app (goodIn_of _ (by decide +kernel)) ggX3_keeps_X3_isWritten
set_option maxRecDepth 20000 in
theorem ggX3_keeps_X3_saying : GoodIn wsX3_keeps wsX3_saying := goodIn_r _ [20, 6, 7, 4, 8, 9, 10, 11] (by decide +kernel) (by decide +kernel)
set_option maxRecDepth 20000 in
theorem gX3_keeps_X3_saying : GoodIn wsX3_keeps (va_wsS RX3 59 yX3_saying wsX3_saying) := goodIn_app (goodIn_of _ (by decide +kernel)) ggX3_keeps_X3_saying
theorem dX3_keeps_0 : decode cX3_keeps 0 = .ok (.aload_n 0, 1) := by decide +kernel
theorem dX3_keeps_1 : decode cX3_keeps 1 = .ok (.getfield 9, 3) := by decide +kernel
theorem dX3_keeps_4 : decode cX3_keeps 4 = .ok (.invokestatic 150, 3) := by decide +kernel
theorem dX3_keeps_7 : decode cX3_keeps 7 = .ok (.invokestatic 87, 3) := by decide +kernel
theorem dX3_keeps_10 : decode cX3_keeps 10 = .ok (.iconst 2, 1) := by decide +kernel
theorem dX3_keeps_11 : decode cX3_keeps 11 = .ok (.if_icmp .ge 6, 3) := by decide +kernel
theorem dX3_keeps_14 : decode cX3_keeps 14 = .ok (.bipush (-9), 2) := by decide +kernel
theorem dX3_keeps_16 : decode cX3_keeps 16 = .ok (.ireturn, 1) := by decide +kernel
theorem dX3_keeps_17 : decode cX3_keeps 17 = .ok (.iconst 0, 1) := by decide +kernel
theorem dX3_keeps_18 : decode cX3_keeps 18 = .ok (.istore_n 1, 1) := by decide +kernel
theorem dX3_keeps_19 : decode cX3_keeps 19 = .ok (.iconst 0, 1) := by decide +kernel
theorem dX3_keeps_20 : decode cX3_keeps 20 = .ok (.istore_n 2, 1) := by decide +kernel
theorem dX3_keeps_21 : decode cX3_keeps 21 = .ok (.iload_n 2, 1) := by decide +kernel
theorem dX3_keeps_22 : decode cX3_keeps 22 = .ok (.bipush 8, 2) := by decide +kernel
theorem dX3_keeps_24 : decode cX3_keeps 24 = .ok (.if_icmp .ge 54, 3) := by decide +kernel
theorem dX3_keeps_27 : decode cX3_keeps 27 = .ok (.iload_n 1, 1) := by decide +kernel
theorem dX3_keeps_28 : decode cX3_keeps 28 = .ok (.aload_n 0, 1) := by decide +kernel
theorem dX3_keeps_29 : decode cX3_keeps 29 = .ok (.getfield 9, 3) := by decide +kernel
theorem dX3_keeps_32 : decode cX3_keeps 32 = .ok (.iload_n 2, 1) := by decide +kernel
theorem dX3_keeps_33 : decode cX3_keeps 33 = .ok (.invokestatic 63, 3) := by decide +kernel
theorem dX3_keeps_36 : decode cX3_keeps 36 = .ok (.ifCond .eq 7, 3) := by decide +kernel
theorem dX3_keeps_39 : decode cX3_keeps 39 = .ok (.iconst 0, 1) := by decide +kernel
theorem dX3_keeps_40 : decode cX3_keeps 40 = .ok (.goto 30, 3) := by decide +kernel
theorem dX3_keeps_43 : decode cX3_keeps 43 = .ok (.aload_n 0, 1) := by decide +kernel
theorem dX3_keeps_44 : decode cX3_keeps 44 = .ok (.getfield 9, 3) := by decide +kernel
theorem dX3_keeps_47 : decode cX3_keeps 47 = .ok (.iload_n 2, 1) := by decide +kernel
theorem dX3_keeps_48 : decode cX3_keeps 48 = .ok (.iconst 1, 1) := by decide +kernel
theorem dX3_keeps_49 : decode cX3_keeps 49 = .ok (.invokestatic 59, 3) := by decide +kernel
theorem dX3_keeps_52 : decode cX3_keeps 52 = .ok (.aload_n 0, 1) := by decide +kernel
theorem dX3_keeps_53 : decode cX3_keeps 53 = .ok (.getfield 9, 3) := by decide +kernel
theorem dX3_keeps_56 : decode cX3_keeps 56 = .ok (.iload_n 2, 1) := by decide +kernel
theorem dX3_keeps_57 : decode cX3_keeps 57 = .ok (.iconst 2, 1) := by decide +kernel
theorem dX3_keeps_58 : decode cX3_keeps 58 = .ok (.invokestatic 59, 3) := by decide +kernel
theorem dX3_keeps_61 : decode cX3_keeps 61 = .ok (.iadd, 1) := by decide +kernel
theorem dX3_keeps_62 : decode cX3_keeps 62 = .ok (.ifCond .ne 7, 3) := by decide +kernel
theorem dX3_keeps_65 : decode cX3_keeps 65 = .ok (.iconst 2, 1) := by decide +kernel
theorem dX3_keeps_66 : decode cX3_keeps 66 = .ok (.goto 4, 3) := by decide +kernel
theorem dX3_keeps_69 : decode cX3_keeps 69 = .ok (.iconst 1, 1) := by decide +kernel
theorem dX3_keeps_70 : decode cX3_keeps 70 = .ok (.iadd, 1) := by decide +kernel
theorem dX3_keeps_71 : decode cX3_keeps 71 = .ok (.istore_n 1, 1) := by decide +kernel
theorem dX3_keeps_72 : decode cX3_keeps 72 = .ok (.iinc 2 1, 3) := by decide +kernel
theorem dX3_keeps_75 : decode cX3_keeps 75 = .ok (.goto (-54), 3) := by decide +kernel
theorem dX3_keeps_78 : decode cX3_keeps 78 = .ok (.iload_n 1, 1) := by decide +kernel
theorem dX3_keeps_79 : decode cX3_keeps 79 = .ok (.ireturn, 1) := by decide +kernel
set_option maxRecDepth 20000 in
theorem ggX3_silent_X3_isIn : GoodIn wsX3_silent wsX3_isIn := goodIn_r _ [5] (by decide +kernel) (by decide +kernel)
set_option maxRecDepth 20000 in
theorem gX3_silent_X3_isIn : GoodIn wsX3_silent (va_wsS RX3 43 yX3_isIn wsX3_isIn) := goodIn_app (goodIn_of _ (by decide +kernel)) ggX3_silent_X3_isIn
set_option maxRecDepth 20000 in
theorem ggX3_silent_X3_no : GoodIn wsX3_silent wsX3_no := goodIn_r _ [9, 10, 23, 24, 25, 26, 27, 28, 29, 30, 31, 32, 33, 34, 35, 36, 37] (by decide +kernel) (by decide +kernel)
set_option maxRecDepth 20000 in
theorem gX3_silent_X3_no : GoodIn wsX3_silent (wsV RX3 39 RX3 yX3_no wsX3_no) := goodIn_app (goodIn_of _ (by decide +kernel)) ggX3_silent_X3_no
set_option maxRecDepth 20000 in
theorem ggX3_silent_X3_saying : GoodIn wsX3_silent wsX3_saying := goodIn_r _ [13, 14, 15, 4, 16, 17, 18, 19] (by decide +kernel) (by decide +kernel)
set_option maxRecDepth 20000 in
theorem gX3_silent_X3_saying : GoodIn wsX3_silent (va_wsS RX3 59 yX3_saying wsX3_saying) := goodIn_app (goodIn_of _ (by decide +kernel)) ggX3_silent_X3_saying
set_option maxRecDepth 20000 in
theorem ggX3_silent_X3_isWritten : GoodIn wsX3_silent wsX3_isWritten := goodIn_r _ [22, 11, 12, 4, 13, 14, 15, 16, 17, 18, 19] (by decide +kernel) (by decide +kernel)
set_option maxRecDepth 20000 in
theorem gX3_silent_X3_isWritten : GoodIn wsX3_silent (va_wsS RX3 63 yX3_isWritten wsX3_isWritten) := goodIn_app (goodIn_of _ (by decide +kernel)) ggX3_silent_X3_isWritten
theorem dX3_silent_0 : decode cX3_silent 0 = .ok (.iload_n 1, 1) := by decide +kernel
theorem dX3_silent_1 : decode cX3_silent 1 = .ok (.iconst 0, 1) := by decide +kernel
theorem dX3_silent_2 : decode cX3_silent 2 = .ok (.iconst 1, 1) := by decide +kernel
theorem dX3_silent_3 : decode cX3_silent 3 = .ok (.invokestatic 43, 3) := by decide +kernel
theorem dX3_silent_6 : decode cX3_silent 6 = .ok (.ifCond .ne 10, 3) := by decide +kernel
theorem dX3_silent_9 : decode cX3_silent 9 = .ok (.aload_n 0, 1) := by decide +kernel
theorem dX3_silent_10 : decode cX3_silent 10 = .ok (.bipush (-2), 2) := by decide +kernel
theorem dX3_silent_12 : decode cX3_silent 12 = .ok (.invokevirtual 39, 3) := by decide +kernel
theorem dX3_silent_15 : decode cX3_silent 15 = .ok (.ireturn, 1) := by decide +kernel
theorem dX3_silent_16 : decode cX3_silent 16 = .ok (.iconst 0, 1) := by decide +kernel
theorem dX3_silent_17 : decode cX3_silent 17 = .ok (.istore_n 2, 1) := by decide +kernel
theorem dX3_silent_18 : decode cX3_silent 18 = .ok (.iconst 0, 1) := by decide +kernel
theorem dX3_silent_19 : decode cX3_silent 19 = .ok (.istore_n 3, 1) := by decide +kernel
theorem dX3_silent_20 : decode cX3_silent 20 = .ok (.iload_n 3, 1) := by decide +kernel
theorem dX3_silent_21 : decode cX3_silent 21 = .ok (.bipush 8, 2) := by decide +kernel
theorem dX3_silent_23 : decode cX3_silent 23 = .ok (.if_icmp .ge 76, 3) := by decide +kernel
theorem dX3_silent_26 : decode cX3_silent 26 = .ok (.aload_n 0, 1) := by decide +kernel
theorem dX3_silent_27 : decode cX3_silent 27 = .ok (.getfield 9, 3) := by decide +kernel
theorem dX3_silent_30 : decode cX3_silent 30 = .ok (.iload_n 3, 1) := by decide +kernel
theorem dX3_silent_31 : decode cX3_silent 31 = .ok (.iconst 1, 1) := by decide +kernel
theorem dX3_silent_32 : decode cX3_silent 32 = .ok (.invokestatic 59, 3) := by decide +kernel
theorem dX3_silent_35 : decode cX3_silent 35 = .ok (.aload_n 0, 1) := by decide +kernel
theorem dX3_silent_36 : decode cX3_silent 36 = .ok (.getfield 9, 3) := by decide +kernel
theorem dX3_silent_39 : decode cX3_silent 39 = .ok (.iload_n 3, 1) := by decide +kernel
theorem dX3_silent_40 : decode cX3_silent 40 = .ok (.iconst 2, 1) := by decide +kernel
theorem dX3_silent_41 : decode cX3_silent 41 = .ok (.invokestatic 59, 3) := by decide +kernel
theorem dX3_silent_44 : decode cX3_silent 44 = .ok (.iadd, 1) := by decide +kernel
theorem dX3_silent_45 : decode cX3_silent 45 = .ok (.ifCond .le 7, 3) := by decide +kernel
theorem dX3_silent_48 : decode cX3_silent 48 = .ok (.iconst 1, 1) := by decide +kernel
theorem dX3_silent_49 : decode cX3_silent 49 = .ok (.goto 4, 3) := by decide +kernel
theorem dX3_silent_52 : decode cX3_silent 52 = .ok (.iconst 0, 1) := by decide +kernel
theorem dX3_silent_53 : decode cX3_silent 53 = .ok (.istore 4, 2) := by decide +kernel
theorem dX3_silent_55 : decode cX3_silent 55 = .ok (.iload_n 2, 1) := by decide +kernel
theorem dX3_silent_56 : decode cX3_silent 56 = .ok (.iload_n 1, 1) := by decide +kernel
theorem dX3_silent_57 : decode cX3_silent 57 = .ok (.ifCond .ne 11, 3) := by decide +kernel
theorem dX3_silent_60 : decode cX3_silent 60 = .ok (.iload 4, 2) := by decide +kernel
theorem dX3_silent_62 : decode cX3_silent 62 = .ok (.ifCond .ne 28, 3) := by decide +kernel
theorem dX3_silent_65 : decode cX3_silent 65 = .ok (.goto 19, 3) := by decide +kernel
theorem dX3_silent_68 : decode cX3_silent 68 = .ok (.iload 4, 2) := by decide +kernel
theorem dX3_silent_70 : decode cX3_silent 70 = .ok (.ifCond .eq 20, 3) := by decide +kernel
theorem dX3_silent_73 : decode cX3_silent 73 = .ok (.aload_n 0, 1) := by decide +kernel
theorem dX3_silent_74 : decode cX3_silent 74 = .ok (.getfield 9, 3) := by decide +kernel
theorem dX3_silent_77 : decode cX3_silent 77 = .ok (.iload_n 3, 1) := by decide +kernel
theorem dX3_silent_78 : decode cX3_silent 78 = .ok (.invokestatic 63, 3) := by decide +kernel
theorem dX3_silent_81 : decode cX3_silent 81 = .ok (.ifCond .ne 9, 3) := by decide +kernel
theorem dX3_silent_84 : decode cX3_silent 84 = .ok (.iconst 1, 1) := by decide +kernel
theorem dX3_silent_85 : decode cX3_silent 85 = .ok (.iload_n 3, 1) := by decide +kernel
theorem dX3_silent_86 : decode cX3_silent 86 = .ok (.ishl, 1) := by decide +kernel
theorem dX3_silent_87 : decode cX3_silent 87 = .ok (.goto 4, 3) := by decide +kernel
theorem dX3_silent_90 : decode cX3_silent 90 = .ok (.iconst 0, 1) := by decide +kernel
theorem dX3_silent_91 : decode cX3_silent 91 = .ok (.ior, 1) := by decide +kernel
theorem dX3_silent_92 : decode cX3_silent 92 = .ok (.istore_n 2, 1) := by decide +kernel
theorem dX3_silent_93 : decode cX3_silent 93 = .ok (.iinc 3 1, 3) := by decide +kernel
theorem dX3_silent_96 : decode cX3_silent 96 = .ok (.goto (-76), 3) := by decide +kernel
theorem dX3_silent_99 : decode cX3_silent 99 = .ok (.iload_n 2, 1) := by decide +kernel
theorem dX3_silent_100 : decode cX3_silent 100 = .ok (.ireturn, 1) := by decide +kernel
set_option maxRecDepth 20000 in
theorem ggX3_lives_X3_wrongBy : GoodIn wsX3_lives wsX3_wrongBy := goodIn_r _ [7] (by decide +kernel) (by decide +kernel)
set_option maxRecDepth 20000 in
theorem gX3_lives_X3_wrongBy : GoodIn wsX3_lives (va_wsS RX3 147 yX3_wrongBy wsX3_wrongBy) := goodIn_app (goodIn_of _ (by decide +kernel)) ggX3_lives_X3_wrongBy
set_option maxRecDepth 20000 in
theorem ggX3_lives_X3_isIn : GoodIn wsX3_lives wsX3_isIn := goodIn_r _ [10] (by decide +kernel) (by decide +kernel)
set_option maxRecDepth 20000 in
theorem gX3_lives_X3_isIn : GoodIn wsX3_lives (va_wsS RX3 43 yX3_isIn wsX3_isIn) := goodIn_app (goodIn_of _ (by decide +kernel)) ggX3_lives_X3_isIn
set_option maxRecDepth 20000 in
theorem ggX3_lives_X3_no : GoodIn wsX3_lives wsX3_no := goodIn_r _ [14, 15, 56, 57, 58, 59, 60, 61, 62, 63, 64, 65, 66, 67, 68, 69, 70] (by decide +kernel) (by decide +kernel)
set_option maxRecDepth 20000 in
theorem gX3_lives_X3_no : GoodIn wsX3_lives (wsV RX3 39 RX3 yX3_no wsX3_no) := goodIn_app (goodIn_of _ (by decide +kernel)) ggX3_lives_X3_no
set_option maxRecDepth 20000 in
theorem ggX3_lives_X3_isAlive : GoodIn wsX3_lives wsX3_isAlive := goodIn_r _ [18, 19, 20, 6, 21] (by decide +kernel) (by decide +kernel)
set_option maxRecDepth 20000 in
theorem gX3_lives_X3_isAlive : GoodIn wsX3_lives (va_wsS RX3 55 yX3_isAlive wsX3_isAlive) := goodIn_app (goodIn_of _ (by decide +kernel)) ggX3_lives_X3_isAlive
set_option maxRecDepth 20000 in
theorem ggX3_lives_X3_copies : GoodIn wsX3_lives wsX3_copies := goodIn_r _ [24] (by decide +kernel) (by decide +kernel)
set_option maxRecDepth 20000 in
theorem gX3_lives_X3_copies : GoodIn wsX3_lives (va_wsS RX3 136 yX3_copies wsX3_copies) := goodIn_app (goodIn_of _ (by decide +kernel)) ggX3_lives_X3_copies
set_option maxRecDepth 20000 in
theorem ggX3_lives_X3_of : GoodIn wsX3_lives wsX3_of := goodIn_r _ [21] (by decide +kernel) (by decide +kernel)
set_option maxRecDepth 20000 in
theorem gX3_lives_X3_of : GoodIn wsX3_lives (va_wsS RX3 51 yX3_of wsX3_of) := goodIn_app (goodIn_of _ (by decide +kernel)) ggX3_lives_X3_of
set_option maxRecDepth 20000 in
theorem ggX3_lives_X3_writtenBehind : GoodIn wsX3_lives wsX3_writtenBehind := goodIn_r _ [28, 3, 29, 30, 6, 31, 32, 33, 34, 16, 17, 18, 19, 20, 21, 35, 36, 37, 38, 39, 40, 41, 42, 43, 44, 45, 46, 47, 48, 49, 50, 51, 52, 53, 54, 55, 56, 57, 58, 59, 60, 61, 62, 63, 64, 65, 66, 67, 68, 69, 70] (by decide +kernel) (by decide +kernel)
set_option maxRecDepth 20000 in
theorem gX3_lives_X3_writtenBehind : GoodIn wsX3_lives (wsV RX3 167 RX3 yX3_writtenBehind wsX3_writtenBehind) := goodIn_app (goodIn_of _ (by decide +kernel)) ggX3_lives_X3_writtenBehind
theorem dX3_lives_0 : decode cX3_lives 0 = .ok (.iload_n 1, 1) := by decide +kernel
theorem dX3_lives_1 : decode cX3_lives 1 = .ok (.bipush 60, 2) := by decide +kernel
theorem dX3_lives_3 : decode cX3_lives 3 = .ok (.invokestatic 147, 3) := by decide +kernel
theorem dX3_lives_6 : decode cX3_lives 6 = .ok (.istore_n 3, 1) := by decide +kernel
theorem dX3_lives_7 : decode cX3_lives 7 = .ok (.iload_n 3, 1) := by decide +kernel
theorem dX3_lives_8 : decode cX3_lives 8 = .ok (.ifCond .ne 15, 3) := by decide +kernel
theorem dX3_lives_11 : decode cX3_lives 11 = .ok (.iload_n 2, 1) := by decide +kernel
theorem dX3_lives_12 : decode cX3_lives 12 = .ok (.iconst 0, 1) := by decide +kernel
theorem dX3_lives_13 : decode cX3_lives 13 = .ok (.iconst 1, 1) := by decide +kernel
theorem dX3_lives_14 : decode cX3_lives 14 = .ok (.invokestatic 43, 3) := by decide +kernel
theorem dX3_lives_17 : decode cX3_lives 17 = .ok (.ifCond .ne 6, 3) := by decide +kernel
theorem dX3_lives_20 : decode cX3_lives 20 = .ok (.bipush (-2), 2) := by decide +kernel
theorem dX3_lives_22 : decode cX3_lives 22 = .ok (.istore_n 3, 1) := by decide +kernel
theorem dX3_lives_23 : decode cX3_lives 23 = .ok (.iload_n 3, 1) := by decide +kernel
theorem dX3_lives_24 : decode cX3_lives 24 = .ok (.ifCond .eq 9, 3) := by decide +kernel
theorem dX3_lives_27 : decode cX3_lives 27 = .ok (.aload_n 0, 1) := by decide +kernel
theorem dX3_lives_28 : decode cX3_lives 28 = .ok (.iload_n 3, 1) := by decide +kernel
theorem dX3_lives_29 : decode cX3_lives 29 = .ok (.invokevirtual 39, 3) := by decide +kernel
theorem dX3_lives_32 : decode cX3_lives 32 = .ok (.ireturn, 1) := by decide +kernel
theorem dX3_lives_33 : decode cX3_lives 33 = .ok (.bipush (-9), 2) := by decide +kernel
theorem dX3_lives_35 : decode cX3_lives 35 = .ok (.istore 4, 2) := by decide +kernel
theorem dX3_lives_37 : decode cX3_lives 37 = .ok (.ldc 163, 2) := by decide +kernel
theorem dX3_lives_39 : decode cX3_lives 39 = .ok (.istore 5, 2) := by decide +kernel
theorem dX3_lives_41 : decode cX3_lives 41 = .ok (.iconst 0, 1) := by decide +kernel
theorem dX3_lives_42 : decode cX3_lives 42 = .ok (.istore 6, 2) := by decide +kernel
theorem dX3_lives_44 : decode cX3_lives 44 = .ok (.iload 6, 2) := by decide +kernel
theorem dX3_lives_46 : decode cX3_lives 46 = .ok (.aload_n 0, 1) := by decide +kernel
theorem dX3_lives_47 : decode cX3_lives 47 = .ok (.getfield 9, 3) := by decide +kernel
theorem dX3_lives_50 : decode cX3_lives 50 = .ok (.iconst 0, 1) := by decide +kernel
theorem dX3_lives_51 : decode cX3_lives 51 = .ok (.iaload, 1) := by decide +kernel
theorem dX3_lives_52 : decode cX3_lives 52 = .ok (.if_icmp .ge 72, 3) := by decide +kernel
theorem dX3_lives_55 : decode cX3_lives 55 = .ok (.aload_n 0, 1) := by decide +kernel
theorem dX3_lives_56 : decode cX3_lives 56 = .ok (.getfield 9, 3) := by decide +kernel
theorem dX3_lives_59 : decode cX3_lives 59 = .ok (.iload 6, 2) := by decide +kernel
theorem dX3_lives_61 : decode cX3_lives 61 = .ok (.invokestatic 55, 3) := by decide +kernel
theorem dX3_lives_64 : decode cX3_lives 64 = .ok (.ifCond .ne 6, 3) := by decide +kernel
theorem dX3_lives_67 : decode cX3_lives 67 = .ok (.goto 51, 3) := by decide +kernel
theorem dX3_lives_70 : decode cX3_lives 70 = .ok (.aload_n 0, 1) := by decide +kernel
theorem dX3_lives_71 : decode cX3_lives 71 = .ok (.getfield 9, 3) := by decide +kernel
theorem dX3_lives_74 : decode cX3_lives 74 = .ok (.aload_n 0, 1) := by decide +kernel
theorem dX3_lives_75 : decode cX3_lives 75 = .ok (.getfield 13, 3) := by decide +kernel
theorem dX3_lives_78 : decode cX3_lives 78 = .ok (.invokestatic 136, 3) := by decide +kernel
theorem dX3_lives_81 : decode cX3_lives 81 = .ok (.aload_n 0, 1) := by decide +kernel
theorem dX3_lives_82 : decode cX3_lives 82 = .ok (.getfield 13, 3) := by decide +kernel
theorem dX3_lives_85 : decode cX3_lives 85 = .ok (.iload 6, 2) := by decide +kernel
theorem dX3_lives_87 : decode cX3_lives 87 = .ok (.iconst 3, 1) := by decide +kernel
theorem dX3_lives_88 : decode cX3_lives 88 = .ok (.invokestatic 51, 3) := by decide +kernel
theorem dX3_lives_91 : decode cX3_lives 91 = .ok (.iconst 1, 1) := by decide +kernel
theorem dX3_lives_92 : decode cX3_lives 92 = .ok (.iastore, 1) := by decide +kernel
theorem dX3_lives_93 : decode cX3_lives 93 = .ok (.aload_n 0, 1) := by decide +kernel
theorem dX3_lives_94 : decode cX3_lives 94 = .ok (.iload_n 1, 1) := by decide +kernel
theorem dX3_lives_95 : decode cX3_lives 95 = .ok (.invokevirtual 167, 3) := by decide +kernel
theorem dX3_lives_98 : decode cX3_lives 98 = .ok (.istore 7, 2) := by decide +kernel
theorem dX3_lives_100 : decode cX3_lives 100 = .ok (.iload 7, 2) := by decide +kernel
theorem dX3_lives_102 : decode cX3_lives 102 = .ok (.iload 5, 2) := by decide +kernel
theorem dX3_lives_104 : decode cX3_lives 104 = .ok (.if_icmp .lt 6, 3) := by decide +kernel
theorem dX3_lives_107 : decode cX3_lives 107 = .ok (.goto 11, 3) := by decide +kernel
theorem dX3_lives_110 : decode cX3_lives 110 = .ok (.iload 6, 2) := by decide +kernel
theorem dX3_lives_112 : decode cX3_lives 112 = .ok (.istore 4, 2) := by decide +kernel
theorem dX3_lives_114 : decode cX3_lives 114 = .ok (.iload 7, 2) := by decide +kernel
theorem dX3_lives_116 : decode cX3_lives 116 = .ok (.istore 5, 2) := by decide +kernel
theorem dX3_lives_118 : decode cX3_lives 118 = .ok (.iinc 6 1, 3) := by decide +kernel
theorem dX3_lives_121 : decode cX3_lives 121 = .ok (.goto (-77), 3) := by decide +kernel
theorem dX3_lives_124 : decode cX3_lives 124 = .ok (.iload 4, 2) := by decide +kernel
theorem dX3_lives_126 : decode cX3_lives 126 = .ok (.ifCond .lt 7, 3) := by decide +kernel
theorem dX3_lives_129 : decode cX3_lives 129 = .ok (.iload_n 2, 1) := by decide +kernel
theorem dX3_lives_130 : decode cX3_lives 130 = .ok (.ifCond .ne 8, 3) := by decide +kernel
theorem dX3_lives_133 : decode cX3_lives 133 = .ok (.iload 4, 2) := by decide +kernel
theorem dX3_lives_135 : decode cX3_lives 135 = .ok (.goto 5, 3) := by decide +kernel
theorem dX3_lives_138 : decode cX3_lives 138 = .ok (.iload 5, 2) := by decide +kernel
theorem dX3_lives_140 : decode cX3_lives 140 = .ok (.ireturn, 1) := by decide +kernel
set_option maxRecDepth 20000 in
theorem ggX3_heir_X3_wrongBy : GoodIn wsX3_heir wsX3_wrongBy := goodIn_r _ [6] (by decide +kernel) (by decide +kernel)
set_option maxRecDepth 20000 in
theorem gX3_heir_X3_wrongBy : GoodIn wsX3_heir (va_wsS RX3 147 yX3_wrongBy wsX3_wrongBy) := goodIn_app (goodIn_of _ (by decide +kernel)) ggX3_heir_X3_wrongBy
set_option maxRecDepth 20000 in
theorem ggX3_heir_X3_no : GoodIn wsX3_heir wsX3_no := goodIn_r _ [10, 11, 52, 53, 54, 55, 56, 57, 58, 59, 60, 61, 62, 63, 64, 65, 66] (by decide +kernel) (by decide +kernel)
set_option maxRecDepth 20000 in
theorem gX3_heir_X3_no : GoodIn wsX3_heir (wsV RX3 39 RX3 yX3_no wsX3_no) := goodIn_app (goodIn_of _ (by decide +kernel)) ggX3_heir_X3_no
set_option maxRecDepth 20000 in
theorem ggX3_heir_X3_copies : GoodIn wsX3_heir wsX3_copies := goodIn_r _ [14] (by decide +kernel) (by decide +kernel)
set_option maxRecDepth 20000 in
theorem gX3_heir_X3_copies : GoodIn wsX3_heir (va_wsS RX3 136 yX3_copies wsX3_copies) := goodIn_app (goodIn_of _ (by decide +kernel)) ggX3_heir_X3_copies
set_option maxRecDepth 20000 in
theorem ggX3_heir_X3_writtenBehind : GoodIn wsX3_heir wsX3_writtenBehind := goodIn_r _ [18, 2, 19, 20, 5, 21, 22, 23, 24, 25, 26, 27, 28, 29, 30, 31, 32, 33, 34, 35, 36, 37, 38, 39, 40, 41, 42, 43, 44, 45, 46, 47, 48, 49, 50, 51, 52, 53, 54, 55, 56, 57, 58, 59, 60, 61, 62, 63, 64, 65, 66] (by decide +kernel) (by decide +kernel)
set_option maxRecDepth 20000 in
theorem gX3_heir_X3_writtenBehind : GoodIn wsX3_heir (wsV RX3 167 RX3 yX3_writtenBehind wsX3_writtenBehind) := goodIn_app (goodIn_of _ (by decide +kernel)) ggX3_heir_X3_writtenBehind
set_option maxRecDepth 20000 in
theorem ggX3_heir_X3_isAlive : GoodIn wsX3_heir wsX3_isAlive := goodIn_r _ [27, 28, 29, 5, 30] (by decide +kernel) (by decide +kernel)
set_option maxRecDepth 20000 in
theorem gX3_heir_X3_isAlive : GoodIn wsX3_heir (va_wsS RX3 55 yX3_isAlive wsX3_isAlive) := goodIn_app (goodIn_of _ (by decide +kernel)) ggX3_heir_X3_isAlive
set_option maxRecDepth 20000 in
theorem ggX3_heir_X3_of : GoodIn wsX3_heir wsX3_of := goodIn_r _ [30] (by decide +kernel) (by decide +kernel)
set_option maxRecDepth 20000 in
theorem gX3_heir_X3_of : GoodIn wsX3_heir (va_wsS RX3 51 yX3_of wsX3_of) := goodIn_app (goodIn_of _ (by decide +kernel)) ggX3_heir_X3_of
theorem dX3_heir_0 : decode cX3_heir 0 = .ok (.iload_n 1, 1) := by decide +kernel
theorem dX3_heir_1 : decode cX3_heir 1 = .ok (.bipush 60, 2) := by decide +kernel
theorem dX3_heir_3 : decode cX3_heir 3 = .ok (.invokestatic 147, 3) := by decide +kernel
theorem dX3_heir_6 : decode cX3_heir 6 = .ok (.istore_n 2, 1) := by decide +kernel
theorem dX3_heir_7 : decode cX3_heir 7 = .ok (.iload_n 2, 1) := by decide +kernel
theorem dX3_heir_8 : decode cX3_heir 8 = .ok (.ifCond .eq 9, 3) := by decide +kernel
theorem dX3_heir_11 : decode cX3_heir 11 = .ok (.aload_n 0, 1) := by decide +kernel
theorem dX3_heir_12 : decode cX3_heir 12 = .ok (.iload_n 2, 1) := by decide +kernel
theorem dX3_heir_13 : decode cX3_heir 13 = .ok (.invokevirtual 39, 3) := by decide +kernel
theorem dX3_heir_16 : decode cX3_heir 16 = .ok (.ireturn, 1) := by decide +kernel
theorem dX3_heir_17 : decode cX3_heir 17 = .ok (.aload_n 0, 1) := by decide +kernel
theorem dX3_heir_18 : decode cX3_heir 18 = .ok (.getfield 9, 3) := by decide +kernel
theorem dX3_heir_21 : decode cX3_heir 21 = .ok (.aload_n 0, 1) := by decide +kernel
theorem dX3_heir_22 : decode cX3_heir 22 = .ok (.getfield 13, 3) := by decide +kernel
theorem dX3_heir_25 : decode cX3_heir 25 = .ok (.invokestatic 136, 3) := by decide +kernel
theorem dX3_heir_28 : decode cX3_heir 28 = .ok (.aload_n 0, 1) := by decide +kernel
theorem dX3_heir_29 : decode cX3_heir 29 = .ok (.iload_n 1, 1) := by decide +kernel
theorem dX3_heir_30 : decode cX3_heir 30 = .ok (.invokevirtual 167, 3) := by decide +kernel
theorem dX3_heir_33 : decode cX3_heir 33 = .ok (.istore_n 3, 1) := by decide +kernel
theorem dX3_heir_34 : decode cX3_heir 34 = .ok (.bipush (-9), 2) := by decide +kernel
theorem dX3_heir_36 : decode cX3_heir 36 = .ok (.istore 4, 2) := by decide +kernel
theorem dX3_heir_38 : decode cX3_heir 38 = .ok (.iconst 0, 1) := by decide +kernel
theorem dX3_heir_39 : decode cX3_heir 39 = .ok (.istore 5, 2) := by decide +kernel
theorem dX3_heir_41 : decode cX3_heir 41 = .ok (.iload 5, 2) := by decide +kernel
theorem dX3_heir_43 : decode cX3_heir 43 = .ok (.aload_n 0, 1) := by decide +kernel
theorem dX3_heir_44 : decode cX3_heir 44 = .ok (.getfield 9, 3) := by decide +kernel
theorem dX3_heir_47 : decode cX3_heir 47 = .ok (.iconst 0, 1) := by decide +kernel
theorem dX3_heir_48 : decode cX3_heir 48 = .ok (.iaload, 1) := by decide +kernel
theorem dX3_heir_49 : decode cX3_heir 49 = .ok (.if_icmp .ge 70, 3) := by decide +kernel
theorem dX3_heir_52 : decode cX3_heir 52 = .ok (.aload_n 0, 1) := by decide +kernel
theorem dX3_heir_53 : decode cX3_heir 53 = .ok (.getfield 9, 3) := by decide +kernel
theorem dX3_heir_56 : decode cX3_heir 56 = .ok (.iload 5, 2) := by decide +kernel
theorem dX3_heir_58 : decode cX3_heir 58 = .ok (.invokestatic 55, 3) := by decide +kernel
theorem dX3_heir_61 : decode cX3_heir 61 = .ok (.ifCond .ne 6, 3) := by decide +kernel
theorem dX3_heir_64 : decode cX3_heir 64 = .ok (.goto 49, 3) := by decide +kernel
theorem dX3_heir_67 : decode cX3_heir 67 = .ok (.aload_n 0, 1) := by decide +kernel
theorem dX3_heir_68 : decode cX3_heir 68 = .ok (.getfield 9, 3) := by decide +kernel
theorem dX3_heir_71 : decode cX3_heir 71 = .ok (.aload_n 0, 1) := by decide +kernel
theorem dX3_heir_72 : decode cX3_heir 72 = .ok (.getfield 13, 3) := by decide +kernel
theorem dX3_heir_75 : decode cX3_heir 75 = .ok (.invokestatic 136, 3) := by decide +kernel
theorem dX3_heir_78 : decode cX3_heir 78 = .ok (.aload_n 0, 1) := by decide +kernel
theorem dX3_heir_79 : decode cX3_heir 79 = .ok (.getfield 13, 3) := by decide +kernel
theorem dX3_heir_82 : decode cX3_heir 82 = .ok (.iload 5, 2) := by decide +kernel
theorem dX3_heir_84 : decode cX3_heir 84 = .ok (.iconst 0, 1) := by decide +kernel
theorem dX3_heir_85 : decode cX3_heir 85 = .ok (.invokestatic 51, 3) := by decide +kernel
theorem dX3_heir_88 : decode cX3_heir 88 = .ok (.iconst 2, 1) := by decide +kernel
theorem dX3_heir_89 : decode cX3_heir 89 = .ok (.iastore, 1) := by decide +kernel
theorem dX3_heir_90 : decode cX3_heir 90 = .ok (.aload_n 0, 1) := by decide +kernel
theorem dX3_heir_91 : decode cX3_heir 91 = .ok (.iload_n 1, 1) := by decide +kernel
theorem dX3_heir_92 : decode cX3_heir 92 = .ok (.invokevirtual 167, 3) := by decide +kernel
theorem dX3_heir_95 : decode cX3_heir 95 = .ok (.istore 6, 2) := by decide +kernel
theorem dX3_heir_97 : decode cX3_heir 97 = .ok (.iload 6, 2) := by decide +kernel
theorem dX3_heir_99 : decode cX3_heir 99 = .ok (.iload_n 3, 1) := by decide +kernel
theorem dX3_heir_100 : decode cX3_heir 100 = .ok (.if_icmp .gt 6, 3) := by decide +kernel
theorem dX3_heir_103 : decode cX3_heir 103 = .ok (.goto 10, 3) := by decide +kernel
theorem dX3_heir_106 : decode cX3_heir 106 = .ok (.iload 5, 2) := by decide +kernel
theorem dX3_heir_108 : decode cX3_heir 108 = .ok (.istore 4, 2) := by decide +kernel
theorem dX3_heir_110 : decode cX3_heir 110 = .ok (.iload 6, 2) := by decide +kernel
theorem dX3_heir_112 : decode cX3_heir 112 = .ok (.istore_n 3, 1) := by decide +kernel
theorem dX3_heir_113 : decode cX3_heir 113 = .ok (.iinc 5 1, 3) := by decide +kernel
theorem dX3_heir_116 : decode cX3_heir 116 = .ok (.goto (-75), 3) := by decide +kernel
theorem dX3_heir_119 : decode cX3_heir 119 = .ok (.iload 4, 2) := by decide +kernel
theorem dX3_heir_121 : decode cX3_heir 121 = .ok (.ireturn, 1) := by decide +kernel
set_option maxRecDepth 20000 in
theorem ggX3_lesserAll_X3_saying : GoodIn wsX3_lesserAll wsX3_saying := goodIn_r _ [5, 6, 7, 4, 8, 9, 10, 11] (by decide +kernel) (by decide +kernel)
set_option maxRecDepth 20000 in
theorem gX3_lesserAll_X3_saying : GoodIn wsX3_lesserAll (va_wsS RX3 59 yX3_saying wsX3_saying) := goodIn_app (goodIn_of _ (by decide +kernel)) ggX3_lesserAll_X3_saying
set_option maxRecDepth 20000 in
theorem ggX3_lesserAll_X3_least : GoodIn wsX3_lesserAll wsX3_least := goodIn_r _ [14] (by decide +kernel) (by decide +kernel)
set_option maxRecDepth 20000 in
theorem gX3_lesserAll_X3_least : GoodIn wsX3_lesserAll (va_wsS RX3 66 yX3_least wsX3_least) := goodIn_app (goodIn_of _ (by decide +kernel)) ggX3_lesserAll_X3_least
theorem dX3_lesserAll_0 : decode cX3_lesserAll 0 = .ok (.iconst 0, 1) := by decide +kernel
theorem dX3_lesserAll_1 : decode cX3_lesserAll 1 = .ok (.istore_n 1, 1) := by decide +kernel
theorem dX3_lesserAll_2 : decode cX3_lesserAll 2 = .ok (.iconst 0, 1) := by decide +kernel
theorem dX3_lesserAll_3 : decode cX3_lesserAll 3 = .ok (.istore_n 2, 1) := by decide +kernel
theorem dX3_lesserAll_4 : decode cX3_lesserAll 4 = .ok (.iload_n 2, 1) := by decide +kernel
theorem dX3_lesserAll_5 : decode cX3_lesserAll 5 = .ok (.bipush 8, 2) := by decide +kernel
theorem dX3_lesserAll_7 : decode cX3_lesserAll 7 = .ok (.if_icmp .ge 33, 3) := by decide +kernel
theorem dX3_lesserAll_10 : decode cX3_lesserAll 10 = .ok (.iload_n 1, 1) := by decide +kernel
theorem dX3_lesserAll_11 : decode cX3_lesserAll 11 = .ok (.aload_n 0, 1) := by decide +kernel
theorem dX3_lesserAll_12 : decode cX3_lesserAll 12 = .ok (.getfield 9, 3) := by decide +kernel
theorem dX3_lesserAll_15 : decode cX3_lesserAll 15 = .ok (.iload_n 2, 1) := by decide +kernel
theorem dX3_lesserAll_16 : decode cX3_lesserAll 16 = .ok (.iconst 1, 1) := by decide +kernel
theorem dX3_lesserAll_17 : decode cX3_lesserAll 17 = .ok (.invokestatic 59, 3) := by decide +kernel
theorem dX3_lesserAll_20 : decode cX3_lesserAll 20 = .ok (.aload_n 0, 1) := by decide +kernel
theorem dX3_lesserAll_21 : decode cX3_lesserAll 21 = .ok (.getfield 9, 3) := by decide +kernel
theorem dX3_lesserAll_24 : decode cX3_lesserAll 24 = .ok (.iload_n 2, 1) := by decide +kernel
theorem dX3_lesserAll_25 : decode cX3_lesserAll 25 = .ok (.iconst 2, 1) := by decide +kernel
theorem dX3_lesserAll_26 : decode cX3_lesserAll 26 = .ok (.invokestatic 59, 3) := by decide +kernel
theorem dX3_lesserAll_29 : decode cX3_lesserAll 29 = .ok (.invokestatic 66, 3) := by decide +kernel
theorem dX3_lesserAll_32 : decode cX3_lesserAll 32 = .ok (.iadd, 1) := by decide +kernel
theorem dX3_lesserAll_33 : decode cX3_lesserAll 33 = .ok (.istore_n 1, 1) := by decide +kernel
theorem dX3_lesserAll_34 : decode cX3_lesserAll 34 = .ok (.iinc 2 1, 3) := by decide +kernel
theorem dX3_lesserAll_37 : decode cX3_lesserAll 37 = .ok (.goto (-33), 3) := by decide +kernel
theorem dX3_lesserAll_40 : decode cX3_lesserAll 40 = .ok (.iload_n 1, 1) := by decide +kernel
theorem dX3_lesserAll_41 : decode cX3_lesserAll 41 = .ok (.ireturn, 1) := by decide +kernel
set_option maxRecDepth 20000 in
theorem ggX3_so_X3_isTopic : GoodIn wsX3_so wsX3_isTopic := goodIn_r _ [5, 6, 7, 4, 8] (by decide +kernel) (by decide +kernel)
set_option maxRecDepth 20000 in
theorem gX3_so_X3_isTopic : GoodIn wsX3_so (va_wsS RX3 127 yX3_isTopic wsX3_isTopic) := goodIn_app (goodIn_of _ (by decide +kernel)) ggX3_so_X3_isTopic
set_option maxRecDepth 20000 in
theorem ggX3_so_X3_no : GoodIn wsX3_so wsX3_no := goodIn_r _ [12, 13, 30, 31, 32, 33, 34, 35, 36, 37, 38, 39, 40, 41, 42, 43, 44] (by decide +kernel) (by decide +kernel)
set_option maxRecDepth 20000 in
theorem gX3_so_X3_no : GoodIn wsX3_so (wsV RX3 39 RX3 yX3_no wsX3_no) := goodIn_app (goodIn_of _ (by decide +kernel)) ggX3_so_X3_no
set_option maxRecDepth 20000 in
theorem ggX3_so_X3_lesserAll : GoodIn wsX3_so wsX3_lesserAll := goodIn_r _ [17, 1, 18, 19, 4, 20, 21, 22, 23, 24, 25, 26, 27, 28, 29, 30, 31, 32, 33, 34, 35, 36, 37, 38, 39, 40, 41, 42, 43, 44] (by decide +kernel) (by decide +kernel)
set_option maxRecDepth 20000 in
theorem gX3_so_X3_lesserAll : GoodIn wsX3_so (wsV RX3 170 RX3 yX3_lesserAll wsX3_lesserAll) := goodIn_app (goodIn_of _ (by decide +kernel)) ggX3_so_X3_lesserAll
set_option maxRecDepth 20000 in
theorem ggX3_so_X3_saying : GoodIn wsX3_so wsX3_saying := goodIn_r _ [20, 21, 22, 4, 23, 24, 25, 26] (by decide +kernel) (by decide +kernel)
set_option maxRecDepth 20000 in
theorem gX3_so_X3_saying : GoodIn wsX3_so (va_wsS RX3 59 yX3_saying wsX3_saying) := goodIn_app (goodIn_of _ (by decide +kernel)) ggX3_so_X3_saying
theorem dX3_so_0 : decode cX3_so 0 = .ok (.iload_n 1, 1) := by decide +kernel
theorem dX3_so_1 : decode cX3_so 1 = .ok (.iconst (-1), 1) := by decide +kernel
theorem dX3_so_2 : decode cX3_so 2 = .ok (.if_icmp .eq 16, 3) := by decide +kernel
theorem dX3_so_5 : decode cX3_so 5 = .ok (.iload_n 1, 1) := by decide +kernel
theorem dX3_so_6 : decode cX3_so 6 = .ok (.invokestatic 127, 3) := by decide +kernel
theorem dX3_so_9 : decode cX3_so 9 = .ok (.ifCond .ne 9, 3) := by decide +kernel
theorem dX3_so_12 : decode cX3_so 12 = .ok (.aload_n 0, 1) := by decide +kernel
theorem dX3_so_13 : decode cX3_so 13 = .ok (.iconst (-1), 1) := by decide +kernel
theorem dX3_so_14 : decode cX3_so 14 = .ok (.invokevirtual 39, 3) := by decide +kernel
theorem dX3_so_17 : decode cX3_so 17 = .ok (.ireturn, 1) := by decide +kernel
theorem dX3_so_18 : decode cX3_so 18 = .ok (.iload_n 1, 1) := by decide +kernel
theorem dX3_so_19 : decode cX3_so 19 = .ok (.ifCond .ge 8, 3) := by decide +kernel
theorem dX3_so_22 : decode cX3_so 22 = .ok (.aload_n 0, 1) := by decide +kernel
theorem dX3_so_23 : decode cX3_so 23 = .ok (.invokevirtual 170, 3) := by decide +kernel
theorem dX3_so_26 : decode cX3_so 26 = .ok (.ireturn, 1) := by decide +kernel
theorem dX3_so_27 : decode cX3_so 27 = .ok (.aload_n 0, 1) := by decide +kernel
theorem dX3_so_28 : decode cX3_so 28 = .ok (.getfield 9, 3) := by decide +kernel
theorem dX3_so_31 : decode cX3_so 31 = .ok (.iload_n 1, 1) := by decide +kernel
theorem dX3_so_32 : decode cX3_so 32 = .ok (.iconst 1, 1) := by decide +kernel
theorem dX3_so_33 : decode cX3_so 33 = .ok (.invokestatic 59, 3) := by decide +kernel
theorem dX3_so_36 : decode cX3_so 36 = .ok (.istore_n 2, 1) := by decide +kernel
theorem dX3_so_37 : decode cX3_so 37 = .ok (.aload_n 0, 1) := by decide +kernel
theorem dX3_so_38 : decode cX3_so 38 = .ok (.getfield 9, 3) := by decide +kernel
theorem dX3_so_41 : decode cX3_so 41 = .ok (.iload_n 1, 1) := by decide +kernel
theorem dX3_so_42 : decode cX3_so 42 = .ok (.iconst 2, 1) := by decide +kernel
theorem dX3_so_43 : decode cX3_so 43 = .ok (.invokestatic 59, 3) := by decide +kernel
theorem dX3_so_46 : decode cX3_so 46 = .ok (.istore_n 3, 1) := by decide +kernel
theorem dX3_so_47 : decode cX3_so 47 = .ok (.iload_n 2, 1) := by decide +kernel
theorem dX3_so_48 : decode cX3_so 48 = .ok (.iload_n 3, 1) := by decide +kernel
theorem dX3_so_49 : decode cX3_so 49 = .ok (.iadd, 1) := by decide +kernel
theorem dX3_so_50 : decode cX3_so 50 = .ok (.ifCond .ne 7, 3) := by decide +kernel
theorem dX3_so_53 : decode cX3_so 53 = .ok (.iconst 0, 1) := by decide +kernel
theorem dX3_so_54 : decode cX3_so 54 = .ok (.goto 13, 3) := by decide +kernel
theorem dX3_so_57 : decode cX3_so 57 = .ok (.iload_n 2, 1) := by decide +kernel
theorem dX3_so_58 : decode cX3_so 58 = .ok (.iload_n 3, 1) := by decide +kernel
theorem dX3_so_59 : decode cX3_so 59 = .ok (.if_icmp .lt 7, 3) := by decide +kernel
theorem dX3_so_62 : decode cX3_so 62 = .ok (.iconst 1, 1) := by decide +kernel
theorem dX3_so_63 : decode cX3_so 63 = .ok (.goto 4, 3) := by decide +kernel
theorem dX3_so_66 : decode cX3_so 66 = .ok (.iconst 2, 1) := by decide +kernel
theorem dX3_so_67 : decode cX3_so 67 = .ok (.ireturn, 1) := by decide +kernel
set_option maxRecDepth 20000 in
theorem ggX3_leastLiars_X3_livingIn : GoodIn wsX3_leastLiars wsX3_livingIn := goodIn_r _ [6, 7, 8, 5, 9, 10, 11, 12] (by decide +kernel) (by decide +kernel)
set_option maxRecDepth 20000 in
theorem gX3_leastLiars_X3_livingIn : GoodIn wsX3_leastLiars (va_wsS RX3 150 yX3_livingIn wsX3_livingIn) := goodIn_app (goodIn_of _ (by decide +kernel)) ggX3_leastLiars_X3_livingIn
set_option maxRecDepth 20000 in
theorem ggX3_leastLiars_X3_bits : GoodIn wsX3_leastLiars wsX3_bits := goodIn_r _ [15] (by decide +kernel) (by decide +kernel)
set_option maxRecDepth 20000 in
theorem gX3_leastLiars_X3_bits : GoodIn wsX3_leastLiars (va_wsS RX3 87 yX3_bits wsX3_bits) := goodIn_app (goodIn_of _ (by decide +kernel)) ggX3_leastLiars_X3_bits
set_option maxRecDepth 20000 in
theorem ggX3_leastLiars_X3_copies : GoodIn wsX3_leastLiars wsX3_copies := goodIn_r _ [18] (by decide +kernel) (by decide +kernel)
set_option maxRecDepth 20000 in
theorem gX3_leastLiars_X3_copies : GoodIn wsX3_leastLiars (va_wsS RX3 136 yX3_copies wsX3_copies) := goodIn_app (goodIn_of _ (by decide +kernel)) ggX3_leastLiars_X3_copies
set_option maxRecDepth 20000 in
theorem ggX3_leastLiars_X3_has : GoodIn wsX3_leastLiars wsX3_has := goodIn_r _ [21] (by decide +kernel) (by decide +kernel)
set_option maxRecDepth 20000 in
theorem gX3_leastLiars_X3_has : GoodIn wsX3_leastLiars (va_wsS RX3 173 yX3_has wsX3_has) := goodIn_app (goodIn_of _ (by decide +kernel)) ggX3_leastLiars_X3_has
set_option maxRecDepth 20000 in
theorem ggX3_leastLiars_X3_of : GoodIn wsX3_leastLiars wsX3_of := goodIn_r _ [12] (by decide +kernel) (by decide +kernel)
set_option maxRecDepth 20000 in
theorem gX3_leastLiars_X3_of : GoodIn wsX3_leastLiars (va_wsS RX3 51 yX3_of wsX3_of) := goodIn_app (goodIn_of _ (by decide +kernel)) ggX3_leastLiars_X3_of
set_option maxRecDepth 20000 in
theorem ggX3_leastLiars_X3_writtenIn : GoodIn wsX3_leastLiars wsX3_writtenIn := goodIn_r _ [24, 25, 26, 5, 27, 28, 29, 30, 7, 8, 9, 10, 11, 12] (by decide +kernel) (by decide +kernel)
set_option maxRecDepth 20000 in
theorem gX3_leastLiars_X3_writtenIn : GoodIn wsX3_leastLiars (va_wsS RX3 83 yX3_writtenIn wsX3_writtenIn) := goodIn_app (goodIn_of _ (by decide +kernel)) ggX3_leastLiars_X3_writtenIn
theorem dX3_leastLiars_0 : decode cX3_leastLiars 0 = .ok (.aload_n 0, 1) := by decide +kernel
theorem dX3_leastLiars_1 : decode cX3_leastLiars 1 = .ok (.getfield 9, 3) := by decide +kernel
theorem dX3_leastLiars_4 : decode cX3_leastLiars 4 = .ok (.invokestatic 150, 3) := by decide +kernel
theorem dX3_leastLiars_7 : decode cX3_leastLiars 7 = .ok (.istore_n 1, 1) := by decide +kernel
theorem dX3_leastLiars_8 : decode cX3_leastLiars 8 = .ok (.iload_n 1, 1) := by decide +kernel
theorem dX3_leastLiars_9 : decode cX3_leastLiars 9 = .ok (.istore_n 2, 1) := by decide +kernel
theorem dX3_leastLiars_10 : decode cX3_leastLiars 10 = .ok (.iconst 0, 1) := by decide +kernel
theorem dX3_leastLiars_11 : decode cX3_leastLiars 11 = .ok (.istore_n 3, 1) := by decide +kernel
theorem dX3_leastLiars_12 : decode cX3_leastLiars 12 = .ok (.iload_n 3, 1) := by decide +kernel
theorem dX3_leastLiars_13 : decode cX3_leastLiars 13 = .ok (.iload_n 1, 1) := by decide +kernel
theorem dX3_leastLiars_14 : decode cX3_leastLiars 14 = .ok (.if_icmp .ge 95, 3) := by decide +kernel
theorem dX3_leastLiars_17 : decode cX3_leastLiars 17 = .ok (.iload_n 3, 1) := by decide +kernel
theorem dX3_leastLiars_18 : decode cX3_leastLiars 18 = .ok (.iload_n 1, 1) := by decide +kernel
theorem dX3_leastLiars_19 : decode cX3_leastLiars 19 = .ok (.iconst (-1), 1) := by decide +kernel
theorem dX3_leastLiars_20 : decode cX3_leastLiars 20 = .ok (.ixor, 1) := by decide +kernel
theorem dX3_leastLiars_21 : decode cX3_leastLiars 21 = .ok (.iand, 1) := by decide +kernel
theorem dX3_leastLiars_22 : decode cX3_leastLiars 22 = .ok (.ifCond .ne 81, 3) := by decide +kernel
theorem dX3_leastLiars_25 : decode cX3_leastLiars 25 = .ok (.iload_n 3, 1) := by decide +kernel
theorem dX3_leastLiars_26 : decode cX3_leastLiars 26 = .ok (.invokestatic 87, 3) := by decide +kernel
theorem dX3_leastLiars_29 : decode cX3_leastLiars 29 = .ok (.iload_n 2, 1) := by decide +kernel
theorem dX3_leastLiars_30 : decode cX3_leastLiars 30 = .ok (.invokestatic 87, 3) := by decide +kernel
theorem dX3_leastLiars_33 : decode cX3_leastLiars 33 = .ok (.if_icmp .lt 6, 3) := by decide +kernel
theorem dX3_leastLiars_36 : decode cX3_leastLiars 36 = .ok (.goto 67, 3) := by decide +kernel
theorem dX3_leastLiars_39 : decode cX3_leastLiars 39 = .ok (.aload_n 0, 1) := by decide +kernel
theorem dX3_leastLiars_40 : decode cX3_leastLiars 40 = .ok (.getfield 9, 3) := by decide +kernel
theorem dX3_leastLiars_43 : decode cX3_leastLiars 43 = .ok (.aload_n 0, 1) := by decide +kernel
theorem dX3_leastLiars_44 : decode cX3_leastLiars 44 = .ok (.getfield 13, 3) := by decide +kernel
theorem dX3_leastLiars_47 : decode cX3_leastLiars 47 = .ok (.invokestatic 136, 3) := by decide +kernel
theorem dX3_leastLiars_50 : decode cX3_leastLiars 50 = .ok (.iconst 0, 1) := by decide +kernel
theorem dX3_leastLiars_51 : decode cX3_leastLiars 51 = .ok (.istore 4, 2) := by decide +kernel
theorem dX3_leastLiars_53 : decode cX3_leastLiars 53 = .ok (.iload 4, 2) := by decide +kernel
theorem dX3_leastLiars_55 : decode cX3_leastLiars 55 = .ok (.aload_n 0, 1) := by decide +kernel
theorem dX3_leastLiars_56 : decode cX3_leastLiars 56 = .ok (.getfield 9, 3) := by decide +kernel
theorem dX3_leastLiars_59 : decode cX3_leastLiars 59 = .ok (.iconst 0, 1) := by decide +kernel
theorem dX3_leastLiars_60 : decode cX3_leastLiars 60 = .ok (.iaload, 1) := by decide +kernel
theorem dX3_leastLiars_61 : decode cX3_leastLiars 61 = .ok (.if_icmp .ge 30, 3) := by decide +kernel
theorem dX3_leastLiars_64 : decode cX3_leastLiars 64 = .ok (.iload_n 3, 1) := by decide +kernel
theorem dX3_leastLiars_65 : decode cX3_leastLiars 65 = .ok (.iload 4, 2) := by decide +kernel
theorem dX3_leastLiars_67 : decode cX3_leastLiars 67 = .ok (.invokestatic 173, 3) := by decide +kernel
theorem dX3_leastLiars_70 : decode cX3_leastLiars 70 = .ok (.ifCond .eq 15, 3) := by decide +kernel
theorem dX3_leastLiars_73 : decode cX3_leastLiars 73 = .ok (.aload_n 0, 1) := by decide +kernel
theorem dX3_leastLiars_74 : decode cX3_leastLiars 74 = .ok (.getfield 13, 3) := by decide +kernel
theorem dX3_leastLiars_77 : decode cX3_leastLiars 77 = .ok (.iload 4, 2) := by decide +kernel
theorem dX3_leastLiars_79 : decode cX3_leastLiars 79 = .ok (.iconst 3, 1) := by decide +kernel
theorem dX3_leastLiars_80 : decode cX3_leastLiars 80 = .ok (.invokestatic 51, 3) := by decide +kernel
theorem dX3_leastLiars_83 : decode cX3_leastLiars 83 = .ok (.iconst 1, 1) := by decide +kernel
theorem dX3_leastLiars_84 : decode cX3_leastLiars 84 = .ok (.iastore, 1) := by decide +kernel
theorem dX3_leastLiars_85 : decode cX3_leastLiars 85 = .ok (.iinc 4 1, 3) := by decide +kernel
theorem dX3_leastLiars_88 : decode cX3_leastLiars 88 = .ok (.goto (-35), 3) := by decide +kernel
theorem dX3_leastLiars_91 : decode cX3_leastLiars 91 = .ok (.aload_n 0, 1) := by decide +kernel
theorem dX3_leastLiars_92 : decode cX3_leastLiars 92 = .ok (.getfield 13, 3) := by decide +kernel
theorem dX3_leastLiars_95 : decode cX3_leastLiars 95 = .ok (.invokestatic 83, 3) := by decide +kernel
theorem dX3_leastLiars_98 : decode cX3_leastLiars 98 = .ok (.ifCond .ne 5, 3) := by decide +kernel
theorem dX3_leastLiars_101 : decode cX3_leastLiars 101 = .ok (.iload_n 3, 1) := by decide +kernel
theorem dX3_leastLiars_102 : decode cX3_leastLiars 102 = .ok (.istore_n 2, 1) := by decide +kernel
theorem dX3_leastLiars_103 : decode cX3_leastLiars 103 = .ok (.iinc 3 1, 3) := by decide +kernel
theorem dX3_leastLiars_106 : decode cX3_leastLiars 106 = .ok (.goto (-94), 3) := by decide +kernel
theorem dX3_leastLiars_109 : decode cX3_leastLiars 109 = .ok (.iload_n 2, 1) := by decide +kernel
theorem dX3_leastLiars_110 : decode cX3_leastLiars 110 = .ok (.ireturn, 1) := by decide +kernel
set_option maxRecDepth 20000 in
theorem ggX3_differing_X3_of : GoodIn wsX3_differing wsX3_of := goodIn_r _ [5] (by decide +kernel) (by decide +kernel)
set_option maxRecDepth 20000 in
theorem gX3_differing_X3_of : GoodIn wsX3_differing (va_wsS RX3 51 yX3_of wsX3_of) := goodIn_app (goodIn_of _ (by decide +kernel)) ggX3_differing_X3_of
theorem dX3_differing_0 : decode cX3_differing 0 = .ok (.iconst 0, 1) := by decide +kernel
theorem dX3_differing_1 : decode cX3_differing 1 = .ok (.istore_n 3, 1) := by decide +kernel
theorem dX3_differing_2 : decode cX3_differing 2 = .ok (.iconst 0, 1) := by decide +kernel
theorem dX3_differing_3 : decode cX3_differing 3 = .ok (.istore 4, 2) := by decide +kernel
theorem dX3_differing_5 : decode cX3_differing 5 = .ok (.iload 4, 2) := by decide +kernel
theorem dX3_differing_7 : decode cX3_differing 7 = .ok (.bipush 8, 2) := by decide +kernel
theorem dX3_differing_9 : decode cX3_differing 9 = .ok (.if_icmp .ge 80, 3) := by decide +kernel
theorem dX3_differing_12 : decode cX3_differing 12 = .ok (.iload_n 3, 1) := by decide +kernel
theorem dX3_differing_13 : decode cX3_differing 13 = .ok (.aload_n 0, 1) := by decide +kernel
theorem dX3_differing_14 : decode cX3_differing 14 = .ok (.getfield 9, 3) := by decide +kernel
theorem dX3_differing_17 : decode cX3_differing 17 = .ok (.iload_n 1, 1) := by decide +kernel
theorem dX3_differing_18 : decode cX3_differing 18 = .ok (.iconst 4, 1) := by decide +kernel
theorem dX3_differing_19 : decode cX3_differing 19 = .ok (.iload 4, 2) := by decide +kernel
theorem dX3_differing_21 : decode cX3_differing 21 = .ok (.iadd, 1) := by decide +kernel
theorem dX3_differing_22 : decode cX3_differing 22 = .ok (.invokestatic 51, 3) := by decide +kernel
theorem dX3_differing_25 : decode cX3_differing 25 = .ok (.iaload, 1) := by decide +kernel
theorem dX3_differing_26 : decode cX3_differing 26 = .ok (.aload_n 0, 1) := by decide +kernel
theorem dX3_differing_27 : decode cX3_differing 27 = .ok (.getfield 9, 3) := by decide +kernel
theorem dX3_differing_30 : decode cX3_differing 30 = .ok (.iload_n 2, 1) := by decide +kernel
theorem dX3_differing_31 : decode cX3_differing 31 = .ok (.iconst 4, 1) := by decide +kernel
theorem dX3_differing_32 : decode cX3_differing 32 = .ok (.iload 4, 2) := by decide +kernel
theorem dX3_differing_34 : decode cX3_differing 34 = .ok (.iadd, 1) := by decide +kernel
theorem dX3_differing_35 : decode cX3_differing 35 = .ok (.invokestatic 51, 3) := by decide +kernel
theorem dX3_differing_38 : decode cX3_differing 38 = .ok (.iaload, 1) := by decide +kernel
theorem dX3_differing_39 : decode cX3_differing 39 = .ok (.iadd, 1) := by decide +kernel
theorem dX3_differing_40 : decode cX3_differing 40 = .ok (.iconst 3, 1) := by decide +kernel
theorem dX3_differing_41 : decode cX3_differing 41 = .ok (.if_icmp .ne 39, 3) := by decide +kernel
theorem dX3_differing_44 : decode cX3_differing 44 = .ok (.aload_n 0, 1) := by decide +kernel
theorem dX3_differing_45 : decode cX3_differing 45 = .ok (.getfield 9, 3) := by decide +kernel
theorem dX3_differing_48 : decode cX3_differing 48 = .ok (.iload_n 1, 1) := by decide +kernel
theorem dX3_differing_49 : decode cX3_differing 49 = .ok (.iconst 4, 1) := by decide +kernel
theorem dX3_differing_50 : decode cX3_differing 50 = .ok (.iload 4, 2) := by decide +kernel
theorem dX3_differing_52 : decode cX3_differing 52 = .ok (.iadd, 1) := by decide +kernel
theorem dX3_differing_53 : decode cX3_differing 53 = .ok (.invokestatic 51, 3) := by decide +kernel
theorem dX3_differing_56 : decode cX3_differing 56 = .ok (.iaload, 1) := by decide +kernel
theorem dX3_differing_57 : decode cX3_differing 57 = .ok (.ifCond .eq 23, 3) := by decide +kernel
theorem dX3_differing_60 : decode cX3_differing 60 = .ok (.aload_n 0, 1) := by decide +kernel
theorem dX3_differing_61 : decode cX3_differing 61 = .ok (.getfield 9, 3) := by decide +kernel
theorem dX3_differing_64 : decode cX3_differing 64 = .ok (.iload_n 2, 1) := by decide +kernel
theorem dX3_differing_65 : decode cX3_differing 65 = .ok (.iconst 4, 1) := by decide +kernel
theorem dX3_differing_66 : decode cX3_differing 66 = .ok (.iload 4, 2) := by decide +kernel
theorem dX3_differing_68 : decode cX3_differing 68 = .ok (.iadd, 1) := by decide +kernel
theorem dX3_differing_69 : decode cX3_differing 69 = .ok (.invokestatic 51, 3) := by decide +kernel
theorem dX3_differing_72 : decode cX3_differing 72 = .ok (.iaload, 1) := by decide +kernel
theorem dX3_differing_73 : decode cX3_differing 73 = .ok (.ifCond .eq 7, 3) := by decide +kernel
theorem dX3_differing_76 : decode cX3_differing 76 = .ok (.iconst 1, 1) := by decide +kernel
theorem dX3_differing_77 : decode cX3_differing 77 = .ok (.goto 4, 3) := by decide +kernel
theorem dX3_differing_80 : decode cX3_differing 80 = .ok (.iconst 0, 1) := by decide +kernel
theorem dX3_differing_81 : decode cX3_differing 81 = .ok (.iadd, 1) := by decide +kernel
theorem dX3_differing_82 : decode cX3_differing 82 = .ok (.istore_n 3, 1) := by decide +kernel
theorem dX3_differing_83 : decode cX3_differing 83 = .ok (.iinc 4 1, 3) := by decide +kernel
theorem dX3_differing_86 : decode cX3_differing 86 = .ok (.goto (-81), 3) := by decide +kernel
theorem dX3_differing_89 : decode cX3_differing 89 = .ok (.iload_n 3, 1) := by decide +kernel
theorem dX3_differing_90 : decode cX3_differing 90 = .ok (.ireturn, 1) := by decide +kernel
set_option maxRecDepth 20000 in
theorem ggX3_pairsOf_X3_has : GoodIn wsX3_pairsOf wsX3_has := goodIn_r _ [5] (by decide +kernel) (by decide +kernel)
set_option maxRecDepth 20000 in
theorem gX3_pairsOf_X3_has : GoodIn wsX3_pairsOf (va_wsS RX3 173 yX3_has wsX3_has) := goodIn_app (goodIn_of _ (by decide +kernel)) ggX3_pairsOf_X3_has
set_option maxRecDepth 20000 in
theorem ggX3_pairsOf_X3_pairsOf : GoodIn wsX3_pairsOf wsX3_pairsOf := goodIn_r _ [0, 1, 2, 3, 4, 5, 6, 7, 8, 9, 10, 11, 12, 13, 14, 15, 16, 17, 18, 19, 20, 21, 22, 23, 24, 25, 26, 27, 28, 29, 30] (by decide +kernel) (by decide +kernel)
set_option maxRecDepth 20000 in
theorem gX3_pairsOf_X3_pairsOf : GoodIn wsX3_pairsOf (wsV RX3 176 RX3 yX3_pairsOf wsX3_pairsOf) := goodIn_app (goodIn_of _ (by decide +kernel)) ggX3_pairsOf_X3_pairsOf
set_option maxRecDepth 20000 in
theorem ggX3_pairsOf_X3_differing : GoodIn wsX3_pairsOf wsX3_differing := goodIn_r _ [12, 1, 13, 14, 4, 15, 16, 17, 18, 19, 20, 21, 22, 23, 24, 25, 26, 27, 28, 29, 30] (by decide +kernel) (by decide +kernel)
set_option maxRecDepth 20000 in
theorem gX3_pairsOf_X3_differing : GoodIn wsX3_pairsOf (wsV RX3 179 RX3 yX3_differing wsX3_differing) := goodIn_app (goodIn_of _ (by decide +kernel)) ggX3_pairsOf_X3_differing
theorem dX3_pairsOf_0 : decode cX3_pairsOf 0 = .ok (.iload_n 1, 1) := by decide +kernel
theorem dX3_pairsOf_1 : decode cX3_pairsOf 1 = .ok (.ifCond .ne 5, 3) := by decide +kernel
theorem dX3_pairsOf_4 : decode cX3_pairsOf 4 = .ok (.iconst 0, 1) := by decide +kernel
theorem dX3_pairsOf_5 : decode cX3_pairsOf 5 = .ok (.ireturn, 1) := by decide +kernel
theorem dX3_pairsOf_6 : decode cX3_pairsOf 6 = .ok (.iconst 0, 1) := by decide +kernel
theorem dX3_pairsOf_7 : decode cX3_pairsOf 7 = .ok (.istore_n 2, 1) := by decide +kernel
theorem dX3_pairsOf_8 : decode cX3_pairsOf 8 = .ok (.iload_n 1, 1) := by decide +kernel
theorem dX3_pairsOf_9 : decode cX3_pairsOf 9 = .ok (.iload_n 2, 1) := by decide +kernel
theorem dX3_pairsOf_10 : decode cX3_pairsOf 10 = .ok (.invokestatic 173, 3) := by decide +kernel
theorem dX3_pairsOf_13 : decode cX3_pairsOf 13 = .ok (.ifCond .ne 9, 3) := by decide +kernel
theorem dX3_pairsOf_16 : decode cX3_pairsOf 16 = .ok (.iinc 2 1, 3) := by decide +kernel
theorem dX3_pairsOf_19 : decode cX3_pairsOf 19 = .ok (.goto (-11), 3) := by decide +kernel
theorem dX3_pairsOf_22 : decode cX3_pairsOf 22 = .ok (.iload_n 1, 1) := by decide +kernel
theorem dX3_pairsOf_23 : decode cX3_pairsOf 23 = .ok (.iconst 1, 1) := by decide +kernel
theorem dX3_pairsOf_24 : decode cX3_pairsOf 24 = .ok (.iload_n 2, 1) := by decide +kernel
theorem dX3_pairsOf_25 : decode cX3_pairsOf 25 = .ok (.ishl, 1) := by decide +kernel
theorem dX3_pairsOf_26 : decode cX3_pairsOf 26 = .ok (.iconst (-1), 1) := by decide +kernel
theorem dX3_pairsOf_27 : decode cX3_pairsOf 27 = .ok (.ixor, 1) := by decide +kernel
theorem dX3_pairsOf_28 : decode cX3_pairsOf 28 = .ok (.iand, 1) := by decide +kernel
theorem dX3_pairsOf_29 : decode cX3_pairsOf 29 = .ok (.istore_n 3, 1) := by decide +kernel
theorem dX3_pairsOf_30 : decode cX3_pairsOf 30 = .ok (.aload_n 0, 1) := by decide +kernel
theorem dX3_pairsOf_31 : decode cX3_pairsOf 31 = .ok (.iload_n 3, 1) := by decide +kernel
theorem dX3_pairsOf_32 : decode cX3_pairsOf 32 = .ok (.invokevirtual 176, 3) := by decide +kernel
theorem dX3_pairsOf_35 : decode cX3_pairsOf 35 = .ok (.istore 4, 2) := by decide +kernel
theorem dX3_pairsOf_37 : decode cX3_pairsOf 37 = .ok (.iload_n 2, 1) := by decide +kernel
theorem dX3_pairsOf_38 : decode cX3_pairsOf 38 = .ok (.iconst 1, 1) := by decide +kernel
theorem dX3_pairsOf_39 : decode cX3_pairsOf 39 = .ok (.iadd, 1) := by decide +kernel
theorem dX3_pairsOf_40 : decode cX3_pairsOf 40 = .ok (.istore 5, 2) := by decide +kernel
theorem dX3_pairsOf_42 : decode cX3_pairsOf 42 = .ok (.iload 5, 2) := by decide +kernel
theorem dX3_pairsOf_44 : decode cX3_pairsOf 44 = .ok (.aload_n 0, 1) := by decide +kernel
theorem dX3_pairsOf_45 : decode cX3_pairsOf 45 = .ok (.getfield 9, 3) := by decide +kernel
theorem dX3_pairsOf_48 : decode cX3_pairsOf 48 = .ok (.iconst 0, 1) := by decide +kernel
theorem dX3_pairsOf_49 : decode cX3_pairsOf 49 = .ok (.iaload, 1) := by decide +kernel
theorem dX3_pairsOf_50 : decode cX3_pairsOf 50 = .ok (.if_icmp .ge 63, 3) := by decide +kernel
theorem dX3_pairsOf_53 : decode cX3_pairsOf 53 = .ok (.iload_n 3, 1) := by decide +kernel
theorem dX3_pairsOf_54 : decode cX3_pairsOf 54 = .ok (.iload 5, 2) := by decide +kernel
theorem dX3_pairsOf_56 : decode cX3_pairsOf 56 = .ok (.invokestatic 173, 3) := by decide +kernel
theorem dX3_pairsOf_59 : decode cX3_pairsOf 59 = .ok (.ifCond .eq 48, 3) := by decide +kernel
theorem dX3_pairsOf_62 : decode cX3_pairsOf 62 = .ok (.aload_n 0, 1) := by decide +kernel
theorem dX3_pairsOf_63 : decode cX3_pairsOf 63 = .ok (.iload_n 2, 1) := by decide +kernel
theorem dX3_pairsOf_64 : decode cX3_pairsOf 64 = .ok (.iload 5, 2) := by decide +kernel
theorem dX3_pairsOf_66 : decode cX3_pairsOf 66 = .ok (.invokevirtual 179, 3) := by decide +kernel
theorem dX3_pairsOf_69 : decode cX3_pairsOf 69 = .ok (.ifCond .ne 6, 3) := by decide +kernel
theorem dX3_pairsOf_72 : decode cX3_pairsOf 72 = .ok (.goto 35, 3) := by decide +kernel
theorem dX3_pairsOf_75 : decode cX3_pairsOf 75 = .ok (.iconst 1, 1) := by decide +kernel
theorem dX3_pairsOf_76 : decode cX3_pairsOf 76 = .ok (.aload_n 0, 1) := by decide +kernel
theorem dX3_pairsOf_77 : decode cX3_pairsOf 77 = .ok (.iload_n 3, 1) := by decide +kernel
theorem dX3_pairsOf_78 : decode cX3_pairsOf 78 = .ok (.iconst 1, 1) := by decide +kernel
theorem dX3_pairsOf_79 : decode cX3_pairsOf 79 = .ok (.iload 5, 2) := by decide +kernel
theorem dX3_pairsOf_81 : decode cX3_pairsOf 81 = .ok (.ishl, 1) := by decide +kernel
theorem dX3_pairsOf_82 : decode cX3_pairsOf 82 = .ok (.iconst (-1), 1) := by decide +kernel
theorem dX3_pairsOf_83 : decode cX3_pairsOf 83 = .ok (.ixor, 1) := by decide +kernel
theorem dX3_pairsOf_84 : decode cX3_pairsOf 84 = .ok (.iand, 1) := by decide +kernel
theorem dX3_pairsOf_85 : decode cX3_pairsOf 85 = .ok (.invokevirtual 176, 3) := by decide +kernel
theorem dX3_pairsOf_88 : decode cX3_pairsOf 88 = .ok (.iadd, 1) := by decide +kernel
theorem dX3_pairsOf_89 : decode cX3_pairsOf 89 = .ok (.istore 6, 2) := by decide +kernel
theorem dX3_pairsOf_91 : decode cX3_pairsOf 91 = .ok (.iload 6, 2) := by decide +kernel
theorem dX3_pairsOf_93 : decode cX3_pairsOf 93 = .ok (.iload 4, 2) := by decide +kernel
theorem dX3_pairsOf_95 : decode cX3_pairsOf 95 = .ok (.if_icmp .le 8, 3) := by decide +kernel
theorem dX3_pairsOf_98 : decode cX3_pairsOf 98 = .ok (.iload 6, 2) := by decide +kernel
theorem dX3_pairsOf_100 : decode cX3_pairsOf 100 = .ok (.goto 5, 3) := by decide +kernel
theorem dX3_pairsOf_103 : decode cX3_pairsOf 103 = .ok (.iload 4, 2) := by decide +kernel
theorem dX3_pairsOf_105 : decode cX3_pairsOf 105 = .ok (.istore 4, 2) := by decide +kernel
theorem dX3_pairsOf_107 : decode cX3_pairsOf 107 = .ok (.iinc 5 1, 3) := by decide +kernel
theorem dX3_pairsOf_110 : decode cX3_pairsOf 110 = .ok (.goto (-68), 3) := by decide +kernel
theorem dX3_pairsOf_113 : decode cX3_pairsOf 113 = .ok (.iload 4, 2) := by decide +kernel
theorem dX3_pairsOf_115 : decode cX3_pairsOf 115 = .ok (.ireturn, 1) := by decide +kernel
set_option maxRecDepth 20000 in
theorem ggX3_differ_X3_isIn : GoodIn wsX3_differ wsX3_isIn := goodIn_r _ [5] (by decide +kernel) (by decide +kernel)
set_option maxRecDepth 20000 in
theorem gX3_differ_X3_isIn : GoodIn wsX3_differ (va_wsS RX3 43 yX3_isIn wsX3_isIn) := goodIn_app (goodIn_of _ (by decide +kernel)) ggX3_differ_X3_isIn
set_option maxRecDepth 20000 in
theorem ggX3_differ_X3_no : GoodIn wsX3_differ wsX3_no := goodIn_r _ [9, 10, 31, 32, 33, 34, 35, 36, 37, 38, 39, 40, 41, 42, 43, 44, 45] (by decide +kernel) (by decide +kernel)
set_option maxRecDepth 20000 in
theorem gX3_differ_X3_no : GoodIn wsX3_differ (wsV RX3 39 RX3 yX3_no wsX3_no) := goodIn_app (goodIn_of _ (by decide +kernel)) ggX3_differ_X3_no
set_option maxRecDepth 20000 in
theorem ggX3_differ_X3_livingIn : GoodIn wsX3_differ wsX3_livingIn := goodIn_r _ [13, 14, 15, 4, 16, 17, 18, 19] (by decide +kernel) (by decide +kernel)
set_option maxRecDepth 20000 in
theorem gX3_differ_X3_livingIn : GoodIn wsX3_differ (va_wsS RX3 150 yX3_livingIn wsX3_livingIn) := goodIn_app (goodIn_of _ (by decide +kernel)) ggX3_differ_X3_livingIn
set_option maxRecDepth 20000 in
theorem ggX3_differ_X3_pairsOf : GoodIn wsX3_differ wsX3_pairsOf := goodIn_r _ [23, 1, 24, 25, 4, 26, 20, 21, 22, 27, 28, 29, 30, 17, 18, 19, 31, 32, 33, 34, 35, 36, 37, 38, 39, 40, 41, 42, 43, 44, 45] (by decide +kernel) (by decide +kernel)
set_option maxRecDepth 20000 in
theorem gX3_differ_X3_pairsOf : GoodIn wsX3_differ (wsV RX3 176 RX3 yX3_pairsOf wsX3_pairsOf) := goodIn_app (goodIn_of _ (by decide +kernel)) ggX3_differ_X3_pairsOf
set_option maxRecDepth 20000 in
theorem ggX3_differ_X3_isAlive : GoodIn wsX3_differ wsX3_isAlive := goodIn_r _ [16, 17, 18, 4, 19] (by decide +kernel) (by decide +kernel)
set_option maxRecDepth 20000 in
theorem gX3_differ_X3_isAlive : GoodIn wsX3_differ (va_wsS RX3 55 yX3_isAlive wsX3_isAlive) := goodIn_app (goodIn_of _ (by decide +kernel)) ggX3_differ_X3_isAlive
set_option maxRecDepth 20000 in
theorem ggX3_differ_X3_differing : GoodIn wsX3_differ wsX3_differing := goodIn_r _ [30, 1, 17, 18, 4, 19, 31, 32, 33, 34, 35, 36, 37, 38, 39, 40, 41, 42, 43, 44, 45] (by decide +kernel) (by decide +kernel)
set_option maxRecDepth 20000 in
theorem gX3_differ_X3_differing : GoodIn wsX3_differ (wsV RX3 179 RX3 yX3_differing wsX3_differing) := goodIn_app (goodIn_of _ (by decide +kernel)) ggX3_differ_X3_differing
theorem dX3_differ_0 : decode cX3_differ 0 = .ok (.iload_n 1, 1) := by decide +kernel
theorem dX3_differ_1 : decode cX3_differ 1 = .ok (.iconst 0, 1) := by decide +kernel
theorem dX3_differ_2 : decode cX3_differ 2 = .ok (.iconst 2, 1) := by decide +kernel
theorem dX3_differ_3 : decode cX3_differ 3 = .ok (.invokestatic 43, 3) := by decide +kernel
theorem dX3_differ_6 : decode cX3_differ 6 = .ok (.ifCond .ne 10, 3) := by decide +kernel
theorem dX3_differ_9 : decode cX3_differ 9 = .ok (.aload_n 0, 1) := by decide +kernel
theorem dX3_differ_10 : decode cX3_differ 10 = .ok (.bipush (-2), 2) := by decide +kernel
theorem dX3_differ_12 : decode cX3_differ 12 = .ok (.invokevirtual 39, 3) := by decide +kernel
theorem dX3_differ_15 : decode cX3_differ 15 = .ok (.ireturn, 1) := by decide +kernel
theorem dX3_differ_16 : decode cX3_differ 16 = .ok (.iload_n 1, 1) := by decide +kernel
theorem dX3_differ_17 : decode cX3_differ 17 = .ok (.iconst 2, 1) := by decide +kernel
theorem dX3_differ_18 : decode cX3_differ 18 = .ok (.if_icmp .ne 15, 3) := by decide +kernel
theorem dX3_differ_21 : decode cX3_differ 21 = .ok (.aload_n 0, 1) := by decide +kernel
theorem dX3_differ_22 : decode cX3_differ 22 = .ok (.aload_n 0, 1) := by decide +kernel
theorem dX3_differ_23 : decode cX3_differ 23 = .ok (.getfield 9, 3) := by decide +kernel
theorem dX3_differ_26 : decode cX3_differ 26 = .ok (.invokestatic 150, 3) := by decide +kernel
theorem dX3_differ_29 : decode cX3_differ 29 = .ok (.invokevirtual 176, 3) := by decide +kernel
theorem dX3_differ_32 : decode cX3_differ 32 = .ok (.ireturn, 1) := by decide +kernel
theorem dX3_differ_33 : decode cX3_differ 33 = .ok (.bipush (-9), 2) := by decide +kernel
theorem dX3_differ_35 : decode cX3_differ 35 = .ok (.istore_n 2, 1) := by decide +kernel
theorem dX3_differ_36 : decode cX3_differ 36 = .ok (.iconst (-1), 1) := by decide +kernel
theorem dX3_differ_37 : decode cX3_differ 37 = .ok (.istore_n 3, 1) := by decide +kernel
theorem dX3_differ_38 : decode cX3_differ 38 = .ok (.iconst 0, 1) := by decide +kernel
theorem dX3_differ_39 : decode cX3_differ 39 = .ok (.istore 4, 2) := by decide +kernel
theorem dX3_differ_41 : decode cX3_differ 41 = .ok (.iload 4, 2) := by decide +kernel
theorem dX3_differ_43 : decode cX3_differ 43 = .ok (.aload_n 0, 1) := by decide +kernel
theorem dX3_differ_44 : decode cX3_differ 44 = .ok (.getfield 9, 3) := by decide +kernel
theorem dX3_differ_47 : decode cX3_differ 47 = .ok (.iconst 0, 1) := by decide +kernel
theorem dX3_differ_48 : decode cX3_differ 48 = .ok (.iaload, 1) := by decide +kernel
theorem dX3_differ_49 : decode cX3_differ 49 = .ok (.if_icmp .ge 91, 3) := by decide +kernel
theorem dX3_differ_52 : decode cX3_differ 52 = .ok (.iload 4, 2) := by decide +kernel
theorem dX3_differ_54 : decode cX3_differ 54 = .ok (.iconst 1, 1) := by decide +kernel
theorem dX3_differ_55 : decode cX3_differ 55 = .ok (.iadd, 1) := by decide +kernel
theorem dX3_differ_56 : decode cX3_differ 56 = .ok (.istore 5, 2) := by decide +kernel
theorem dX3_differ_58 : decode cX3_differ 58 = .ok (.iload 5, 2) := by decide +kernel
theorem dX3_differ_60 : decode cX3_differ 60 = .ok (.aload_n 0, 1) := by decide +kernel
theorem dX3_differ_61 : decode cX3_differ 61 = .ok (.getfield 9, 3) := by decide +kernel
theorem dX3_differ_64 : decode cX3_differ 64 = .ok (.iconst 0, 1) := by decide +kernel
theorem dX3_differ_65 : decode cX3_differ 65 = .ok (.iaload, 1) := by decide +kernel
theorem dX3_differ_66 : decode cX3_differ 66 = .ok (.if_icmp .ge 68, 3) := by decide +kernel
theorem dX3_differ_69 : decode cX3_differ 69 = .ok (.aload_n 0, 1) := by decide +kernel
theorem dX3_differ_70 : decode cX3_differ 70 = .ok (.getfield 9, 3) := by decide +kernel
theorem dX3_differ_73 : decode cX3_differ 73 = .ok (.iload 4, 2) := by decide +kernel
theorem dX3_differ_75 : decode cX3_differ 75 = .ok (.invokestatic 55, 3) := by decide +kernel
theorem dX3_differ_78 : decode cX3_differ 78 = .ok (.ifCond .eq 26, 3) := by decide +kernel
theorem dX3_differ_81 : decode cX3_differ 81 = .ok (.aload_n 0, 1) := by decide +kernel
theorem dX3_differ_82 : decode cX3_differ 82 = .ok (.getfield 9, 3) := by decide +kernel
theorem dX3_differ_85 : decode cX3_differ 85 = .ok (.iload 5, 2) := by decide +kernel
theorem dX3_differ_87 : decode cX3_differ 87 = .ok (.invokestatic 55, 3) := by decide +kernel
theorem dX3_differ_90 : decode cX3_differ 90 = .ok (.ifCond .eq 14, 3) := by decide +kernel
theorem dX3_differ_93 : decode cX3_differ 93 = .ok (.aload_n 0, 1) := by decide +kernel
theorem dX3_differ_94 : decode cX3_differ 94 = .ok (.iload 4, 2) := by decide +kernel
theorem dX3_differ_96 : decode cX3_differ 96 = .ok (.iload 5, 2) := by decide +kernel
theorem dX3_differ_98 : decode cX3_differ 98 = .ok (.invokevirtual 179, 3) := by decide +kernel
theorem dX3_differ_101 : decode cX3_differ 101 = .ok (.goto 4, 3) := by decide +kernel
theorem dX3_differ_104 : decode cX3_differ 104 = .ok (.iconst (-1), 1) := by decide +kernel
theorem dX3_differ_105 : decode cX3_differ 105 = .ok (.istore 6, 2) := by decide +kernel
theorem dX3_differ_107 : decode cX3_differ 107 = .ok (.iload 6, 2) := by decide +kernel
theorem dX3_differ_109 : decode cX3_differ 109 = .ok (.iload_n 3, 1) := by decide +kernel
theorem dX3_differ_110 : decode cX3_differ 110 = .ok (.if_icmp .gt 6, 3) := by decide +kernel
theorem dX3_differ_113 : decode cX3_differ 113 = .ok (.goto 15, 3) := by decide +kernel
theorem dX3_differ_116 : decode cX3_differ 116 = .ok (.bipush 10, 2) := by decide +kernel
theorem dX3_differ_118 : decode cX3_differ 118 = .ok (.iload 4, 2) := by decide +kernel
theorem dX3_differ_120 : decode cX3_differ 120 = .ok (.imul, 1) := by decide +kernel
theorem dX3_differ_121 : decode cX3_differ 121 = .ok (.iload 5, 2) := by decide +kernel
theorem dX3_differ_123 : decode cX3_differ 123 = .ok (.iadd, 1) := by decide +kernel
theorem dX3_differ_124 : decode cX3_differ 124 = .ok (.istore_n 2, 1) := by decide +kernel
theorem dX3_differ_125 : decode cX3_differ 125 = .ok (.iload 6, 2) := by decide +kernel
theorem dX3_differ_127 : decode cX3_differ 127 = .ok (.istore_n 3, 1) := by decide +kernel
theorem dX3_differ_128 : decode cX3_differ 128 = .ok (.iinc 5 1, 3) := by decide +kernel
theorem dX3_differ_131 : decode cX3_differ 131 = .ok (.goto (-73), 3) := by decide +kernel
theorem dX3_differ_134 : decode cX3_differ 134 = .ok (.iinc 4 1, 3) := by decide +kernel
theorem dX3_differ_137 : decode cX3_differ 137 = .ok (.goto (-96), 3) := by decide +kernel
theorem dX3_differ_140 : decode cX3_differ 140 = .ok (.iload_n 2, 1) := by decide +kernel
theorem dX3_differ_141 : decode cX3_differ 141 = .ok (.ifCond .lt 7, 3) := by decide +kernel
theorem dX3_differ_144 : decode cX3_differ 144 = .ok (.iload_n 1, 1) := by decide +kernel
theorem dX3_differ_145 : decode cX3_differ 145 = .ok (.ifCond .ne 7, 3) := by decide +kernel
theorem dX3_differ_148 : decode cX3_differ 148 = .ok (.iload_n 2, 1) := by decide +kernel
theorem dX3_differ_149 : decode cX3_differ 149 = .ok (.goto 4, 3) := by decide +kernel
theorem dX3_differ_152 : decode cX3_differ 152 = .ok (.iload_n 3, 1) := by decide +kernel
theorem dX3_differ_153 : decode cX3_differ 153 = .ok (.ireturn, 1) := by decide +kernel
set_option maxRecDepth 20000 in
theorem ggX3_friends_X3_isCitizen : GoodIn wsX3_friends wsX3_isCitizen := goodIn_r _ [6, 1, 7, 8, 5, 9, 25, 26, 27, 28, 29, 30, 31, 32, 33, 34, 35, 36, 37, 38, 39] (by decide +kernel) (by decide +kernel)
set_option maxRecDepth 20000 in
theorem gX3_friends_X3_isCitizen : GoodIn wsX3_friends (wsV RX3 47 RX3 yX3_isCitizen wsX3_isCitizen) := goodIn_app (goodIn_of _ (by decide +kernel)) ggX3_friends_X3_isCitizen
set_option maxRecDepth 20000 in
theorem ggX3_friends_X3_no : GoodIn wsX3_friends wsX3_no := goodIn_r _ [13, 14, 25, 26, 27, 28, 29, 30, 31, 32, 33, 34, 35, 36, 37, 38, 39] (by decide +kernel) (by decide +kernel)
set_option maxRecDepth 20000 in
theorem gX3_friends_X3_no : GoodIn wsX3_friends (wsV RX3 39 RX3 yX3_no wsX3_no) := goodIn_app (goodIn_of _ (by decide +kernel)) ggX3_friends_X3_no
set_option maxRecDepth 20000 in
theorem ggX3_friends_X3_isAlive : GoodIn wsX3_friends wsX3_isAlive := goodIn_r _ [17, 18, 19, 5, 20] (by decide +kernel) (by decide +kernel)
set_option maxRecDepth 20000 in
theorem gX3_friends_X3_isAlive : GoodIn wsX3_friends (va_wsS RX3 55 yX3_isAlive wsX3_isAlive) := goodIn_app (goodIn_of _ (by decide +kernel)) ggX3_friends_X3_isAlive
set_option maxRecDepth 20000 in
theorem ggX3_friends_X3_differing : GoodIn wsX3_friends wsX3_differing := goodIn_r _ [24, 1, 18, 19, 5, 20, 25, 26, 27, 28, 29, 30, 31, 32, 33, 34, 35, 36, 37, 38, 39] (by decide +kernel) (by decide +kernel)
set_option maxRecDepth 20000 in
theorem gX3_friends_X3_differing : GoodIn wsX3_friends (wsV RX3 179 RX3 yX3_differing wsX3_differing) := goodIn_app (goodIn_of _ (by decide +kernel)) ggX3_friends_X3_differing
theorem dX3_friends_0 : decode cX3_friends 0 = .ok (.aload_n 0, 1) := by decide +kernel
theorem dX3_friends_1 : decode cX3_friends 1 = .ok (.iload_n 1, 1) := by decide +kernel
theorem dX3_friends_2 : decode cX3_friends 2 = .ok (.invokevirtual 47, 3) := by decide +kernel
theorem dX3_friends_5 : decode cX3_friends 5 = .ok (.ifCond .ne 9, 3) := by decide +kernel
theorem dX3_friends_8 : decode cX3_friends 8 = .ok (.aload_n 0, 1) := by decide +kernel
theorem dX3_friends_9 : decode cX3_friends 9 = .ok (.iconst (-1), 1) := by decide +kernel
theorem dX3_friends_10 : decode cX3_friends 10 = .ok (.invokevirtual 39, 3) := by decide +kernel
theorem dX3_friends_13 : decode cX3_friends 13 = .ok (.ireturn, 1) := by decide +kernel
theorem dX3_friends_14 : decode cX3_friends 14 = .ok (.aload_n 0, 1) := by decide +kernel
theorem dX3_friends_15 : decode cX3_friends 15 = .ok (.getfield 9, 3) := by decide +kernel
theorem dX3_friends_18 : decode cX3_friends 18 = .ok (.iload_n 1, 1) := by decide +kernel
theorem dX3_friends_19 : decode cX3_friends 19 = .ok (.invokestatic 55, 3) := by decide +kernel
theorem dX3_friends_22 : decode cX3_friends 22 = .ok (.ifCond .ne 10, 3) := by decide +kernel
theorem dX3_friends_25 : decode cX3_friends 25 = .ok (.aload_n 0, 1) := by decide +kernel
theorem dX3_friends_26 : decode cX3_friends 26 = .ok (.bipush (-3), 2) := by decide +kernel
theorem dX3_friends_28 : decode cX3_friends 28 = .ok (.invokevirtual 39, 3) := by decide +kernel
theorem dX3_friends_31 : decode cX3_friends 31 = .ok (.ireturn, 1) := by decide +kernel
theorem dX3_friends_32 : decode cX3_friends 32 = .ok (.iconst 0, 1) := by decide +kernel
theorem dX3_friends_33 : decode cX3_friends 33 = .ok (.istore_n 2, 1) := by decide +kernel
theorem dX3_friends_34 : decode cX3_friends 34 = .ok (.iconst 0, 1) := by decide +kernel
theorem dX3_friends_35 : decode cX3_friends 35 = .ok (.istore_n 3, 1) := by decide +kernel
theorem dX3_friends_36 : decode cX3_friends 36 = .ok (.iload_n 3, 1) := by decide +kernel
theorem dX3_friends_37 : decode cX3_friends 37 = .ok (.aload_n 0, 1) := by decide +kernel
theorem dX3_friends_38 : decode cX3_friends 38 = .ok (.getfield 9, 3) := by decide +kernel
theorem dX3_friends_41 : decode cX3_friends 41 = .ok (.iconst 0, 1) := by decide +kernel
theorem dX3_friends_42 : decode cX3_friends 42 = .ok (.iaload, 1) := by decide +kernel
theorem dX3_friends_43 : decode cX3_friends 43 = .ok (.if_icmp .ge 44, 3) := by decide +kernel
theorem dX3_friends_46 : decode cX3_friends 46 = .ok (.iload_n 2, 1) := by decide +kernel
theorem dX3_friends_47 : decode cX3_friends 47 = .ok (.iload_n 3, 1) := by decide +kernel
theorem dX3_friends_48 : decode cX3_friends 48 = .ok (.iload_n 1, 1) := by decide +kernel
theorem dX3_friends_49 : decode cX3_friends 49 = .ok (.if_icmp .eq 29, 3) := by decide +kernel
theorem dX3_friends_52 : decode cX3_friends 52 = .ok (.aload_n 0, 1) := by decide +kernel
theorem dX3_friends_53 : decode cX3_friends 53 = .ok (.getfield 9, 3) := by decide +kernel
theorem dX3_friends_56 : decode cX3_friends 56 = .ok (.iload_n 3, 1) := by decide +kernel
theorem dX3_friends_57 : decode cX3_friends 57 = .ok (.invokestatic 55, 3) := by decide +kernel
theorem dX3_friends_60 : decode cX3_friends 60 = .ok (.ifCond .eq 18, 3) := by decide +kernel
theorem dX3_friends_63 : decode cX3_friends 63 = .ok (.aload_n 0, 1) := by decide +kernel
theorem dX3_friends_64 : decode cX3_friends 64 = .ok (.iload_n 1, 1) := by decide +kernel
theorem dX3_friends_65 : decode cX3_friends 65 = .ok (.iload_n 3, 1) := by decide +kernel
theorem dX3_friends_66 : decode cX3_friends 66 = .ok (.invokevirtual 179, 3) := by decide +kernel
theorem dX3_friends_69 : decode cX3_friends 69 = .ok (.ifCond .ne 9, 3) := by decide +kernel
theorem dX3_friends_72 : decode cX3_friends 72 = .ok (.iconst 1, 1) := by decide +kernel
theorem dX3_friends_73 : decode cX3_friends 73 = .ok (.iload_n 3, 1) := by decide +kernel
theorem dX3_friends_74 : decode cX3_friends 74 = .ok (.ishl, 1) := by decide +kernel
theorem dX3_friends_75 : decode cX3_friends 75 = .ok (.goto 4, 3) := by decide +kernel
theorem dX3_friends_78 : decode cX3_friends 78 = .ok (.iconst 0, 1) := by decide +kernel
theorem dX3_friends_79 : decode cX3_friends 79 = .ok (.ior, 1) := by decide +kernel
theorem dX3_friends_80 : decode cX3_friends 80 = .ok (.istore_n 2, 1) := by decide +kernel
theorem dX3_friends_81 : decode cX3_friends 81 = .ok (.iinc 3 1, 3) := by decide +kernel
theorem dX3_friends_84 : decode cX3_friends 84 = .ok (.goto (-48), 3) := by decide +kernel
theorem dX3_friends_87 : decode cX3_friends 87 = .ok (.iload_n 2, 1) := by decide +kernel
theorem dX3_friends_88 : decode cX3_friends 88 = .ok (.ireturn, 1) := by decide +kernel
set_option maxRecDepth 20000 in
theorem ggX3_gives_X3_lesserAll : GoodIn wsX3_gives wsX3_lesserAll := goodIn_r _ [5, 6, 7, 8, 4, 9, 10, 11, 12, 13, 14, 15, 16, 17, 18, 19, 20, 21, 22, 23, 24, 25, 26, 27, 28, 29, 30, 31, 32, 33] (by decide +kernel) (by decide +kernel)
set_option maxRecDepth 20000 in
theorem gX3_gives_X3_lesserAll : GoodIn wsX3_gives (wsV RX3 170 RX3 yX3_lesserAll wsX3_lesserAll) := goodIn_app (goodIn_of _ (by decide +kernel)) ggX3_gives_X3_lesserAll
theorem dX3_gives_0 : decode cX3_gives 0 = .ok (.aload_n 0, 1) := by decide +kernel
theorem dX3_gives_1 : decode cX3_gives 1 = .ok (.invokevirtual 170, 3) := by decide +kernel
theorem dX3_gives_4 : decode cX3_gives 4 = .ok (.ireturn, 1) := by decide +kernel
set_option maxRecDepth 20000 in
theorem ggX3_chapterBy_X3_copies : GoodIn wsX3_chapterBy wsX3_copies := goodIn_r _ [6] (by decide +kernel) (by decide +kernel)
set_option maxRecDepth 20000 in
theorem gX3_chapterBy_X3_copies : GoodIn wsX3_chapterBy (va_wsS RX3 136 yX3_copies wsX3_copies) := goodIn_app (goodIn_of _ (by decide +kernel)) ggX3_chapterBy_X3_copies
set_option maxRecDepth 20000 in
theorem ggX3_chapterBy_X3_of : GoodIn wsX3_chapterBy wsX3_of := goodIn_r _ [9] (by decide +kernel) (by decide +kernel)
set_option maxRecDepth 20000 in
theorem gX3_chapterBy_X3_of : GoodIn wsX3_chapterBy (va_wsS RX3 51 yX3_of wsX3_of) := goodIn_app (goodIn_of _ (by decide +kernel)) ggX3_chapterBy_X3_of
set_option maxRecDepth 20000 in
theorem ggX3_chapterBy_X3_yearsOn : GoodIn wsX3_chapterBy wsX3_yearsOn := goodIn_r _ [12, 13, 14, 5, 15, 16, 17, 18, 7, 8, 9, 19, 20, 21, 22, 23, 24, 25, 26, 27, 28, 29, 30] (by decide +kernel) (by decide +kernel)
set_option maxRecDepth 20000 in
theorem gX3_chapterBy_X3_yearsOn : GoodIn wsX3_chapterBy (va_wsS RX3 79 yX3_yearsOn wsX3_yearsOn) := goodIn_app (goodIn_of _ (by decide +kernel)) ggX3_chapterBy_X3_yearsOn
set_option maxRecDepth 20000 in
theorem ggX3_chapterBy_X3_chapterOf : GoodIn wsX3_chapterBy wsX3_chapterOf := goodIn_r _ [33, 16, 17, 5, 18, 7, 8, 9, 34, 35, 36, 28, 29, 30] (by decide +kernel) (by decide +kernel)
set_option maxRecDepth 20000 in
theorem gX3_chapterBy_X3_chapterOf : GoodIn wsX3_chapterBy (va_wsS RX3 164 yX3_chapterOf wsX3_chapterOf) := goodIn_app (goodIn_of _ (by decide +kernel)) ggX3_chapterBy_X3_chapterOf
theorem dX3_chapterBy_0 : decode cX3_chapterBy 0 = .ok (.aload_n 0, 1) := by decide +kernel
theorem dX3_chapterBy_1 : decode cX3_chapterBy 1 = .ok (.getfield 9, 3) := by decide +kernel
theorem dX3_chapterBy_4 : decode cX3_chapterBy 4 = .ok (.aload_n 0, 1) := by decide +kernel
theorem dX3_chapterBy_5 : decode cX3_chapterBy 5 = .ok (.getfield 13, 3) := by decide +kernel
theorem dX3_chapterBy_8 : decode cX3_chapterBy 8 = .ok (.invokestatic 136, 3) := by decide +kernel
theorem dX3_chapterBy_11 : decode cX3_chapterBy 11 = .ok (.aload_n 0, 1) := by decide +kernel
theorem dX3_chapterBy_12 : decode cX3_chapterBy 12 = .ok (.getfield 13, 3) := by decide +kernel
theorem dX3_chapterBy_15 : decode cX3_chapterBy 15 = .ok (.iload_n 2, 1) := by decide +kernel
theorem dX3_chapterBy_16 : decode cX3_chapterBy 16 = .ok (.iconst 4, 1) := by decide +kernel
theorem dX3_chapterBy_17 : decode cX3_chapterBy 17 = .ok (.iload 6, 2) := by decide +kernel
theorem dX3_chapterBy_19 : decode cX3_chapterBy 19 = .ok (.iadd, 1) := by decide +kernel
theorem dX3_chapterBy_20 : decode cX3_chapterBy 20 = .ok (.invokestatic 51, 3) := by decide +kernel
theorem dX3_chapterBy_23 : decode cX3_chapterBy 23 = .ok (.iload_n 3, 1) := by decide +kernel
theorem dX3_chapterBy_24 : decode cX3_chapterBy 24 = .ok (.iconst 1, 1) := by decide +kernel
theorem dX3_chapterBy_25 : decode cX3_chapterBy 25 = .ok (.if_icmp .ne 7, 3) := by decide +kernel
theorem dX3_chapterBy_28 : decode cX3_chapterBy 28 = .ok (.iconst 0, 1) := by decide +kernel
theorem dX3_chapterBy_29 : decode cX3_chapterBy 29 = .ok (.goto 16, 3) := by decide +kernel
theorem dX3_chapterBy_32 : decode cX3_chapterBy 32 = .ok (.aload_n 0, 1) := by decide +kernel
theorem dX3_chapterBy_33 : decode cX3_chapterBy 33 = .ok (.getfield 13, 3) := by decide +kernel
theorem dX3_chapterBy_36 : decode cX3_chapterBy 36 = .ok (.iload_n 2, 1) := by decide +kernel
theorem dX3_chapterBy_37 : decode cX3_chapterBy 37 = .ok (.iconst 4, 1) := by decide +kernel
theorem dX3_chapterBy_38 : decode cX3_chapterBy 38 = .ok (.iload 6, 2) := by decide +kernel
theorem dX3_chapterBy_40 : decode cX3_chapterBy 40 = .ok (.iadd, 1) := by decide +kernel
theorem dX3_chapterBy_41 : decode cX3_chapterBy 41 = .ok (.invokestatic 51, 3) := by decide +kernel
theorem dX3_chapterBy_44 : decode cX3_chapterBy 44 = .ok (.iaload, 1) := by decide +kernel
theorem dX3_chapterBy_45 : decode cX3_chapterBy 45 = .ok (.iastore, 1) := by decide +kernel
theorem dX3_chapterBy_46 : decode cX3_chapterBy 46 = .ok (.aload_n 0, 1) := by decide +kernel
theorem dX3_chapterBy_47 : decode cX3_chapterBy 47 = .ok (.getfield 13, 3) := by decide +kernel
theorem dX3_chapterBy_50 : decode cX3_chapterBy 50 = .ok (.iload 4, 2) := by decide +kernel
theorem dX3_chapterBy_52 : decode cX3_chapterBy 52 = .ok (.iconst 4, 1) := by decide +kernel
theorem dX3_chapterBy_53 : decode cX3_chapterBy 53 = .ok (.iload 6, 2) := by decide +kernel
theorem dX3_chapterBy_55 : decode cX3_chapterBy 55 = .ok (.iadd, 1) := by decide +kernel
theorem dX3_chapterBy_56 : decode cX3_chapterBy 56 = .ok (.invokestatic 51, 3) := by decide +kernel
theorem dX3_chapterBy_59 : decode cX3_chapterBy 59 = .ok (.iload 5, 2) := by decide +kernel
theorem dX3_chapterBy_61 : decode cX3_chapterBy 61 = .ok (.iconst 1, 1) := by decide +kernel
theorem dX3_chapterBy_62 : decode cX3_chapterBy 62 = .ok (.if_icmp .ne 7, 3) := by decide +kernel
theorem dX3_chapterBy_65 : decode cX3_chapterBy 65 = .ok (.iconst 0, 1) := by decide +kernel
theorem dX3_chapterBy_66 : decode cX3_chapterBy 66 = .ok (.goto 17, 3) := by decide +kernel
theorem dX3_chapterBy_69 : decode cX3_chapterBy 69 = .ok (.aload_n 0, 1) := by decide +kernel
theorem dX3_chapterBy_70 : decode cX3_chapterBy 70 = .ok (.getfield 13, 3) := by decide +kernel
theorem dX3_chapterBy_73 : decode cX3_chapterBy 73 = .ok (.iload 4, 2) := by decide +kernel
theorem dX3_chapterBy_75 : decode cX3_chapterBy 75 = .ok (.iconst 4, 1) := by decide +kernel
theorem dX3_chapterBy_76 : decode cX3_chapterBy 76 = .ok (.iload 6, 2) := by decide +kernel
theorem dX3_chapterBy_78 : decode cX3_chapterBy 78 = .ok (.iadd, 1) := by decide +kernel
theorem dX3_chapterBy_79 : decode cX3_chapterBy 79 = .ok (.invokestatic 51, 3) := by decide +kernel
theorem dX3_chapterBy_82 : decode cX3_chapterBy 82 = .ok (.iaload, 1) := by decide +kernel
theorem dX3_chapterBy_83 : decode cX3_chapterBy 83 = .ok (.iastore, 1) := by decide +kernel
theorem dX3_chapterBy_84 : decode cX3_chapterBy 84 = .ok (.aload_n 0, 1) := by decide +kernel
theorem dX3_chapterBy_85 : decode cX3_chapterBy 85 = .ok (.getfield 13, 3) := by decide +kernel
theorem dX3_chapterBy_88 : decode cX3_chapterBy 88 = .ok (.iload 7, 2) := by decide +kernel
theorem dX3_chapterBy_90 : decode cX3_chapterBy 90 = .ok (.invokestatic 79, 3) := by decide +kernel
theorem dX3_chapterBy_93 : decode cX3_chapterBy 93 = .ok (.aload_n 0, 1) := by decide +kernel
theorem dX3_chapterBy_94 : decode cX3_chapterBy 94 = .ok (.getfield 13, 3) := by decide +kernel
theorem dX3_chapterBy_97 : decode cX3_chapterBy 97 = .ok (.iload_n 1, 1) := by decide +kernel
theorem dX3_chapterBy_98 : decode cX3_chapterBy 98 = .ok (.invokestatic 164, 3) := by decide +kernel
theorem dX3_chapterBy_101 : decode cX3_chapterBy 101 = .ok (.ireturn, 1) := by decide +kernel
set_option maxRecDepth 20000 in
theorem ggX3_two_X3_areTwo : GoodIn wsX3_two wsX3_areTwo := goodIn_r _ [6, 7, 8, 9, 5, 10, 1, 11, 12, 13, 63, 64, 65, 66, 67, 68, 69, 70, 71, 72, 73, 74, 75, 76, 77] (by decide +kernel) (by decide +kernel)
set_option maxRecDepth 20000 in
theorem gX3_two_X3_areTwo : GoodIn wsX3_two (wsV RX3 182 RX3 yX3_areTwo wsX3_areTwo) := goodIn_app (goodIn_of _ (by decide +kernel)) ggX3_two_X3_areTwo
set_option maxRecDepth 20000 in
theorem ggX3_two_X3_isTopic : GoodIn wsX3_two wsX3_isTopic := goodIn_r _ [16, 11, 12, 5, 13] (by decide +kernel) (by decide +kernel)
set_option maxRecDepth 20000 in
theorem gX3_two_X3_isTopic : GoodIn wsX3_two (va_wsS RX3 127 yX3_isTopic wsX3_isTopic) := goodIn_app (goodIn_of _ (by decide +kernel)) ggX3_two_X3_isTopic
set_option maxRecDepth 20000 in
theorem ggX3_two_X3_wrongBy : GoodIn wsX3_two wsX3_wrongBy := goodIn_r _ [19] (by decide +kernel) (by decide +kernel)
set_option maxRecDepth 20000 in
theorem gX3_two_X3_wrongBy : GoodIn wsX3_two (va_wsS RX3 147 yX3_wrongBy wsX3_wrongBy) := goodIn_app (goodIn_of _ (by decide +kernel)) ggX3_two_X3_wrongBy
set_option maxRecDepth 20000 in
theorem ggX3_two_X3_isAlive : GoodIn wsX3_two wsX3_isAlive := goodIn_r _ [22, 23, 24, 5, 25] (by decide +kernel) (by decide +kernel)
set_option maxRecDepth 20000 in
theorem gX3_two_X3_isAlive : GoodIn wsX3_two (va_wsS RX3 55 yX3_isAlive wsX3_isAlive) := goodIn_app (goodIn_of _ (by decide +kernel)) ggX3_two_X3_isAlive
set_option maxRecDepth 20000 in
theorem ggX3_two_X3_no : GoodIn wsX3_two wsX3_no := goodIn_r _ [29, 30, 63, 64, 65, 66, 67, 68, 69, 70, 71, 72, 73, 74, 75, 76, 77] (by decide +kernel) (by decide +kernel)
set_option maxRecDepth 20000 in
theorem gX3_two_X3_no : GoodIn wsX3_two (wsV RX3 39 RX3 yX3_no wsX3_no) := goodIn_app (goodIn_of _ (by decide +kernel)) ggX3_two_X3_no
set_option maxRecDepth 20000 in
theorem ggX3_two_X3_chapterBy : GoodIn wsX3_two wsX3_chapterBy := goodIn_r _ [34, 1, 35, 36, 37, 5, 38, 23, 24, 25, 39, 40, 41, 42, 43, 44, 20, 21, 22, 45, 46, 47, 48, 49, 50, 51, 52, 53, 54, 55, 56, 57, 58, 59, 60, 61, 62, 63, 64, 65, 66, 67, 68, 69, 70, 71, 72, 73, 74, 75, 76, 77] (by decide +kernel) (by decide +kernel)
set_option maxRecDepth 20000 in
theorem gX3_two_X3_chapterBy : GoodIn wsX3_two (wsV RX3 185 RX3 yX3_chapterBy wsX3_chapterBy) := goodIn_app (goodIn_of _ (by decide +kernel)) ggX3_two_X3_chapterBy
theorem dX3_two_0 : decode cX3_two 0 = .ok (.aload_n 0, 1) := by decide +kernel
theorem dX3_two_1 : decode cX3_two 1 = .ok (.iload_n 1, 1) := by decide +kernel
theorem dX3_two_2 : decode cX3_two 2 = .ok (.iload_n 2, 1) := by decide +kernel
theorem dX3_two_3 : decode cX3_two 3 = .ok (.invokevirtual 182, 3) := by decide +kernel
theorem dX3_two_6 : decode cX3_two 6 = .ok (.ifCond .eq 20, 3) := by decide +kernel
theorem dX3_two_9 : decode cX3_two 9 = .ok (.iload_n 3, 1) := by decide +kernel
theorem dX3_two_10 : decode cX3_two 10 = .ok (.invokestatic 127, 3) := by decide +kernel
theorem dX3_two_13 : decode cX3_two 13 = .ok (.ifCond .eq 13, 3) := by decide +kernel
theorem dX3_two_16 : decode cX3_two 16 = .ok (.iload 4, 2) := by decide +kernel
theorem dX3_two_18 : decode cX3_two 18 = .ok (.bipush 60, 2) := by decide +kernel
theorem dX3_two_20 : decode cX3_two 20 = .ok (.invokestatic 147, 3) := by decide +kernel
theorem dX3_two_23 : decode cX3_two 23 = .ok (.goto 4, 3) := by decide +kernel
theorem dX3_two_26 : decode cX3_two 26 = .ok (.iconst (-1), 1) := by decide +kernel
theorem dX3_two_27 : decode cX3_two 27 = .ok (.istore 5, 2) := by decide +kernel
theorem dX3_two_29 : decode cX3_two 29 = .ok (.iload 5, 2) := by decide +kernel
theorem dX3_two_31 : decode cX3_two 31 = .ok (.ifCond .ne 29, 3) := by decide +kernel
theorem dX3_two_34 : decode cX3_two 34 = .ok (.aload_n 0, 1) := by decide +kernel
theorem dX3_two_35 : decode cX3_two 35 = .ok (.getfield 9, 3) := by decide +kernel
theorem dX3_two_38 : decode cX3_two 38 = .ok (.iload_n 1, 1) := by decide +kernel
theorem dX3_two_39 : decode cX3_two 39 = .ok (.invokestatic 55, 3) := by decide +kernel
theorem dX3_two_42 : decode cX3_two 42 = .ok (.ifCond .eq 14, 3) := by decide +kernel
theorem dX3_two_45 : decode cX3_two 45 = .ok (.aload_n 0, 1) := by decide +kernel
theorem dX3_two_46 : decode cX3_two 46 = .ok (.getfield 9, 3) := by decide +kernel
theorem dX3_two_49 : decode cX3_two 49 = .ok (.iload_n 2, 1) := by decide +kernel
theorem dX3_two_50 : decode cX3_two 50 = .ok (.invokestatic 55, 3) := by decide +kernel
theorem dX3_two_53 : decode cX3_two 53 = .ok (.ifCond .ne 7, 3) := by decide +kernel
theorem dX3_two_56 : decode cX3_two 56 = .ok (.bipush (-3), 2) := by decide +kernel
theorem dX3_two_58 : decode cX3_two 58 = .ok (.istore 5, 2) := by decide +kernel
theorem dX3_two_60 : decode cX3_two 60 = .ok (.iload 5, 2) := by decide +kernel
theorem dX3_two_62 : decode cX3_two 62 = .ok (.ifCond .eq 10, 3) := by decide +kernel
theorem dX3_two_65 : decode cX3_two 65 = .ok (.aload_n 0, 1) := by decide +kernel
theorem dX3_two_66 : decode cX3_two 66 = .ok (.iload 5, 2) := by decide +kernel
theorem dX3_two_68 : decode cX3_two 68 = .ok (.invokevirtual 39, 3) := by decide +kernel
theorem dX3_two_71 : decode cX3_two 71 = .ok (.ireturn, 1) := by decide +kernel
theorem dX3_two_72 : decode cX3_two 72 = .ok (.iconst 0, 1) := by decide +kernel
theorem dX3_two_73 : decode cX3_two 73 = .ok (.istore 6, 2) := by decide +kernel
theorem dX3_two_75 : decode cX3_two 75 = .ok (.iload 6, 2) := by decide +kernel
theorem dX3_two_77 : decode cX3_two 77 = .ok (.iconst 4, 1) := by decide +kernel
theorem dX3_two_78 : decode cX3_two 78 = .ok (.if_icmp .ge 108, 3) := by decide +kernel
theorem dX3_two_81 : decode cX3_two 81 = .ok (.iload 6, 2) := by decide +kernel
theorem dX3_two_83 : decode cX3_two 83 = .ok (.iconst 2, 1) := by decide +kernel
theorem dX3_two_84 : decode cX3_two 84 = .ok (.idiv, 1) := by decide +kernel
theorem dX3_two_85 : decode cX3_two 85 = .ok (.istore 7, 2) := by decide +kernel
theorem dX3_two_87 : decode cX3_two 87 = .ok (.iload 6, 2) := by decide +kernel
theorem dX3_two_89 : decode cX3_two 89 = .ok (.iconst 2, 1) := by decide +kernel
theorem dX3_two_90 : decode cX3_two 90 = .ok (.irem, 1) := by decide +kernel
theorem dX3_two_91 : decode cX3_two 91 = .ok (.istore 8, 2) := by decide +kernel
theorem dX3_two_93 : decode cX3_two 93 = .ok (.aload_n 0, 1) := by decide +kernel
theorem dX3_two_94 : decode cX3_two 94 = .ok (.iload_n 1, 1) := by decide +kernel
theorem dX3_two_95 : decode cX3_two 95 = .ok (.iload_n 1, 1) := by decide +kernel
theorem dX3_two_96 : decode cX3_two 96 = .ok (.iconst 1, 1) := by decide +kernel
theorem dX3_two_97 : decode cX3_two 97 = .ok (.iload 7, 2) := by decide +kernel
theorem dX3_two_99 : decode cX3_two 99 = .ok (.isub, 1) := by decide +kernel
theorem dX3_two_100 : decode cX3_two 100 = .ok (.iload_n 2, 1) := by decide +kernel
theorem dX3_two_101 : decode cX3_two 101 = .ok (.iload 8, 2) := by decide +kernel
theorem dX3_two_103 : decode cX3_two 103 = .ok (.iload_n 3, 1) := by decide +kernel
theorem dX3_two_104 : decode cX3_two 104 = .ok (.iload 4, 2) := by decide +kernel
theorem dX3_two_106 : decode cX3_two 106 = .ok (.invokevirtual 185, 3) := by decide +kernel
theorem dX3_two_109 : decode cX3_two 109 = .ok (.aload_n 0, 1) := by decide +kernel
theorem dX3_two_110 : decode cX3_two 110 = .ok (.iload_n 1, 1) := by decide +kernel
theorem dX3_two_111 : decode cX3_two 111 = .ok (.iload_n 1, 1) := by decide +kernel
theorem dX3_two_112 : decode cX3_two 112 = .ok (.iload 7, 2) := by decide +kernel
theorem dX3_two_114 : decode cX3_two 114 = .ok (.iload_n 2, 1) := by decide +kernel
theorem dX3_two_115 : decode cX3_two 115 = .ok (.iload 8, 2) := by decide +kernel
theorem dX3_two_117 : decode cX3_two 117 = .ok (.iload_n 3, 1) := by decide +kernel
theorem dX3_two_118 : decode cX3_two 118 = .ok (.iload 4, 2) := by decide +kernel
theorem dX3_two_120 : decode cX3_two 120 = .ok (.invokevirtual 185, 3) := by decide +kernel
theorem dX3_two_123 : decode cX3_two 123 = .ok (.if_icmp .gt 7, 3) := by decide +kernel
theorem dX3_two_126 : decode cX3_two 126 = .ok (.iconst 1, 1) := by decide +kernel
theorem dX3_two_127 : decode cX3_two 127 = .ok (.goto 4, 3) := by decide +kernel
theorem dX3_two_130 : decode cX3_two 130 = .ok (.iconst 0, 1) := by decide +kernel
theorem dX3_two_131 : decode cX3_two 131 = .ok (.istore 9, 2) := by decide +kernel
theorem dX3_two_133 : decode cX3_two 133 = .ok (.iload 9, 2) := by decide +kernel
theorem dX3_two_135 : decode cX3_two 135 = .ok (.ifCond .eq 45, 3) := by decide +kernel
theorem dX3_two_138 : decode cX3_two 138 = .ok (.aload_n 0, 1) := by decide +kernel
theorem dX3_two_139 : decode cX3_two 139 = .ok (.iload_n 2, 1) := by decide +kernel
theorem dX3_two_140 : decode cX3_two 140 = .ok (.iload_n 1, 1) := by decide +kernel
theorem dX3_two_141 : decode cX3_two 141 = .ok (.iload 7, 2) := by decide +kernel
theorem dX3_two_143 : decode cX3_two 143 = .ok (.iload_n 2, 1) := by decide +kernel
theorem dX3_two_144 : decode cX3_two 144 = .ok (.iconst 1, 1) := by decide +kernel
theorem dX3_two_145 : decode cX3_two 145 = .ok (.iload 8, 2) := by decide +kernel
theorem dX3_two_147 : decode cX3_two 147 = .ok (.isub, 1) := by decide +kernel
theorem dX3_two_148 : decode cX3_two 148 = .ok (.iload_n 3, 1) := by decide +kernel
theorem dX3_two_149 : decode cX3_two 149 = .ok (.iload 4, 2) := by decide +kernel
theorem dX3_two_151 : decode cX3_two 151 = .ok (.invokevirtual 185, 3) := by decide +kernel
theorem dX3_two_154 : decode cX3_two 154 = .ok (.aload_n 0, 1) := by decide +kernel
theorem dX3_two_155 : decode cX3_two 155 = .ok (.iload_n 2, 1) := by decide +kernel
theorem dX3_two_156 : decode cX3_two 156 = .ok (.iload_n 1, 1) := by decide +kernel
theorem dX3_two_157 : decode cX3_two 157 = .ok (.iload 7, 2) := by decide +kernel
theorem dX3_two_159 : decode cX3_two 159 = .ok (.iload_n 2, 1) := by decide +kernel
theorem dX3_two_160 : decode cX3_two 160 = .ok (.iload 8, 2) := by decide +kernel
theorem dX3_two_162 : decode cX3_two 162 = .ok (.iload_n 3, 1) := by decide +kernel
theorem dX3_two_163 : decode cX3_two 163 = .ok (.iload 4, 2) := by decide +kernel
theorem dX3_two_165 : decode cX3_two 165 = .ok (.invokevirtual 185, 3) := by decide +kernel
theorem dX3_two_168 : decode cX3_two 168 = .ok (.if_icmp .gt 12, 3) := by decide +kernel
theorem dX3_two_171 : decode cX3_two 171 = .ok (.bipush 10, 2) := by decide +kernel
theorem dX3_two_173 : decode cX3_two 173 = .ok (.iload 7, 2) := by decide +kernel
theorem dX3_two_175 : decode cX3_two 175 = .ok (.imul, 1) := by decide +kernel
theorem dX3_two_176 : decode cX3_two 176 = .ok (.iload 8, 2) := by decide +kernel
theorem dX3_two_178 : decode cX3_two 178 = .ok (.iadd, 1) := by decide +kernel
theorem dX3_two_179 : decode cX3_two 179 = .ok (.ireturn, 1) := by decide +kernel
theorem dX3_two_180 : decode cX3_two 180 = .ok (.iinc 6 1, 3) := by decide +kernel
theorem dX3_two_183 : decode cX3_two 183 = .ok (.goto (-108), 3) := by decide +kernel
theorem dX3_two_186 : decode cX3_two 186 = .ok (.bipush (-9), 2) := by decide +kernel
theorem dX3_two_188 : decode cX3_two 188 = .ok (.ireturn, 1) := by decide +kernel
theorem dX3_gcd_0 : decode cX3_gcd 0 = .ok (.lload_n 0, 1) := by decide +kernel
theorem dX3_gcd_1 : decode cX3_gcd 1 = .ok (.lstore 4, 2) := by decide +kernel
theorem dX3_gcd_3 : decode cX3_gcd 3 = .ok (.lload_n 2, 1) := by decide +kernel
theorem dX3_gcd_4 : decode cX3_gcd 4 = .ok (.lstore 6, 2) := by decide +kernel
theorem dX3_gcd_6 : decode cX3_gcd 6 = .ok (.lload 6, 2) := by decide +kernel
theorem dX3_gcd_8 : decode cX3_gcd 8 = .ok (.lconst 0, 1) := by decide +kernel
theorem dX3_gcd_9 : decode cX3_gcd 9 = .ok (.lcmp, 1) := by decide +kernel
theorem dX3_gcd_10 : decode cX3_gcd 10 = .ok (.ifCond .eq 21, 3) := by decide +kernel
theorem dX3_gcd_13 : decode cX3_gcd 13 = .ok (.lload 4, 2) := by decide +kernel
theorem dX3_gcd_15 : decode cX3_gcd 15 = .ok (.lload 6, 2) := by decide +kernel
theorem dX3_gcd_17 : decode cX3_gcd 17 = .ok (.lrem, 1) := by decide +kernel
theorem dX3_gcd_18 : decode cX3_gcd 18 = .ok (.lstore 8, 2) := by decide +kernel
theorem dX3_gcd_20 : decode cX3_gcd 20 = .ok (.lload 6, 2) := by decide +kernel
theorem dX3_gcd_22 : decode cX3_gcd 22 = .ok (.lstore 4, 2) := by decide +kernel
theorem dX3_gcd_24 : decode cX3_gcd 24 = .ok (.lload 8, 2) := by decide +kernel
theorem dX3_gcd_26 : decode cX3_gcd 26 = .ok (.lstore 6, 2) := by decide +kernel
theorem dX3_gcd_28 : decode cX3_gcd 28 = .ok (.goto (-22), 3) := by decide +kernel
theorem dX3_gcd_31 : decode cX3_gcd 31 = .ok (.lload 4, 2) := by decide +kernel
theorem dX3_gcd_33 : decode cX3_gcd 33 = .ok (.lreturn, 1) := by decide +kernel
set_option maxRecDepth 20000 in
theorem ggX3_partOf_X3_gcd : GoodIn wsX3_partOf wsX3_gcd := goodIn_r _ [4] (by decide +kernel) (by decide +kernel)
set_option maxRecDepth 20000 in
theorem gX3_partOf_X3_gcd : GoodIn wsX3_partOf (va_wsS RX3 189 yX3_gcd wsX3_gcd) := goodIn_app (goodIn_of _ (by decide +kernel)) ggX3_partOf_X3_gcd
theorem dX3_partOf_0 : decode cX3_partOf 0 = .ok (.lload_n 0, 1) := by decide +kernel
theorem dX3_partOf_1 : decode cX3_partOf 1 = .ok (.lconst 0, 1) := by decide +kernel
theorem dX3_partOf_2 : decode cX3_partOf 2 = .ok (.lcmp, 1) := by decide +kernel
theorem dX3_partOf_3 : decode cX3_partOf 3 = .ok (.ifCond .ne 7, 3) := by decide +kernel
theorem dX3_partOf_6 : decode cX3_partOf 6 = .ok (.iload 4, 2) := by decide +kernel
theorem dX3_partOf_8 : decode cX3_partOf 8 = .ok (.i2l, 1) := by decide +kernel
theorem dX3_partOf_9 : decode cX3_partOf 9 = .ok (.lreturn, 1) := by decide +kernel
theorem dX3_partOf_10 : decode cX3_partOf 10 = .ok (.iload 4, 2) := by decide +kernel
theorem dX3_partOf_12 : decode cX3_partOf 12 = .ok (.ifCond .ne 7, 3) := by decide +kernel
theorem dX3_partOf_15 : decode cX3_partOf 15 = .ok (.lload_n 0, 1) := by decide +kernel
theorem dX3_partOf_16 : decode cX3_partOf 16 = .ok (.goto 4, 3) := by decide +kernel
theorem dX3_partOf_19 : decode cX3_partOf 19 = .ok (.lload_n 2, 1) := by decide +kernel
theorem dX3_partOf_20 : decode cX3_partOf 20 = .ok (.lload_n 0, 1) := by decide +kernel
theorem dX3_partOf_21 : decode cX3_partOf 21 = .ok (.lload_n 2, 1) := by decide +kernel
theorem dX3_partOf_22 : decode cX3_partOf 22 = .ok (.invokestatic 189, 3) := by decide +kernel
theorem dX3_partOf_25 : decode cX3_partOf 25 = .ok (.ldiv, 1) := by decide +kernel
theorem dX3_partOf_26 : decode cX3_partOf 26 = .ok (.lreturn, 1) := by decide +kernel
set_option maxRecDepth 20000 in
theorem ggX3_winters_X3_isAlive : GoodIn wsX3_winters wsX3_isAlive := goodIn_r _ [4, 5, 6, 3, 7] (by decide +kernel) (by decide +kernel)
set_option maxRecDepth 20000 in
theorem gX3_winters_X3_isAlive : GoodIn wsX3_winters (va_wsS RX3 55 yX3_isAlive wsX3_isAlive) := goodIn_app (goodIn_of _ (by decide +kernel)) ggX3_winters_X3_isAlive
set_option maxRecDepth 20000 in
theorem ggX3_winters_X3_of : GoodIn wsX3_winters wsX3_of := goodIn_r _ [7] (by decide +kernel) (by decide +kernel)
set_option maxRecDepth 20000 in
theorem gX3_winters_X3_of : GoodIn wsX3_winters (va_wsS RX3 51 yX3_of wsX3_of) := goodIn_app (goodIn_of _ (by decide +kernel)) ggX3_winters_X3_of
set_option maxRecDepth 20000 in
theorem ggX3_winters_X3_least : GoodIn wsX3_winters wsX3_least := goodIn_r _ [10] (by decide +kernel) (by decide +kernel)
set_option maxRecDepth 20000 in
theorem gX3_winters_X3_least : GoodIn wsX3_winters (va_wsS RX3 66 yX3_least wsX3_least) := goodIn_app (goodIn_of _ (by decide +kernel)) ggX3_winters_X3_least
theorem dX3_winters_0 : decode cX3_winters 0 = .ok (.iconst 0, 1) := by decide +kernel
theorem dX3_winters_1 : decode cX3_winters 1 = .ok (.istore_n 1, 1) := by decide +kernel
theorem dX3_winters_2 : decode cX3_winters 2 = .ok (.iload_n 1, 1) := by decide +kernel
theorem dX3_winters_3 : decode cX3_winters 3 = .ok (.aload_n 0, 1) := by decide +kernel
theorem dX3_winters_4 : decode cX3_winters 4 = .ok (.iconst 0, 1) := by decide +kernel
theorem dX3_winters_5 : decode cX3_winters 5 = .ok (.iaload, 1) := by decide +kernel
theorem dX3_winters_6 : decode cX3_winters 6 = .ok (.if_icmp .ge 38, 3) := by decide +kernel
theorem dX3_winters_9 : decode cX3_winters 9 = .ok (.aload_n 0, 1) := by decide +kernel
theorem dX3_winters_10 : decode cX3_winters 10 = .ok (.iload_n 1, 1) := by decide +kernel
theorem dX3_winters_11 : decode cX3_winters 11 = .ok (.invokestatic 55, 3) := by decide +kernel
theorem dX3_winters_14 : decode cX3_winters 14 = .ok (.ifCond .eq 24, 3) := by decide +kernel
theorem dX3_winters_17 : decode cX3_winters 17 = .ok (.aload_n 0, 1) := by decide +kernel
theorem dX3_winters_18 : decode cX3_winters 18 = .ok (.iload_n 1, 1) := by decide +kernel
theorem dX3_winters_19 : decode cX3_winters 19 = .ok (.iconst 2, 1) := by decide +kernel
theorem dX3_winters_20 : decode cX3_winters 20 = .ok (.invokestatic 51, 3) := by decide +kernel
theorem dX3_winters_23 : decode cX3_winters 23 = .ok (.bipush 99, 2) := by decide +kernel
theorem dX3_winters_25 : decode cX3_winters 25 = .ok (.aload_n 0, 1) := by decide +kernel
theorem dX3_winters_26 : decode cX3_winters 26 = .ok (.iload_n 1, 1) := by decide +kernel
theorem dX3_winters_27 : decode cX3_winters 27 = .ok (.iconst 2, 1) := by decide +kernel
theorem dX3_winters_28 : decode cX3_winters 28 = .ok (.invokestatic 51, 3) := by decide +kernel
theorem dX3_winters_31 : decode cX3_winters 31 = .ok (.iaload, 1) := by decide +kernel
theorem dX3_winters_32 : decode cX3_winters 32 = .ok (.iconst 5, 1) := by decide +kernel
theorem dX3_winters_33 : decode cX3_winters 33 = .ok (.iadd, 1) := by decide +kernel
theorem dX3_winters_34 : decode cX3_winters 34 = .ok (.invokestatic 66, 3) := by decide +kernel
theorem dX3_winters_37 : decode cX3_winters 37 = .ok (.iastore, 1) := by decide +kernel
theorem dX3_winters_38 : decode cX3_winters 38 = .ok (.iinc 1 1, 3) := by decide +kernel
theorem dX3_winters_41 : decode cX3_winters 41 = .ok (.goto (-39), 3) := by decide +kernel
theorem dX3_winters_44 : decode cX3_winters 44 = .ok (.return_, 1) := by decide +kernel
set_option maxRecDepth 20000 in
theorem ggX3_winter_X3_isTopic : GoodIn wsX3_winter wsX3_isTopic := goodIn_r _ [6, 7, 8, 5, 9] (by decide +kernel) (by decide +kernel)
set_option maxRecDepth 20000 in
theorem gX3_winter_X3_isTopic : GoodIn wsX3_winter (va_wsS RX3 127 yX3_isTopic wsX3_isTopic) := goodIn_app (goodIn_of _ (by decide +kernel)) ggX3_winter_X3_isTopic
set_option maxRecDepth 20000 in
theorem ggX3_winter_X3_noWide : GoodIn wsX3_winter wsX3_noWide := goodIn_r _ [13, 14, 15, 16, 17, 5, 18, 19, 59, 60, 61, 62, 63, 64, 65, 66, 67, 68, 69, 70, 71, 72, 73] (by decide +kernel) (by decide +kernel)
set_option maxRecDepth 20000 in
theorem gX3_winter_X3_noWide : GoodIn wsX3_winter (wsV RX3 193 RX3 yX3_noWide wsX3_noWide) := goodIn_app (goodIn_of _ (by decide +kernel)) ggX3_winter_X3_noWide
set_option maxRecDepth 20000 in
theorem ggX3_winter_X3_isIn : GoodIn wsX3_winter wsX3_isIn := goodIn_r _ [9] (by decide +kernel) (by decide +kernel)
set_option maxRecDepth 20000 in
theorem gX3_winter_X3_isIn : GoodIn wsX3_winter (va_wsS RX3 43 yX3_isIn wsX3_isIn) := goodIn_app (goodIn_of _ (by decide +kernel)) ggX3_winter_X3_isIn
set_option maxRecDepth 20000 in
theorem ggX3_winter_X3_copies : GoodIn wsX3_winter wsX3_copies := goodIn_r _ [22] (by decide +kernel) (by decide +kernel)
set_option maxRecDepth 20000 in
theorem gX3_winter_X3_copies : GoodIn wsX3_winter (va_wsS RX3 136 yX3_copies wsX3_copies) := goodIn_app (goodIn_of _ (by decide +kernel)) ggX3_winter_X3_copies
set_option maxRecDepth 20000 in
theorem ggX3_winter_X3_has : GoodIn wsX3_winter wsX3_has := goodIn_r _ [25] (by decide +kernel) (by decide +kernel)
set_option maxRecDepth 20000 in
theorem gX3_winter_X3_has : GoodIn wsX3_winter (va_wsS RX3 173 yX3_has wsX3_has) := goodIn_app (goodIn_of _ (by decide +kernel)) ggX3_winter_X3_has
set_option maxRecDepth 20000 in
theorem ggX3_winter_X3_winters : GoodIn wsX3_winter wsX3_winters := goodIn_r _ [28, 29, 30, 5, 31, 32, 33, 34, 35, 36, 37] (by decide +kernel) (by decide +kernel)
set_option maxRecDepth 20000 in
theorem gX3_winter_X3_winters : GoodIn wsX3_winter (va_wsS RX3 197 yX3_winters wsX3_winters) := goodIn_app (goodIn_of _ (by decide +kernel)) ggX3_winter_X3_winters
set_option maxRecDepth 20000 in
theorem ggX3_winter_X3_year : GoodIn wsX3_winter wsX3_year := goodIn_r _ [40, 29, 30, 5, 31, 32, 33, 34, 35, 36, 37, 41, 42, 43, 44, 45, 46, 47, 48, 49] (by decide +kernel) (by decide +kernel)
set_option maxRecDepth 20000 in
theorem gX3_winter_X3_year : GoodIn wsX3_winter (va_wsS RX3 75 yX3_year wsX3_year) := goodIn_app (goodIn_of _ (by decide +kernel)) ggX3_winter_X3_year
set_option maxRecDepth 20000 in
theorem ggX3_winter_X3_isWritten : GoodIn wsX3_winter wsX3_isWritten := goodIn_r _ [52, 47, 48, 5, 49, 29, 30, 31, 32, 33, 34] (by decide +kernel) (by decide +kernel)
set_option maxRecDepth 20000 in
theorem gX3_winter_X3_isWritten : GoodIn wsX3_winter (va_wsS RX3 63 yX3_isWritten wsX3_isWritten) := goodIn_app (goodIn_of _ (by decide +kernel)) ggX3_winter_X3_isWritten
set_option maxRecDepth 20000 in
theorem ggX3_winter_X3_partOf : GoodIn wsX3_winter wsX3_partOf := goodIn_r _ [55, 56, 57, 5, 58] (by decide +kernel) (by decide +kernel)
set_option maxRecDepth 20000 in
theorem gX3_winter_X3_partOf : GoodIn wsX3_winter (va_wsS RX3 201 yX3_partOf wsX3_partOf) := goodIn_app (goodIn_of _ (by decide +kernel)) ggX3_winter_X3_partOf
theorem dX3_winter_0 : decode cX3_winter 0 = .ok (.iload_n 1, 1) := by decide +kernel
theorem dX3_winter_1 : decode cX3_winter 1 = .ok (.invokestatic 127, 3) := by decide +kernel
theorem dX3_winter_4 : decode cX3_winter 4 = .ok (.ifCond .ne 9, 3) := by decide +kernel
theorem dX3_winter_7 : decode cX3_winter 7 = .ok (.aload_n 0, 1) := by decide +kernel
theorem dX3_winter_8 : decode cX3_winter 8 = .ok (.iconst (-1), 1) := by decide +kernel
theorem dX3_winter_9 : decode cX3_winter 9 = .ok (.invokevirtual 193, 3) := by decide +kernel
theorem dX3_winter_12 : decode cX3_winter 12 = .ok (.lreturn, 1) := by decide +kernel
theorem dX3_winter_13 : decode cX3_winter 13 = .ok (.iload_n 2, 1) := by decide +kernel
theorem dX3_winter_14 : decode cX3_winter 14 = .ok (.ifCond .lt 8, 3) := by decide +kernel
theorem dX3_winter_17 : decode cX3_winter 17 = .ok (.iload_n 3, 1) := by decide +kernel
theorem dX3_winter_18 : decode cX3_winter 18 = .ok (.iconst 2, 1) := by decide +kernel
theorem dX3_winter_19 : decode cX3_winter 19 = .ok (.if_icmp .ge 10, 3) := by decide +kernel
theorem dX3_winter_22 : decode cX3_winter 22 = .ok (.aload_n 0, 1) := by decide +kernel
theorem dX3_winter_23 : decode cX3_winter 23 = .ok (.bipush (-4), 2) := by decide +kernel
theorem dX3_winter_25 : decode cX3_winter 25 = .ok (.invokevirtual 193, 3) := by decide +kernel
theorem dX3_winter_28 : decode cX3_winter 28 = .ok (.lreturn, 1) := by decide +kernel
theorem dX3_winter_29 : decode cX3_winter 29 = .ok (.iload_n 2, 1) := by decide +kernel
theorem dX3_winter_30 : decode cX3_winter 30 = .ok (.bipush 7, 2) := by decide +kernel
theorem dX3_winter_32 : decode cX3_winter 32 = .ok (.if_icmp .gt 9, 3) := by decide +kernel
theorem dX3_winter_35 : decode cX3_winter 35 = .ok (.iload_n 3, 1) := by decide +kernel
theorem dX3_winter_36 : decode cX3_winter 36 = .ok (.bipush 20, 2) := by decide +kernel
theorem dX3_winter_38 : decode cX3_winter 38 = .ok (.if_icmp .le 10, 3) := by decide +kernel
theorem dX3_winter_41 : decode cX3_winter 41 = .ok (.aload_n 0, 1) := by decide +kernel
theorem dX3_winter_42 : decode cX3_winter 42 = .ok (.bipush (-6), 2) := by decide +kernel
theorem dX3_winter_44 : decode cX3_winter 44 = .ok (.invokevirtual 193, 3) := by decide +kernel
theorem dX3_winter_47 : decode cX3_winter 47 = .ok (.lreturn, 1) := by decide +kernel
theorem dX3_winter_48 : decode cX3_winter 48 = .ok (.iload 4, 2) := by decide +kernel
theorem dX3_winter_50 : decode cX3_winter 50 = .ok (.iconst 0, 1) := by decide +kernel
theorem dX3_winter_51 : decode cX3_winter 51 = .ok (.iconst 1, 1) := by decide +kernel
theorem dX3_winter_52 : decode cX3_winter 52 = .ok (.invokestatic 43, 3) := by decide +kernel
theorem dX3_winter_55 : decode cX3_winter 55 = .ok (.ifCond .ne 10, 3) := by decide +kernel
theorem dX3_winter_58 : decode cX3_winter 58 = .ok (.aload_n 0, 1) := by decide +kernel
theorem dX3_winter_59 : decode cX3_winter 59 = .ok (.bipush (-2), 2) := by decide +kernel
theorem dX3_winter_61 : decode cX3_winter 61 = .ok (.invokevirtual 193, 3) := by decide +kernel
theorem dX3_winter_64 : decode cX3_winter 64 = .ok (.lreturn, 1) := by decide +kernel
theorem dX3_winter_65 : decode cX3_winter 65 = .ok (.lconst 0, 1) := by decide +kernel
theorem dX3_winter_66 : decode cX3_winter 66 = .ok (.lstore 5, 2) := by decide +kernel
theorem dX3_winter_68 : decode cX3_winter 68 = .ok (.lconst 1, 1) := by decide +kernel
theorem dX3_winter_69 : decode cX3_winter 69 = .ok (.lstore 7, 2) := by decide +kernel
theorem dX3_winter_71 : decode cX3_winter 71 = .ok (.iconst 0, 1) := by decide +kernel
theorem dX3_winter_72 : decode cX3_winter 72 = .ok (.istore 9, 2) := by decide +kernel
theorem dX3_winter_74 : decode cX3_winter 74 = .ok (.iload 9, 2) := by decide +kernel
theorem dX3_winter_76 : decode cX3_winter 76 = .ok (.iload_n 2, 1) := by decide +kernel
theorem dX3_winter_77 : decode cX3_winter 77 = .ok (.if_icmp .ge 16, 3) := by decide +kernel
theorem dX3_winter_80 : decode cX3_winter 80 = .ok (.lload 7, 2) := by decide +kernel
theorem dX3_winter_82 : decode cX3_winter 82 = .ok (.iload_n 3, 1) := by decide +kernel
theorem dX3_winter_83 : decode cX3_winter 83 = .ok (.i2l, 1) := by decide +kernel
theorem dX3_winter_84 : decode cX3_winter 84 = .ok (.lmul, 1) := by decide +kernel
theorem dX3_winter_85 : decode cX3_winter 85 = .ok (.lstore 7, 2) := by decide +kernel
theorem dX3_winter_87 : decode cX3_winter 87 = .ok (.iinc 9 1, 3) := by decide +kernel
theorem dX3_winter_90 : decode cX3_winter 90 = .ok (.goto (-16), 3) := by decide +kernel
theorem dX3_winter_93 : decode cX3_winter 93 = .ok (.iconst 0, 1) := by decide +kernel
theorem dX3_winter_94 : decode cX3_winter 94 = .ok (.istore 9, 2) := by decide +kernel
theorem dX3_winter_96 : decode cX3_winter 96 = .ok (.iload 9, 2) := by decide +kernel
theorem dX3_winter_98 : decode cX3_winter 98 = .ok (.iconst 1, 1) := by decide +kernel
theorem dX3_winter_99 : decode cX3_winter 99 = .ok (.iload_n 2, 1) := by decide +kernel
theorem dX3_winter_100 : decode cX3_winter 100 = .ok (.ishl, 1) := by decide +kernel
theorem dX3_winter_101 : decode cX3_winter 101 = .ok (.if_icmp .ge 109, 3) := by decide +kernel
theorem dX3_winter_104 : decode cX3_winter 104 = .ok (.lconst 1, 1) := by decide +kernel
theorem dX3_winter_105 : decode cX3_winter 105 = .ok (.lstore 10, 2) := by decide +kernel
theorem dX3_winter_107 : decode cX3_winter 107 = .ok (.aload_n 0, 1) := by decide +kernel
theorem dX3_winter_108 : decode cX3_winter 108 = .ok (.getfield 9, 3) := by decide +kernel
theorem dX3_winter_111 : decode cX3_winter 111 = .ok (.aload_n 0, 1) := by decide +kernel
theorem dX3_winter_112 : decode cX3_winter 112 = .ok (.getfield 13, 3) := by decide +kernel
theorem dX3_winter_115 : decode cX3_winter 115 = .ok (.invokestatic 136, 3) := by decide +kernel
theorem dX3_winter_118 : decode cX3_winter 118 = .ok (.iconst 0, 1) := by decide +kernel
theorem dX3_winter_119 : decode cX3_winter 119 = .ok (.istore 12, 2) := by decide +kernel
theorem dX3_winter_121 : decode cX3_winter 121 = .ok (.iload 12, 2) := by decide +kernel
theorem dX3_winter_123 : decode cX3_winter 123 = .ok (.iload_n 2, 1) := by decide +kernel
theorem dX3_winter_124 : decode cX3_winter 124 = .ok (.if_icmp .ge 58, 3) := by decide +kernel
theorem dX3_winter_127 : decode cX3_winter 127 = .ok (.lload 10, 2) := by decide +kernel
theorem dX3_winter_129 : decode cX3_winter 129 = .ok (.iload 9, 2) := by decide +kernel
theorem dX3_winter_131 : decode cX3_winter 131 = .ok (.iload 12, 2) := by decide +kernel
theorem dX3_winter_133 : decode cX3_winter 133 = .ok (.invokestatic 173, 3) := by decide +kernel
theorem dX3_winter_136 : decode cX3_winter 136 = .ok (.ifCond .eq 7, 3) := by decide +kernel
theorem dX3_winter_139 : decode cX3_winter 139 = .ok (.lconst 1, 1) := by decide +kernel
theorem dX3_winter_140 : decode cX3_winter 140 = .ok (.goto 7, 3) := by decide +kernel
theorem dX3_winter_143 : decode cX3_winter 143 = .ok (.iload_n 3, 1) := by decide +kernel
theorem dX3_winter_144 : decode cX3_winter 144 = .ok (.iconst 1, 1) := by decide +kernel
theorem dX3_winter_145 : decode cX3_winter 145 = .ok (.isub, 1) := by decide +kernel
theorem dX3_winter_146 : decode cX3_winter 146 = .ok (.i2l, 1) := by decide +kernel
theorem dX3_winter_147 : decode cX3_winter 147 = .ok (.lmul, 1) := by decide +kernel
theorem dX3_winter_148 : decode cX3_winter 148 = .ok (.lstore 10, 2) := by decide +kernel
theorem dX3_winter_150 : decode cX3_winter 150 = .ok (.iload 9, 2) := by decide +kernel
theorem dX3_winter_152 : decode cX3_winter 152 = .ok (.iload 12, 2) := by decide +kernel
theorem dX3_winter_154 : decode cX3_winter 154 = .ok (.invokestatic 173, 3) := by decide +kernel
theorem dX3_winter_157 : decode cX3_winter 157 = .ok (.ifCond .eq 10, 3) := by decide +kernel
theorem dX3_winter_160 : decode cX3_winter 160 = .ok (.aload_n 0, 1) := by decide +kernel
theorem dX3_winter_161 : decode cX3_winter 161 = .ok (.getfield 13, 3) := by decide +kernel
theorem dX3_winter_164 : decode cX3_winter 164 = .ok (.invokestatic 197, 3) := by decide +kernel
theorem dX3_winter_167 : decode cX3_winter 167 = .ok (.aload_n 0, 1) := by decide +kernel
theorem dX3_winter_168 : decode cX3_winter 168 = .ok (.getfield 13, 3) := by decide +kernel
theorem dX3_winter_171 : decode cX3_winter 171 = .ok (.invokestatic 75, 3) := by decide +kernel
theorem dX3_winter_174 : decode cX3_winter 174 = .ok (.istore 13, 2) := by decide +kernel
theorem dX3_winter_176 : decode cX3_winter 176 = .ok (.iinc 12 1, 3) := by decide +kernel
theorem dX3_winter_179 : decode cX3_winter 179 = .ok (.goto (-58), 3) := by decide +kernel
theorem dX3_winter_182 : decode cX3_winter 182 = .ok (.lload 5, 2) := by decide +kernel
theorem dX3_winter_184 : decode cX3_winter 184 = .ok (.aload_n 0, 1) := by decide +kernel
theorem dX3_winter_185 : decode cX3_winter 185 = .ok (.getfield 13, 3) := by decide +kernel
theorem dX3_winter_188 : decode cX3_winter 188 = .ok (.iload_n 1, 1) := by decide +kernel
theorem dX3_winter_189 : decode cX3_winter 189 = .ok (.invokestatic 63, 3) := by decide +kernel
theorem dX3_winter_192 : decode cX3_winter 192 = .ok (.ifCond .eq 8, 3) := by decide +kernel
theorem dX3_winter_195 : decode cX3_winter 195 = .ok (.lload 10, 2) := by decide +kernel
theorem dX3_winter_197 : decode cX3_winter 197 = .ok (.goto 4, 3) := by decide +kernel
theorem dX3_winter_200 : decode cX3_winter 200 = .ok (.lconst 0, 1) := by decide +kernel
theorem dX3_winter_201 : decode cX3_winter 201 = .ok (.ladd, 1) := by decide +kernel
theorem dX3_winter_202 : decode cX3_winter 202 = .ok (.lstore 5, 2) := by decide +kernel
theorem dX3_winter_204 : decode cX3_winter 204 = .ok (.iinc 9 1, 3) := by decide +kernel
theorem dX3_winter_207 : decode cX3_winter 207 = .ok (.goto (-111), 3) := by decide +kernel
theorem dX3_winter_210 : decode cX3_winter 210 = .ok (.lload 5, 2) := by decide +kernel
theorem dX3_winter_212 : decode cX3_winter 212 = .ok (.lload 7, 2) := by decide +kernel
theorem dX3_winter_214 : decode cX3_winter 214 = .ok (.iload 4, 2) := by decide +kernel
theorem dX3_winter_216 : decode cX3_winter 216 = .ok (.invokestatic 201, 3) := by decide +kernel
theorem dX3_winter_219 : decode cX3_winter 219 = .ok (.lreturn, 1) := by decide +kernel
set_option maxRecDepth 20000 in
theorem ggX3_agesAll_X3_isAlive : GoodIn wsX3_agesAll wsX3_isAlive := goodIn_r _ [4, 5, 6, 3, 7] (by decide +kernel) (by decide +kernel)
set_option maxRecDepth 20000 in
theorem gX3_agesAll_X3_isAlive : GoodIn wsX3_agesAll (va_wsS RX3 55 yX3_isAlive wsX3_isAlive) := goodIn_app (goodIn_of _ (by decide +kernel)) ggX3_agesAll_X3_isAlive
set_option maxRecDepth 20000 in
theorem ggX3_agesAll_X3_of : GoodIn wsX3_agesAll wsX3_of := goodIn_r _ [7] (by decide +kernel) (by decide +kernel)
set_option maxRecDepth 20000 in
theorem gX3_agesAll_X3_of : GoodIn wsX3_agesAll (va_wsS RX3 51 yX3_of wsX3_of) := goodIn_app (goodIn_of _ (by decide +kernel)) ggX3_agesAll_X3_of
theorem dX3_agesAll_0 : decode cX3_agesAll 0 = .ok (.iconst 0, 1) := by decide +kernel
theorem dX3_agesAll_1 : decode cX3_agesAll 1 = .ok (.istore_n 1, 1) := by decide +kernel
theorem dX3_agesAll_2 : decode cX3_agesAll 2 = .ok (.iconst 0, 1) := by decide +kernel
theorem dX3_agesAll_3 : decode cX3_agesAll 3 = .ok (.istore_n 2, 1) := by decide +kernel
theorem dX3_agesAll_4 : decode cX3_agesAll 4 = .ok (.iload_n 2, 1) := by decide +kernel
theorem dX3_agesAll_5 : decode cX3_agesAll 5 = .ok (.aload_n 0, 1) := by decide +kernel
theorem dX3_agesAll_6 : decode cX3_agesAll 6 = .ok (.iconst 0, 1) := by decide +kernel
theorem dX3_agesAll_7 : decode cX3_agesAll 7 = .ok (.iaload, 1) := by decide +kernel
theorem dX3_agesAll_8 : decode cX3_agesAll 8 = .ok (.if_icmp .ge 31, 3) := by decide +kernel
theorem dX3_agesAll_11 : decode cX3_agesAll 11 = .ok (.iload_n 1, 1) := by decide +kernel
theorem dX3_agesAll_12 : decode cX3_agesAll 12 = .ok (.aload_n 0, 1) := by decide +kernel
theorem dX3_agesAll_13 : decode cX3_agesAll 13 = .ok (.iload_n 2, 1) := by decide +kernel
theorem dX3_agesAll_14 : decode cX3_agesAll 14 = .ok (.invokestatic 55, 3) := by decide +kernel
theorem dX3_agesAll_17 : decode cX3_agesAll 17 = .ok (.ifCond .eq 13, 3) := by decide +kernel
theorem dX3_agesAll_20 : decode cX3_agesAll 20 = .ok (.aload_n 0, 1) := by decide +kernel
theorem dX3_agesAll_21 : decode cX3_agesAll 21 = .ok (.iload_n 2, 1) := by decide +kernel
theorem dX3_agesAll_22 : decode cX3_agesAll 22 = .ok (.iconst 2, 1) := by decide +kernel
theorem dX3_agesAll_23 : decode cX3_agesAll 23 = .ok (.invokestatic 51, 3) := by decide +kernel
theorem dX3_agesAll_26 : decode cX3_agesAll 26 = .ok (.iaload, 1) := by decide +kernel
theorem dX3_agesAll_27 : decode cX3_agesAll 27 = .ok (.goto 4, 3) := by decide +kernel
theorem dX3_agesAll_30 : decode cX3_agesAll 30 = .ok (.iconst 0, 1) := by decide +kernel
theorem dX3_agesAll_31 : decode cX3_agesAll 31 = .ok (.iadd, 1) := by decide +kernel
theorem dX3_agesAll_32 : decode cX3_agesAll 32 = .ok (.istore_n 1, 1) := by decide +kernel
theorem dX3_agesAll_33 : decode cX3_agesAll 33 = .ok (.iinc 2 1, 3) := by decide +kernel
theorem dX3_agesAll_36 : decode cX3_agesAll 36 = .ok (.goto (-32), 3) := by decide +kernel
theorem dX3_agesAll_39 : decode cX3_agesAll 39 = .ok (.iload_n 1, 1) := by decide +kernel
theorem dX3_agesAll_40 : decode cX3_agesAll 40 = .ok (.ireturn, 1) := by decide +kernel
set_option maxRecDepth 20000 in
theorem ggX3_mean_X3_isIn : GoodIn wsX3_mean wsX3_isIn := goodIn_r _ [5] (by decide +kernel) (by decide +kernel)
set_option maxRecDepth 20000 in
theorem gX3_mean_X3_isIn : GoodIn wsX3_mean (va_wsS RX3 43 yX3_isIn wsX3_isIn) := goodIn_app (goodIn_of _ (by decide +kernel)) ggX3_mean_X3_isIn
set_option maxRecDepth 20000 in
theorem ggX3_mean_X3_agesAll : GoodIn wsX3_mean wsX3_agesAll := goodIn_r _ [8, 9, 10, 4, 11, 12, 13, 14] (by decide +kernel) (by decide +kernel)
set_option maxRecDepth 20000 in
theorem gX3_mean_X3_agesAll : GoodIn wsX3_mean (va_wsS RX3 205 yX3_agesAll wsX3_agesAll) := goodIn_app (goodIn_of _ (by decide +kernel)) ggX3_mean_X3_agesAll
set_option maxRecDepth 20000 in
theorem ggX3_mean_X3_livingIn : GoodIn wsX3_mean wsX3_livingIn := goodIn_r _ [17, 9, 10, 4, 11, 12, 13, 14] (by decide +kernel) (by decide +kernel)
set_option maxRecDepth 20000 in
theorem gX3_mean_X3_livingIn : GoodIn wsX3_mean (va_wsS RX3 150 yX3_livingIn wsX3_livingIn) := goodIn_app (goodIn_of _ (by decide +kernel)) ggX3_mean_X3_livingIn
set_option maxRecDepth 20000 in
theorem ggX3_mean_X3_bits : GoodIn wsX3_mean wsX3_bits := goodIn_r _ [20] (by decide +kernel) (by decide +kernel)
set_option maxRecDepth 20000 in
theorem gX3_mean_X3_bits : GoodIn wsX3_mean (va_wsS RX3 87 yX3_bits wsX3_bits) := goodIn_app (goodIn_of _ (by decide +kernel)) ggX3_mean_X3_bits
set_option maxRecDepth 20000 in
theorem ggX3_mean_X3_partOf : GoodIn wsX3_mean wsX3_partOf := goodIn_r _ [23, 24, 25, 4, 26] (by decide +kernel) (by decide +kernel)
set_option maxRecDepth 20000 in
theorem gX3_mean_X3_partOf : GoodIn wsX3_mean (va_wsS RX3 201 yX3_partOf wsX3_partOf) := goodIn_app (goodIn_of _ (by decide +kernel)) ggX3_mean_X3_partOf
set_option maxRecDepth 20000 in
theorem ggX3_mean_X3_noWide : GoodIn wsX3_mean wsX3_noWide := goodIn_r _ [30, 31, 32, 33, 34, 4, 35, 36, 37, 38, 39, 40, 41, 42, 43, 44, 45, 46, 47, 48, 49, 50, 51] (by decide +kernel) (by decide +kernel)
set_option maxRecDepth 20000 in
theorem gX3_mean_X3_noWide : GoodIn wsX3_mean (wsV RX3 193 RX3 yX3_noWide wsX3_noWide) := goodIn_app (goodIn_of _ (by decide +kernel)) ggX3_mean_X3_noWide
theorem dX3_mean_0 : decode cX3_mean 0 = .ok (.iload_n 1, 1) := by decide +kernel
theorem dX3_mean_1 : decode cX3_mean 1 = .ok (.iconst 0, 1) := by decide +kernel
theorem dX3_mean_2 : decode cX3_mean 2 = .ok (.iconst 1, 1) := by decide +kernel
theorem dX3_mean_3 : decode cX3_mean 3 = .ok (.invokestatic 43, 3) := by decide +kernel
theorem dX3_mean_6 : decode cX3_mean 6 = .ok (.ifCond .eq 29, 3) := by decide +kernel
theorem dX3_mean_9 : decode cX3_mean 9 = .ok (.aload_n 0, 1) := by decide +kernel
theorem dX3_mean_10 : decode cX3_mean 10 = .ok (.getfield 9, 3) := by decide +kernel
theorem dX3_mean_13 : decode cX3_mean 13 = .ok (.invokestatic 205, 3) := by decide +kernel
theorem dX3_mean_16 : decode cX3_mean 16 = .ok (.i2l, 1) := by decide +kernel
theorem dX3_mean_17 : decode cX3_mean 17 = .ok (.aload_n 0, 1) := by decide +kernel
theorem dX3_mean_18 : decode cX3_mean 18 = .ok (.getfield 9, 3) := by decide +kernel
theorem dX3_mean_21 : decode cX3_mean 21 = .ok (.invokestatic 150, 3) := by decide +kernel
theorem dX3_mean_24 : decode cX3_mean 24 = .ok (.invokestatic 87, 3) := by decide +kernel
theorem dX3_mean_27 : decode cX3_mean 27 = .ok (.i2l, 1) := by decide +kernel
theorem dX3_mean_28 : decode cX3_mean 28 = .ok (.iload_n 1, 1) := by decide +kernel
theorem dX3_mean_29 : decode cX3_mean 29 = .ok (.invokestatic 201, 3) := by decide +kernel
theorem dX3_mean_32 : decode cX3_mean 32 = .ok (.goto 9, 3) := by decide +kernel
theorem dX3_mean_35 : decode cX3_mean 35 = .ok (.aload_n 0, 1) := by decide +kernel
theorem dX3_mean_36 : decode cX3_mean 36 = .ok (.bipush (-2), 2) := by decide +kernel
theorem dX3_mean_38 : decode cX3_mean 38 = .ok (.invokevirtual 193, 3) := by decide +kernel
theorem dX3_mean_41 : decode cX3_mean 41 = .ok (.lreturn, 1) := by decide +kernel
set_option maxRecDepth 20000 in
theorem ggX3_whatIs_X3_isCitizen : GoodIn wsX3_whatIs wsX3_isCitizen := goodIn_r _ [9, 1, 10, 11, 8, 12, 45, 46, 47, 48, 49, 50, 51, 52, 53, 54, 55, 56, 57, 58, 59] (by decide +kernel) (by decide +kernel)
set_option maxRecDepth 20000 in
theorem gX3_whatIs_X3_isCitizen : GoodIn wsX3_whatIs (wsV RX3 47 RX3 yX3_isCitizen wsX3_isCitizen) := goodIn_app (goodIn_of _ (by decide +kernel)) ggX3_whatIs_X3_isCitizen
set_option maxRecDepth 20000 in
theorem ggX3_whatIs_X3_isTopic : GoodIn wsX3_whatIs wsX3_isTopic := goodIn_r _ [15, 10, 11, 8, 12] (by decide +kernel) (by decide +kernel)
set_option maxRecDepth 20000 in
theorem gX3_whatIs_X3_isTopic : GoodIn wsX3_whatIs (va_wsS RX3 127 yX3_isTopic wsX3_isTopic) := goodIn_app (goodIn_of _ (by decide +kernel)) ggX3_whatIs_X3_isTopic
set_option maxRecDepth 20000 in
theorem ggX3_whatIs_X3_isIn : GoodIn wsX3_whatIs wsX3_isIn := goodIn_r _ [12] (by decide +kernel) (by decide +kernel)
set_option maxRecDepth 20000 in
theorem gX3_whatIs_X3_isIn : GoodIn wsX3_whatIs (va_wsS RX3 43 yX3_isIn wsX3_isIn) := goodIn_app (goodIn_of _ (by decide +kernel)) ggX3_whatIs_X3_isIn
set_option maxRecDepth 20000 in
theorem ggX3_whatIs_X3_no : GoodIn wsX3_whatIs wsX3_no := goodIn_r _ [19, 20, 45, 46, 47, 48, 49, 50, 51, 52, 53, 54, 55, 56, 57, 58, 59] (by decide +kernel) (by decide +kernel)
set_option maxRecDepth 20000 in
theorem gX3_whatIs_X3_no : GoodIn wsX3_whatIs (wsV RX3 39 RX3 yX3_no wsX3_no) := goodIn_app (goodIn_of _ (by decide +kernel)) ggX3_whatIs_X3_no
set_option maxRecDepth 20000 in
theorem ggX3_whatIs_X3_copies : GoodIn wsX3_whatIs wsX3_copies := goodIn_r _ [23] (by decide +kernel) (by decide +kernel)
set_option maxRecDepth 20000 in
theorem gX3_whatIs_X3_copies : GoodIn wsX3_whatIs (va_wsS RX3 136 yX3_copies wsX3_copies) := goodIn_app (goodIn_of _ (by decide +kernel)) ggX3_whatIs_X3_copies
set_option maxRecDepth 20000 in
theorem ggX3_whatIs_X3_of : GoodIn wsX3_whatIs wsX3_of := goodIn_r _ [26] (by decide +kernel) (by decide +kernel)
set_option maxRecDepth 20000 in
theorem gX3_whatIs_X3_of : GoodIn wsX3_whatIs (va_wsS RX3 51 yX3_of wsX3_of) := goodIn_app (goodIn_of _ (by decide +kernel)) ggX3_whatIs_X3_of
set_option maxRecDepth 20000 in
theorem ggX3_whatIs_X3_year : GoodIn wsX3_whatIs wsX3_year := goodIn_r _ [29, 30, 31, 8, 32, 24, 25, 26, 33, 34, 35, 36, 37, 38, 39, 40, 41, 42, 43, 44] (by decide +kernel) (by decide +kernel)
set_option maxRecDepth 20000 in
theorem gX3_whatIs_X3_year : GoodIn wsX3_whatIs (va_wsS RX3 75 yX3_year wsX3_year) := goodIn_app (goodIn_of _ (by decide +kernel)) ggX3_whatIs_X3_year
theorem dX3_whatIs_0 : decode cX3_whatIs 0 = .ok (.aload_n 0, 1) := by decide +kernel
theorem dX3_whatIs_1 : decode cX3_whatIs 1 = .ok (.iload_n 1, 1) := by decide +kernel
theorem dX3_whatIs_2 : decode cX3_whatIs 2 = .ok (.invokevirtual 47, 3) := by decide +kernel
theorem dX3_whatIs_5 : decode cX3_whatIs 5 = .ok (.ifCond .eq 10, 3) := by decide +kernel
theorem dX3_whatIs_8 : decode cX3_whatIs 8 = .ok (.iload_n 2, 1) := by decide +kernel
theorem dX3_whatIs_9 : decode cX3_whatIs 9 = .ok (.invokestatic 127, 3) := by decide +kernel
theorem dX3_whatIs_12 : decode cX3_whatIs 12 = .ok (.ifCond .ne 7, 3) := by decide +kernel
theorem dX3_whatIs_15 : decode cX3_whatIs 15 = .ok (.iconst (-1), 1) := by decide +kernel
theorem dX3_whatIs_16 : decode cX3_whatIs 16 = .ok (.goto 18, 3) := by decide +kernel
theorem dX3_whatIs_19 : decode cX3_whatIs 19 = .ok (.iload_n 3, 1) := by decide +kernel
theorem dX3_whatIs_20 : decode cX3_whatIs 20 = .ok (.iconst 0, 1) := by decide +kernel
theorem dX3_whatIs_21 : decode cX3_whatIs 21 = .ok (.iconst 1, 1) := by decide +kernel
theorem dX3_whatIs_22 : decode cX3_whatIs 22 = .ok (.invokestatic 43, 3) := by decide +kernel
theorem dX3_whatIs_25 : decode cX3_whatIs 25 = .ok (.ifCond .eq 7, 3) := by decide +kernel
theorem dX3_whatIs_28 : decode cX3_whatIs 28 = .ok (.iconst 0, 1) := by decide +kernel
theorem dX3_whatIs_29 : decode cX3_whatIs 29 = .ok (.goto 5, 3) := by decide +kernel
theorem dX3_whatIs_32 : decode cX3_whatIs 32 = .ok (.bipush (-2), 2) := by decide +kernel
theorem dX3_whatIs_34 : decode cX3_whatIs 34 = .ok (.istore 4, 2) := by decide +kernel
theorem dX3_whatIs_36 : decode cX3_whatIs 36 = .ok (.iload 4, 2) := by decide +kernel
theorem dX3_whatIs_38 : decode cX3_whatIs 38 = .ok (.ifCond .eq 10, 3) := by decide +kernel
theorem dX3_whatIs_41 : decode cX3_whatIs 41 = .ok (.aload_n 0, 1) := by decide +kernel
theorem dX3_whatIs_42 : decode cX3_whatIs 42 = .ok (.iload 4, 2) := by decide +kernel
theorem dX3_whatIs_44 : decode cX3_whatIs 44 = .ok (.invokevirtual 39, 3) := by decide +kernel
theorem dX3_whatIs_47 : decode cX3_whatIs 47 = .ok (.ireturn, 1) := by decide +kernel
theorem dX3_whatIs_48 : decode cX3_whatIs 48 = .ok (.iconst 0, 1) := by decide +kernel
theorem dX3_whatIs_49 : decode cX3_whatIs 49 = .ok (.istore 5, 2) := by decide +kernel
theorem dX3_whatIs_51 : decode cX3_whatIs 51 = .ok (.iconst 0, 1) := by decide +kernel
theorem dX3_whatIs_52 : decode cX3_whatIs 52 = .ok (.istore 6, 2) := by decide +kernel
theorem dX3_whatIs_54 : decode cX3_whatIs 54 = .ok (.iload 6, 2) := by decide +kernel
theorem dX3_whatIs_56 : decode cX3_whatIs 56 = .ok (.iload_n 3, 1) := by decide +kernel
theorem dX3_whatIs_57 : decode cX3_whatIs 57 = .ok (.ifCond .ne 8, 3) := by decide +kernel
theorem dX3_whatIs_60 : decode cX3_whatIs 60 = .ok (.bipush 6, 2) := by decide +kernel
theorem dX3_whatIs_62 : decode cX3_whatIs 62 = .ok (.goto 5, 3) := by decide +kernel
theorem dX3_whatIs_65 : decode cX3_whatIs 65 = .ok (.bipush 10, 2) := by decide +kernel
theorem dX3_whatIs_67 : decode cX3_whatIs 67 = .ok (.if_icmp .ge 112, 3) := by decide +kernel
theorem dX3_whatIs_70 : decode cX3_whatIs 70 = .ok (.iconst 1, 1) := by decide +kernel
theorem dX3_whatIs_71 : decode cX3_whatIs 71 = .ok (.istore 7, 2) := by decide +kernel
theorem dX3_whatIs_73 : decode cX3_whatIs 73 = .ok (.aload_n 0, 1) := by decide +kernel
theorem dX3_whatIs_74 : decode cX3_whatIs 74 = .ok (.getfield 9, 3) := by decide +kernel
theorem dX3_whatIs_77 : decode cX3_whatIs 77 = .ok (.aload_n 0, 1) := by decide +kernel
theorem dX3_whatIs_78 : decode cX3_whatIs 78 = .ok (.getfield 13, 3) := by decide +kernel
theorem dX3_whatIs_81 : decode cX3_whatIs 81 = .ok (.invokestatic 136, 3) := by decide +kernel
theorem dX3_whatIs_84 : decode cX3_whatIs 84 = .ok (.aload_n 0, 1) := by decide +kernel
theorem dX3_whatIs_85 : decode cX3_whatIs 85 = .ok (.getfield 13, 3) := by decide +kernel
theorem dX3_whatIs_88 : decode cX3_whatIs 88 = .ok (.iload_n 1, 1) := by decide +kernel
theorem dX3_whatIs_89 : decode cX3_whatIs 89 = .ok (.iload_n 3, 1) := by decide +kernel
theorem dX3_whatIs_90 : decode cX3_whatIs 90 = .ok (.invokestatic 51, 3) := by decide +kernel
theorem dX3_whatIs_93 : decode cX3_whatIs 93 = .ok (.iload 6, 2) := by decide +kernel
theorem dX3_whatIs_95 : decode cX3_whatIs 95 = .ok (.iastore, 1) := by decide +kernel
theorem dX3_whatIs_96 : decode cX3_whatIs 96 = .ok (.iconst 0, 1) := by decide +kernel
theorem dX3_whatIs_97 : decode cX3_whatIs 97 = .ok (.istore 8, 2) := by decide +kernel
theorem dX3_whatIs_99 : decode cX3_whatIs 99 = .ok (.iload 8, 2) := by decide +kernel
theorem dX3_whatIs_101 : decode cX3_whatIs 101 = .ok (.aload_n 0, 1) := by decide +kernel
theorem dX3_whatIs_102 : decode cX3_whatIs 102 = .ok (.getfield 208, 3) := by decide +kernel
theorem dX3_whatIs_105 : decode cX3_whatIs 105 = .ok (.if_icmp .ge 50, 3) := by decide +kernel
theorem dX3_whatIs_108 : decode cX3_whatIs 108 = .ok (.iload 7, 2) := by decide +kernel
theorem dX3_whatIs_110 : decode cX3_whatIs 110 = .ok (.aload_n 0, 1) := by decide +kernel
theorem dX3_whatIs_111 : decode cX3_whatIs 111 = .ok (.getfield 13, 3) := by decide +kernel
theorem dX3_whatIs_114 : decode cX3_whatIs 114 = .ok (.iload_n 1, 1) := by decide +kernel
theorem dX3_whatIs_115 : decode cX3_whatIs 115 = .ok (.iconst 4, 1) := by decide +kernel
theorem dX3_whatIs_116 : decode cX3_whatIs 116 = .ok (.iload_n 2, 1) := by decide +kernel
theorem dX3_whatIs_117 : decode cX3_whatIs 117 = .ok (.iadd, 1) := by decide +kernel
theorem dX3_whatIs_118 : decode cX3_whatIs 118 = .ok (.invokestatic 51, 3) := by decide +kernel
theorem dX3_whatIs_121 : decode cX3_whatIs 121 = .ok (.iaload, 1) := by decide +kernel
theorem dX3_whatIs_122 : decode cX3_whatIs 122 = .ok (.aload_n 0, 1) := by decide +kernel
theorem dX3_whatIs_123 : decode cX3_whatIs 123 = .ok (.getfield 25, 3) := by decide +kernel
theorem dX3_whatIs_126 : decode cX3_whatIs 126 = .ok (.iload 8, 2) := by decide +kernel
theorem dX3_whatIs_128 : decode cX3_whatIs 128 = .ok (.iaload, 1) := by decide +kernel
theorem dX3_whatIs_129 : decode cX3_whatIs 129 = .ok (.if_icmp .ne 7, 3) := by decide +kernel
theorem dX3_whatIs_132 : decode cX3_whatIs 132 = .ok (.iconst 1, 1) := by decide +kernel
theorem dX3_whatIs_133 : decode cX3_whatIs 133 = .ok (.goto 4, 3) := by decide +kernel
theorem dX3_whatIs_136 : decode cX3_whatIs 136 = .ok (.iconst 0, 1) := by decide +kernel
theorem dX3_whatIs_137 : decode cX3_whatIs 137 = .ok (.iand, 1) := by decide +kernel
theorem dX3_whatIs_138 : decode cX3_whatIs 138 = .ok (.istore 7, 2) := by decide +kernel
theorem dX3_whatIs_140 : decode cX3_whatIs 140 = .ok (.aload_n 0, 1) := by decide +kernel
theorem dX3_whatIs_141 : decode cX3_whatIs 141 = .ok (.getfield 13, 3) := by decide +kernel
theorem dX3_whatIs_144 : decode cX3_whatIs 144 = .ok (.invokestatic 75, 3) := by decide +kernel
theorem dX3_whatIs_147 : decode cX3_whatIs 147 = .ok (.istore 9, 2) := by decide +kernel
theorem dX3_whatIs_149 : decode cX3_whatIs 149 = .ok (.iinc 8 1, 3) := by decide +kernel
theorem dX3_whatIs_152 : decode cX3_whatIs 152 = .ok (.goto (-53), 3) := by decide +kernel
theorem dX3_whatIs_155 : decode cX3_whatIs 155 = .ok (.iload 5, 2) := by decide +kernel
theorem dX3_whatIs_157 : decode cX3_whatIs 157 = .ok (.iload 7, 2) := by decide +kernel
theorem dX3_whatIs_159 : decode cX3_whatIs 159 = .ok (.ifCond .eq 10, 3) := by decide +kernel
theorem dX3_whatIs_162 : decode cX3_whatIs 162 = .ok (.iconst 1, 1) := by decide +kernel
theorem dX3_whatIs_163 : decode cX3_whatIs 163 = .ok (.iload 6, 2) := by decide +kernel
theorem dX3_whatIs_165 : decode cX3_whatIs 165 = .ok (.ishl, 1) := by decide +kernel
theorem dX3_whatIs_166 : decode cX3_whatIs 166 = .ok (.goto 4, 3) := by decide +kernel
theorem dX3_whatIs_169 : decode cX3_whatIs 169 = .ok (.iconst 0, 1) := by decide +kernel
theorem dX3_whatIs_170 : decode cX3_whatIs 170 = .ok (.ior, 1) := by decide +kernel
theorem dX3_whatIs_171 : decode cX3_whatIs 171 = .ok (.istore 5, 2) := by decide +kernel
theorem dX3_whatIs_173 : decode cX3_whatIs 173 = .ok (.iinc 6 1, 3) := by decide +kernel
theorem dX3_whatIs_176 : decode cX3_whatIs 176 = .ok (.goto (-122), 3) := by decide +kernel
theorem dX3_whatIs_179 : decode cX3_whatIs 179 = .ok (.iload 5, 2) := by decide +kernel
theorem dX3_whatIs_181 : decode cX3_whatIs 181 = .ok (.ireturn, 1) := by decide +kernel
set_option maxRecDepth 20000 in
theorem ggX3_row_X3_wrongBy : GoodIn wsX3_row wsX3_wrongBy := goodIn_r _ [6] (by decide +kernel) (by decide +kernel)
set_option maxRecDepth 20000 in
theorem gX3_row_X3_wrongBy : GoodIn wsX3_row (va_wsS RX3 147 yX3_wrongBy wsX3_wrongBy) := goodIn_app (goodIn_of _ (by decide +kernel)) ggX3_row_X3_wrongBy
set_option maxRecDepth 20000 in
theorem ggX3_row_X3_no : GoodIn wsX3_row wsX3_no := goodIn_r _ [10, 11, 12, 13, 14, 15, 16, 17, 18, 19, 20, 21, 22, 23, 24, 25, 26] (by decide +kernel) (by decide +kernel)
set_option maxRecDepth 20000 in
theorem gX3_row_X3_no : GoodIn wsX3_row (wsV RX3 39 RX3 yX3_no wsX3_no) := goodIn_app (goodIn_of _ (by decide +kernel)) ggX3_row_X3_no
theorem dX3_row_0 : decode cX3_row 0 = .ok (.iload_n 1, 1) := by decide +kernel
theorem dX3_row_1 : decode cX3_row 1 = .ok (.bipush 99, 2) := by decide +kernel
theorem dX3_row_3 : decode cX3_row 3 = .ok (.invokestatic 147, 3) := by decide +kernel
theorem dX3_row_6 : decode cX3_row 6 = .ok (.istore_n 2, 1) := by decide +kernel
theorem dX3_row_7 : decode cX3_row 7 = .ok (.iload_n 2, 1) := by decide +kernel
theorem dX3_row_8 : decode cX3_row 8 = .ok (.ifCond .ne 15, 3) := by decide +kernel
theorem dX3_row_11 : decode cX3_row 11 = .ok (.aload_n 0, 1) := by decide +kernel
theorem dX3_row_12 : decode cX3_row 12 = .ok (.getfield 208, 3) := by decide +kernel
theorem dX3_row_15 : decode cX3_row 15 = .ok (.bipush 16, 2) := by decide +kernel
theorem dX3_row_17 : decode cX3_row 17 = .ok (.if_icmp .ne 6, 3) := by decide +kernel
theorem dX3_row_20 : decode cX3_row 20 = .ok (.bipush (-6), 2) := by decide +kernel
theorem dX3_row_22 : decode cX3_row 22 = .ok (.istore_n 2, 1) := by decide +kernel
theorem dX3_row_23 : decode cX3_row 23 = .ok (.iload_n 2, 1) := by decide +kernel
theorem dX3_row_24 : decode cX3_row 24 = .ok (.ifCond .eq 9, 3) := by decide +kernel
theorem dX3_row_27 : decode cX3_row 27 = .ok (.aload_n 0, 1) := by decide +kernel
theorem dX3_row_28 : decode cX3_row 28 = .ok (.iload_n 2, 1) := by decide +kernel
theorem dX3_row_29 : decode cX3_row 29 = .ok (.invokevirtual 39, 3) := by decide +kernel
theorem dX3_row_32 : decode cX3_row 32 = .ok (.ireturn, 1) := by decide +kernel
theorem dX3_row_33 : decode cX3_row 33 = .ok (.aload_n 0, 1) := by decide +kernel
theorem dX3_row_34 : decode cX3_row 34 = .ok (.getfield 25, 3) := by decide +kernel
theorem dX3_row_37 : decode cX3_row 37 = .ok (.aload_n 0, 1) := by decide +kernel
theorem dX3_row_38 : decode cX3_row 38 = .ok (.getfield 208, 3) := by decide +kernel
theorem dX3_row_41 : decode cX3_row 41 = .ok (.iload_n 1, 1) := by decide +kernel
theorem dX3_row_42 : decode cX3_row 42 = .ok (.iastore, 1) := by decide +kernel
theorem dX3_row_43 : decode cX3_row 43 = .ok (.aload_n 0, 1) := by decide +kernel
theorem dX3_row_44 : decode cX3_row 44 = .ok (.dup, 1) := by decide +kernel
theorem dX3_row_45 : decode cX3_row 45 = .ok (.getfield 208, 3) := by decide +kernel
theorem dX3_row_48 : decode cX3_row 48 = .ok (.iconst 1, 1) := by decide +kernel
theorem dX3_row_49 : decode cX3_row 49 = .ok (.iadd, 1) := by decide +kernel
theorem dX3_row_50 : decode cX3_row 50 = .ok (.putfield 208, 3) := by decide +kernel
theorem dX3_row_53 : decode cX3_row 53 = .ok (.aload_n 0, 1) := by decide +kernel
theorem dX3_row_54 : decode cX3_row 54 = .ok (.getfield 208, 3) := by decide +kernel
theorem dX3_row_57 : decode cX3_row 57 = .ok (.ireturn, 1) := by decide +kernel
set_option maxRecDepth 20000 in
theorem ggX3_judge_X3_copies : GoodIn wsX3_judge wsX3_copies := goodIn_r _ [8] (by decide +kernel) (by decide +kernel)
set_option maxRecDepth 20000 in
theorem gX3_judge_X3_copies : GoodIn wsX3_judge (va_wsS RX3 136 yX3_copies wsX3_copies) := goodIn_app (goodIn_of _ (by decide +kernel)) ggX3_judge_X3_copies
set_option maxRecDepth 20000 in
theorem ggX3_judge_X3_writtenIn : GoodIn wsX3_judge wsX3_writtenIn := goodIn_r _ [11, 12, 13, 7, 14, 15, 16, 17, 18, 19, 20, 21, 22, 23] (by decide +kernel) (by decide +kernel)
set_option maxRecDepth 20000 in
theorem gX3_judge_X3_writtenIn : GoodIn wsX3_judge (va_wsS RX3 83 yX3_writtenIn wsX3_writtenIn) := goodIn_app (goodIn_of _ (by decide +kernel)) ggX3_judge_X3_writtenIn
set_option maxRecDepth 20000 in
theorem ggX3_judge_X3_bits : GoodIn wsX3_judge wsX3_bits := goodIn_r _ [26] (by decide +kernel) (by decide +kernel)
set_option maxRecDepth 20000 in
theorem gX3_judge_X3_bits : GoodIn wsX3_judge (va_wsS RX3 87 yX3_bits wsX3_bits) := goodIn_app (goodIn_of _ (by decide +kernel)) ggX3_judge_X3_bits
set_option maxRecDepth 20000 in
theorem ggX3_judge_X3_year : GoodIn wsX3_judge wsX3_year := goodIn_r _ [29, 18, 19, 7, 20, 21, 22, 23, 30, 31, 32, 33, 34, 35, 36, 37, 38, 15, 16, 17] (by decide +kernel) (by decide +kernel)
set_option maxRecDepth 20000 in
theorem gX3_judge_X3_year : GoodIn wsX3_judge (va_wsS RX3 75 yX3_year wsX3_year) := goodIn_app (goodIn_of _ (by decide +kernel)) ggX3_judge_X3_year
theorem dX3_judge_0 : decode cX3_judge 0 = .ok (.aload_n 0, 1) := by decide +kernel
theorem dX3_judge_1 : decode cX3_judge 1 = .ok (.getfield 208, 3) := by decide +kernel
theorem dX3_judge_4 : decode cX3_judge 4 = .ok (.istore_n 1, 1) := by decide +kernel
theorem dX3_judge_5 : decode cX3_judge 5 = .ok (.aload_n 0, 1) := by decide +kernel
theorem dX3_judge_6 : decode cX3_judge 6 = .ok (.iconst 0, 1) := by decide +kernel
theorem dX3_judge_7 : decode cX3_judge 7 = .ok (.putfield 208, 3) := by decide +kernel
theorem dX3_judge_10 : decode cX3_judge 10 = .ok (.aload_n 0, 1) := by decide +kernel
theorem dX3_judge_11 : decode cX3_judge 11 = .ok (.getfield 9, 3) := by decide +kernel
theorem dX3_judge_14 : decode cX3_judge 14 = .ok (.aload_n 0, 1) := by decide +kernel
theorem dX3_judge_15 : decode cX3_judge 15 = .ok (.getfield 13, 3) := by decide +kernel
theorem dX3_judge_18 : decode cX3_judge 18 = .ok (.invokestatic 136, 3) := by decide +kernel
theorem dX3_judge_21 : decode cX3_judge 21 = .ok (.iconst 0, 1) := by decide +kernel
theorem dX3_judge_22 : decode cX3_judge 22 = .ok (.istore_n 2, 1) := by decide +kernel
theorem dX3_judge_23 : decode cX3_judge 23 = .ok (.iload_n 2, 1) := by decide +kernel
theorem dX3_judge_24 : decode cX3_judge 24 = .ok (.iload_n 1, 1) := by decide +kernel
theorem dX3_judge_25 : decode cX3_judge 25 = .ok (.if_icmp .ge 38, 3) := by decide +kernel
theorem dX3_judge_28 : decode cX3_judge 28 = .ok (.aload_n 0, 1) := by decide +kernel
theorem dX3_judge_29 : decode cX3_judge 29 = .ok (.getfield 13, 3) := by decide +kernel
theorem dX3_judge_32 : decode cX3_judge 32 = .ok (.invokestatic 83, 3) := by decide +kernel
theorem dX3_judge_35 : decode cX3_judge 35 = .ok (.invokestatic 87, 3) := by decide +kernel
theorem dX3_judge_38 : decode cX3_judge 38 = .ok (.aload_n 0, 1) := by decide +kernel
theorem dX3_judge_39 : decode cX3_judge 39 = .ok (.getfield 25, 3) := by decide +kernel
theorem dX3_judge_42 : decode cX3_judge 42 = .ok (.iload_n 2, 1) := by decide +kernel
theorem dX3_judge_43 : decode cX3_judge 43 = .ok (.iaload, 1) := by decide +kernel
theorem dX3_judge_44 : decode cX3_judge 44 = .ok (.if_icmp .eq 5, 3) := by decide +kernel
theorem dX3_judge_47 : decode cX3_judge 47 = .ok (.iload_n 2, 1) := by decide +kernel
theorem dX3_judge_48 : decode cX3_judge 48 = .ok (.ireturn, 1) := by decide +kernel
theorem dX3_judge_49 : decode cX3_judge 49 = .ok (.aload_n 0, 1) := by decide +kernel
theorem dX3_judge_50 : decode cX3_judge 50 = .ok (.getfield 13, 3) := by decide +kernel
theorem dX3_judge_53 : decode cX3_judge 53 = .ok (.invokestatic 75, 3) := by decide +kernel
theorem dX3_judge_56 : decode cX3_judge 56 = .ok (.istore_n 3, 1) := by decide +kernel
theorem dX3_judge_57 : decode cX3_judge 57 = .ok (.iinc 2 1, 3) := by decide +kernel
theorem dX3_judge_60 : decode cX3_judge 60 = .ok (.goto (-37), 3) := by decide +kernel
theorem dX3_judge_63 : decode cX3_judge 63 = .ok (.bipush (-9), 2) := by decide +kernel
theorem dX3_judge_65 : decode cX3_judge 65 = .ok (.ireturn, 1) := by decide +kernel
theorem dX3_clear_0 : decode cX3_clear 0 = .ok (.aload_n 0, 1) := by decide +kernel
theorem dX3_clear_1 : decode cX3_clear 1 = .ok (.getfield 208, 3) := by decide +kernel
theorem dX3_clear_4 : decode cX3_clear 4 = .ok (.istore_n 1, 1) := by decide +kernel
theorem dX3_clear_5 : decode cX3_clear 5 = .ok (.aload_n 0, 1) := by decide +kernel
theorem dX3_clear_6 : decode cX3_clear 6 = .ok (.iconst 0, 1) := by decide +kernel
theorem dX3_clear_7 : decode cX3_clear 7 = .ok (.putfield 208, 3) := by decide +kernel
theorem dX3_clear_10 : decode cX3_clear 10 = .ok (.iload_n 1, 1) := by decide +kernel
theorem dX3_clear_11 : decode cX3_clear 11 = .ok (.ireturn, 1) := by decide +kernel
theorem dX3_drawn_0 : decode cX3_drawn 0 = .ok (.aload_n 0, 1) := by decide +kernel
theorem dX3_drawn_1 : decode cX3_drawn 1 = .ok (.aload_n 0, 1) := by decide +kernel
theorem dX3_drawn_2 : decode cX3_drawn 2 = .ok (.getfield 211, 3) := by decide +kernel
theorem dX3_drawn_5 : decode cX3_drawn 5 = .ok (.ldc 214, 2) := by decide +kernel
theorem dX3_drawn_7 : decode cX3_drawn 7 = .ok (.imul, 1) := by decide +kernel
theorem dX3_drawn_8 : decode cX3_drawn 8 = .ok (.ldc 215, 2) := by decide +kernel
theorem dX3_drawn_10 : decode cX3_drawn 10 = .ok (.iadd, 1) := by decide +kernel
theorem dX3_drawn_11 : decode cX3_drawn 11 = .ok (.putfield 211, 3) := by decide +kernel
theorem dX3_drawn_14 : decode cX3_drawn 14 = .ok (.aload_n 0, 1) := by decide +kernel
theorem dX3_drawn_15 : decode cX3_drawn 15 = .ok (.getfield 211, 3) := by decide +kernel
theorem dX3_drawn_18 : decode cX3_drawn 18 = .ok (.ldc 216, 2) := by decide +kernel
theorem dX3_drawn_20 : decode cX3_drawn 20 = .ok (.iand, 1) := by decide +kernel
theorem dX3_drawn_21 : decode cX3_drawn 21 = .ok (.sipush 256, 3) := by decide +kernel
theorem dX3_drawn_24 : decode cX3_drawn 24 = .ok (.idiv, 1) := by decide +kernel
theorem dX3_drawn_25 : decode cX3_drawn 25 = .ok (.iload_n 1, 1) := by decide +kernel
theorem dX3_drawn_26 : decode cX3_drawn 26 = .ok (.irem, 1) := by decide +kernel
theorem dX3_drawn_27 : decode cX3_drawn 27 = .ok (.ireturn, 1) := by decide +kernel
set_option maxRecDepth 20000 in
theorem ggX3_lots_X3_no : GoodIn wsX3_lots wsX3_no := goodIn_r _ [8, 9, 63, 64, 65, 66, 67, 68, 69, 70, 71, 72, 73, 74, 75, 76, 77] (by decide +kernel) (by decide +kernel)
set_option maxRecDepth 20000 in
theorem gX3_lots_X3_no : GoodIn wsX3_lots (wsV RX3 39 RX3 yX3_no wsX3_no) := goodIn_app (goodIn_of _ (by decide +kernel)) ggX3_lots_X3_no
set_option maxRecDepth 20000 in
theorem ggX3_lots_X3_isIn : GoodIn wsX3_lots wsX3_isIn := goodIn_r _ [12] (by decide +kernel) (by decide +kernel)
set_option maxRecDepth 20000 in
theorem gX3_lots_X3_isIn : GoodIn wsX3_lots (va_wsS RX3 43 yX3_isIn wsX3_isIn) := goodIn_app (goodIn_of _ (by decide +kernel)) ggX3_lots_X3_isIn
set_option maxRecDepth 20000 in
theorem ggX3_lots_X3_copies : GoodIn wsX3_lots wsX3_copies := goodIn_r _ [15] (by decide +kernel) (by decide +kernel)
set_option maxRecDepth 20000 in
theorem gX3_lots_X3_copies : GoodIn wsX3_lots (va_wsS RX3 136 yX3_copies wsX3_copies) := goodIn_app (goodIn_of _ (by decide +kernel)) ggX3_lots_X3_copies
set_option maxRecDepth 20000 in
theorem ggX3_lots_X3_isAlive : GoodIn wsX3_lots wsX3_isAlive := goodIn_r _ [18, 19, 20, 7, 21] (by decide +kernel) (by decide +kernel)
set_option maxRecDepth 20000 in
theorem gX3_lots_X3_isAlive : GoodIn wsX3_lots (va_wsS RX3 55 yX3_isAlive wsX3_isAlive) := goodIn_app (goodIn_of _ (by decide +kernel)) ggX3_lots_X3_isAlive
set_option maxRecDepth 20000 in
theorem ggX3_lots_X3_of : GoodIn wsX3_lots wsX3_of := goodIn_r _ [21] (by decide +kernel) (by decide +kernel)
set_option maxRecDepth 20000 in
theorem gX3_lots_X3_of : GoodIn wsX3_lots (va_wsS RX3 51 yX3_of wsX3_of) := goodIn_app (goodIn_of _ (by decide +kernel)) ggX3_lots_X3_of
set_option maxRecDepth 20000 in
theorem ggX3_lots_X3_drawn : GoodIn wsX3_lots wsX3_drawn := goodIn_r _ [25, 1, 26, 27, 28, 63, 64, 65, 66, 67, 68, 69, 70, 71, 72, 73, 74, 75, 76, 77] (by decide +kernel) (by decide +kernel)
set_option maxRecDepth 20000 in
theorem gX3_lots_X3_drawn : GoodIn wsX3_lots (wsV RX3 217 RX3 yX3_drawn wsX3_drawn) := goodIn_app (goodIn_of _ (by decide +kernel)) ggX3_lots_X3_drawn
set_option maxRecDepth 20000 in
theorem ggX3_lots_X3_writtenBehind : GoodIn wsX3_lots wsX3_writtenBehind := goodIn_r _ [32, 3, 33, 34, 7, 35, 36, 37, 38, 16, 17, 18, 19, 20, 21, 39, 40, 41, 42, 43, 44, 45, 46, 47, 48, 49, 50, 51, 52, 53, 54, 55, 56, 57, 58, 59, 63, 64, 65, 66, 67, 68, 69, 70, 71, 72, 73, 74, 75, 76, 77] (by decide +kernel) (by decide +kernel)
set_option maxRecDepth 20000 in
theorem gX3_lots_X3_writtenBehind : GoodIn wsX3_lots (wsV RX3 167 RX3 yX3_writtenBehind wsX3_writtenBehind) := goodIn_app (goodIn_of _ (by decide +kernel)) ggX3_lots_X3_writtenBehind
set_option maxRecDepth 20000 in
theorem ggX3_lots_X3_livingIn : GoodIn wsX3_lots wsX3_livingIn := goodIn_r _ [62, 16, 17, 7, 18, 19, 20, 21] (by decide +kernel) (by decide +kernel)
set_option maxRecDepth 20000 in
theorem gX3_lots_X3_livingIn : GoodIn wsX3_lots (va_wsS RX3 150 yX3_livingIn wsX3_livingIn) := goodIn_app (goodIn_of _ (by decide +kernel)) ggX3_lots_X3_livingIn
set_option maxRecDepth 20000 in
theorem ggX3_lots_X3_bits : GoodIn wsX3_lots wsX3_bits := goodIn_r _ [59] (by decide +kernel) (by decide +kernel)
set_option maxRecDepth 20000 in
theorem gX3_lots_X3_bits : GoodIn wsX3_lots (va_wsS RX3 87 yX3_bits wsX3_bits) := goodIn_app (goodIn_of _ (by decide +kernel)) ggX3_lots_X3_bits
theorem dX3_lots_0 : decode cX3_lots 0 = .ok (.iload_n 1, 1) := by decide +kernel
theorem dX3_lots_1 : decode cX3_lots 1 = .ok (.iconst 1, 1) := by decide +kernel
theorem dX3_lots_2 : decode cX3_lots 2 = .ok (.if_icmp .ge 10, 3) := by decide +kernel
theorem dX3_lots_5 : decode cX3_lots 5 = .ok (.aload_n 0, 1) := by decide +kernel
theorem dX3_lots_6 : decode cX3_lots 6 = .ok (.bipush (-4), 2) := by decide +kernel
theorem dX3_lots_8 : decode cX3_lots 8 = .ok (.invokevirtual 39, 3) := by decide +kernel
theorem dX3_lots_11 : decode cX3_lots 11 = .ok (.ireturn, 1) := by decide +kernel
theorem dX3_lots_12 : decode cX3_lots 12 = .ok (.iload_n 1, 1) := by decide +kernel
theorem dX3_lots_13 : decode cX3_lots 13 = .ok (.bipush 20, 2) := by decide +kernel
theorem dX3_lots_15 : decode cX3_lots 15 = .ok (.if_icmp .le 10, 3) := by decide +kernel
theorem dX3_lots_18 : decode cX3_lots 18 = .ok (.aload_n 0, 1) := by decide +kernel
theorem dX3_lots_19 : decode cX3_lots 19 = .ok (.bipush (-6), 2) := by decide +kernel
theorem dX3_lots_21 : decode cX3_lots 21 = .ok (.invokevirtual 39, 3) := by decide +kernel
theorem dX3_lots_24 : decode cX3_lots 24 = .ok (.ireturn, 1) := by decide +kernel
theorem dX3_lots_25 : decode cX3_lots 25 = .ok (.iload_n 3, 1) := by decide +kernel
theorem dX3_lots_26 : decode cX3_lots 26 = .ok (.iconst 0, 1) := by decide +kernel
theorem dX3_lots_27 : decode cX3_lots 27 = .ok (.iconst 1, 1) := by decide +kernel
theorem dX3_lots_28 : decode cX3_lots 28 = .ok (.invokestatic 43, 3) := by decide +kernel
theorem dX3_lots_31 : decode cX3_lots 31 = .ok (.ifCond .ne 10, 3) := by decide +kernel
theorem dX3_lots_34 : decode cX3_lots 34 = .ok (.aload_n 0, 1) := by decide +kernel
theorem dX3_lots_35 : decode cX3_lots 35 = .ok (.bipush (-2), 2) := by decide +kernel
theorem dX3_lots_37 : decode cX3_lots 37 = .ok (.invokevirtual 39, 3) := by decide +kernel
theorem dX3_lots_40 : decode cX3_lots 40 = .ok (.ireturn, 1) := by decide +kernel
theorem dX3_lots_41 : decode cX3_lots 41 = .ok (.aload_n 0, 1) := by decide +kernel
theorem dX3_lots_42 : decode cX3_lots 42 = .ok (.iload_n 2, 1) := by decide +kernel
theorem dX3_lots_43 : decode cX3_lots 43 = .ok (.putfield 211, 3) := by decide +kernel
theorem dX3_lots_46 : decode cX3_lots 46 = .ok (.iconst 0, 1) := by decide +kernel
theorem dX3_lots_47 : decode cX3_lots 47 = .ok (.istore 4, 2) := by decide +kernel
theorem dX3_lots_49 : decode cX3_lots 49 = .ok (.iconst 0, 1) := by decide +kernel
theorem dX3_lots_50 : decode cX3_lots 50 = .ok (.istore 5, 2) := by decide +kernel
theorem dX3_lots_52 : decode cX3_lots 52 = .ok (.iload 5, 2) := by decide +kernel
theorem dX3_lots_54 : decode cX3_lots 54 = .ok (.iload_n 1, 1) := by decide +kernel
theorem dX3_lots_55 : decode cX3_lots 55 = .ok (.if_icmp .ge 119, 3) := by decide +kernel
theorem dX3_lots_58 : decode cX3_lots 58 = .ok (.aload_n 0, 1) := by decide +kernel
theorem dX3_lots_59 : decode cX3_lots 59 = .ok (.getfield 9, 3) := by decide +kernel
theorem dX3_lots_62 : decode cX3_lots 62 = .ok (.aload_n 0, 1) := by decide +kernel
theorem dX3_lots_63 : decode cX3_lots 63 = .ok (.getfield 13, 3) := by decide +kernel
theorem dX3_lots_66 : decode cX3_lots 66 = .ok (.invokestatic 136, 3) := by decide +kernel
theorem dX3_lots_69 : decode cX3_lots 69 = .ok (.iconst 0, 1) := by decide +kernel
theorem dX3_lots_70 : decode cX3_lots 70 = .ok (.istore 6, 2) := by decide +kernel
theorem dX3_lots_72 : decode cX3_lots 72 = .ok (.iload 6, 2) := by decide +kernel
theorem dX3_lots_74 : decode cX3_lots 74 = .ok (.aload_n 0, 1) := by decide +kernel
theorem dX3_lots_75 : decode cX3_lots 75 = .ok (.getfield 9, 3) := by decide +kernel
theorem dX3_lots_78 : decode cX3_lots 78 = .ok (.iconst 0, 1) := by decide +kernel
theorem dX3_lots_79 : decode cX3_lots 79 = .ok (.iaload, 1) := by decide +kernel
theorem dX3_lots_80 : decode cX3_lots 80 = .ok (.if_icmp .ge 56, 3) := by decide +kernel
theorem dX3_lots_83 : decode cX3_lots 83 = .ok (.iconst 0, 1) := by decide +kernel
theorem dX3_lots_84 : decode cX3_lots 84 = .ok (.istore 7, 2) := by decide +kernel
theorem dX3_lots_86 : decode cX3_lots 86 = .ok (.iload 7, 2) := by decide +kernel
theorem dX3_lots_88 : decode cX3_lots 88 = .ok (.bipush 8, 2) := by decide +kernel
theorem dX3_lots_90 : decode cX3_lots 90 = .ok (.if_icmp .ge 40, 3) := by decide +kernel
theorem dX3_lots_93 : decode cX3_lots 93 = .ok (.aload_n 0, 1) := by decide +kernel
theorem dX3_lots_94 : decode cX3_lots 94 = .ok (.getfield 9, 3) := by decide +kernel
theorem dX3_lots_97 : decode cX3_lots 97 = .ok (.iload 6, 2) := by decide +kernel
theorem dX3_lots_99 : decode cX3_lots 99 = .ok (.invokestatic 55, 3) := by decide +kernel
theorem dX3_lots_102 : decode cX3_lots 102 = .ok (.ifCond .eq 28, 3) := by decide +kernel
theorem dX3_lots_105 : decode cX3_lots 105 = .ok (.aload_n 0, 1) := by decide +kernel
theorem dX3_lots_106 : decode cX3_lots 106 = .ok (.getfield 13, 3) := by decide +kernel
theorem dX3_lots_109 : decode cX3_lots 109 = .ok (.iload 6, 2) := by decide +kernel
theorem dX3_lots_111 : decode cX3_lots 111 = .ok (.iconst 4, 1) := by decide +kernel
theorem dX3_lots_112 : decode cX3_lots 112 = .ok (.iload 7, 2) := by decide +kernel
theorem dX3_lots_114 : decode cX3_lots 114 = .ok (.iadd, 1) := by decide +kernel
theorem dX3_lots_115 : decode cX3_lots 115 = .ok (.invokestatic 51, 3) := by decide +kernel
theorem dX3_lots_118 : decode cX3_lots 118 = .ok (.aload_n 0, 1) := by decide +kernel
theorem dX3_lots_119 : decode cX3_lots 119 = .ok (.iconst 3, 1) := by decide +kernel
theorem dX3_lots_120 : decode cX3_lots 120 = .ok (.invokevirtual 217, 3) := by decide +kernel
theorem dX3_lots_123 : decode cX3_lots 123 = .ok (.iastore, 1) := by decide +kernel
theorem dX3_lots_124 : decode cX3_lots 124 = .ok (.iinc 7 1, 3) := by decide +kernel
theorem dX3_lots_127 : decode cX3_lots 127 = .ok (.goto (-41), 3) := by decide +kernel
theorem dX3_lots_130 : decode cX3_lots 130 = .ok (.iinc 6 1, 3) := by decide +kernel
theorem dX3_lots_133 : decode cX3_lots 133 = .ok (.goto (-61), 3) := by decide +kernel
theorem dX3_lots_136 : decode cX3_lots 136 = .ok (.aload_n 0, 1) := by decide +kernel
theorem dX3_lots_137 : decode cX3_lots 137 = .ok (.bipush 10, 2) := by decide +kernel
theorem dX3_lots_139 : decode cX3_lots 139 = .ok (.invokevirtual 167, 3) := by decide +kernel
theorem dX3_lots_142 : decode cX3_lots 142 = .ok (.istore 6, 2) := by decide +kernel
theorem dX3_lots_144 : decode cX3_lots 144 = .ok (.iload 4, 2) := by decide +kernel
theorem dX3_lots_146 : decode cX3_lots 146 = .ok (.iload_n 3, 1) := by decide +kernel
theorem dX3_lots_147 : decode cX3_lots 147 = .ok (.ifCond .ne 8, 3) := by decide +kernel
theorem dX3_lots_150 : decode cX3_lots 150 = .ok (.iload 6, 2) := by decide +kernel
theorem dX3_lots_152 : decode cX3_lots 152 = .ok (.goto 13, 3) := by decide +kernel
theorem dX3_lots_155 : decode cX3_lots 155 = .ok (.aload_n 0, 1) := by decide +kernel
theorem dX3_lots_156 : decode cX3_lots 156 = .ok (.getfield 13, 3) := by decide +kernel
theorem dX3_lots_159 : decode cX3_lots 159 = .ok (.invokestatic 150, 3) := by decide +kernel
theorem dX3_lots_162 : decode cX3_lots 162 = .ok (.invokestatic 87, 3) := by decide +kernel
theorem dX3_lots_165 : decode cX3_lots 165 = .ok (.iadd, 1) := by decide +kernel
theorem dX3_lots_166 : decode cX3_lots 166 = .ok (.istore 4, 2) := by decide +kernel
theorem dX3_lots_168 : decode cX3_lots 168 = .ok (.iinc 5 1, 3) := by decide +kernel
theorem dX3_lots_171 : decode cX3_lots 171 = .ok (.goto (-119), 3) := by decide +kernel
theorem dX3_lots_174 : decode cX3_lots 174 = .ok (.iload 4, 2) := by decide +kernel
theorem dX3_lots_176 : decode cX3_lots 176 = .ok (.ireturn, 1) := by decide +kernel
set_option maxRecDepth 20000 in
theorem ggX3_image_X3_copies : GoodIn wsX3_image wsX3_copies := goodIn_r _ [7] (by decide +kernel) (by decide +kernel)
set_option maxRecDepth 20000 in
theorem gX3_image_X3_copies : GoodIn wsX3_image (va_wsS RX3 136 yX3_copies wsX3_copies) := goodIn_app (goodIn_of _ (by decide +kernel)) ggX3_image_X3_copies
theorem dX3_image_0 : decode cX3_image 0 = .ok (.aload_n 0, 1) := by decide +kernel
theorem dX3_image_1 : decode cX3_image 1 = .ok (.getfield 9, 3) := by decide +kernel
theorem dX3_image_4 : decode cX3_image 4 = .ok (.aload_n 0, 1) := by decide +kernel
theorem dX3_image_5 : decode cX3_image 5 = .ok (.getfield 16, 3) := by decide +kernel
theorem dX3_image_8 : decode cX3_image 8 = .ok (.invokestatic 136, 3) := by decide +kernel
theorem dX3_image_11 : decode cX3_image 11 = .ok (.aload_n 0, 1) := by decide +kernel
theorem dX3_image_12 : decode cX3_image 12 = .ok (.iconst 1, 1) := by decide +kernel
theorem dX3_image_13 : decode cX3_image 13 = .ok (.putfield 220, 3) := by decide +kernel
theorem dX3_image_16 : decode cX3_image 16 = .ok (.aload_n 0, 1) := by decide +kernel
theorem dX3_image_17 : decode cX3_image 17 = .ok (.getfield 9, 3) := by decide +kernel
theorem dX3_image_20 : decode cX3_image 20 = .ok (.iconst 1, 1) := by decide +kernel
theorem dX3_image_21 : decode cX3_image 21 = .ok (.iaload, 1) := by decide +kernel
theorem dX3_image_22 : decode cX3_image 22 = .ok (.ireturn, 1) := by decide +kernel
set_option maxRecDepth 20000 in
theorem ggX3_on_X3_no : GoodIn wsX3_on wsX3_no := goodIn_r _ [8, 9, 13, 14, 15, 16, 17, 18, 19, 20, 21, 22, 23, 24, 25, 26, 27] (by decide +kernel) (by decide +kernel)
set_option maxRecDepth 20000 in
theorem gX3_on_X3_no : GoodIn wsX3_on (wsV RX3 39 RX3 yX3_no wsX3_no) := goodIn_app (goodIn_of _ (by decide +kernel)) ggX3_on_X3_no
set_option maxRecDepth 20000 in
theorem ggX3_on_X3_copies : GoodIn wsX3_on wsX3_copies := goodIn_r _ [12] (by decide +kernel) (by decide +kernel)
set_option maxRecDepth 20000 in
theorem gX3_on_X3_copies : GoodIn wsX3_on (va_wsS RX3 136 yX3_copies wsX3_copies) := goodIn_app (goodIn_of _ (by decide +kernel)) ggX3_on_X3_copies
theorem dX3_on_0 : decode cX3_on 0 = .ok (.aload_n 0, 1) := by decide +kernel
theorem dX3_on_1 : decode cX3_on 1 = .ok (.getfield 220, 3) := by decide +kernel
theorem dX3_on_4 : decode cX3_on 4 = .ok (.ifCond .ne 10, 3) := by decide +kernel
theorem dX3_on_7 : decode cX3_on 7 = .ok (.aload_n 0, 1) := by decide +kernel
theorem dX3_on_8 : decode cX3_on 8 = .ok (.bipush (-3), 2) := by decide +kernel
theorem dX3_on_10 : decode cX3_on 10 = .ok (.invokevirtual 39, 3) := by decide +kernel
theorem dX3_on_13 : decode cX3_on 13 = .ok (.ireturn, 1) := by decide +kernel
theorem dX3_on_14 : decode cX3_on 14 = .ok (.aload_n 0, 1) := by decide +kernel
theorem dX3_on_15 : decode cX3_on 15 = .ok (.getfield 16, 3) := by decide +kernel
theorem dX3_on_18 : decode cX3_on 18 = .ok (.aload_n 0, 1) := by decide +kernel
theorem dX3_on_19 : decode cX3_on 19 = .ok (.getfield 9, 3) := by decide +kernel
theorem dX3_on_22 : decode cX3_on 22 = .ok (.invokestatic 136, 3) := by decide +kernel
theorem dX3_on_25 : decode cX3_on 25 = .ok (.aload_n 0, 1) := by decide +kernel
theorem dX3_on_26 : decode cX3_on 26 = .ok (.getfield 9, 3) := by decide +kernel
theorem dX3_on_29 : decode cX3_on 29 = .ok (.iconst 1, 1) := by decide +kernel
theorem dX3_on_30 : decode cX3_on 30 = .ok (.iaload, 1) := by decide +kernel
theorem dX3_on_31 : decode cX3_on 31 = .ok (.ireturn, 1) := by decide +kernel
set_option maxRecDepth 20000 in
theorem ggX3_count_X3_isIn : GoodIn wsX3_count wsX3_isIn := goodIn_r _ [8] (by decide +kernel) (by decide +kernel)
set_option maxRecDepth 20000 in
theorem gX3_count_X3_isIn : GoodIn wsX3_count (va_wsS RX3 43 yX3_isIn wsX3_isIn) := goodIn_app (goodIn_of _ (by decide +kernel)) ggX3_count_X3_isIn
set_option maxRecDepth 20000 in
theorem ggX3_count_X3_livingIn : GoodIn wsX3_count wsX3_livingIn := goodIn_r _ [11, 12, 13, 7, 14, 15, 16, 17] (by decide +kernel) (by decide +kernel)
set_option maxRecDepth 20000 in
theorem gX3_count_X3_livingIn : GoodIn wsX3_count (va_wsS RX3 150 yX3_livingIn wsX3_livingIn) := goodIn_app (goodIn_of _ (by decide +kernel)) ggX3_count_X3_livingIn
set_option maxRecDepth 20000 in
theorem ggX3_count_X3_bits : GoodIn wsX3_count wsX3_bits := goodIn_r _ [20] (by decide +kernel) (by decide +kernel)
set_option maxRecDepth 20000 in
theorem gX3_count_X3_bits : GoodIn wsX3_count (va_wsS RX3 87 yX3_bits wsX3_bits) := goodIn_app (goodIn_of _ (by decide +kernel)) ggX3_count_X3_bits
set_option maxRecDepth 20000 in
theorem ggX3_count_X3_writtenIn : GoodIn wsX3_count wsX3_writtenIn := goodIn_r _ [23, 24, 25, 7, 26, 27, 28, 29, 12, 13, 14, 15, 16, 17] (by decide +kernel) (by decide +kernel)
set_option maxRecDepth 20000 in
theorem gX3_count_X3_writtenIn : GoodIn wsX3_count (va_wsS RX3 83 yX3_writtenIn wsX3_writtenIn) := goodIn_app (goodIn_of _ (by decide +kernel)) ggX3_count_X3_writtenIn
set_option maxRecDepth 20000 in
theorem ggX3_count_X3_isAlive : GoodIn wsX3_count wsX3_isAlive := goodIn_r _ [14, 15, 16, 7, 17] (by decide +kernel) (by decide +kernel)
set_option maxRecDepth 20000 in
theorem gX3_count_X3_isAlive : GoodIn wsX3_count (va_wsS RX3 55 yX3_isAlive wsX3_isAlive) := goodIn_app (goodIn_of _ (by decide +kernel)) ggX3_count_X3_isAlive
set_option maxRecDepth 20000 in
theorem ggX3_count_X3_wordsOf : GoodIn wsX3_count wsX3_wordsOf := goodIn_r _ [32, 15, 16, 7, 17] (by decide +kernel) (by decide +kernel)
set_option maxRecDepth 20000 in
theorem gX3_count_X3_wordsOf : GoodIn wsX3_count (va_wsS RX3 143 yX3_wordsOf wsX3_wordsOf) := goodIn_app (goodIn_of _ (by decide +kernel)) ggX3_count_X3_wordsOf
set_option maxRecDepth 20000 in
theorem ggX3_count_X3_agesAll : GoodIn wsX3_count wsX3_agesAll := goodIn_r _ [35, 12, 13, 7, 14, 15, 16, 17] (by decide +kernel) (by decide +kernel)
set_option maxRecDepth 20000 in
theorem gX3_count_X3_agesAll : GoodIn wsX3_count (va_wsS RX3 205 yX3_agesAll wsX3_agesAll) := goodIn_app (goodIn_of _ (by decide +kernel)) ggX3_count_X3_agesAll
theorem dX3_count_0 : decode cX3_count 0 = .ok (.iload_n 1, 1) := by decide +kernel
theorem dX3_count_1 : decode cX3_count 1 = .ok (.bipush 11, 2) := by decide +kernel
theorem dX3_count_3 : decode cX3_count 3 = .ok (.bipush 16, 2) := by decide +kernel
theorem dX3_count_5 : decode cX3_count 5 = .ok (.invokestatic 43, 3) := by decide +kernel
theorem dX3_count_8 : decode cX3_count 8 = .ok (.ifCond .eq 13, 3) := by decide +kernel
theorem dX3_count_11 : decode cX3_count 11 = .ok (.aload_n 0, 1) := by decide +kernel
theorem dX3_count_12 : decode cX3_count 12 = .ok (.getfield 28, 3) := by decide +kernel
theorem dX3_count_15 : decode cX3_count 15 = .ok (.iload_n 1, 1) := by decide +kernel
theorem dX3_count_16 : decode cX3_count 16 = .ok (.bipush 10, 2) := by decide +kernel
theorem dX3_count_18 : decode cX3_count 18 = .ok (.isub, 1) := by decide +kernel
theorem dX3_count_19 : decode cX3_count 19 = .ok (.iaload, 1) := by decide +kernel
theorem dX3_count_20 : decode cX3_count 20 = .ok (.ireturn, 1) := by decide +kernel
theorem dX3_count_21 : decode cX3_count 21 = .ok (.iconst 0, 1) := by decide +kernel
theorem dX3_count_22 : decode cX3_count 22 = .ok (.istore_n 2, 1) := by decide +kernel
theorem dX3_count_23 : decode cX3_count 23 = .ok (.iload_n 1, 1) := by decide +kernel
theorem dX3_count_24 : decode cX3_count 24 = .ok (.tableswitch 141 0 7 #[48, 48, 55, 66, 77, 123, 131, 136], 48) := by decide +kernel
theorem dX3_count_72 : decode cX3_count 72 = .ok (.aload_n 0, 1) := by decide +kernel
theorem dX3_count_73 : decode cX3_count 73 = .ok (.getfield 9, 3) := by decide +kernel
theorem dX3_count_76 : decode cX3_count 76 = .ok (.iload_n 1, 1) := by decide +kernel
theorem dX3_count_77 : decode cX3_count 77 = .ok (.iaload, 1) := by decide +kernel
theorem dX3_count_78 : decode cX3_count 78 = .ok (.ireturn, 1) := by decide +kernel
theorem dX3_count_79 : decode cX3_count 79 = .ok (.aload_n 0, 1) := by decide +kernel
theorem dX3_count_80 : decode cX3_count 80 = .ok (.getfield 9, 3) := by decide +kernel
theorem dX3_count_83 : decode cX3_count 83 = .ok (.invokestatic 150, 3) := by decide +kernel
theorem dX3_count_86 : decode cX3_count 86 = .ok (.invokestatic 87, 3) := by decide +kernel
theorem dX3_count_89 : decode cX3_count 89 = .ok (.ireturn, 1) := by decide +kernel
theorem dX3_count_90 : decode cX3_count 90 = .ok (.aload_n 0, 1) := by decide +kernel
theorem dX3_count_91 : decode cX3_count 91 = .ok (.getfield 9, 3) := by decide +kernel
theorem dX3_count_94 : decode cX3_count 94 = .ok (.invokestatic 83, 3) := by decide +kernel
theorem dX3_count_97 : decode cX3_count 97 = .ok (.invokestatic 87, 3) := by decide +kernel
theorem dX3_count_100 : decode cX3_count 100 = .ok (.ireturn, 1) := by decide +kernel
theorem dX3_count_101 : decode cX3_count 101 = .ok (.iconst 0, 1) := by decide +kernel
theorem dX3_count_102 : decode cX3_count 102 = .ok (.istore_n 3, 1) := by decide +kernel
theorem dX3_count_103 : decode cX3_count 103 = .ok (.iload_n 3, 1) := by decide +kernel
theorem dX3_count_104 : decode cX3_count 104 = .ok (.aload_n 0, 1) := by decide +kernel
theorem dX3_count_105 : decode cX3_count 105 = .ok (.getfield 9, 3) := by decide +kernel
theorem dX3_count_108 : decode cX3_count 108 = .ok (.iconst 0, 1) := by decide +kernel
theorem dX3_count_109 : decode cX3_count 109 = .ok (.iaload, 1) := by decide +kernel
theorem dX3_count_110 : decode cX3_count 110 = .ok (.if_icmp .ge 35, 3) := by decide +kernel
theorem dX3_count_113 : decode cX3_count 113 = .ok (.iload_n 2, 1) := by decide +kernel
theorem dX3_count_114 : decode cX3_count 114 = .ok (.aload_n 0, 1) := by decide +kernel
theorem dX3_count_115 : decode cX3_count 115 = .ok (.getfield 9, 3) := by decide +kernel
theorem dX3_count_118 : decode cX3_count 118 = .ok (.iload_n 3, 1) := by decide +kernel
theorem dX3_count_119 : decode cX3_count 119 = .ok (.invokestatic 55, 3) := by decide +kernel
theorem dX3_count_122 : decode cX3_count 122 = .ok (.ifCond .eq 14, 3) := by decide +kernel
theorem dX3_count_125 : decode cX3_count 125 = .ok (.aload_n 0, 1) := by decide +kernel
theorem dX3_count_126 : decode cX3_count 126 = .ok (.getfield 9, 3) := by decide +kernel
theorem dX3_count_129 : decode cX3_count 129 = .ok (.iload_n 3, 1) := by decide +kernel
theorem dX3_count_130 : decode cX3_count 130 = .ok (.invokestatic 143, 3) := by decide +kernel
theorem dX3_count_133 : decode cX3_count 133 = .ok (.goto 4, 3) := by decide +kernel
theorem dX3_count_136 : decode cX3_count 136 = .ok (.iconst 0, 1) := by decide +kernel
theorem dX3_count_137 : decode cX3_count 137 = .ok (.iadd, 1) := by decide +kernel
theorem dX3_count_138 : decode cX3_count 138 = .ok (.istore_n 2, 1) := by decide +kernel
theorem dX3_count_139 : decode cX3_count 139 = .ok (.iinc 3 1, 3) := by decide +kernel
theorem dX3_count_142 : decode cX3_count 142 = .ok (.goto (-39), 3) := by decide +kernel
theorem dX3_count_145 : decode cX3_count 145 = .ok (.iload_n 2, 1) := by decide +kernel
theorem dX3_count_146 : decode cX3_count 146 = .ok (.ireturn, 1) := by decide +kernel
theorem dX3_count_147 : decode cX3_count 147 = .ok (.aload_n 0, 1) := by decide +kernel
theorem dX3_count_148 : decode cX3_count 148 = .ok (.getfield 9, 3) := by decide +kernel
theorem dX3_count_151 : decode cX3_count 151 = .ok (.invokestatic 205, 3) := by decide +kernel
theorem dX3_count_154 : decode cX3_count 154 = .ok (.ireturn, 1) := by decide +kernel
theorem dX3_count_155 : decode cX3_count 155 = .ok (.aload_n 0, 1) := by decide +kernel
theorem dX3_count_156 : decode cX3_count 156 = .ok (.getfield 208, 3) := by decide +kernel
theorem dX3_count_159 : decode cX3_count 159 = .ok (.ireturn, 1) := by decide +kernel
theorem dX3_count_160 : decode cX3_count 160 = .ok (.aload_n 0, 1) := by decide +kernel
theorem dX3_count_161 : decode cX3_count 161 = .ok (.getfield 90, 3) := by decide +kernel
theorem dX3_count_164 : decode cX3_count 164 = .ok (.ireturn, 1) := by decide +kernel
theorem dX3_count_165 : decode cX3_count 165 = .ok (.bipush (-9), 2) := by decide +kernel
theorem dX3_count_167 : decode cX3_count 167 = .ok (.ireturn, 1) := by decide +kernel
