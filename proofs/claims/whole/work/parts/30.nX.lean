set_option maxRecDepth 20000 in
theorem ggX2_init_X1_init : GoodIn wsX2_init wsX1_init := goodIn_r _ [22, 23, 2, 3, 15, 24, 25, 26, 27, 28, 29, 30, 31, 38, 39, 40, 41, 42, 43, 44, 45] (by decide +kernel) (by decide +kernel)
set_option maxRecDepth 20000 in
theorem gX2_init_X1_init : GoodIn wsX2_init (wsX1_init) := ggX2_init_X1_init
set_option maxRecDepth 20000 in
theorem ggX2_init_X0_init : GoodIn wsX2_init wsX0_init := goodIn_r _ [34, 35, 2, 3, 15, 36, 37, 55, 56] (by decide +kernel) (by decide +kernel)
set_option maxRecDepth 20000 in
theorem gX2_init_X0_init : GoodIn wsX2_init (wsX0_init) := ggX2_init_X0_init
theorem dX2_init_0 : decode cX2_init 0 = .ok (.aload_n 0, 1) := by decide +kernel
theorem dX2_init_1 : decode cX2_init 1 = .ok (.invokespecial 1, 3) := by decide +kernel
theorem dX2_init_4 : decode cX2_init 4 = .ok (.aload_n 0, 1) := by decide +kernel
theorem dX2_init_5 : decode cX2_init 5 = .ok (.new 7, 3) := by decide +kernel
theorem dX2_init_8 : decode cX2_init 8 = .ok (.dup, 1) := by decide +kernel
theorem dX2_init_9 : decode cX2_init 9 = .ok (.invokespecial 9, 3) := by decide +kernel
theorem dX2_init_12 : decode cX2_init 12 = .ok (.putfield 10, 3) := by decide +kernel
theorem dX2_init_15 : decode cX2_init 15 = .ok (.aload_n 0, 1) := by decide +kernel
theorem dX2_init_16 : decode cX2_init 16 = .ok (.new 7, 3) := by decide +kernel
theorem dX2_init_19 : decode cX2_init 19 = .ok (.dup, 1) := by decide +kernel
theorem dX2_init_20 : decode cX2_init 20 = .ok (.invokespecial 9, 3) := by decide +kernel
theorem dX2_init_23 : decode cX2_init 23 = .ok (.putfield 16, 3) := by decide +kernel
theorem dX2_init_26 : decode cX2_init 26 = .ok (.aload_n 0, 1) := by decide +kernel
theorem dX2_init_27 : decode cX2_init 27 = .ok (.new 7, 3) := by decide +kernel
theorem dX2_init_30 : decode cX2_init 30 = .ok (.dup, 1) := by decide +kernel
theorem dX2_init_31 : decode cX2_init 31 = .ok (.invokespecial 9, 3) := by decide +kernel
theorem dX2_init_34 : decode cX2_init 34 = .ok (.putfield 19, 3) := by decide +kernel
theorem dX2_init_37 : decode cX2_init 37 = .ok (.aload_n 0, 1) := by decide +kernel
theorem dX2_init_38 : decode cX2_init 38 = .ok (.iconst 0, 1) := by decide +kernel
theorem dX2_init_39 : decode cX2_init 39 = .ok (.putfield 22, 3) := by decide +kernel
theorem dX2_init_42 : decode cX2_init 42 = .ok (.aload_n 0, 1) := by decide +kernel
theorem dX2_init_43 : decode cX2_init 43 = .ok (.new 26, 3) := by decide +kernel
theorem dX2_init_46 : decode cX2_init 46 = .ok (.dup, 1) := by decide +kernel
theorem dX2_init_47 : decode cX2_init 47 = .ok (.invokespecial 28, 3) := by decide +kernel
theorem dX2_init_50 : decode cX2_init 50 = .ok (.putfield 29, 3) := by decide +kernel
theorem dX2_init_53 : decode cX2_init 53 = .ok (.aload_n 0, 1) := by decide +kernel
theorem dX2_init_54 : decode cX2_init 54 = .ok (.bipush 16, 2) := by decide +kernel
theorem dX2_init_56 : decode cX2_init 56 = .ok (.newarray .int, 2) := by decide +kernel
theorem dX2_init_58 : decode cX2_init 58 = .ok (.putfield 33, 3) := by decide +kernel
theorem dX2_init_61 : decode cX2_init 61 = .ok (.aload_n 0, 1) := by decide +kernel
theorem dX2_init_62 : decode cX2_init 62 = .ok (.iconst 0, 1) := by decide +kernel
theorem dX2_init_63 : decode cX2_init 63 = .ok (.putfield 37, 3) := by decide +kernel
theorem dX2_init_66 : decode cX2_init 66 = .ok (.aload_n 0, 1) := by decide +kernel
theorem dX2_init_67 : decode cX2_init 67 = .ok (.bipush 7, 2) := by decide +kernel
theorem dX2_init_69 : decode cX2_init 69 = .ok (.newarray .int, 2) := by decide +kernel
theorem dX2_init_71 : decode cX2_init 71 = .ok (.putfield 41, 3) := by decide +kernel
theorem dX2_init_74 : decode cX2_init 74 = .ok (.aload_n 0, 1) := by decide +kernel
theorem dX2_init_75 : decode cX2_init 75 = .ok (.bipush 64, 2) := by decide +kernel
theorem dX2_init_77 : decode cX2_init 77 = .ok (.newarray .int, 2) := by decide +kernel
theorem dX2_init_79 : decode cX2_init 79 = .ok (.putfield 44, 3) := by decide +kernel
theorem dX2_init_82 : decode cX2_init 82 = .ok (.return_, 1) := by decide +kernel
set_option maxRecDepth 20000 in
theorem ggX2_letter_X2_refuse : GoodIn wsX2_letter wsX2_refuse := goodIn_r _ [6, 7, 14, 15, 16, 17, 18, 19, 20, 21, 22] (by decide +kernel) (by decide +kernel)
set_option maxRecDepth 20000 in
theorem gX2_letter_X2_refuse : GoodIn wsX2_letter (wsV RX2 47 RX2 yX2_refuse wsX2_refuse) := goodIn_app (goodIn_of _ (by decide +kernel)) ggX2_letter_X2_refuse
set_option maxRecDepth 20000 in
theorem ggX2_letter_X0_append : GoodIn wsX2_letter wsX0_append := goodIn_r _ [11, 12, 13, 23, 24] (by decide +kernel) (by decide +kernel)
set_option maxRecDepth 20000 in
theorem gX2_letter_X0_append_n54 : GoodIn wsX2_letter (wsX0_append) := ggX2_letter_X0_append
theorem dX2_letter_0 : decode cX2_letter 0 = .ok (.iload_n 1, 1) := by decide +kernel
theorem dX2_letter_1 : decode cX2_letter 1 = .ok (.ifCond .ge 10, 3) := by decide +kernel
theorem dX2_letter_4 : decode cX2_letter 4 = .ok (.aload_n 0, 1) := by decide +kernel
theorem dX2_letter_5 : decode cX2_letter 5 = .ok (.bipush (-4), 2) := by decide +kernel
theorem dX2_letter_7 : decode cX2_letter 7 = .ok (.invokevirtual 47, 3) := by decide +kernel
theorem dX2_letter_10 : decode cX2_letter 10 = .ok (.ireturn, 1) := by decide +kernel
theorem dX2_letter_11 : decode cX2_letter 11 = .ok (.iload_n 1, 1) := by decide +kernel
theorem dX2_letter_12 : decode cX2_letter 12 = .ok (.sipush 255, 3) := by decide +kernel
theorem dX2_letter_15 : decode cX2_letter 15 = .ok (.if_icmp .gt 15, 3) := by decide +kernel
theorem dX2_letter_18 : decode cX2_letter 18 = .ok (.aload_n 0, 1) := by decide +kernel
theorem dX2_letter_19 : decode cX2_letter 19 = .ok (.getfield 29, 3) := by decide +kernel
theorem dX2_letter_22 : decode cX2_letter 22 = .ok (.getfield 51, 3) := by decide +kernel
theorem dX2_letter_25 : decode cX2_letter 25 = .ok (.bipush 96, 2) := by decide +kernel
theorem dX2_letter_27 : decode cX2_letter 27 = .ok (.if_icmp .lt 10, 3) := by decide +kernel
theorem dX2_letter_30 : decode cX2_letter 30 = .ok (.aload_n 0, 1) := by decide +kernel
theorem dX2_letter_31 : decode cX2_letter 31 = .ok (.bipush (-6), 2) := by decide +kernel
theorem dX2_letter_33 : decode cX2_letter 33 = .ok (.invokevirtual 47, 3) := by decide +kernel
theorem dX2_letter_36 : decode cX2_letter 36 = .ok (.ireturn, 1) := by decide +kernel
theorem dX2_letter_37 : decode cX2_letter 37 = .ok (.aload_n 0, 1) := by decide +kernel
theorem dX2_letter_38 : decode cX2_letter 38 = .ok (.getfield 29, 3) := by decide +kernel
theorem dX2_letter_41 : decode cX2_letter 41 = .ok (.iload_n 1, 1) := by decide +kernel
theorem dX2_letter_42 : decode cX2_letter 42 = .ok (.invokevirtual 54, 3) := by decide +kernel
theorem dX2_letter_45 : decode cX2_letter 45 = .ok (.ireturn, 1) := by decide +kernel
set_option maxRecDepth 20000 in
theorem ggX2_town_X0_spelling : GoodIn wsX2_town wsX0_spelling := goodIn_r _ [7, 8, 9, 10, 11, 5, 12, 13, 14, 15, 16, 17, 18, 19, 20, 21, 22, 23, 24, 25, 26, 27, 28, 29, 30, 31, 32, 33, 34, 35, 36, 37, 38, 39, 40, 41, 42, 43, 44, 45, 46, 47, 48, 49, 50, 51, 52, 53, 54, 55, 56, 57, 58, 59, 60, 61, 62, 63, 64, 65, 66, 67, 68, 69, 70, 71, 72, 73, 74, 75, 76, 77, 78, 198, 199] (by decide +kernel) (by decide +kernel)
set_option maxRecDepth 20000 in
theorem gX2_town_X0_spelling_n57 : GoodIn wsX2_town (wsX0_spelling) := ggX2_town_X0_spelling
set_option maxRecDepth 20000 in
theorem ggX2_town_X1_become : GoodIn wsX2_town wsX1_become := goodIn_r _ [82, 83, 84, 85, 86, 87, 88, 89, 90, 91, 92, 93, 94, 200, 201, 202, 203, 204, 205, 206, 207] (by decide +kernel) (by decide +kernel)
set_option maxRecDepth 20000 in
theorem gX2_town_X1_become_n61 : GoodIn wsX2_town (wsX1_become) := ggX2_town_X1_become
set_option maxRecDepth 20000 in
theorem ggX2_town_X0_tellStatement : GoodIn wsX2_town wsX0_tellStatement := goodIn_r _ [97, 13, 14, 15, 5, 16, 8, 17, 18, 19, 20, 21, 22, 23, 24, 25, 26, 27, 28, 29, 30, 31, 32, 33, 34, 35, 36, 37, 38, 39, 40, 41, 42, 43, 44, 45, 46, 47, 48, 49, 50, 51, 52, 53, 54, 55, 56, 57, 58, 59, 60, 61, 62, 63, 64, 65, 66, 67, 68, 69, 70, 98, 99, 100, 101, 102, 103, 104, 105, 106, 80, 107, 108, 92, 83, 88, 89, 93, 109, 110, 111, 112, 113, 114, 115, 116, 117, 118, 119, 120, 121, 122, 90, 91, 123, 124, 125, 126, 75, 76, 77, 78, 127, 128, 129, 130, 131, 132, 133, 134, 135, 136, 94, 137, 138, 139, 140, 141, 142, 143, 144, 145, 146, 147, 148, 149, 150, 151, 152, 153, 154, 155, 156, 157, 158, 159, 160, 161, 162, 163, 164, 165, 166, 167, 168, 169, 170, 171, 172, 173, 174, 175, 176, 177, 178, 179, 180, 181, 182, 183, 184, 185, 186, 187, 188, 198, 199, 200, 201, 202, 203, 204, 205, 206, 207] (by decide +kernel) (by decide +kernel)
set_option maxRecDepth 20000 in
theorem gX2_town_X0_tellStatement_n65 : GoodIn wsX2_town (wsX0_tellStatement) := ggX2_town_X0_tellStatement
set_option maxRecDepth 20000 in
theorem ggX2_town_X0_behindStatement : GoodIn wsX2_town wsX0_behindStatement := goodIn_r _ [12, 13, 14, 15, 5, 16, 8, 17, 18, 19, 20, 21, 22, 23, 24, 25, 26, 27, 28, 29, 30, 31, 32, 33, 34, 35, 36, 37, 38, 39, 40, 41, 42, 43, 44, 45, 46, 47, 48, 49, 50, 51, 52, 53, 54, 55, 56, 57, 58, 59, 60, 61, 62, 63, 64, 65, 66, 67, 68, 69, 70, 71, 72, 73, 74, 75, 76, 77, 78, 198, 199] (by decide +kernel) (by decide +kernel)
set_option maxRecDepth 20000 in
theorem gX2_town_X0_behindStatement_n69 : GoodIn wsX2_town (wsX0_behindStatement) := ggX2_town_X0_behindStatement
theorem dX2_town_0 : decode cX2_town 0 = .ok (.aload_n 0, 1) := by decide +kernel
theorem dX2_town_1 : decode cX2_town 1 = .ok (.getfield 29, 3) := by decide +kernel
theorem dX2_town_4 : decode cX2_town 4 = .ok (.invokevirtual 57, 3) := by decide +kernel
theorem dX2_town_7 : decode cX2_town 7 = .ok (.istore_n 1, 1) := by decide +kernel
theorem dX2_town_8 : decode cX2_town 8 = .ok (.iconst 0, 1) := by decide +kernel
theorem dX2_town_9 : decode cX2_town 9 = .ok (.istore_n 2, 1) := by decide +kernel
theorem dX2_town_10 : decode cX2_town 10 = .ok (.aload_n 0, 1) := by decide +kernel
theorem dX2_town_11 : decode cX2_town 11 = .ok (.getfield 16, 3) := by decide +kernel
theorem dX2_town_14 : decode cX2_town 14 = .ok (.aload_n 0, 1) := by decide +kernel
theorem dX2_town_15 : decode cX2_town 15 = .ok (.getfield 10, 3) := by decide +kernel
theorem dX2_town_18 : decode cX2_town 18 = .ok (.invokevirtual 61, 3) := by decide +kernel
theorem dX2_town_21 : decode cX2_town 21 = .ok (.iconst 0, 1) := by decide +kernel
theorem dX2_town_22 : decode cX2_town 22 = .ok (.istore_n 3, 1) := by decide +kernel
theorem dX2_town_23 : decode cX2_town 23 = .ok (.iload_n 3, 1) := by decide +kernel
theorem dX2_town_24 : decode cX2_town 24 = .ok (.bipush 96, 2) := by decide +kernel
theorem dX2_town_26 : decode cX2_town 26 = .ok (.if_icmp .ge 60, 3) := by decide +kernel
theorem dX2_town_29 : decode cX2_town 29 = .ok (.iload_n 1, 1) := by decide +kernel
theorem dX2_town_30 : decode cX2_town 30 = .ok (.ifCond .lt 56, 3) := by decide +kernel
theorem dX2_town_33 : decode cX2_town 33 = .ok (.iload_n 2, 1) := by decide +kernel
theorem dX2_town_34 : decode cX2_town 34 = .ok (.aload_n 0, 1) := by decide +kernel
theorem dX2_town_35 : decode cX2_town 35 = .ok (.getfield 29, 3) := by decide +kernel
theorem dX2_town_38 : decode cX2_town 38 = .ok (.getfield 51, 3) := by decide +kernel
theorem dX2_town_41 : decode cX2_town 41 = .ok (.if_icmp .ge 45, 3) := by decide +kernel
theorem dX2_town_44 : decode cX2_town 44 = .ok (.aload_n 0, 1) := by decide +kernel
theorem dX2_town_45 : decode cX2_town 45 = .ok (.getfield 29, 3) := by decide +kernel
theorem dX2_town_48 : decode cX2_town 48 = .ok (.iload_n 2, 1) := by decide +kernel
theorem dX2_town_49 : decode cX2_town 49 = .ok (.aload_n 0, 1) := by decide +kernel
theorem dX2_town_50 : decode cX2_town 50 = .ok (.getfield 16, 3) := by decide +kernel
theorem dX2_town_53 : decode cX2_town 53 = .ok (.invokevirtual 65, 3) := by decide +kernel
theorem dX2_town_56 : decode cX2_town 56 = .ok (.ifCond .eq 18, 3) := by decide +kernel
theorem dX2_town_59 : decode cX2_town 59 = .ok (.iinc 1 1, 3) := by decide +kernel
theorem dX2_town_62 : decode cX2_town 62 = .ok (.aload_n 0, 1) := by decide +kernel
theorem dX2_town_63 : decode cX2_town 63 = .ok (.getfield 29, 3) := by decide +kernel
theorem dX2_town_66 : decode cX2_town 66 = .ok (.iload_n 2, 1) := by decide +kernel
theorem dX2_town_67 : decode cX2_town 67 = .ok (.invokevirtual 69, 3) := by decide +kernel
theorem dX2_town_70 : decode cX2_town 70 = .ok (.istore_n 2, 1) := by decide +kernel
theorem dX2_town_71 : decode cX2_town 71 = .ok (.goto 9, 3) := by decide +kernel
theorem dX2_town_74 : decode cX2_town 74 = .ok (.sipush (-2000), 3) := by decide +kernel
theorem dX2_town_77 : decode cX2_town 77 = .ok (.iload_n 2, 1) := by decide +kernel
theorem dX2_town_78 : decode cX2_town 78 = .ok (.isub, 1) := by decide +kernel
theorem dX2_town_79 : decode cX2_town 79 = .ok (.istore_n 1, 1) := by decide +kernel
theorem dX2_town_80 : decode cX2_town 80 = .ok (.iinc 3 1, 3) := by decide +kernel
theorem dX2_town_83 : decode cX2_town 83 = .ok (.goto (-60), 3) := by decide +kernel
theorem dX2_town_86 : decode cX2_town 86 = .ok (.aload_n 0, 1) := by decide +kernel
theorem dX2_town_87 : decode cX2_town 87 = .ok (.getfield 29, 3) := by decide +kernel
theorem dX2_town_90 : decode cX2_town 90 = .ok (.iconst 0, 1) := by decide +kernel
theorem dX2_town_91 : decode cX2_town 91 = .ok (.putfield 51, 3) := by decide +kernel
theorem dX2_town_94 : decode cX2_town 94 = .ok (.iload_n 1, 1) := by decide +kernel
theorem dX2_town_95 : decode cX2_town 95 = .ok (.ifCond .le 14, 3) := by decide +kernel
theorem dX2_town_98 : decode cX2_town 98 = .ok (.aload_n 0, 1) := by decide +kernel
theorem dX2_town_99 : decode cX2_town 99 = .ok (.getfield 10, 3) := by decide +kernel
theorem dX2_town_102 : decode cX2_town 102 = .ok (.aload_n 0, 1) := by decide +kernel
theorem dX2_town_103 : decode cX2_town 103 = .ok (.getfield 16, 3) := by decide +kernel
theorem dX2_town_106 : decode cX2_town 106 = .ok (.invokevirtual 61, 3) := by decide +kernel
theorem dX2_town_109 : decode cX2_town 109 = .ok (.iload_n 1, 1) := by decide +kernel
theorem dX2_town_110 : decode cX2_town 110 = .ok (.ireturn, 1) := by decide +kernel
set_option maxRecDepth 20000 in
theorem ggX2_citizen_X2_noCitizen : GoodIn wsX2_citizen wsX2_noCitizen := goodIn_r _ [6, 1, 32, 33, 34, 35, 36, 37, 38, 39, 40, 41, 42, 43, 44, 45, 46, 47, 48] (by decide +kernel) (by decide +kernel)
set_option maxRecDepth 20000 in
theorem gX2_citizen_X2_noCitizen : GoodIn wsX2_citizen (wsV RX2 72 RX2 yX2_noCitizen wsX2_noCitizen) := goodIn_app (goodIn_of _ (by decide +kernel)) ggX2_citizen_X2_noCitizen
set_option maxRecDepth 20000 in
theorem ggX2_citizen_X2_refuse : GoodIn wsX2_citizen wsX2_refuse := goodIn_r _ [10, 11, 32, 33, 34, 35, 36, 37, 38, 39, 40] (by decide +kernel) (by decide +kernel)
set_option maxRecDepth 20000 in
theorem gX2_citizen_X2_refuse : GoodIn wsX2_citizen (wsV RX2 47 RX2 yX2_refuse wsX2_refuse) := goodIn_app (goodIn_of _ (by decide +kernel)) ggX2_citizen_X2_refuse
set_option maxRecDepth 20000 in
theorem ggX2_citizen_X1_isLiving : GoodIn wsX2_citizen wsX1_isLiving := goodIn_r _ [15, 16, 17, 41, 42, 43, 44, 45, 46, 47, 48] (by decide +kernel) (by decide +kernel)
set_option maxRecDepth 20000 in
theorem gX2_citizen_X1_isLiving_n85 : GoodIn wsX2_citizen (wsX1_isLiving) := ggX2_citizen_X1_isLiving
set_option maxRecDepth 20000 in
theorem ggX2_citizen_X1_lifeOf : GoodIn wsX2_citizen wsX1_lifeOf := goodIn_r _ [20, 21, 22, 41, 42, 43, 44, 45, 46, 47, 48] (by decide +kernel) (by decide +kernel)
set_option maxRecDepth 20000 in
theorem gX2_citizen_X1_lifeOf_n88 : GoodIn wsX2_citizen (wsX1_lifeOf) := ggX2_citizen_X1_lifeOf
set_option maxRecDepth 20000 in
theorem ggX2_citizen_X1_topicsOf : GoodIn wsX2_citizen wsX1_topicsOf := goodIn_r _ [25, 26, 27, 28, 13, 29, 30, 31, 41, 42, 43, 44, 45, 46, 47, 48] (by decide +kernel) (by decide +kernel)
set_option maxRecDepth 20000 in
theorem gX2_citizen_X1_topicsOf_n91 : GoodIn wsX2_citizen (wsX1_topicsOf) := ggX2_citizen_X1_topicsOf
theorem dX2_citizen_0 : decode cX2_citizen 0 = .ok (.aload_n 0, 1) := by decide +kernel
theorem dX2_citizen_1 : decode cX2_citizen 1 = .ok (.iload_n 1, 1) := by decide +kernel
theorem dX2_citizen_2 : decode cX2_citizen 2 = .ok (.invokevirtual 72, 3) := by decide +kernel
theorem dX2_citizen_5 : decode cX2_citizen 5 = .ok (.ifCond .eq 9, 3) := by decide +kernel
theorem dX2_citizen_8 : decode cX2_citizen 8 = .ok (.aload_n 0, 1) := by decide +kernel
theorem dX2_citizen_9 : decode cX2_citizen 9 = .ok (.iconst (-1), 1) := by decide +kernel
theorem dX2_citizen_10 : decode cX2_citizen 10 = .ok (.invokevirtual 47, 3) := by decide +kernel
theorem dX2_citizen_13 : decode cX2_citizen 13 = .ok (.ireturn, 1) := by decide +kernel
theorem dX2_citizen_14 : decode cX2_citizen 14 = .ok (.iload_n 2, 1) := by decide +kernel
theorem dX2_citizen_15 : decode cX2_citizen 15 = .ok (.tableswitch 102 0 5 #[37, 47, 57, 67, 84, 93], 37) := by decide +kernel
theorem dX2_citizen_52 : decode cX2_citizen 52 = .ok (.aload_n 0, 1) := by decide +kernel
theorem dX2_citizen_53 : decode cX2_citizen 53 = .ok (.getfield 10, 3) := by decide +kernel
theorem dX2_citizen_56 : decode cX2_citizen 56 = .ok (.getfield 76, 3) := by decide +kernel
theorem dX2_citizen_59 : decode cX2_citizen 59 = .ok (.iload_n 1, 1) := by decide +kernel
theorem dX2_citizen_60 : decode cX2_citizen 60 = .ok (.iaload, 1) := by decide +kernel
theorem dX2_citizen_61 : decode cX2_citizen 61 = .ok (.ireturn, 1) := by decide +kernel
theorem dX2_citizen_62 : decode cX2_citizen 62 = .ok (.aload_n 0, 1) := by decide +kernel
theorem dX2_citizen_63 : decode cX2_citizen 63 = .ok (.getfield 10, 3) := by decide +kernel
theorem dX2_citizen_66 : decode cX2_citizen 66 = .ok (.getfield 79, 3) := by decide +kernel
theorem dX2_citizen_69 : decode cX2_citizen 69 = .ok (.iload_n 1, 1) := by decide +kernel
theorem dX2_citizen_70 : decode cX2_citizen 70 = .ok (.iaload, 1) := by decide +kernel
theorem dX2_citizen_71 : decode cX2_citizen 71 = .ok (.ireturn, 1) := by decide +kernel
theorem dX2_citizen_72 : decode cX2_citizen 72 = .ok (.aload_n 0, 1) := by decide +kernel
theorem dX2_citizen_73 : decode cX2_citizen 73 = .ok (.getfield 10, 3) := by decide +kernel
theorem dX2_citizen_76 : decode cX2_citizen 76 = .ok (.getfield 82, 3) := by decide +kernel
theorem dX2_citizen_79 : decode cX2_citizen 79 = .ok (.iload_n 1, 1) := by decide +kernel
theorem dX2_citizen_80 : decode cX2_citizen 80 = .ok (.iaload, 1) := by decide +kernel
theorem dX2_citizen_81 : decode cX2_citizen 81 = .ok (.ireturn, 1) := by decide +kernel
theorem dX2_citizen_82 : decode cX2_citizen 82 = .ok (.aload_n 0, 1) := by decide +kernel
theorem dX2_citizen_83 : decode cX2_citizen 83 = .ok (.getfield 10, 3) := by decide +kernel
theorem dX2_citizen_86 : decode cX2_citizen 86 = .ok (.iload_n 1, 1) := by decide +kernel
theorem dX2_citizen_87 : decode cX2_citizen 87 = .ok (.invokevirtual 85, 3) := by decide +kernel
theorem dX2_citizen_90 : decode cX2_citizen 90 = .ok (.ifCond .eq 7, 3) := by decide +kernel
theorem dX2_citizen_93 : decode cX2_citizen 93 = .ok (.iconst 0, 1) := by decide +kernel
theorem dX2_citizen_94 : decode cX2_citizen 94 = .ok (.goto 4, 3) := by decide +kernel
theorem dX2_citizen_97 : decode cX2_citizen 97 = .ok (.iconst 1, 1) := by decide +kernel
theorem dX2_citizen_98 : decode cX2_citizen 98 = .ok (.ireturn, 1) := by decide +kernel
theorem dX2_citizen_99 : decode cX2_citizen 99 = .ok (.aload_n 0, 1) := by decide +kernel
theorem dX2_citizen_100 : decode cX2_citizen 100 = .ok (.getfield 10, 3) := by decide +kernel
theorem dX2_citizen_103 : decode cX2_citizen 103 = .ok (.iload_n 1, 1) := by decide +kernel
theorem dX2_citizen_104 : decode cX2_citizen 104 = .ok (.invokevirtual 88, 3) := by decide +kernel
theorem dX2_citizen_107 : decode cX2_citizen 107 = .ok (.ireturn, 1) := by decide +kernel
theorem dX2_citizen_108 : decode cX2_citizen 108 = .ok (.aload_n 0, 1) := by decide +kernel
theorem dX2_citizen_109 : decode cX2_citizen 109 = .ok (.getfield 10, 3) := by decide +kernel
theorem dX2_citizen_112 : decode cX2_citizen 112 = .ok (.iload_n 1, 1) := by decide +kernel
theorem dX2_citizen_113 : decode cX2_citizen 113 = .ok (.invokevirtual 91, 3) := by decide +kernel
theorem dX2_citizen_116 : decode cX2_citizen 116 = .ok (.ireturn, 1) := by decide +kernel
theorem dX2_citizen_117 : decode cX2_citizen 117 = .ok (.aload_n 0, 1) := by decide +kernel
theorem dX2_citizen_118 : decode cX2_citizen 118 = .ok (.bipush (-2), 2) := by decide +kernel
theorem dX2_citizen_120 : decode cX2_citizen 120 = .ok (.invokevirtual 47, 3) := by decide +kernel
theorem dX2_citizen_123 : decode cX2_citizen 123 = .ok (.ireturn, 1) := by decide +kernel
set_option maxRecDepth 20000 in
theorem ggX2_word_X2_noCitizen : GoodIn wsX2_word wsX2_noCitizen := goodIn_r _ [6, 1, 21, 22, 23, 24, 25, 26, 27, 28, 29, 30, 31, 32, 33, 34, 35, 36, 37] (by decide +kernel) (by decide +kernel)
set_option maxRecDepth 20000 in
theorem gX2_word_X2_noCitizen : GoodIn wsX2_word (wsV RX2 72 RX2 yX2_noCitizen wsX2_noCitizen) := goodIn_app (goodIn_of _ (by decide +kernel)) ggX2_word_X2_noCitizen
set_option maxRecDepth 20000 in
theorem ggX2_word_X2_noTopic : GoodIn wsX2_word wsX2_noTopic := goodIn_r _ [9] (by decide +kernel) (by decide +kernel)
set_option maxRecDepth 20000 in
theorem gX2_word_X2_noTopic : GoodIn wsX2_word (va_wsS RX2 94 yX2_noTopic wsX2_noTopic) := goodIn_app (goodIn_of _ (by decide +kernel)) ggX2_word_X2_noTopic
set_option maxRecDepth 20000 in
theorem ggX2_word_X2_refuse : GoodIn wsX2_word wsX2_refuse := goodIn_r _ [13, 14, 21, 22, 23, 24, 25, 26, 27, 28, 29] (by decide +kernel) (by decide +kernel)
set_option maxRecDepth 20000 in
theorem gX2_word_X2_refuse : GoodIn wsX2_word (wsV RX2 47 RX2 yX2_refuse wsX2_refuse) := goodIn_app (goodIn_of _ (by decide +kernel)) ggX2_word_X2_refuse
set_option maxRecDepth 20000 in
theorem ggX2_word_X1_wordOf : GoodIn wsX2_word wsX1_wordOf := goodIn_r _ [18, 19, 20, 30, 31, 32, 33, 34, 35, 36, 37] (by decide +kernel) (by decide +kernel)
set_option maxRecDepth 20000 in
theorem gX2_word_X1_wordOf_n97 : GoodIn wsX2_word (wsX1_wordOf) := ggX2_word_X1_wordOf
theorem dX2_word_0 : decode cX2_word 0 = .ok (.aload_n 0, 1) := by decide +kernel
theorem dX2_word_1 : decode cX2_word 1 = .ok (.iload_n 1, 1) := by decide +kernel
theorem dX2_word_2 : decode cX2_word 2 = .ok (.invokevirtual 72, 3) := by decide +kernel
theorem dX2_word_5 : decode cX2_word 5 = .ok (.ifCond .ne 10, 3) := by decide +kernel
theorem dX2_word_8 : decode cX2_word 8 = .ok (.iload_n 2, 1) := by decide +kernel
theorem dX2_word_9 : decode cX2_word 9 = .ok (.invokestatic 94, 3) := by decide +kernel
theorem dX2_word_12 : decode cX2_word 12 = .ok (.ifCond .eq 9, 3) := by decide +kernel
theorem dX2_word_15 : decode cX2_word 15 = .ok (.aload_n 0, 1) := by decide +kernel
theorem dX2_word_16 : decode cX2_word 16 = .ok (.iconst (-1), 1) := by decide +kernel
theorem dX2_word_17 : decode cX2_word 17 = .ok (.invokevirtual 47, 3) := by decide +kernel
theorem dX2_word_20 : decode cX2_word 20 = .ok (.ireturn, 1) := by decide +kernel
theorem dX2_word_21 : decode cX2_word 21 = .ok (.aload_n 0, 1) := by decide +kernel
theorem dX2_word_22 : decode cX2_word 22 = .ok (.getfield 10, 3) := by decide +kernel
theorem dX2_word_25 : decode cX2_word 25 = .ok (.iload_n 1, 1) := by decide +kernel
theorem dX2_word_26 : decode cX2_word 26 = .ok (.iload_n 2, 1) := by decide +kernel
theorem dX2_word_27 : decode cX2_word 27 = .ok (.invokevirtual 97, 3) := by decide +kernel
theorem dX2_word_30 : decode cX2_word 30 = .ok (.ireturn, 1) := by decide +kernel
set_option maxRecDepth 20000 in
theorem ggX2_written_X1_book : GoodIn wsX2_written wsX1_book := goodIn_r _ [5, 6, 7, 8, 3, 9, 10, 11, 12, 13, 14, 15, 16, 17, 18, 19, 20, 30, 31, 32, 33, 34, 35, 36, 37] (by decide +kernel) (by decide +kernel)
set_option maxRecDepth 20000 in
theorem gX2_written_X1_book_n101 : GoodIn wsX2_written (wsX1_book) := ggX2_written_X1_book
theorem dX2_written_0 : decode cX2_written 0 = .ok (.aload_n 0, 1) := by decide +kernel
theorem dX2_written_1 : decode cX2_written 1 = .ok (.getfield 10, 3) := by decide +kernel
theorem dX2_written_4 : decode cX2_written 4 = .ok (.invokevirtual 101, 3) := by decide +kernel
theorem dX2_written_7 : decode cX2_written 7 = .ok (.ireturn, 1) := by decide +kernel
set_option maxRecDepth 20000 in
theorem ggX2_says_X2_noCitizen : GoodIn wsX2_says wsX2_noCitizen := goodIn_r _ [6, 1, 29, 30, 31, 32, 33, 34, 35, 36, 37, 38, 39, 40, 41, 42, 43, 44, 45] (by decide +kernel) (by decide +kernel)
set_option maxRecDepth 20000 in
theorem gX2_says_X2_noCitizen : GoodIn wsX2_says (wsV RX2 72 RX2 yX2_noCitizen wsX2_noCitizen) := goodIn_app (goodIn_of _ (by decide +kernel)) ggX2_says_X2_noCitizen
set_option maxRecDepth 20000 in
theorem ggX2_says_X2_noTopic : GoodIn wsX2_says wsX2_noTopic := goodIn_r _ [9] (by decide +kernel) (by decide +kernel)
set_option maxRecDepth 20000 in
theorem gX2_says_X2_noTopic : GoodIn wsX2_says (va_wsS RX2 94 yX2_noTopic wsX2_noTopic) := goodIn_app (goodIn_of _ (by decide +kernel)) ggX2_says_X2_noTopic
set_option maxRecDepth 20000 in
theorem ggX2_says_X2_refuse : GoodIn wsX2_says wsX2_refuse := goodIn_r _ [13, 14, 29, 30, 31, 32, 33, 34, 35, 36, 37] (by decide +kernel) (by decide +kernel)
set_option maxRecDepth 20000 in
theorem gX2_says_X2_refuse : GoodIn wsX2_says (wsV RX2 47 RX2 yX2_refuse wsX2_refuse) := goodIn_app (goodIn_of _ (by decide +kernel)) ggX2_says_X2_refuse
set_option maxRecDepth 20000 in
theorem ggX2_says_X1_isLiving : GoodIn wsX2_says wsX1_isLiving := goodIn_r _ [18, 19, 20, 38, 39, 40, 41, 42, 43, 44, 45] (by decide +kernel) (by decide +kernel)
set_option maxRecDepth 20000 in
theorem gX2_says_X1_isLiving_n85 : GoodIn wsX2_says (wsX1_isLiving) := ggX2_says_X1_isLiving
set_option maxRecDepth 20000 in
theorem ggX2_says_X1_wordOf : GoodIn wsX2_says wsX1_wordOf := goodIn_r _ [23, 24, 25, 38, 39, 40, 41, 42, 43, 44, 45] (by decide +kernel) (by decide +kernel)
set_option maxRecDepth 20000 in
theorem gX2_says_X1_wordOf_n97 : GoodIn wsX2_says (wsX1_wordOf) := ggX2_says_X1_wordOf
set_option maxRecDepth 20000 in
theorem ggX2_says_X1_put : GoodIn wsX2_says wsX1_put := goodIn_r _ [28, 24, 25, 38, 39, 40, 41, 42, 43, 44, 45] (by decide +kernel) (by decide +kernel)
set_option maxRecDepth 20000 in
theorem gX2_says_X1_put_n104 : GoodIn wsX2_says (wsX1_put) := ggX2_says_X1_put
theorem dX2_says_0 : decode cX2_says 0 = .ok (.aload_n 0, 1) := by decide +kernel
theorem dX2_says_1 : decode cX2_says 1 = .ok (.iload_n 1, 1) := by decide +kernel
theorem dX2_says_2 : decode cX2_says 2 = .ok (.invokevirtual 72, 3) := by decide +kernel
theorem dX2_says_5 : decode cX2_says 5 = .ok (.ifCond .ne 10, 3) := by decide +kernel
theorem dX2_says_8 : decode cX2_says 8 = .ok (.iload_n 2, 1) := by decide +kernel
theorem dX2_says_9 : decode cX2_says 9 = .ok (.invokestatic 94, 3) := by decide +kernel
theorem dX2_says_12 : decode cX2_says 12 = .ok (.ifCond .eq 9, 3) := by decide +kernel
theorem dX2_says_15 : decode cX2_says 15 = .ok (.aload_n 0, 1) := by decide +kernel
theorem dX2_says_16 : decode cX2_says 16 = .ok (.iconst (-1), 1) := by decide +kernel
theorem dX2_says_17 : decode cX2_says 17 = .ok (.invokevirtual 47, 3) := by decide +kernel
theorem dX2_says_20 : decode cX2_says 20 = .ok (.ireturn, 1) := by decide +kernel
theorem dX2_says_21 : decode cX2_says 21 = .ok (.iload_n 3, 1) := by decide +kernel
theorem dX2_says_22 : decode cX2_says 22 = .ok (.ifCond .lt 8, 3) := by decide +kernel
theorem dX2_says_25 : decode cX2_says 25 = .ok (.iload_n 3, 1) := by decide +kernel
theorem dX2_says_26 : decode cX2_says 26 = .ok (.iconst 3, 1) := by decide +kernel
theorem dX2_says_27 : decode cX2_says 27 = .ok (.if_icmp .lt 10, 3) := by decide +kernel
theorem dX2_says_30 : decode cX2_says 30 = .ok (.aload_n 0, 1) := by decide +kernel
theorem dX2_says_31 : decode cX2_says 31 = .ok (.bipush (-2), 2) := by decide +kernel
theorem dX2_says_33 : decode cX2_says 33 = .ok (.invokevirtual 47, 3) := by decide +kernel
theorem dX2_says_36 : decode cX2_says 36 = .ok (.ireturn, 1) := by decide +kernel
theorem dX2_says_37 : decode cX2_says 37 = .ok (.aload_n 0, 1) := by decide +kernel
theorem dX2_says_38 : decode cX2_says 38 = .ok (.getfield 10, 3) := by decide +kernel
theorem dX2_says_41 : decode cX2_says 41 = .ok (.iload_n 1, 1) := by decide +kernel
theorem dX2_says_42 : decode cX2_says 42 = .ok (.invokevirtual 85, 3) := by decide +kernel
theorem dX2_says_45 : decode cX2_says 45 = .ok (.ifCond .ne 10, 3) := by decide +kernel
theorem dX2_says_48 : decode cX2_says 48 = .ok (.aload_n 0, 1) := by decide +kernel
theorem dX2_says_49 : decode cX2_says 49 = .ok (.bipush (-3), 2) := by decide +kernel
theorem dX2_says_51 : decode cX2_says 51 = .ok (.invokevirtual 47, 3) := by decide +kernel
theorem dX2_says_54 : decode cX2_says 54 = .ok (.ireturn, 1) := by decide +kernel
theorem dX2_says_55 : decode cX2_says 55 = .ok (.aload_n 0, 1) := by decide +kernel
theorem dX2_says_56 : decode cX2_says 56 = .ok (.getfield 10, 3) := by decide +kernel
theorem dX2_says_59 : decode cX2_says 59 = .ok (.iload_n 1, 1) := by decide +kernel
theorem dX2_says_60 : decode cX2_says 60 = .ok (.iload_n 2, 1) := by decide +kernel
theorem dX2_says_61 : decode cX2_says 61 = .ok (.invokevirtual 97, 3) := by decide +kernel
theorem dX2_says_64 : decode cX2_says 64 = .ok (.istore 4, 2) := by decide +kernel
theorem dX2_says_66 : decode cX2_says 66 = .ok (.aload_n 0, 1) := by decide +kernel
theorem dX2_says_67 : decode cX2_says 67 = .ok (.getfield 10, 3) := by decide +kernel
theorem dX2_says_70 : decode cX2_says 70 = .ok (.iload_n 1, 1) := by decide +kernel
theorem dX2_says_71 : decode cX2_says 71 = .ok (.iload_n 2, 1) := by decide +kernel
theorem dX2_says_72 : decode cX2_says 72 = .ok (.iload_n 3, 1) := by decide +kernel
theorem dX2_says_73 : decode cX2_says 73 = .ok (.invokevirtual 104, 3) := by decide +kernel
theorem dX2_says_76 : decode cX2_says 76 = .ok (.iload 4, 2) := by decide +kernel
theorem dX2_says_78 : decode cX2_says 78 = .ok (.ireturn, 1) := by decide +kernel
set_option maxRecDepth 20000 in
theorem ggX2_ages_X2_noCitizen : GoodIn wsX2_ages wsX2_noCitizen := goodIn_r _ [6, 1, 12, 13, 14, 15, 16, 17, 18, 19, 20, 21, 22, 23, 24, 25, 26, 27, 28] (by decide +kernel) (by decide +kernel)
set_option maxRecDepth 20000 in
theorem gX2_ages_X2_noCitizen : GoodIn wsX2_ages (wsV RX2 72 RX2 yX2_noCitizen wsX2_noCitizen) := goodIn_app (goodIn_of _ (by decide +kernel)) ggX2_ages_X2_noCitizen
set_option maxRecDepth 20000 in
theorem ggX2_ages_X2_refuse : GoodIn wsX2_ages wsX2_refuse := goodIn_r _ [10, 11, 12, 13, 14, 15, 16, 17, 18, 19, 20] (by decide +kernel) (by decide +kernel)
set_option maxRecDepth 20000 in
theorem gX2_ages_X2_refuse : GoodIn wsX2_ages (wsV RX2 47 RX2 yX2_refuse wsX2_refuse) := goodIn_app (goodIn_of _ (by decide +kernel)) ggX2_ages_X2_refuse
theorem dX2_ages_0 : decode cX2_ages 0 = .ok (.aload_n 0, 1) := by decide +kernel
theorem dX2_ages_1 : decode cX2_ages 1 = .ok (.iload_n 1, 1) := by decide +kernel
theorem dX2_ages_2 : decode cX2_ages 2 = .ok (.invokevirtual 72, 3) := by decide +kernel
theorem dX2_ages_5 : decode cX2_ages 5 = .ok (.ifCond .eq 9, 3) := by decide +kernel
theorem dX2_ages_8 : decode cX2_ages 8 = .ok (.aload_n 0, 1) := by decide +kernel
theorem dX2_ages_9 : decode cX2_ages 9 = .ok (.iconst (-1), 1) := by decide +kernel
theorem dX2_ages_10 : decode cX2_ages 10 = .ok (.invokevirtual 47, 3) := by decide +kernel
theorem dX2_ages_13 : decode cX2_ages 13 = .ok (.ireturn, 1) := by decide +kernel
theorem dX2_ages_14 : decode cX2_ages 14 = .ok (.iload_n 2, 1) := by decide +kernel
theorem dX2_ages_15 : decode cX2_ages 15 = .ok (.ifCond .ge 10, 3) := by decide +kernel
theorem dX2_ages_18 : decode cX2_ages 18 = .ok (.aload_n 0, 1) := by decide +kernel
theorem dX2_ages_19 : decode cX2_ages 19 = .ok (.bipush (-4), 2) := by decide +kernel
theorem dX2_ages_21 : decode cX2_ages 21 = .ok (.invokevirtual 47, 3) := by decide +kernel
theorem dX2_ages_24 : decode cX2_ages 24 = .ok (.ireturn, 1) := by decide +kernel
theorem dX2_ages_25 : decode cX2_ages 25 = .ok (.iload_n 2, 1) := by decide +kernel
theorem dX2_ages_26 : decode cX2_ages 26 = .ok (.bipush 99, 2) := by decide +kernel
theorem dX2_ages_28 : decode cX2_ages 28 = .ok (.if_icmp .le 10, 3) := by decide +kernel
theorem dX2_ages_31 : decode cX2_ages 31 = .ok (.aload_n 0, 1) := by decide +kernel
theorem dX2_ages_32 : decode cX2_ages 32 = .ok (.bipush (-6), 2) := by decide +kernel
theorem dX2_ages_34 : decode cX2_ages 34 = .ok (.invokevirtual 47, 3) := by decide +kernel
theorem dX2_ages_37 : decode cX2_ages 37 = .ok (.ireturn, 1) := by decide +kernel
theorem dX2_ages_38 : decode cX2_ages 38 = .ok (.aload_n 0, 1) := by decide +kernel
theorem dX2_ages_39 : decode cX2_ages 39 = .ok (.getfield 10, 3) := by decide +kernel
theorem dX2_ages_42 : decode cX2_ages 42 = .ok (.getfield 82, 3) := by decide +kernel
theorem dX2_ages_45 : decode cX2_ages 45 = .ok (.iload_n 1, 1) := by decide +kernel
theorem dX2_ages_46 : decode cX2_ages 46 = .ok (.iaload, 1) := by decide +kernel
theorem dX2_ages_47 : decode cX2_ages 47 = .ok (.istore_n 3, 1) := by decide +kernel
theorem dX2_ages_48 : decode cX2_ages 48 = .ok (.aload_n 0, 1) := by decide +kernel
theorem dX2_ages_49 : decode cX2_ages 49 = .ok (.getfield 10, 3) := by decide +kernel
theorem dX2_ages_52 : decode cX2_ages 52 = .ok (.getfield 82, 3) := by decide +kernel
theorem dX2_ages_55 : decode cX2_ages 55 = .ok (.iload_n 1, 1) := by decide +kernel
theorem dX2_ages_56 : decode cX2_ages 56 = .ok (.iload_n 2, 1) := by decide +kernel
theorem dX2_ages_57 : decode cX2_ages 57 = .ok (.iastore, 1) := by decide +kernel
theorem dX2_ages_58 : decode cX2_ages 58 = .ok (.iload_n 3, 1) := by decide +kernel
theorem dX2_ages_59 : decode cX2_ages 59 = .ok (.ireturn, 1) := by decide +kernel
set_option maxRecDepth 20000 in
theorem ggX2_dies_X2_noCitizen : GoodIn wsX2_dies wsX2_noCitizen := goodIn_r _ [6, 1, 32, 33, 34, 35, 36, 37, 38, 39, 40, 41, 42, 43, 44, 45, 46, 47, 48] (by decide +kernel) (by decide +kernel)
set_option maxRecDepth 20000 in
theorem gX2_dies_X2_noCitizen : GoodIn wsX2_dies (wsV RX2 72 RX2 yX2_noCitizen wsX2_noCitizen) := goodIn_app (goodIn_of _ (by decide +kernel)) ggX2_dies_X2_noCitizen
set_option maxRecDepth 20000 in
theorem ggX2_dies_X2_refuse : GoodIn wsX2_dies wsX2_refuse := goodIn_r _ [10, 11, 32, 33, 34, 35, 36, 37, 38, 39, 40] (by decide +kernel) (by decide +kernel)
set_option maxRecDepth 20000 in
theorem gX2_dies_X2_refuse : GoodIn wsX2_dies (wsV RX2 47 RX2 yX2_refuse wsX2_refuse) := goodIn_app (goodIn_of _ (by decide +kernel)) ggX2_dies_X2_refuse
set_option maxRecDepth 20000 in
theorem ggX2_dies_X1_bury : GoodIn wsX2_dies wsX1_bury := goodIn_r _ [15, 16, 17, 18, 19, 13, 20, 21, 41, 42, 43, 44, 45, 46, 47, 48] (by decide +kernel) (by decide +kernel)
set_option maxRecDepth 20000 in
theorem gX2_dies_X1_bury_n108 : GoodIn wsX2_dies (wsX1_bury) := ggX2_dies_X1_bury
set_option maxRecDepth 20000 in
theorem ggX2_dies_X1_howManyLive : GoodIn wsX2_dies wsX1_howManyLive := goodIn_r _ [24, 16, 25, 26, 27, 28, 29, 30, 31, 41, 42, 43, 44, 45, 46, 47, 48] (by decide +kernel) (by decide +kernel)
set_option maxRecDepth 20000 in
theorem gX2_dies_X1_howManyLive_n111 : GoodIn wsX2_dies (wsX1_howManyLive) := ggX2_dies_X1_howManyLive
theorem dX2_dies_0 : decode cX2_dies 0 = .ok (.aload_n 0, 1) := by decide +kernel
theorem dX2_dies_1 : decode cX2_dies 1 = .ok (.iload_n 1, 1) := by decide +kernel
theorem dX2_dies_2 : decode cX2_dies 2 = .ok (.invokevirtual 72, 3) := by decide +kernel
theorem dX2_dies_5 : decode cX2_dies 5 = .ok (.ifCond .eq 9, 3) := by decide +kernel
theorem dX2_dies_8 : decode cX2_dies 8 = .ok (.aload_n 0, 1) := by decide +kernel
theorem dX2_dies_9 : decode cX2_dies 9 = .ok (.iconst (-1), 1) := by decide +kernel
theorem dX2_dies_10 : decode cX2_dies 10 = .ok (.invokevirtual 47, 3) := by decide +kernel
theorem dX2_dies_13 : decode cX2_dies 13 = .ok (.ireturn, 1) := by decide +kernel
theorem dX2_dies_14 : decode cX2_dies 14 = .ok (.aload_n 0, 1) := by decide +kernel
theorem dX2_dies_15 : decode cX2_dies 15 = .ok (.getfield 10, 3) := by decide +kernel
theorem dX2_dies_18 : decode cX2_dies 18 = .ok (.iload_n 1, 1) := by decide +kernel
theorem dX2_dies_19 : decode cX2_dies 19 = .ok (.invokevirtual 108, 3) := by decide +kernel
theorem dX2_dies_22 : decode cX2_dies 22 = .ok (.ifCond .ne 10, 3) := by decide +kernel
theorem dX2_dies_25 : decode cX2_dies 25 = .ok (.aload_n 0, 1) := by decide +kernel
theorem dX2_dies_26 : decode cX2_dies 26 = .ok (.bipush (-3), 2) := by decide +kernel
theorem dX2_dies_28 : decode cX2_dies 28 = .ok (.invokevirtual 47, 3) := by decide +kernel
theorem dX2_dies_31 : decode cX2_dies 31 = .ok (.ireturn, 1) := by decide +kernel
theorem dX2_dies_32 : decode cX2_dies 32 = .ok (.aload_n 0, 1) := by decide +kernel
theorem dX2_dies_33 : decode cX2_dies 33 = .ok (.getfield 10, 3) := by decide +kernel
theorem dX2_dies_36 : decode cX2_dies 36 = .ok (.invokevirtual 111, 3) := by decide +kernel
theorem dX2_dies_39 : decode cX2_dies 39 = .ok (.ireturn, 1) := by decide +kernel
set_option maxRecDepth 20000 in
theorem ggX2_turn_X2_noCitizen : GoodIn wsX2_turn wsX2_noCitizen := goodIn_r _ [6, 1, 12, 13, 14, 15, 16, 17, 18, 19, 20, 21, 22, 23, 24, 25, 26, 27, 28] (by decide +kernel) (by decide +kernel)
set_option maxRecDepth 20000 in
theorem gX2_turn_X2_noCitizen : GoodIn wsX2_turn (wsV RX2 72 RX2 yX2_noCitizen wsX2_noCitizen) := goodIn_app (goodIn_of _ (by decide +kernel)) ggX2_turn_X2_noCitizen
set_option maxRecDepth 20000 in
theorem ggX2_turn_X2_refuse : GoodIn wsX2_turn wsX2_refuse := goodIn_r _ [10, 11, 12, 13, 14, 15, 16, 17, 18, 19, 20] (by decide +kernel) (by decide +kernel)
set_option maxRecDepth 20000 in
theorem gX2_turn_X2_refuse : GoodIn wsX2_turn (wsV RX2 47 RX2 yX2_refuse wsX2_refuse) := goodIn_app (goodIn_of _ (by decide +kernel)) ggX2_turn_X2_refuse
theorem dX2_turn_0 : decode cX2_turn 0 = .ok (.aload_n 0, 1) := by decide +kernel
theorem dX2_turn_1 : decode cX2_turn 1 = .ok (.iload_n 1, 1) := by decide +kernel
theorem dX2_turn_2 : decode cX2_turn 2 = .ok (.invokevirtual 72, 3) := by decide +kernel
theorem dX2_turn_5 : decode cX2_turn 5 = .ok (.ifCond .eq 9, 3) := by decide +kernel
theorem dX2_turn_8 : decode cX2_turn 8 = .ok (.aload_n 0, 1) := by decide +kernel
theorem dX2_turn_9 : decode cX2_turn 9 = .ok (.iconst (-1), 1) := by decide +kernel
theorem dX2_turn_10 : decode cX2_turn 10 = .ok (.invokevirtual 47, 3) := by decide +kernel
theorem dX2_turn_13 : decode cX2_turn 13 = .ok (.ireturn, 1) := by decide +kernel
theorem dX2_turn_14 : decode cX2_turn 14 = .ok (.iload_n 2, 1) := by decide +kernel
theorem dX2_turn_15 : decode cX2_turn 15 = .ok (.ifCond .lt 9, 3) := by decide +kernel
theorem dX2_turn_18 : decode cX2_turn 18 = .ok (.iload_n 2, 1) := by decide +kernel
theorem dX2_turn_19 : decode cX2_turn 19 = .ok (.bipush 6, 2) := by decide +kernel
theorem dX2_turn_21 : decode cX2_turn 21 = .ok (.if_icmp .lt 10, 3) := by decide +kernel
theorem dX2_turn_24 : decode cX2_turn 24 = .ok (.aload_n 0, 1) := by decide +kernel
theorem dX2_turn_25 : decode cX2_turn 25 = .ok (.bipush (-2), 2) := by decide +kernel
theorem dX2_turn_27 : decode cX2_turn 27 = .ok (.invokevirtual 47, 3) := by decide +kernel
theorem dX2_turn_30 : decode cX2_turn 30 = .ok (.ireturn, 1) := by decide +kernel
theorem dX2_turn_31 : decode cX2_turn 31 = .ok (.iload_n 3, 1) := by decide +kernel
theorem dX2_turn_32 : decode cX2_turn 32 = .ok (.ifCond .ge 10, 3) := by decide +kernel
theorem dX2_turn_35 : decode cX2_turn 35 = .ok (.aload_n 0, 1) := by decide +kernel
theorem dX2_turn_36 : decode cX2_turn 36 = .ok (.bipush (-4), 2) := by decide +kernel
theorem dX2_turn_38 : decode cX2_turn 38 = .ok (.invokevirtual 47, 3) := by decide +kernel
theorem dX2_turn_41 : decode cX2_turn 41 = .ok (.ireturn, 1) := by decide +kernel
theorem dX2_turn_42 : decode cX2_turn 42 = .ok (.iload_n 3, 1) := by decide +kernel
theorem dX2_turn_43 : decode cX2_turn 43 = .ok (.bipush 10, 2) := by decide +kernel
theorem dX2_turn_45 : decode cX2_turn 45 = .ok (.if_icmp .lt 10, 3) := by decide +kernel
theorem dX2_turn_48 : decode cX2_turn 48 = .ok (.aload_n 0, 1) := by decide +kernel
theorem dX2_turn_49 : decode cX2_turn 49 = .ok (.bipush (-6), 2) := by decide +kernel
theorem dX2_turn_51 : decode cX2_turn 51 = .ok (.invokevirtual 47, 3) := by decide +kernel
theorem dX2_turn_54 : decode cX2_turn 54 = .ok (.ireturn, 1) := by decide +kernel
theorem dX2_turn_55 : decode cX2_turn 55 = .ok (.bipush 10, 2) := by decide +kernel
theorem dX2_turn_57 : decode cX2_turn 57 = .ok (.aload_n 0, 1) := by decide +kernel
theorem dX2_turn_58 : decode cX2_turn 58 = .ok (.getfield 10, 3) := by decide +kernel
theorem dX2_turn_61 : decode cX2_turn 61 = .ok (.getfield 76, 3) := by decide +kernel
theorem dX2_turn_64 : decode cX2_turn 64 = .ok (.iload_n 1, 1) := by decide +kernel
theorem dX2_turn_65 : decode cX2_turn 65 = .ok (.iaload, 1) := by decide +kernel
theorem dX2_turn_66 : decode cX2_turn 66 = .ok (.imul, 1) := by decide +kernel
theorem dX2_turn_67 : decode cX2_turn 67 = .ok (.aload_n 0, 1) := by decide +kernel
theorem dX2_turn_68 : decode cX2_turn 68 = .ok (.getfield 10, 3) := by decide +kernel
theorem dX2_turn_71 : decode cX2_turn 71 = .ok (.getfield 79, 3) := by decide +kernel
theorem dX2_turn_74 : decode cX2_turn 74 = .ok (.iload_n 1, 1) := by decide +kernel
theorem dX2_turn_75 : decode cX2_turn 75 = .ok (.iaload, 1) := by decide +kernel
theorem dX2_turn_76 : decode cX2_turn 76 = .ok (.iadd, 1) := by decide +kernel
theorem dX2_turn_77 : decode cX2_turn 77 = .ok (.istore 4, 2) := by decide +kernel
theorem dX2_turn_79 : decode cX2_turn 79 = .ok (.aload_n 0, 1) := by decide +kernel
theorem dX2_turn_80 : decode cX2_turn 80 = .ok (.getfield 10, 3) := by decide +kernel
theorem dX2_turn_83 : decode cX2_turn 83 = .ok (.getfield 76, 3) := by decide +kernel
theorem dX2_turn_86 : decode cX2_turn 86 = .ok (.iload_n 1, 1) := by decide +kernel
theorem dX2_turn_87 : decode cX2_turn 87 = .ok (.iload_n 2, 1) := by decide +kernel
theorem dX2_turn_88 : decode cX2_turn 88 = .ok (.iastore, 1) := by decide +kernel
theorem dX2_turn_89 : decode cX2_turn 89 = .ok (.aload_n 0, 1) := by decide +kernel
theorem dX2_turn_90 : decode cX2_turn 90 = .ok (.getfield 10, 3) := by decide +kernel
theorem dX2_turn_93 : decode cX2_turn 93 = .ok (.getfield 79, 3) := by decide +kernel
theorem dX2_turn_96 : decode cX2_turn 96 = .ok (.iload_n 1, 1) := by decide +kernel
theorem dX2_turn_97 : decode cX2_turn 97 = .ok (.iload_n 3, 1) := by decide +kernel
theorem dX2_turn_98 : decode cX2_turn 98 = .ok (.iastore, 1) := by decide +kernel
theorem dX2_turn_99 : decode cX2_turn 99 = .ok (.iload 4, 2) := by decide +kernel
theorem dX2_turn_101 : decode cX2_turn 101 = .ok (.ireturn, 1) := by decide +kernel
set_option maxRecDepth 20000 in
theorem ggX2_years_X2_refuse : GoodIn wsX2_years wsX2_refuse := goodIn_r _ [6, 7, 94, 95, 96, 97, 98, 99, 100, 101, 102] (by decide +kernel) (by decide +kernel)
set_option maxRecDepth 20000 in
theorem gX2_years_X2_refuse : GoodIn wsX2_years (wsV RX2 47 RX2 yX2_refuse wsX2_refuse) := goodIn_app (goodIn_of _ (by decide +kernel)) ggX2_years_X2_refuse
set_option maxRecDepth 20000 in
theorem ggX2_years_X1_spend : GoodIn wsX2_years wsX1_spend := goodIn_r _ [11, 12, 13, 14, 15, 9, 16, 17, 18, 19, 20, 21, 22, 23, 24, 25, 26, 27, 28, 29, 30, 31, 32, 33, 34, 35, 36, 37, 38, 39, 40, 41, 42, 43, 44, 45, 46, 47, 48, 49, 50, 51, 52, 53, 54, 55, 56, 57, 58, 59, 60, 61, 62, 63, 64, 65, 66, 67, 68, 69, 70, 71, 72, 73, 74, 75, 76, 77, 78, 79, 80, 81, 82, 103, 104, 105, 106, 107, 108, 109, 110] (by decide +kernel) (by decide +kernel)
set_option maxRecDepth 20000 in
theorem gX2_years_X1_spend_n114 : GoodIn wsX2_years (wsX1_spend) := ggX2_years_X1_spend
set_option maxRecDepth 20000 in
theorem ggX2_years_X1_bookSize : GoodIn wsX2_years wsX1_bookSize := goodIn_r _ [85, 86, 87, 88, 9, 89, 90, 91, 92, 93, 56, 57, 58, 59, 54, 17, 67, 68, 69, 70, 55, 60, 61, 62, 63, 64, 65, 66, 103, 104, 105, 106, 107, 108, 109, 110] (by decide +kernel) (by decide +kernel)
set_option maxRecDepth 20000 in
theorem gX2_years_X1_bookSize_n117 : GoodIn wsX2_years (wsX1_bookSize) := ggX2_years_X1_bookSize
theorem dX2_years_0 : decode cX2_years 0 = .ok (.iload_n 1, 1) := by decide +kernel
theorem dX2_years_1 : decode cX2_years 1 = .ok (.iconst 1, 1) := by decide +kernel
theorem dX2_years_2 : decode cX2_years 2 = .ok (.if_icmp .ge 10, 3) := by decide +kernel
theorem dX2_years_5 : decode cX2_years 5 = .ok (.aload_n 0, 1) := by decide +kernel
theorem dX2_years_6 : decode cX2_years 6 = .ok (.bipush (-4), 2) := by decide +kernel
theorem dX2_years_8 : decode cX2_years 8 = .ok (.invokevirtual 47, 3) := by decide +kernel
theorem dX2_years_11 : decode cX2_years 11 = .ok (.ireturn, 1) := by decide +kernel
theorem dX2_years_12 : decode cX2_years 12 = .ok (.aload_n 0, 1) := by decide +kernel
theorem dX2_years_13 : decode cX2_years 13 = .ok (.getfield 10, 3) := by decide +kernel
theorem dX2_years_16 : decode cX2_years 16 = .ok (.iload_n 1, 1) := by decide +kernel
theorem dX2_years_17 : decode cX2_years 17 = .ok (.invokevirtual 114, 3) := by decide +kernel
theorem dX2_years_20 : decode cX2_years 20 = .ok (.ifCond .ne 10, 3) := by decide +kernel
theorem dX2_years_23 : decode cX2_years 23 = .ok (.aload_n 0, 1) := by decide +kernel
theorem dX2_years_24 : decode cX2_years 24 = .ok (.bipush (-6), 2) := by decide +kernel
theorem dX2_years_26 : decode cX2_years 26 = .ok (.invokevirtual 47, 3) := by decide +kernel
theorem dX2_years_29 : decode cX2_years 29 = .ok (.ireturn, 1) := by decide +kernel
theorem dX2_years_30 : decode cX2_years 30 = .ok (.aload_n 0, 1) := by decide +kernel
theorem dX2_years_31 : decode cX2_years 31 = .ok (.getfield 10, 3) := by decide +kernel
theorem dX2_years_34 : decode cX2_years 34 = .ok (.invokevirtual 117, 3) := by decide +kernel
theorem dX2_years_37 : decode cX2_years 37 = .ok (.ireturn, 1) := by decide +kernel
set_option maxRecDepth 20000 in
theorem ggX2_writtenThen_X2_refuse : GoodIn wsX2_writtenThen wsX2_refuse := goodIn_r _ [7, 8, 98, 99, 100, 101, 102, 103, 104, 105, 106] (by decide +kernel) (by decide +kernel)
set_option maxRecDepth 20000 in
theorem gX2_writtenThen_X2_refuse : GoodIn wsX2_writtenThen (wsV RX2 47 RX2 yX2_refuse wsX2_refuse) := goodIn_app (goodIn_of _ (by decide +kernel)) ggX2_writtenThen_X2_refuse
set_option maxRecDepth 20000 in
theorem ggX2_writtenThen_X1_become : GoodIn wsX2_writtenThen wsX1_become := goodIn_r _ [12, 13, 14, 15, 16, 17, 18, 19, 20, 21, 22, 23, 24, 107, 108, 109, 110, 111, 112, 113, 114] (by decide +kernel) (by decide +kernel)
set_option maxRecDepth 20000 in
theorem gX2_writtenThen_X1_become_n61 : GoodIn wsX2_writtenThen (wsX1_become) := ggX2_writtenThen_X1_become
set_option maxRecDepth 20000 in
theorem ggX2_writtenThen_X1_pass : GoodIn wsX2_writtenThen wsX1_pass := goodIn_r _ [27, 28, 29, 30, 10, 31, 23, 24, 22, 32, 33, 34, 35, 19, 36, 37, 38, 39, 40, 41, 42, 43, 44, 45, 46, 47, 48, 49, 50, 51, 13, 18, 52, 53, 54, 55, 56, 57, 58, 59, 60, 61, 62, 63, 20, 21, 64, 65, 66, 67, 68, 69, 70, 71, 72, 73, 74, 75, 76, 77, 78, 79, 80, 81, 82, 83, 84, 85, 86, 87, 88, 89, 90, 107, 108, 109, 110, 111, 112, 113, 114] (by decide +kernel) (by decide +kernel)
set_option maxRecDepth 20000 in
theorem gX2_writtenThen_X1_pass_n120 : GoodIn wsX2_writtenThen (wsX1_pass) := ggX2_writtenThen_X1_pass
set_option maxRecDepth 20000 in
theorem ggX2_writtenThen_X1_book : GoodIn wsX2_writtenThen wsX1_book := goodIn_r _ [93, 94, 95, 96, 10, 97, 64, 65, 66, 67, 20, 23, 75, 76, 77, 78, 21, 107, 108, 109, 110, 111, 112, 113, 114] (by decide +kernel) (by decide +kernel)
set_option maxRecDepth 20000 in
theorem gX2_writtenThen_X1_book_n101 : GoodIn wsX2_writtenThen (wsX1_book) := ggX2_writtenThen_X1_book
theorem dX2_writtenThen_0 : decode cX2_writtenThen 0 = .ok (.iload_n 1, 1) := by decide +kernel
theorem dX2_writtenThen_1 : decode cX2_writtenThen 1 = .ok (.ifCond .ge 10, 3) := by decide +kernel
theorem dX2_writtenThen_4 : decode cX2_writtenThen 4 = .ok (.aload_n 0, 1) := by decide +kernel
theorem dX2_writtenThen_5 : decode cX2_writtenThen 5 = .ok (.bipush (-4), 2) := by decide +kernel
theorem dX2_writtenThen_7 : decode cX2_writtenThen 7 = .ok (.invokevirtual 47, 3) := by decide +kernel
theorem dX2_writtenThen_10 : decode cX2_writtenThen 10 = .ok (.ireturn, 1) := by decide +kernel
theorem dX2_writtenThen_11 : decode cX2_writtenThen 11 = .ok (.iload_n 1, 1) := by decide +kernel
theorem dX2_writtenThen_12 : decode cX2_writtenThen 12 = .ok (.bipush 60, 2) := by decide +kernel
theorem dX2_writtenThen_14 : decode cX2_writtenThen 14 = .ok (.if_icmp .le 10, 3) := by decide +kernel
theorem dX2_writtenThen_17 : decode cX2_writtenThen 17 = .ok (.aload_n 0, 1) := by decide +kernel
theorem dX2_writtenThen_18 : decode cX2_writtenThen 18 = .ok (.bipush (-6), 2) := by decide +kernel
theorem dX2_writtenThen_20 : decode cX2_writtenThen 20 = .ok (.invokevirtual 47, 3) := by decide +kernel
theorem dX2_writtenThen_23 : decode cX2_writtenThen 23 = .ok (.ireturn, 1) := by decide +kernel
theorem dX2_writtenThen_24 : decode cX2_writtenThen 24 = .ok (.aload_n 0, 1) := by decide +kernel
theorem dX2_writtenThen_25 : decode cX2_writtenThen 25 = .ok (.getfield 16, 3) := by decide +kernel
theorem dX2_writtenThen_28 : decode cX2_writtenThen 28 = .ok (.aload_n 0, 1) := by decide +kernel
theorem dX2_writtenThen_29 : decode cX2_writtenThen 29 = .ok (.getfield 10, 3) := by decide +kernel
theorem dX2_writtenThen_32 : decode cX2_writtenThen 32 = .ok (.invokevirtual 61, 3) := by decide +kernel
theorem dX2_writtenThen_35 : decode cX2_writtenThen 35 = .ok (.aload_n 0, 1) := by decide +kernel
theorem dX2_writtenThen_36 : decode cX2_writtenThen 36 = .ok (.getfield 16, 3) := by decide +kernel
theorem dX2_writtenThen_39 : decode cX2_writtenThen 39 = .ok (.iload_n 1, 1) := by decide +kernel
theorem dX2_writtenThen_40 : decode cX2_writtenThen 40 = .ok (.invokevirtual 120, 3) := by decide +kernel
theorem dX2_writtenThen_43 : decode cX2_writtenThen 43 = .ok (.aload_n 0, 1) := by decide +kernel
theorem dX2_writtenThen_44 : decode cX2_writtenThen 44 = .ok (.getfield 16, 3) := by decide +kernel
theorem dX2_writtenThen_47 : decode cX2_writtenThen 47 = .ok (.invokevirtual 101, 3) := by decide +kernel
theorem dX2_writtenThen_50 : decode cX2_writtenThen 50 = .ok (.ireturn, 1) := by decide +kernel
set_option maxRecDepth 20000 in
theorem ggX2_wordThen_X2_noCitizen : GoodIn wsX2_wordThen wsX2_noCitizen := goodIn_r _ [7, 2, 98, 99, 100, 101, 102, 103, 104, 105, 106, 107, 108, 109, 110, 111, 112, 113, 114] (by decide +kernel) (by decide +kernel)
set_option maxRecDepth 20000 in
theorem gX2_wordThen_X2_noCitizen : GoodIn wsX2_wordThen (wsV RX2 72 RX2 yX2_noCitizen wsX2_noCitizen) := goodIn_app (goodIn_of _ (by decide +kernel)) ggX2_wordThen_X2_noCitizen
set_option maxRecDepth 20000 in
theorem ggX2_wordThen_X2_noTopic : GoodIn wsX2_wordThen wsX2_noTopic := goodIn_r _ [10] (by decide +kernel) (by decide +kernel)
set_option maxRecDepth 20000 in
theorem gX2_wordThen_X2_noTopic : GoodIn wsX2_wordThen (va_wsS RX2 94 yX2_noTopic wsX2_noTopic) := goodIn_app (goodIn_of _ (by decide +kernel)) ggX2_wordThen_X2_noTopic
set_option maxRecDepth 20000 in
theorem ggX2_wordThen_X2_refuse : GoodIn wsX2_wordThen wsX2_refuse := goodIn_r _ [14, 15, 98, 99, 100, 101, 102, 103, 104, 105, 106] (by decide +kernel) (by decide +kernel)
set_option maxRecDepth 20000 in
theorem gX2_wordThen_X2_refuse : GoodIn wsX2_wordThen (wsV RX2 47 RX2 yX2_refuse wsX2_refuse) := goodIn_app (goodIn_of _ (by decide +kernel)) ggX2_wordThen_X2_refuse
set_option maxRecDepth 20000 in
theorem ggX2_wordThen_X1_become : GoodIn wsX2_wordThen wsX1_become := goodIn_r _ [19, 20, 21, 22, 23, 24, 25, 26, 27, 28, 29, 30, 31, 107, 108, 109, 110, 111, 112, 113, 114] (by decide +kernel) (by decide +kernel)
set_option maxRecDepth 20000 in
theorem gX2_wordThen_X1_become_n61 : GoodIn wsX2_wordThen (wsX1_become) := ggX2_wordThen_X1_become
set_option maxRecDepth 20000 in
theorem ggX2_wordThen_X1_passFor : GoodIn wsX2_wordThen wsX1_passFor := goodIn_r _ [34, 35, 36, 37, 17, 38, 30, 31, 29, 39, 40, 41, 42, 26, 43, 44, 45, 46, 47, 48, 49, 50, 51, 52, 53, 54, 55, 56, 57, 58, 20, 25, 59, 60, 61, 62, 63, 64, 65, 66, 67, 68, 69, 70, 27, 28, 71, 72, 73, 74, 75, 76, 77, 78, 79, 80, 81, 82, 83, 84, 85, 86, 87, 88, 89, 90, 91, 92, 93, 94, 95, 96, 97, 107, 108, 109, 110, 111, 112, 113, 114] (by decide +kernel) (by decide +kernel)
set_option maxRecDepth 20000 in
theorem gX2_wordThen_X1_passFor_n124 : GoodIn wsX2_wordThen (wsX1_passFor) := ggX2_wordThen_X1_passFor
set_option maxRecDepth 20000 in
theorem ggX2_wordThen_X1_wordOf : GoodIn wsX2_wordThen wsX1_wordOf := goodIn_r _ [70, 27, 28, 107, 108, 109, 110, 111, 112, 113, 114] (by decide +kernel) (by decide +kernel)
set_option maxRecDepth 20000 in
theorem gX2_wordThen_X1_wordOf_n97 : GoodIn wsX2_wordThen (wsX1_wordOf) := ggX2_wordThen_X1_wordOf
theorem dX2_wordThen_0 : decode cX2_wordThen 0 = .ok (.aload_n 0, 1) := by decide +kernel
theorem dX2_wordThen_1 : decode cX2_wordThen 1 = .ok (.iload_n 1, 1) := by decide +kernel
theorem dX2_wordThen_2 : decode cX2_wordThen 2 = .ok (.invokevirtual 72, 3) := by decide +kernel
theorem dX2_wordThen_5 : decode cX2_wordThen 5 = .ok (.ifCond .ne 10, 3) := by decide +kernel
theorem dX2_wordThen_8 : decode cX2_wordThen 8 = .ok (.iload_n 2, 1) := by decide +kernel
theorem dX2_wordThen_9 : decode cX2_wordThen 9 = .ok (.invokestatic 94, 3) := by decide +kernel
theorem dX2_wordThen_12 : decode cX2_wordThen 12 = .ok (.ifCond .eq 9, 3) := by decide +kernel
theorem dX2_wordThen_15 : decode cX2_wordThen 15 = .ok (.aload_n 0, 1) := by decide +kernel
theorem dX2_wordThen_16 : decode cX2_wordThen 16 = .ok (.iconst (-1), 1) := by decide +kernel
theorem dX2_wordThen_17 : decode cX2_wordThen 17 = .ok (.invokevirtual 47, 3) := by decide +kernel
theorem dX2_wordThen_20 : decode cX2_wordThen 20 = .ok (.ireturn, 1) := by decide +kernel
theorem dX2_wordThen_21 : decode cX2_wordThen 21 = .ok (.iload_n 3, 1) := by decide +kernel
theorem dX2_wordThen_22 : decode cX2_wordThen 22 = .ok (.ifCond .ge 10, 3) := by decide +kernel
theorem dX2_wordThen_25 : decode cX2_wordThen 25 = .ok (.aload_n 0, 1) := by decide +kernel
theorem dX2_wordThen_26 : decode cX2_wordThen 26 = .ok (.bipush (-4), 2) := by decide +kernel
theorem dX2_wordThen_28 : decode cX2_wordThen 28 = .ok (.invokevirtual 47, 3) := by decide +kernel
theorem dX2_wordThen_31 : decode cX2_wordThen 31 = .ok (.ireturn, 1) := by decide +kernel
theorem dX2_wordThen_32 : decode cX2_wordThen 32 = .ok (.iload_n 3, 1) := by decide +kernel
theorem dX2_wordThen_33 : decode cX2_wordThen 33 = .ok (.bipush 60, 2) := by decide +kernel
theorem dX2_wordThen_35 : decode cX2_wordThen 35 = .ok (.if_icmp .le 10, 3) := by decide +kernel
theorem dX2_wordThen_38 : decode cX2_wordThen 38 = .ok (.aload_n 0, 1) := by decide +kernel
theorem dX2_wordThen_39 : decode cX2_wordThen 39 = .ok (.bipush (-6), 2) := by decide +kernel
theorem dX2_wordThen_41 : decode cX2_wordThen 41 = .ok (.invokevirtual 47, 3) := by decide +kernel
theorem dX2_wordThen_44 : decode cX2_wordThen 44 = .ok (.ireturn, 1) := by decide +kernel
theorem dX2_wordThen_45 : decode cX2_wordThen 45 = .ok (.aload_n 0, 1) := by decide +kernel
theorem dX2_wordThen_46 : decode cX2_wordThen 46 = .ok (.getfield 16, 3) := by decide +kernel
theorem dX2_wordThen_49 : decode cX2_wordThen 49 = .ok (.aload_n 0, 1) := by decide +kernel
theorem dX2_wordThen_50 : decode cX2_wordThen 50 = .ok (.getfield 10, 3) := by decide +kernel
theorem dX2_wordThen_53 : decode cX2_wordThen 53 = .ok (.invokevirtual 61, 3) := by decide +kernel
theorem dX2_wordThen_56 : decode cX2_wordThen 56 = .ok (.aload_n 0, 1) := by decide +kernel
theorem dX2_wordThen_57 : decode cX2_wordThen 57 = .ok (.getfield 16, 3) := by decide +kernel
theorem dX2_wordThen_60 : decode cX2_wordThen 60 = .ok (.iload_n 2, 1) := by decide +kernel
theorem dX2_wordThen_61 : decode cX2_wordThen 61 = .ok (.iload_n 3, 1) := by decide +kernel
theorem dX2_wordThen_62 : decode cX2_wordThen 62 = .ok (.invokevirtual 124, 3) := by decide +kernel
theorem dX2_wordThen_65 : decode cX2_wordThen 65 = .ok (.aload_n 0, 1) := by decide +kernel
theorem dX2_wordThen_66 : decode cX2_wordThen 66 = .ok (.getfield 16, 3) := by decide +kernel
theorem dX2_wordThen_69 : decode cX2_wordThen 69 = .ok (.iload_n 1, 1) := by decide +kernel
theorem dX2_wordThen_70 : decode cX2_wordThen 70 = .ok (.iload_n 2, 1) := by decide +kernel
theorem dX2_wordThen_71 : decode cX2_wordThen 71 = .ok (.invokevirtual 97, 3) := by decide +kernel
theorem dX2_wordThen_74 : decode cX2_wordThen 74 = .ok (.ireturn, 1) := by decide +kernel
set_option maxRecDepth 20000 in
theorem ggX2_deadThen_X2_refuse : GoodIn wsX2_deadThen wsX2_refuse := goodIn_r _ [7, 8, 94, 95, 96, 97, 98, 99, 100, 101, 102] (by decide +kernel) (by decide +kernel)
set_option maxRecDepth 20000 in
theorem gX2_deadThen_X2_refuse : GoodIn wsX2_deadThen (wsV RX2 47 RX2 yX2_refuse wsX2_refuse) := goodIn_app (goodIn_of _ (by decide +kernel)) ggX2_deadThen_X2_refuse
set_option maxRecDepth 20000 in
theorem ggX2_deadThen_X1_become : GoodIn wsX2_deadThen wsX1_become := goodIn_r _ [12, 13, 14, 15, 16, 17, 18, 19, 20, 21, 22, 23, 24, 103, 104, 105, 106, 107, 108, 109, 110] (by decide +kernel) (by decide +kernel)
set_option maxRecDepth 20000 in
theorem gX2_deadThen_X1_become_n61 : GoodIn wsX2_deadThen (wsX1_become) := ggX2_deadThen_X1_become
set_option maxRecDepth 20000 in
theorem ggX2_deadThen_X1_pass : GoodIn wsX2_deadThen wsX1_pass := goodIn_r _ [27, 28, 29, 30, 10, 31, 23, 24, 22, 32, 33, 34, 35, 19, 36, 37, 38, 39, 40, 41, 42, 43, 44, 45, 46, 47, 48, 49, 50, 51, 13, 18, 52, 53, 54, 55, 56, 57, 58, 59, 60, 61, 62, 63, 20, 21, 64, 65, 66, 67, 68, 69, 70, 71, 72, 73, 74, 75, 76, 77, 78, 79, 80, 81, 82, 83, 84, 85, 86, 87, 88, 89, 90, 103, 104, 105, 106, 107, 108, 109, 110] (by decide +kernel) (by decide +kernel)
set_option maxRecDepth 20000 in
theorem gX2_deadThen_X1_pass_n120 : GoodIn wsX2_deadThen (wsX1_pass) := ggX2_deadThen_X1_pass
set_option maxRecDepth 20000 in
theorem ggX2_deadThen_X1_everybody : GoodIn wsX2_deadThen wsX1_everybody := goodIn_r _ [93, 22, 103, 104, 105, 106, 107, 108, 109, 110] (by decide +kernel) (by decide +kernel)
set_option maxRecDepth 20000 in
theorem gX2_deadThen_X1_everybody_n128 : GoodIn wsX2_deadThen (wsX1_everybody) := ggX2_deadThen_X1_everybody
theorem dX2_deadThen_0 : decode cX2_deadThen 0 = .ok (.iload_n 1, 1) := by decide +kernel
theorem dX2_deadThen_1 : decode cX2_deadThen 1 = .ok (.ifCond .ge 10, 3) := by decide +kernel
theorem dX2_deadThen_4 : decode cX2_deadThen 4 = .ok (.aload_n 0, 1) := by decide +kernel
theorem dX2_deadThen_5 : decode cX2_deadThen 5 = .ok (.bipush (-4), 2) := by decide +kernel
theorem dX2_deadThen_7 : decode cX2_deadThen 7 = .ok (.invokevirtual 47, 3) := by decide +kernel
theorem dX2_deadThen_10 : decode cX2_deadThen 10 = .ok (.ireturn, 1) := by decide +kernel
theorem dX2_deadThen_11 : decode cX2_deadThen 11 = .ok (.iload_n 1, 1) := by decide +kernel
theorem dX2_deadThen_12 : decode cX2_deadThen 12 = .ok (.bipush 60, 2) := by decide +kernel
theorem dX2_deadThen_14 : decode cX2_deadThen 14 = .ok (.if_icmp .le 10, 3) := by decide +kernel
theorem dX2_deadThen_17 : decode cX2_deadThen 17 = .ok (.aload_n 0, 1) := by decide +kernel
theorem dX2_deadThen_18 : decode cX2_deadThen 18 = .ok (.bipush (-6), 2) := by decide +kernel
theorem dX2_deadThen_20 : decode cX2_deadThen 20 = .ok (.invokevirtual 47, 3) := by decide +kernel
theorem dX2_deadThen_23 : decode cX2_deadThen 23 = .ok (.ireturn, 1) := by decide +kernel
theorem dX2_deadThen_24 : decode cX2_deadThen 24 = .ok (.aload_n 0, 1) := by decide +kernel
theorem dX2_deadThen_25 : decode cX2_deadThen 25 = .ok (.getfield 16, 3) := by decide +kernel
theorem dX2_deadThen_28 : decode cX2_deadThen 28 = .ok (.aload_n 0, 1) := by decide +kernel
theorem dX2_deadThen_29 : decode cX2_deadThen 29 = .ok (.getfield 10, 3) := by decide +kernel
theorem dX2_deadThen_32 : decode cX2_deadThen 32 = .ok (.invokevirtual 61, 3) := by decide +kernel
theorem dX2_deadThen_35 : decode cX2_deadThen 35 = .ok (.aload_n 0, 1) := by decide +kernel
theorem dX2_deadThen_36 : decode cX2_deadThen 36 = .ok (.getfield 16, 3) := by decide +kernel
theorem dX2_deadThen_39 : decode cX2_deadThen 39 = .ok (.iload_n 1, 1) := by decide +kernel
theorem dX2_deadThen_40 : decode cX2_deadThen 40 = .ok (.invokevirtual 120, 3) := by decide +kernel
theorem dX2_deadThen_43 : decode cX2_deadThen 43 = .ok (.aload_n 0, 1) := by decide +kernel
theorem dX2_deadThen_44 : decode cX2_deadThen 44 = .ok (.getfield 16, 3) := by decide +kernel
theorem dX2_deadThen_47 : decode cX2_deadThen 47 = .ok (.invokevirtual 128, 3) := by decide +kernel
theorem dX2_deadThen_50 : decode cX2_deadThen 50 = .ok (.aload_n 0, 1) := by decide +kernel
theorem dX2_deadThen_51 : decode cX2_deadThen 51 = .ok (.getfield 16, 3) := by decide +kernel
theorem dX2_deadThen_54 : decode cX2_deadThen 54 = .ok (.getfield 131, 3) := by decide +kernel
theorem dX2_deadThen_57 : decode cX2_deadThen 57 = .ok (.iconst (-1), 1) := by decide +kernel
theorem dX2_deadThen_58 : decode cX2_deadThen 58 = .ok (.ixor, 1) := by decide +kernel
theorem dX2_deadThen_59 : decode cX2_deadThen 59 = .ok (.iand, 1) := by decide +kernel
theorem dX2_deadThen_60 : decode cX2_deadThen 60 = .ok (.ireturn, 1) := by decide +kernel
set_option maxRecDepth 20000 in
theorem ggX2_lasts_X2_noTopic : GoodIn wsX2_lasts wsX2_noTopic := goodIn_r _ [6] (by decide +kernel) (by decide +kernel)
set_option maxRecDepth 20000 in
theorem gX2_lasts_X2_noTopic : GoodIn wsX2_lasts (va_wsS RX2 94 yX2_noTopic wsX2_noTopic) := goodIn_app (goodIn_of _ (by decide +kernel)) ggX2_lasts_X2_noTopic
set_option maxRecDepth 20000 in
theorem ggX2_lasts_X2_refuse : GoodIn wsX2_lasts wsX2_refuse := goodIn_r _ [10, 11, 98, 99, 100, 101, 102, 103, 104, 105, 106] (by decide +kernel) (by decide +kernel)
set_option maxRecDepth 20000 in
theorem gX2_lasts_X2_refuse : GoodIn wsX2_lasts (wsV RX2 47 RX2 yX2_refuse wsX2_refuse) := goodIn_app (goodIn_of _ (by decide +kernel)) ggX2_lasts_X2_refuse
set_option maxRecDepth 20000 in
theorem ggX2_lasts_X1_become : GoodIn wsX2_lasts wsX1_become := goodIn_r _ [15, 16, 17, 18, 19, 20, 21, 22, 23, 24, 25, 26, 27, 107, 108, 109, 110, 111, 112, 113, 114] (by decide +kernel) (by decide +kernel)
set_option maxRecDepth 20000 in
theorem gX2_lasts_X1_become_n61 : GoodIn wsX2_lasts (wsX1_become) := ggX2_lasts_X1_become
set_option maxRecDepth 20000 in
theorem ggX2_lasts_X1_endOf : GoodIn wsX2_lasts wsX1_endOf := goodIn_r _ [30, 31, 32, 33, 13, 34, 35, 36, 37, 38, 23, 26, 39, 40, 41, 42, 24, 43, 44, 45, 46, 27, 25, 47, 48, 49, 50, 22, 51, 52, 53, 54, 55, 56, 57, 58, 59, 60, 61, 62, 63, 64, 65, 66, 16, 21, 67, 68, 69, 70, 71, 72, 73, 74, 75, 76, 77, 78, 79, 80, 81, 82, 83, 84, 85, 86, 87, 88, 89, 90, 91, 92, 93, 94, 95, 96, 97, 107, 108, 109, 110, 111, 112, 113, 114] (by decide +kernel) (by decide +kernel)
set_option maxRecDepth 20000 in
theorem gX2_lasts_X1_endOf_n134 : GoodIn wsX2_lasts (wsX1_endOf) := ggX2_lasts_X1_endOf
theorem dX2_lasts_0 : decode cX2_lasts 0 = .ok (.iload_n 1, 1) := by decide +kernel
theorem dX2_lasts_1 : decode cX2_lasts 1 = .ok (.invokestatic 94, 3) := by decide +kernel
theorem dX2_lasts_4 : decode cX2_lasts 4 = .ok (.ifCond .eq 9, 3) := by decide +kernel
theorem dX2_lasts_7 : decode cX2_lasts 7 = .ok (.aload_n 0, 1) := by decide +kernel
theorem dX2_lasts_8 : decode cX2_lasts 8 = .ok (.iconst (-1), 1) := by decide +kernel
theorem dX2_lasts_9 : decode cX2_lasts 9 = .ok (.invokevirtual 47, 3) := by decide +kernel
theorem dX2_lasts_12 : decode cX2_lasts 12 = .ok (.ireturn, 1) := by decide +kernel
theorem dX2_lasts_13 : decode cX2_lasts 13 = .ok (.aload_n 0, 1) := by decide +kernel
theorem dX2_lasts_14 : decode cX2_lasts 14 = .ok (.getfield 16, 3) := by decide +kernel
theorem dX2_lasts_17 : decode cX2_lasts 17 = .ok (.aload_n 0, 1) := by decide +kernel
theorem dX2_lasts_18 : decode cX2_lasts 18 = .ok (.getfield 10, 3) := by decide +kernel
theorem dX2_lasts_21 : decode cX2_lasts 21 = .ok (.invokevirtual 61, 3) := by decide +kernel
theorem dX2_lasts_24 : decode cX2_lasts 24 = .ok (.aload_n 0, 1) := by decide +kernel
theorem dX2_lasts_25 : decode cX2_lasts 25 = .ok (.getfield 16, 3) := by decide +kernel
theorem dX2_lasts_28 : decode cX2_lasts 28 = .ok (.iload_n 1, 1) := by decide +kernel
theorem dX2_lasts_29 : decode cX2_lasts 29 = .ok (.invokevirtual 134, 3) := by decide +kernel
theorem dX2_lasts_32 : decode cX2_lasts 32 = .ok (.istore_n 2, 1) := by decide +kernel
theorem dX2_lasts_33 : decode cX2_lasts 33 = .ok (.iload_n 2, 1) := by decide +kernel
theorem dX2_lasts_34 : decode cX2_lasts 34 = .ok (.bipush 60, 2) := by decide +kernel
theorem dX2_lasts_36 : decode cX2_lasts 36 = .ok (.if_icmp .le 8, 3) := by decide +kernel
theorem dX2_lasts_39 : decode cX2_lasts 39 = .ok (.bipush (-9), 2) := by decide +kernel
theorem dX2_lasts_41 : decode cX2_lasts 41 = .ok (.goto 4, 3) := by decide +kernel
theorem dX2_lasts_44 : decode cX2_lasts 44 = .ok (.iload_n 2, 1) := by decide +kernel
theorem dX2_lasts_45 : decode cX2_lasts 45 = .ok (.ireturn, 1) := by decide +kernel
set_option maxRecDepth 20000 in
theorem ggX2_lost_X2_refuse : GoodIn wsX2_lost wsX2_refuse := goodIn_r _ [7, 8, 102, 103, 104, 105, 106, 107, 108, 109, 110] (by decide +kernel) (by decide +kernel)
set_option maxRecDepth 20000 in
theorem gX2_lost_X2_refuse : GoodIn wsX2_lost (wsV RX2 47 RX2 yX2_refuse wsX2_refuse) := goodIn_app (goodIn_of _ (by decide +kernel)) ggX2_lost_X2_refuse
set_option maxRecDepth 20000 in
theorem ggX2_lost_X1_become : GoodIn wsX2_lost wsX1_become := goodIn_r _ [12, 13, 14, 15, 16, 17, 18, 19, 20, 21, 22, 23, 24, 111, 112, 113, 114, 115, 116, 117, 118] (by decide +kernel) (by decide +kernel)
set_option maxRecDepth 20000 in
theorem gX2_lost_X1_become_n61 : GoodIn wsX2_lost (wsX1_become) := ggX2_lost_X1_become
set_option maxRecDepth 20000 in
theorem ggX2_lost_X1_book : GoodIn wsX2_lost wsX1_book := goodIn_r _ [27, 28, 29, 30, 10, 31, 32, 33, 34, 35, 20, 23, 36, 37, 38, 39, 21, 111, 112, 113, 114, 115, 116, 117, 118] (by decide +kernel) (by decide +kernel)
set_option maxRecDepth 20000 in
theorem gX2_lost_X1_book_n101 : GoodIn wsX2_lost (wsX1_book) := ggX2_lost_X1_book
set_option maxRecDepth 20000 in
theorem ggX2_lost_X1_pass : GoodIn wsX2_lost wsX1_pass := goodIn_r _ [42, 43, 44, 45, 10, 46, 23, 24, 22, 47, 48, 49, 50, 19, 51, 52, 53, 54, 55, 56, 57, 58, 59, 60, 61, 62, 63, 64, 65, 66, 13, 18, 67, 68, 69, 70, 71, 72, 73, 74, 75, 76, 77, 78, 20, 21, 32, 33, 34, 35, 79, 80, 81, 82, 83, 84, 85, 36, 37, 38, 39, 86, 87, 88, 89, 90, 91, 92, 93, 94, 95, 96, 97, 111, 112, 113, 114, 115, 116, 117, 118] (by decide +kernel) (by decide +kernel)
set_option maxRecDepth 20000 in
theorem gX2_lost_X1_pass_n120 : GoodIn wsX2_lost (wsX1_pass) := ggX2_lost_X1_pass
set_option maxRecDepth 20000 in
theorem ggX2_lost_J6_numberOfTrailingZeros_0f7a4 : GoodIn wsX2_lost wsJ6_numberOfTrailingZeros_0f7a4 := goodIn_r _ [100, 101] (by decide +kernel) (by decide +kernel)
set_option maxRecDepth 20000 in
theorem gX2_lost_J6_numberOfTrailingZeros_0f7a4 : GoodIn wsX2_lost (va_wsS RX2 137 yJ6_numberOfTrailingZeros_0f7a4 wsJ6_numberOfTrailingZeros_0f7a4) := goodIn_app (goodIn_of _ (by decide +kernel)) ggX2_lost_J6_numberOfTrailingZeros_0f7a4
theorem dX2_lost_0 : decode cX2_lost 0 = .ok (.iload_n 1, 1) := by decide +kernel
theorem dX2_lost_1 : decode cX2_lost 1 = .ok (.ifCond .lt 8, 3) := by decide +kernel
theorem dX2_lost_4 : decode cX2_lost 4 = .ok (.iload_n 1, 1) := by decide +kernel
theorem dX2_lost_5 : decode cX2_lost 5 = .ok (.iconst 1, 1) := by decide +kernel
theorem dX2_lost_6 : decode cX2_lost 6 = .ok (.if_icmp .le 10, 3) := by decide +kernel
theorem dX2_lost_9 : decode cX2_lost 9 = .ok (.aload_n 0, 1) := by decide +kernel
theorem dX2_lost_10 : decode cX2_lost 10 = .ok (.bipush (-2), 2) := by decide +kernel
theorem dX2_lost_12 : decode cX2_lost 12 = .ok (.invokevirtual 47, 3) := by decide +kernel
theorem dX2_lost_15 : decode cX2_lost 15 = .ok (.ireturn, 1) := by decide +kernel
theorem dX2_lost_16 : decode cX2_lost 16 = .ok (.aload_n 0, 1) := by decide +kernel
theorem dX2_lost_17 : decode cX2_lost 17 = .ok (.getfield 16, 3) := by decide +kernel
theorem dX2_lost_20 : decode cX2_lost 20 = .ok (.aload_n 0, 1) := by decide +kernel
theorem dX2_lost_21 : decode cX2_lost 21 = .ok (.getfield 10, 3) := by decide +kernel
theorem dX2_lost_24 : decode cX2_lost 24 = .ok (.invokevirtual 61, 3) := by decide +kernel
theorem dX2_lost_27 : decode cX2_lost 27 = .ok (.aload_n 0, 1) := by decide +kernel
theorem dX2_lost_28 : decode cX2_lost 28 = .ok (.getfield 10, 3) := by decide +kernel
theorem dX2_lost_31 : decode cX2_lost 31 = .ok (.invokevirtual 101, 3) := by decide +kernel
theorem dX2_lost_34 : decode cX2_lost 34 = .ok (.istore_n 2, 1) := by decide +kernel
theorem dX2_lost_35 : decode cX2_lost 35 = .ok (.iconst 1, 1) := by decide +kernel
theorem dX2_lost_36 : decode cX2_lost 36 = .ok (.istore_n 3, 1) := by decide +kernel
theorem dX2_lost_37 : decode cX2_lost 37 = .ok (.iload_n 3, 1) := by decide +kernel
theorem dX2_lost_38 : decode cX2_lost 38 = .ok (.bipush 60, 2) := by decide +kernel
theorem dX2_lost_40 : decode cX2_lost 40 = .ok (.if_icmp .gt 49, 3) := by decide +kernel
theorem dX2_lost_43 : decode cX2_lost 43 = .ok (.aload_n 0, 1) := by decide +kernel
theorem dX2_lost_44 : decode cX2_lost 44 = .ok (.getfield 16, 3) := by decide +kernel
theorem dX2_lost_47 : decode cX2_lost 47 = .ok (.iconst 1, 1) := by decide +kernel
theorem dX2_lost_48 : decode cX2_lost 48 = .ok (.invokevirtual 120, 3) := by decide +kernel
theorem dX2_lost_51 : decode cX2_lost 51 = .ok (.iload_n 2, 1) := by decide +kernel
theorem dX2_lost_52 : decode cX2_lost 52 = .ok (.aload_n 0, 1) := by decide +kernel
theorem dX2_lost_53 : decode cX2_lost 53 = .ok (.getfield 16, 3) := by decide +kernel
theorem dX2_lost_56 : decode cX2_lost 56 = .ok (.invokevirtual 101, 3) := by decide +kernel
theorem dX2_lost_59 : decode cX2_lost 59 = .ok (.iconst (-1), 1) := by decide +kernel
theorem dX2_lost_60 : decode cX2_lost 60 = .ok (.ixor, 1) := by decide +kernel
theorem dX2_lost_61 : decode cX2_lost 61 = .ok (.iand, 1) := by decide +kernel
theorem dX2_lost_62 : decode cX2_lost 62 = .ok (.istore 4, 2) := by decide +kernel
theorem dX2_lost_64 : decode cX2_lost 64 = .ok (.iload 4, 2) := by decide +kernel
theorem dX2_lost_66 : decode cX2_lost 66 = .ok (.ifCond .eq 17, 3) := by decide +kernel
theorem dX2_lost_69 : decode cX2_lost 69 = .ok (.iload_n 1, 1) := by decide +kernel
theorem dX2_lost_70 : decode cX2_lost 70 = .ok (.ifCond .ne 11, 3) := by decide +kernel
theorem dX2_lost_73 : decode cX2_lost 73 = .ok (.iload 4, 2) := by decide +kernel
theorem dX2_lost_75 : decode cX2_lost 75 = .ok (.invokestatic 137, 3) := by decide +kernel
theorem dX2_lost_78 : decode cX2_lost 78 = .ok (.goto 4, 3) := by decide +kernel
theorem dX2_lost_81 : decode cX2_lost 81 = .ok (.iload_n 3, 1) := by decide +kernel
theorem dX2_lost_82 : decode cX2_lost 82 = .ok (.ireturn, 1) := by decide +kernel
theorem dX2_lost_83 : decode cX2_lost 83 = .ok (.iinc 3 1, 3) := by decide +kernel
theorem dX2_lost_86 : decode cX2_lost 86 = .ok (.goto (-49), 3) := by decide +kernel
theorem dX2_lost_89 : decode cX2_lost 89 = .ok (.bipush (-9), 2) := by decide +kernel
theorem dX2_lost_91 : decode cX2_lost 91 = .ok (.ireturn, 1) := by decide +kernel
set_option maxRecDepth 20000 in
theorem ggX2_still_X2_refuse : GoodIn wsX2_still wsX2_refuse := goodIn_r _ [7, 8, 94, 95, 96, 97, 98, 99, 100, 101, 102] (by decide +kernel) (by decide +kernel)
set_option maxRecDepth 20000 in
theorem gX2_still_X2_refuse : GoodIn wsX2_still (wsV RX2 47 RX2 yX2_refuse wsX2_refuse) := goodIn_app (goodIn_of _ (by decide +kernel)) ggX2_still_X2_refuse
set_option maxRecDepth 20000 in
theorem ggX2_still_X1_become : GoodIn wsX2_still wsX1_become := goodIn_r _ [12, 13, 14, 15, 16, 17, 18, 19, 20, 21, 22, 23, 24, 103, 104, 105, 106, 107, 108, 109, 110] (by decide +kernel) (by decide +kernel)
set_option maxRecDepth 20000 in
theorem gX2_still_X1_become_n61 : GoodIn wsX2_still (wsX1_become) := ggX2_still_X1_become
set_option maxRecDepth 20000 in
theorem ggX2_still_X1_book : GoodIn wsX2_still wsX1_book := goodIn_r _ [27, 28, 29, 30, 10, 31, 32, 33, 34, 35, 20, 23, 36, 37, 38, 39, 21, 103, 104, 105, 106, 107, 108, 109, 110] (by decide +kernel) (by decide +kernel)
set_option maxRecDepth 20000 in
theorem gX2_still_X1_book_n101 : GoodIn wsX2_still (wsX1_book) := ggX2_still_X1_book
set_option maxRecDepth 20000 in
theorem ggX2_still_X1_passOne : GoodIn wsX2_still wsX1_passOne := goodIn_r _ [42, 23, 24, 22, 43, 44, 45, 10, 46, 19, 47, 48, 49, 50, 51, 52, 53, 54, 55, 56, 57, 58, 59, 60, 61, 62, 13, 18, 63, 64, 65, 66, 67, 68, 69, 70, 71, 72, 73, 74, 20, 21, 32, 33, 34, 35, 75, 76, 77, 78, 79, 80, 81, 36, 37, 38, 39, 82, 83, 84, 85, 86, 87, 88, 89, 90, 91, 92, 93, 103, 104, 105, 106, 107, 108, 109, 110] (by decide +kernel) (by decide +kernel)
set_option maxRecDepth 20000 in
theorem gX2_still_X1_passOne_n142 : GoodIn wsX2_still (wsX1_passOne) := ggX2_still_X1_passOne
theorem dX2_still_0 : decode cX2_still 0 = .ok (.iload_n 1, 1) := by decide +kernel
theorem dX2_still_1 : decode cX2_still 1 = .ok (.ifCond .lt 8, 3) := by decide +kernel
theorem dX2_still_4 : decode cX2_still 4 = .ok (.iload_n 1, 1) := by decide +kernel
theorem dX2_still_5 : decode cX2_still 5 = .ok (.iconst 1, 1) := by decide +kernel
theorem dX2_still_6 : decode cX2_still 6 = .ok (.if_icmp .le 10, 3) := by decide +kernel
theorem dX2_still_9 : decode cX2_still 9 = .ok (.aload_n 0, 1) := by decide +kernel
theorem dX2_still_10 : decode cX2_still 10 = .ok (.bipush (-2), 2) := by decide +kernel
theorem dX2_still_12 : decode cX2_still 12 = .ok (.invokevirtual 47, 3) := by decide +kernel
theorem dX2_still_15 : decode cX2_still 15 = .ok (.ireturn, 1) := by decide +kernel
theorem dX2_still_16 : decode cX2_still 16 = .ok (.aload_n 0, 1) := by decide +kernel
theorem dX2_still_17 : decode cX2_still 17 = .ok (.getfield 16, 3) := by decide +kernel
theorem dX2_still_20 : decode cX2_still 20 = .ok (.aload_n 0, 1) := by decide +kernel
theorem dX2_still_21 : decode cX2_still 21 = .ok (.getfield 10, 3) := by decide +kernel
theorem dX2_still_24 : decode cX2_still 24 = .ok (.invokevirtual 61, 3) := by decide +kernel
theorem dX2_still_27 : decode cX2_still 27 = .ok (.iconst 0, 1) := by decide +kernel
theorem dX2_still_28 : decode cX2_still 28 = .ok (.istore_n 2, 1) := by decide +kernel
theorem dX2_still_29 : decode cX2_still 29 = .ok (.iload_n 2, 1) := by decide +kernel
theorem dX2_still_30 : decode cX2_still 30 = .ok (.bipush 60, 2) := by decide +kernel
theorem dX2_still_32 : decode cX2_still 32 = .ok (.if_icmp .gt 47, 3) := by decide +kernel
theorem dX2_still_35 : decode cX2_still 35 = .ok (.iload_n 1, 1) := by decide +kernel
theorem dX2_still_36 : decode cX2_still 36 = .ok (.iconst 1, 1) := by decide +kernel
theorem dX2_still_37 : decode cX2_still 37 = .ok (.if_icmp .ne 15, 3) := by decide +kernel
theorem dX2_still_40 : decode cX2_still 40 = .ok (.aload_n 0, 1) := by decide +kernel
theorem dX2_still_41 : decode cX2_still 41 = .ok (.getfield 16, 3) := by decide +kernel
theorem dX2_still_44 : decode cX2_still 44 = .ok (.invokevirtual 101, 3) := by decide +kernel
theorem dX2_still_47 : decode cX2_still 47 = .ok (.ifCond .ne 5, 3) := by decide +kernel
theorem dX2_still_50 : decode cX2_still 50 = .ok (.iload_n 2, 1) := by decide +kernel
theorem dX2_still_51 : decode cX2_still 51 = .ok (.ireturn, 1) := by decide +kernel
theorem dX2_still_52 : decode cX2_still 52 = .ok (.aload_n 0, 1) := by decide +kernel
theorem dX2_still_53 : decode cX2_still 53 = .ok (.getfield 16, 3) := by decide +kernel
theorem dX2_still_56 : decode cX2_still 56 = .ok (.iconst 0, 1) := by decide +kernel
theorem dX2_still_57 : decode cX2_still 57 = .ok (.bipush 8, 2) := by decide +kernel
theorem dX2_still_59 : decode cX2_still 59 = .ok (.invokevirtual 142, 3) := by decide +kernel
theorem dX2_still_62 : decode cX2_still 62 = .ok (.istore_n 3, 1) := by decide +kernel
theorem dX2_still_63 : decode cX2_still 63 = .ok (.iload_n 1, 1) := by decide +kernel
theorem dX2_still_64 : decode cX2_still 64 = .ok (.ifCond .ne 9, 3) := by decide +kernel
theorem dX2_still_67 : decode cX2_still 67 = .ok (.iload_n 3, 1) := by decide +kernel
theorem dX2_still_68 : decode cX2_still 68 = .ok (.ifCond .ne 5, 3) := by decide +kernel
theorem dX2_still_71 : decode cX2_still 71 = .ok (.iload_n 2, 1) := by decide +kernel
theorem dX2_still_72 : decode cX2_still 72 = .ok (.ireturn, 1) := by decide +kernel
theorem dX2_still_73 : decode cX2_still 73 = .ok (.iinc 2 1, 3) := by decide +kernel
theorem dX2_still_76 : decode cX2_still 76 = .ok (.goto (-47), 3) := by decide +kernel
theorem dX2_still_79 : decode cX2_still 79 = .ok (.bipush (-9), 2) := by decide +kernel
theorem dX2_still_81 : decode cX2_still 81 = .ok (.ireturn, 1) := by decide +kernel
set_option maxRecDepth 20000 in
theorem ggX2_chapter_X2_largestChapter : GoodIn wsX2_chapter wsX2_largestChapter := goodIn_r _ [6, 1, 7, 8, 9, 10, 11, 12, 13, 14, 15, 16, 17, 18, 19, 20, 21, 22, 23, 24, 25, 26, 27, 28, 29, 30, 31, 32, 33, 34, 44, 45, 46, 47, 48, 49, 50, 51, 52, 53, 54, 55, 56, 57, 58, 59, 60] (by decide +kernel) (by decide +kernel)
set_option maxRecDepth 20000 in
theorem gX2_chapter_X2_largestChapter : GoodIn wsX2_chapter (wsV RX2 146 RX2 yX2_largestChapter wsX2_largestChapter) := goodIn_app (goodIn_of _ (by decide +kernel)) ggX2_chapter_X2_largestChapter
set_option maxRecDepth 20000 in
theorem ggX2_chapter_X2_noCitizen : GoodIn wsX2_chapter wsX2_noCitizen := goodIn_r _ [38, 1, 44, 45, 46, 47, 48, 49, 50, 51, 52, 53, 54, 55, 56, 57, 58, 59, 60] (by decide +kernel) (by decide +kernel)
set_option maxRecDepth 20000 in
theorem gX2_chapter_X2_noCitizen : GoodIn wsX2_chapter (wsV RX2 72 RX2 yX2_noCitizen wsX2_noCitizen) := goodIn_app (goodIn_of _ (by decide +kernel)) ggX2_chapter_X2_noCitizen
set_option maxRecDepth 20000 in
theorem ggX2_chapter_X2_refuse : GoodIn wsX2_chapter wsX2_refuse := goodIn_r _ [42, 43, 44, 45, 46, 47, 48, 49, 50, 51, 52] (by decide +kernel) (by decide +kernel)
set_option maxRecDepth 20000 in
theorem gX2_chapter_X2_refuse : GoodIn wsX2_chapter (wsV RX2 47 RX2 yX2_refuse wsX2_refuse) := goodIn_app (goodIn_of _ (by decide +kernel)) ggX2_chapter_X2_refuse
set_option maxRecDepth 20000 in
theorem ggX2_chapter_X1_chapterOf : GoodIn wsX2_chapter wsX1_chapterOf := goodIn_r _ [15, 16, 7, 9, 8, 10, 11, 12, 17, 18, 19, 20, 21, 22, 23, 24, 25, 26, 27, 28, 29, 30, 31, 32, 33, 34, 53, 54, 55, 56, 57, 58, 59, 60] (by decide +kernel) (by decide +kernel)
set_option maxRecDepth 20000 in
theorem gX2_chapter_X1_chapterOf_n149 : GoodIn wsX2_chapter (wsX1_chapterOf) := ggX2_chapter_X1_chapterOf
theorem dX2_chapter_0 : decode cX2_chapter 0 = .ok (.iload_n 1, 1) := by decide +kernel
theorem dX2_chapter_1 : decode cX2_chapter 1 = .ok (.iconst (-1), 1) := by decide +kernel
theorem dX2_chapter_2 : decode cX2_chapter 2 = .ok (.if_icmp .ne 8, 3) := by decide +kernel
theorem dX2_chapter_5 : decode cX2_chapter 5 = .ok (.aload_n 0, 1) := by decide +kernel
theorem dX2_chapter_6 : decode cX2_chapter 6 = .ok (.invokevirtual 146, 3) := by decide +kernel
theorem dX2_chapter_9 : decode cX2_chapter 9 = .ok (.ireturn, 1) := by decide +kernel
theorem dX2_chapter_10 : decode cX2_chapter 10 = .ok (.aload_n 0, 1) := by decide +kernel
theorem dX2_chapter_11 : decode cX2_chapter 11 = .ok (.iload_n 1, 1) := by decide +kernel
theorem dX2_chapter_12 : decode cX2_chapter 12 = .ok (.invokevirtual 72, 3) := by decide +kernel
theorem dX2_chapter_15 : decode cX2_chapter 15 = .ok (.ifCond .eq 9, 3) := by decide +kernel
theorem dX2_chapter_18 : decode cX2_chapter 18 = .ok (.aload_n 0, 1) := by decide +kernel
theorem dX2_chapter_19 : decode cX2_chapter 19 = .ok (.iconst (-1), 1) := by decide +kernel
theorem dX2_chapter_20 : decode cX2_chapter 20 = .ok (.invokevirtual 47, 3) := by decide +kernel
theorem dX2_chapter_23 : decode cX2_chapter 23 = .ok (.ireturn, 1) := by decide +kernel
theorem dX2_chapter_24 : decode cX2_chapter 24 = .ok (.aload_n 0, 1) := by decide +kernel
theorem dX2_chapter_25 : decode cX2_chapter 25 = .ok (.getfield 10, 3) := by decide +kernel
theorem dX2_chapter_28 : decode cX2_chapter 28 = .ok (.iload_n 1, 1) := by decide +kernel
theorem dX2_chapter_29 : decode cX2_chapter 29 = .ok (.invokevirtual 149, 3) := by decide +kernel
theorem dX2_chapter_32 : decode cX2_chapter 32 = .ok (.ireturn, 1) := by decide +kernel
set_option maxRecDepth 20000 in
theorem ggX2_quarrel_X2_noTopic : GoodIn wsX2_quarrel wsX2_noTopic := goodIn_r _ [5] (by decide +kernel) (by decide +kernel)
set_option maxRecDepth 20000 in
theorem gX2_quarrel_X2_noTopic : GoodIn wsX2_quarrel (va_wsS RX2 94 yX2_noTopic wsX2_noTopic) := goodIn_app (goodIn_of _ (by decide +kernel)) ggX2_quarrel_X2_noTopic
set_option maxRecDepth 20000 in
theorem ggX2_quarrel_X2_refuse : GoodIn wsX2_quarrel wsX2_refuse := goodIn_r _ [9, 10, 102, 103, 104, 105, 106, 107, 108, 109, 110] (by decide +kernel) (by decide +kernel)
set_option maxRecDepth 20000 in
theorem gX2_quarrel_X2_refuse : GoodIn wsX2_quarrel (wsV RX2 47 RX2 yX2_refuse wsX2_refuse) := goodIn_app (goodIn_of _ (by decide +kernel)) ggX2_quarrel_X2_refuse
set_option maxRecDepth 20000 in
theorem ggX2_quarrel_X1_isLiving : GoodIn wsX2_quarrel wsX1_isLiving := goodIn_r _ [14, 15, 16, 111, 112, 113, 114, 115, 116, 117, 118] (by decide +kernel) (by decide +kernel)
set_option maxRecDepth 20000 in
theorem gX2_quarrel_X1_isLiving_n85 : GoodIn wsX2_quarrel (wsX1_isLiving) := ggX2_quarrel_X1_isLiving
set_option maxRecDepth 20000 in
theorem ggX2_quarrel_X2_endOfQuarrel : GoodIn wsX2_quarrel wsX2_endOfQuarrel := goodIn_r _ [20, 21, 1, 22, 12, 23, 24, 25, 26, 27, 28, 29, 30, 31, 32, 33, 15, 16, 34, 35, 36, 37, 38, 39, 40, 41, 42, 43, 44, 45, 46, 47, 48, 49, 50, 51, 52, 53, 54, 55, 56, 57, 58, 59, 60, 61, 62, 63, 64, 65, 11, 13, 14, 66, 67, 68, 69, 70, 71, 72, 73, 74, 75, 76, 77, 78, 79, 80, 81, 82, 83, 84, 85, 86, 87, 88, 89, 90, 91, 92, 93, 94, 95, 96, 97, 98, 99, 100, 101, 102, 103, 104, 105, 106, 107, 108, 109, 110, 111, 112, 113, 114, 115, 116, 117, 118] (by decide +kernel) (by decide +kernel)
set_option maxRecDepth 20000 in
theorem gX2_quarrel_X2_endOfQuarrel : GoodIn wsX2_quarrel (wsV RX2 153 RX2 yX2_endOfQuarrel wsX2_endOfQuarrel) := goodIn_app (goodIn_of _ (by decide +kernel)) ggX2_quarrel_X2_endOfQuarrel
theorem dX2_quarrel_0 : decode cX2_quarrel 0 = .ok (.iload_n 1, 1) := by decide +kernel
theorem dX2_quarrel_1 : decode cX2_quarrel 1 = .ok (.invokestatic 94, 3) := by decide +kernel
theorem dX2_quarrel_4 : decode cX2_quarrel 4 = .ok (.ifCond .eq 9, 3) := by decide +kernel
theorem dX2_quarrel_7 : decode cX2_quarrel 7 = .ok (.aload_n 0, 1) := by decide +kernel
theorem dX2_quarrel_8 : decode cX2_quarrel 8 = .ok (.iconst (-1), 1) := by decide +kernel
theorem dX2_quarrel_9 : decode cX2_quarrel 9 = .ok (.invokevirtual 47, 3) := by decide +kernel
theorem dX2_quarrel_12 : decode cX2_quarrel 12 = .ok (.ireturn, 1) := by decide +kernel
theorem dX2_quarrel_13 : decode cX2_quarrel 13 = .ok (.bipush (-9), 2) := by decide +kernel
theorem dX2_quarrel_15 : decode cX2_quarrel 15 = .ok (.istore_n 2, 1) := by decide +kernel
theorem dX2_quarrel_16 : decode cX2_quarrel 16 = .ok (.bipush (-9), 2) := by decide +kernel
theorem dX2_quarrel_18 : decode cX2_quarrel 18 = .ok (.istore_n 3, 1) := by decide +kernel
theorem dX2_quarrel_19 : decode cX2_quarrel 19 = .ok (.iconst 0, 1) := by decide +kernel
theorem dX2_quarrel_20 : decode cX2_quarrel 20 = .ok (.istore 4, 2) := by decide +kernel
theorem dX2_quarrel_22 : decode cX2_quarrel 22 = .ok (.iload 4, 2) := by decide +kernel
theorem dX2_quarrel_24 : decode cX2_quarrel 24 = .ok (.aload_n 0, 1) := by decide +kernel
theorem dX2_quarrel_25 : decode cX2_quarrel 25 = .ok (.getfield 10, 3) := by decide +kernel
theorem dX2_quarrel_28 : decode cX2_quarrel 28 = .ok (.getfield 152, 3) := by decide +kernel
theorem dX2_quarrel_31 : decode cX2_quarrel 31 = .ok (.if_icmp .ge 93, 3) := by decide +kernel
theorem dX2_quarrel_34 : decode cX2_quarrel 34 = .ok (.iconst 0, 1) := by decide +kernel
theorem dX2_quarrel_35 : decode cX2_quarrel 35 = .ok (.istore 5, 2) := by decide +kernel
theorem dX2_quarrel_37 : decode cX2_quarrel 37 = .ok (.iload 5, 2) := by decide +kernel
theorem dX2_quarrel_39 : decode cX2_quarrel 39 = .ok (.aload_n 0, 1) := by decide +kernel
theorem dX2_quarrel_40 : decode cX2_quarrel 40 = .ok (.getfield 10, 3) := by decide +kernel
theorem dX2_quarrel_43 : decode cX2_quarrel 43 = .ok (.getfield 152, 3) := by decide +kernel
theorem dX2_quarrel_46 : decode cX2_quarrel 46 = .ok (.if_icmp .ge 72, 3) := by decide +kernel
theorem dX2_quarrel_49 : decode cX2_quarrel 49 = .ok (.iload 4, 2) := by decide +kernel
theorem dX2_quarrel_51 : decode cX2_quarrel 51 = .ok (.iload 5, 2) := by decide +kernel
theorem dX2_quarrel_53 : decode cX2_quarrel 53 = .ok (.if_icmp .eq 59, 3) := by decide +kernel
theorem dX2_quarrel_56 : decode cX2_quarrel 56 = .ok (.aload_n 0, 1) := by decide +kernel
theorem dX2_quarrel_57 : decode cX2_quarrel 57 = .ok (.getfield 10, 3) := by decide +kernel
theorem dX2_quarrel_60 : decode cX2_quarrel 60 = .ok (.iload 4, 2) := by decide +kernel
theorem dX2_quarrel_62 : decode cX2_quarrel 62 = .ok (.invokevirtual 85, 3) := by decide +kernel
theorem dX2_quarrel_65 : decode cX2_quarrel 65 = .ok (.ifCond .eq 47, 3) := by decide +kernel
theorem dX2_quarrel_68 : decode cX2_quarrel 68 = .ok (.aload_n 0, 1) := by decide +kernel
theorem dX2_quarrel_69 : decode cX2_quarrel 69 = .ok (.getfield 10, 3) := by decide +kernel
theorem dX2_quarrel_72 : decode cX2_quarrel 72 = .ok (.iload 5, 2) := by decide +kernel
theorem dX2_quarrel_74 : decode cX2_quarrel 74 = .ok (.invokevirtual 85, 3) := by decide +kernel
theorem dX2_quarrel_77 : decode cX2_quarrel 77 = .ok (.ifCond .ne 6, 3) := by decide +kernel
theorem dX2_quarrel_80 : decode cX2_quarrel 80 = .ok (.goto 32, 3) := by decide +kernel
theorem dX2_quarrel_83 : decode cX2_quarrel 83 = .ok (.aload_n 0, 1) := by decide +kernel
theorem dX2_quarrel_84 : decode cX2_quarrel 84 = .ok (.iload 4, 2) := by decide +kernel
theorem dX2_quarrel_86 : decode cX2_quarrel 86 = .ok (.iload 5, 2) := by decide +kernel
theorem dX2_quarrel_88 : decode cX2_quarrel 88 = .ok (.iload_n 1, 1) := by decide +kernel
theorem dX2_quarrel_89 : decode cX2_quarrel 89 = .ok (.invokevirtual 153, 3) := by decide +kernel
theorem dX2_quarrel_92 : decode cX2_quarrel 92 = .ok (.istore 6, 2) := by decide +kernel
theorem dX2_quarrel_94 : decode cX2_quarrel 94 = .ok (.iload 6, 2) := by decide +kernel
theorem dX2_quarrel_96 : decode cX2_quarrel 96 = .ok (.iload_n 2, 1) := by decide +kernel
theorem dX2_quarrel_97 : decode cX2_quarrel 97 = .ok (.if_icmp .le 15, 3) := by decide +kernel
theorem dX2_quarrel_100 : decode cX2_quarrel 100 = .ok (.iload 6, 2) := by decide +kernel
theorem dX2_quarrel_102 : decode cX2_quarrel 102 = .ok (.istore_n 2, 1) := by decide +kernel
theorem dX2_quarrel_103 : decode cX2_quarrel 103 = .ok (.bipush 10, 2) := by decide +kernel
theorem dX2_quarrel_105 : decode cX2_quarrel 105 = .ok (.iload 4, 2) := by decide +kernel
theorem dX2_quarrel_107 : decode cX2_quarrel 107 = .ok (.imul, 1) := by decide +kernel
theorem dX2_quarrel_108 : decode cX2_quarrel 108 = .ok (.iload 5, 2) := by decide +kernel
theorem dX2_quarrel_110 : decode cX2_quarrel 110 = .ok (.iadd, 1) := by decide +kernel
theorem dX2_quarrel_111 : decode cX2_quarrel 111 = .ok (.istore_n 3, 1) := by decide +kernel
theorem dX2_quarrel_112 : decode cX2_quarrel 112 = .ok (.iinc 5 1, 3) := by decide +kernel
theorem dX2_quarrel_115 : decode cX2_quarrel 115 = .ok (.goto (-78), 3) := by decide +kernel
theorem dX2_quarrel_118 : decode cX2_quarrel 118 = .ok (.iinc 4 1, 3) := by decide +kernel
theorem dX2_quarrel_121 : decode cX2_quarrel 121 = .ok (.goto (-99), 3) := by decide +kernel
theorem dX2_quarrel_124 : decode cX2_quarrel 124 = .ok (.iload_n 3, 1) := by decide +kernel
theorem dX2_quarrel_125 : decode cX2_quarrel 125 = .ok (.ireturn, 1) := by decide +kernel
set_option maxRecDepth 20000 in
theorem ggX2_keeps_X1_howManyLive : GoodIn wsX2_keeps wsX1_howManyLive := goodIn_r _ [5, 6, 7, 8, 9, 10, 11, 12, 13, 31, 32, 33, 34, 35, 36, 37, 38] (by decide +kernel) (by decide +kernel)
set_option maxRecDepth 20000 in
theorem gX2_keeps_X1_howManyLive_n111 : GoodIn wsX2_keeps (wsX1_howManyLive) := ggX2_keeps_X1_howManyLive
set_option maxRecDepth 20000 in
theorem ggX2_keeps_X1_livingYes : GoodIn wsX2_keeps wsX1_livingYes := goodIn_r _ [16, 17, 6, 31, 32, 33, 34, 35, 36, 37, 38] (by decide +kernel) (by decide +kernel)
set_option maxRecDepth 20000 in
theorem gX2_keeps_X1_livingYes_n157 : GoodIn wsX2_keeps (wsX1_livingYes) := ggX2_keeps_X1_livingYes
set_option maxRecDepth 20000 in
theorem ggX2_keeps_X1_livingNo : GoodIn wsX2_keeps wsX1_livingNo := goodIn_r _ [20, 21, 6, 31, 32, 33, 34, 35, 36, 37, 38] (by decide +kernel) (by decide +kernel)
set_option maxRecDepth 20000 in
theorem gX2_keeps_X1_livingNo_n160 : GoodIn wsX2_keeps (wsX1_livingNo) := ggX2_keeps_X1_livingNo
theorem dX2_keeps_0 : decode cX2_keeps 0 = .ok (.aload_n 0, 1) := by decide +kernel
theorem dX2_keeps_1 : decode cX2_keeps 1 = .ok (.getfield 10, 3) := by decide +kernel
theorem dX2_keeps_4 : decode cX2_keeps 4 = .ok (.invokevirtual 111, 3) := by decide +kernel
theorem dX2_keeps_7 : decode cX2_keeps 7 = .ok (.iconst 2, 1) := by decide +kernel
theorem dX2_keeps_8 : decode cX2_keeps 8 = .ok (.if_icmp .ge 6, 3) := by decide +kernel
theorem dX2_keeps_11 : decode cX2_keeps 11 = .ok (.bipush (-9), 2) := by decide +kernel
theorem dX2_keeps_13 : decode cX2_keeps 13 = .ok (.ireturn, 1) := by decide +kernel
theorem dX2_keeps_14 : decode cX2_keeps 14 = .ok (.iconst 0, 1) := by decide +kernel
theorem dX2_keeps_15 : decode cX2_keeps 15 = .ok (.istore_n 1, 1) := by decide +kernel
theorem dX2_keeps_16 : decode cX2_keeps 16 = .ok (.iconst 0, 1) := by decide +kernel
theorem dX2_keeps_17 : decode cX2_keeps 17 = .ok (.istore_n 2, 1) := by decide +kernel
theorem dX2_keeps_18 : decode cX2_keeps 18 = .ok (.iload_n 2, 1) := by decide +kernel
theorem dX2_keeps_19 : decode cX2_keeps 19 = .ok (.bipush 8, 2) := by decide +kernel
theorem dX2_keeps_21 : decode cX2_keeps 21 = .ok (.if_icmp .ge 37, 3) := by decide +kernel
theorem dX2_keeps_24 : decode cX2_keeps 24 = .ok (.aload_n 0, 1) := by decide +kernel
theorem dX2_keeps_25 : decode cX2_keeps 25 = .ok (.getfield 10, 3) := by decide +kernel
theorem dX2_keeps_28 : decode cX2_keeps 28 = .ok (.iload_n 2, 1) := by decide +kernel
theorem dX2_keeps_29 : decode cX2_keeps 29 = .ok (.invokevirtual 157, 3) := by decide +kernel
theorem dX2_keeps_32 : decode cX2_keeps 32 = .ok (.ifCond .ne 6, 3) := by decide +kernel
theorem dX2_keeps_35 : decode cX2_keeps 35 = .ok (.iinc 1 1, 3) := by decide +kernel
theorem dX2_keeps_38 : decode cX2_keeps 38 = .ok (.aload_n 0, 1) := by decide +kernel
theorem dX2_keeps_39 : decode cX2_keeps 39 = .ok (.getfield 10, 3) := by decide +kernel
theorem dX2_keeps_42 : decode cX2_keeps 42 = .ok (.iload_n 2, 1) := by decide +kernel
theorem dX2_keeps_43 : decode cX2_keeps 43 = .ok (.invokevirtual 160, 3) := by decide +kernel
theorem dX2_keeps_46 : decode cX2_keeps 46 = .ok (.ifCond .ne 6, 3) := by decide +kernel
theorem dX2_keeps_49 : decode cX2_keeps 49 = .ok (.iinc 1 1, 3) := by decide +kernel
theorem dX2_keeps_52 : decode cX2_keeps 52 = .ok (.iinc 2 1, 3) := by decide +kernel
theorem dX2_keeps_55 : decode cX2_keeps 55 = .ok (.goto (-37), 3) := by decide +kernel
theorem dX2_keeps_58 : decode cX2_keeps 58 = .ok (.iload_n 1, 1) := by decide +kernel
theorem dX2_keeps_59 : decode cX2_keeps 59 = .ok (.ireturn, 1) := by decide +kernel
set_option maxRecDepth 20000 in
theorem ggX2_silent_X2_refuse : GoodIn wsX2_silent wsX2_refuse := goodIn_r _ [6, 7, 23, 24, 25, 26, 27, 28, 29, 30, 31] (by decide +kernel) (by decide +kernel)
set_option maxRecDepth 20000 in
theorem gX2_silent_X2_refuse : GoodIn wsX2_silent (wsV RX2 47 RX2 yX2_refuse wsX2_refuse) := goodIn_app (goodIn_of _ (by decide +kernel)) ggX2_silent_X2_refuse
set_option maxRecDepth 20000 in
theorem ggX2_silent_X1_livingYes : GoodIn wsX2_silent wsX1_livingYes := goodIn_r _ [11, 12, 13, 32, 33, 34, 35, 36, 37, 38, 39] (by decide +kernel) (by decide +kernel)
set_option maxRecDepth 20000 in
theorem gX2_silent_X1_livingYes_n157 : GoodIn wsX2_silent (wsX1_livingYes) := ggX2_silent_X1_livingYes
set_option maxRecDepth 20000 in
theorem ggX2_silent_X1_livingNo : GoodIn wsX2_silent wsX1_livingNo := goodIn_r _ [16, 17, 13, 32, 33, 34, 35, 36, 37, 38, 39] (by decide +kernel) (by decide +kernel)
set_option maxRecDepth 20000 in
theorem gX2_silent_X1_livingNo_n160 : GoodIn wsX2_silent (wsX1_livingNo) := ggX2_silent_X1_livingNo
set_option maxRecDepth 20000 in
theorem ggX2_silent_X1_isWritten : GoodIn wsX2_silent wsX1_isWritten := goodIn_r _ [20, 21, 8, 10, 9, 11, 12, 13, 22, 14, 15, 16, 17, 32, 33, 34, 35, 36, 37, 38, 39] (by decide +kernel) (by decide +kernel)
set_option maxRecDepth 20000 in
theorem gX2_silent_X1_isWritten_n163 : GoodIn wsX2_silent (wsX1_isWritten) := ggX2_silent_X1_isWritten
theorem dX2_silent_0 : decode cX2_silent 0 = .ok (.iload_n 1, 1) := by decide +kernel
theorem dX2_silent_1 : decode cX2_silent 1 = .ok (.ifCond .lt 8, 3) := by decide +kernel
theorem dX2_silent_4 : decode cX2_silent 4 = .ok (.iload_n 1, 1) := by decide +kernel
theorem dX2_silent_5 : decode cX2_silent 5 = .ok (.iconst 1, 1) := by decide +kernel
theorem dX2_silent_6 : decode cX2_silent 6 = .ok (.if_icmp .le 10, 3) := by decide +kernel
theorem dX2_silent_9 : decode cX2_silent 9 = .ok (.aload_n 0, 1) := by decide +kernel
theorem dX2_silent_10 : decode cX2_silent 10 = .ok (.bipush (-2), 2) := by decide +kernel
theorem dX2_silent_12 : decode cX2_silent 12 = .ok (.invokevirtual 47, 3) := by decide +kernel
theorem dX2_silent_15 : decode cX2_silent 15 = .ok (.ireturn, 1) := by decide +kernel
theorem dX2_silent_16 : decode cX2_silent 16 = .ok (.iconst 0, 1) := by decide +kernel
theorem dX2_silent_17 : decode cX2_silent 17 = .ok (.istore_n 2, 1) := by decide +kernel
theorem dX2_silent_18 : decode cX2_silent 18 = .ok (.iconst 0, 1) := by decide +kernel
theorem dX2_silent_19 : decode cX2_silent 19 = .ok (.istore_n 3, 1) := by decide +kernel
theorem dX2_silent_20 : decode cX2_silent 20 = .ok (.iload_n 3, 1) := by decide +kernel
theorem dX2_silent_21 : decode cX2_silent 21 = .ok (.bipush 8, 2) := by decide +kernel
theorem dX2_silent_23 : decode cX2_silent 23 = .ok (.if_icmp .ge 87, 3) := by decide +kernel
theorem dX2_silent_26 : decode cX2_silent 26 = .ok (.aload_n 0, 1) := by decide +kernel
theorem dX2_silent_27 : decode cX2_silent 27 = .ok (.getfield 10, 3) := by decide +kernel
theorem dX2_silent_30 : decode cX2_silent 30 = .ok (.iload_n 3, 1) := by decide +kernel
theorem dX2_silent_31 : decode cX2_silent 31 = .ok (.invokevirtual 157, 3) := by decide +kernel
theorem dX2_silent_34 : decode cX2_silent 34 = .ok (.aload_n 0, 1) := by decide +kernel
theorem dX2_silent_35 : decode cX2_silent 35 = .ok (.getfield 10, 3) := by decide +kernel
theorem dX2_silent_38 : decode cX2_silent 38 = .ok (.iload_n 3, 1) := by decide +kernel
theorem dX2_silent_39 : decode cX2_silent 39 = .ok (.invokevirtual 160, 3) := by decide +kernel
theorem dX2_silent_42 : decode cX2_silent 42 = .ok (.ior, 1) := by decide +kernel
theorem dX2_silent_43 : decode cX2_silent 43 = .ok (.ifCond .eq 7, 3) := by decide +kernel
theorem dX2_silent_46 : decode cX2_silent 46 = .ok (.iconst 1, 1) := by decide +kernel
theorem dX2_silent_47 : decode cX2_silent 47 = .ok (.goto 4, 3) := by decide +kernel
theorem dX2_silent_50 : decode cX2_silent 50 = .ok (.iconst 0, 1) := by decide +kernel
theorem dX2_silent_51 : decode cX2_silent 51 = .ok (.istore 4, 2) := by decide +kernel
theorem dX2_silent_53 : decode cX2_silent 53 = .ok (.iload_n 1, 1) := by decide +kernel
theorem dX2_silent_54 : decode cX2_silent 54 = .ok (.ifCond .ne 16, 3) := by decide +kernel
theorem dX2_silent_57 : decode cX2_silent 57 = .ok (.iload 4, 2) := by decide +kernel
theorem dX2_silent_59 : decode cX2_silent 59 = .ok (.ifCond .ne 7, 3) := by decide +kernel
theorem dX2_silent_62 : decode cX2_silent 62 = .ok (.iconst 1, 1) := by decide +kernel
theorem dX2_silent_63 : decode cX2_silent 63 = .ok (.goto 28, 3) := by decide +kernel
theorem dX2_silent_66 : decode cX2_silent 66 = .ok (.iconst 0, 1) := by decide +kernel
theorem dX2_silent_67 : decode cX2_silent 67 = .ok (.goto 24, 3) := by decide +kernel
theorem dX2_silent_70 : decode cX2_silent 70 = .ok (.iload 4, 2) := by decide +kernel
theorem dX2_silent_72 : decode cX2_silent 72 = .ok (.ifCond .eq 18, 3) := by decide +kernel
theorem dX2_silent_75 : decode cX2_silent 75 = .ok (.aload_n 0, 1) := by decide +kernel
theorem dX2_silent_76 : decode cX2_silent 76 = .ok (.getfield 10, 3) := by decide +kernel
theorem dX2_silent_79 : decode cX2_silent 79 = .ok (.iload_n 3, 1) := by decide +kernel
theorem dX2_silent_80 : decode cX2_silent 80 = .ok (.invokevirtual 163, 3) := by decide +kernel
theorem dX2_silent_83 : decode cX2_silent 83 = .ok (.ifCond .ne 7, 3) := by decide +kernel
theorem dX2_silent_86 : decode cX2_silent 86 = .ok (.iconst 1, 1) := by decide +kernel
theorem dX2_silent_87 : decode cX2_silent 87 = .ok (.goto 4, 3) := by decide +kernel
theorem dX2_silent_90 : decode cX2_silent 90 = .ok (.iconst 0, 1) := by decide +kernel
theorem dX2_silent_91 : decode cX2_silent 91 = .ok (.istore 5, 2) := by decide +kernel
theorem dX2_silent_93 : decode cX2_silent 93 = .ok (.iload 5, 2) := by decide +kernel
theorem dX2_silent_95 : decode cX2_silent 95 = .ok (.ifCond .eq 9, 3) := by decide +kernel
theorem dX2_silent_98 : decode cX2_silent 98 = .ok (.iload_n 2, 1) := by decide +kernel
theorem dX2_silent_99 : decode cX2_silent 99 = .ok (.iconst 1, 1) := by decide +kernel
theorem dX2_silent_100 : decode cX2_silent 100 = .ok (.iload_n 3, 1) := by decide +kernel
theorem dX2_silent_101 : decode cX2_silent 101 = .ok (.ishl, 1) := by decide +kernel
theorem dX2_silent_102 : decode cX2_silent 102 = .ok (.ior, 1) := by decide +kernel
theorem dX2_silent_103 : decode cX2_silent 103 = .ok (.istore_n 2, 1) := by decide +kernel
theorem dX2_silent_104 : decode cX2_silent 104 = .ok (.iinc 3 1, 3) := by decide +kernel
theorem dX2_silent_107 : decode cX2_silent 107 = .ok (.goto (-87), 3) := by decide +kernel
theorem dX2_silent_110 : decode cX2_silent 110 = .ok (.iload_n 2, 1) := by decide +kernel
theorem dX2_silent_111 : decode cX2_silent 111 = .ok (.ireturn, 1) := by decide +kernel
set_option maxRecDepth 20000 in
theorem ggX2_lives_X2_refuse : GoodIn wsX2_lives wsX2_refuse := goodIn_r _ [7, 8, 102, 103, 104, 105, 106, 107, 108, 109, 110] (by decide +kernel) (by decide +kernel)
set_option maxRecDepth 20000 in
theorem gX2_lives_X2_refuse : GoodIn wsX2_lives (wsV RX2 47 RX2 yX2_refuse wsX2_refuse) := goodIn_app (goodIn_of _ (by decide +kernel)) ggX2_lives_X2_refuse
set_option maxRecDepth 20000 in
theorem ggX2_lives_X1_isLiving : GoodIn wsX2_lives wsX1_isLiving := goodIn_r _ [12, 13, 14, 111, 112, 113, 114, 115, 116, 117, 118] (by decide +kernel) (by decide +kernel)
set_option maxRecDepth 20000 in
theorem gX2_lives_X1_isLiving_n85 : GoodIn wsX2_lives (wsX1_isLiving) := ggX2_lives_X1_isLiving
set_option maxRecDepth 20000 in
theorem ggX2_lives_X1_become : GoodIn wsX2_lives wsX1_become := goodIn_r _ [17, 18, 19, 20, 21, 22, 23, 24, 25, 26, 13, 14, 27, 111, 112, 113, 114, 115, 116, 117, 118] (by decide +kernel) (by decide +kernel)
set_option maxRecDepth 20000 in
theorem gX2_lives_X1_become_n61 : GoodIn wsX2_lives (wsX1_become) := ggX2_lives_X1_become
set_option maxRecDepth 20000 in
theorem ggX2_lives_X1_bury : GoodIn wsX2_lives wsX1_bury := goodIn_r _ [30, 14, 31, 9, 11, 10, 12, 13, 111, 112, 113, 114, 115, 116, 117, 118] (by decide +kernel) (by decide +kernel)
set_option maxRecDepth 20000 in
theorem gX2_lives_X1_bury_n108 : GoodIn wsX2_lives (wsX1_bury) := ggX2_lives_X1_bury
set_option maxRecDepth 20000 in
theorem ggX2_lives_X1_pass : GoodIn wsX2_lives wsX1_pass := goodIn_r _ [34, 35, 36, 37, 10, 38, 14, 27, 13, 39, 40, 41, 42, 24, 43, 44, 45, 46, 31, 9, 11, 12, 47, 48, 49, 50, 51, 52, 53, 54, 18, 23, 55, 28, 29, 30, 56, 57, 58, 59, 60, 61, 62, 63, 25, 26, 64, 65, 66, 67, 68, 69, 70, 71, 72, 73, 74, 75, 76, 77, 78, 79, 80, 81, 82, 83, 84, 85, 86, 87, 88, 89, 90, 111, 112, 113, 114, 115, 116, 117, 118] (by decide +kernel) (by decide +kernel)
set_option maxRecDepth 20000 in
theorem gX2_lives_X1_pass_n120 : GoodIn wsX2_lives (wsX1_pass) := ggX2_lives_X1_pass
set_option maxRecDepth 20000 in
theorem ggX2_lives_X1_bookSize : GoodIn wsX2_lives wsX1_bookSize := goodIn_r _ [93, 94, 95, 96, 10, 97, 98, 99, 100, 101, 64, 65, 66, 67, 25, 14, 75, 76, 77, 78, 26, 68, 69, 70, 71, 72, 73, 74, 111, 112, 113, 114, 115, 116, 117, 118] (by decide +kernel) (by decide +kernel)
set_option maxRecDepth 20000 in
theorem gX2_lives_X1_bookSize_n117 : GoodIn wsX2_lives (wsX1_bookSize) := ggX2_lives_X1_bookSize
theorem dX2_lives_0 : decode cX2_lives 0 = .ok (.iload_n 1, 1) := by decide +kernel
theorem dX2_lives_1 : decode cX2_lives 1 = .ok (.ifCond .ge 10, 3) := by decide +kernel
theorem dX2_lives_4 : decode cX2_lives 4 = .ok (.aload_n 0, 1) := by decide +kernel
theorem dX2_lives_5 : decode cX2_lives 5 = .ok (.bipush (-4), 2) := by decide +kernel
theorem dX2_lives_7 : decode cX2_lives 7 = .ok (.invokevirtual 47, 3) := by decide +kernel
theorem dX2_lives_10 : decode cX2_lives 10 = .ok (.ireturn, 1) := by decide +kernel
theorem dX2_lives_11 : decode cX2_lives 11 = .ok (.iload_n 1, 1) := by decide +kernel
theorem dX2_lives_12 : decode cX2_lives 12 = .ok (.bipush 60, 2) := by decide +kernel
theorem dX2_lives_14 : decode cX2_lives 14 = .ok (.if_icmp .le 10, 3) := by decide +kernel
theorem dX2_lives_17 : decode cX2_lives 17 = .ok (.aload_n 0, 1) := by decide +kernel
theorem dX2_lives_18 : decode cX2_lives 18 = .ok (.bipush (-6), 2) := by decide +kernel
theorem dX2_lives_20 : decode cX2_lives 20 = .ok (.invokevirtual 47, 3) := by decide +kernel
theorem dX2_lives_23 : decode cX2_lives 23 = .ok (.ireturn, 1) := by decide +kernel
theorem dX2_lives_24 : decode cX2_lives 24 = .ok (.iload_n 2, 1) := by decide +kernel
theorem dX2_lives_25 : decode cX2_lives 25 = .ok (.ifCond .lt 8, 3) := by decide +kernel
theorem dX2_lives_28 : decode cX2_lives 28 = .ok (.iload_n 2, 1) := by decide +kernel
theorem dX2_lives_29 : decode cX2_lives 29 = .ok (.iconst 1, 1) := by decide +kernel
theorem dX2_lives_30 : decode cX2_lives 30 = .ok (.if_icmp .le 10, 3) := by decide +kernel
theorem dX2_lives_33 : decode cX2_lives 33 = .ok (.aload_n 0, 1) := by decide +kernel
theorem dX2_lives_34 : decode cX2_lives 34 = .ok (.bipush (-2), 2) := by decide +kernel
theorem dX2_lives_36 : decode cX2_lives 36 = .ok (.invokevirtual 47, 3) := by decide +kernel
theorem dX2_lives_39 : decode cX2_lives 39 = .ok (.ireturn, 1) := by decide +kernel
theorem dX2_lives_40 : decode cX2_lives 40 = .ok (.bipush (-9), 2) := by decide +kernel
theorem dX2_lives_42 : decode cX2_lives 42 = .ok (.istore_n 3, 1) := by decide +kernel
theorem dX2_lives_43 : decode cX2_lives 43 = .ok (.bipush (-9), 2) := by decide +kernel
theorem dX2_lives_45 : decode cX2_lives 45 = .ok (.istore 4, 2) := by decide +kernel
theorem dX2_lives_47 : decode cX2_lives 47 = .ok (.iconst 0, 1) := by decide +kernel
theorem dX2_lives_48 : decode cX2_lives 48 = .ok (.istore 5, 2) := by decide +kernel
theorem dX2_lives_50 : decode cX2_lives 50 = .ok (.iload 5, 2) := by decide +kernel
theorem dX2_lives_52 : decode cX2_lives 52 = .ok (.aload_n 0, 1) := by decide +kernel
theorem dX2_lives_53 : decode cX2_lives 53 = .ok (.getfield 10, 3) := by decide +kernel
theorem dX2_lives_56 : decode cX2_lives 56 = .ok (.getfield 152, 3) := by decide +kernel
theorem dX2_lives_59 : decode cX2_lives 59 = .ok (.if_icmp .ge 82, 3) := by decide +kernel
theorem dX2_lives_62 : decode cX2_lives 62 = .ok (.aload_n 0, 1) := by decide +kernel
theorem dX2_lives_63 : decode cX2_lives 63 = .ok (.getfield 10, 3) := by decide +kernel
theorem dX2_lives_66 : decode cX2_lives 66 = .ok (.iload 5, 2) := by decide +kernel
theorem dX2_lives_68 : decode cX2_lives 68 = .ok (.invokevirtual 85, 3) := by decide +kernel
theorem dX2_lives_71 : decode cX2_lives 71 = .ok (.ifCond .ne 6, 3) := by decide +kernel
theorem dX2_lives_74 : decode cX2_lives 74 = .ok (.goto 61, 3) := by decide +kernel
theorem dX2_lives_77 : decode cX2_lives 77 = .ok (.aload_n 0, 1) := by decide +kernel
theorem dX2_lives_78 : decode cX2_lives 78 = .ok (.getfield 16, 3) := by decide +kernel
theorem dX2_lives_81 : decode cX2_lives 81 = .ok (.aload_n 0, 1) := by decide +kernel
theorem dX2_lives_82 : decode cX2_lives 82 = .ok (.getfield 10, 3) := by decide +kernel
theorem dX2_lives_85 : decode cX2_lives 85 = .ok (.invokevirtual 61, 3) := by decide +kernel
theorem dX2_lives_88 : decode cX2_lives 88 = .ok (.aload_n 0, 1) := by decide +kernel
theorem dX2_lives_89 : decode cX2_lives 89 = .ok (.getfield 16, 3) := by decide +kernel
theorem dX2_lives_92 : decode cX2_lives 92 = .ok (.iload 5, 2) := by decide +kernel
theorem dX2_lives_94 : decode cX2_lives 94 = .ok (.invokevirtual 108, 3) := by decide +kernel
theorem dX2_lives_97 : decode cX2_lives 97 = .ok (.pop, 1) := by decide +kernel
theorem dX2_lives_98 : decode cX2_lives 98 = .ok (.aload_n 0, 1) := by decide +kernel
theorem dX2_lives_99 : decode cX2_lives 99 = .ok (.getfield 16, 3) := by decide +kernel
theorem dX2_lives_102 : decode cX2_lives 102 = .ok (.iload_n 1, 1) := by decide +kernel
theorem dX2_lives_103 : decode cX2_lives 103 = .ok (.invokevirtual 120, 3) := by decide +kernel
theorem dX2_lives_106 : decode cX2_lives 106 = .ok (.aload_n 0, 1) := by decide +kernel
theorem dX2_lives_107 : decode cX2_lives 107 = .ok (.getfield 16, 3) := by decide +kernel
theorem dX2_lives_110 : decode cX2_lives 110 = .ok (.invokevirtual 117, 3) := by decide +kernel
theorem dX2_lives_113 : decode cX2_lives 113 = .ok (.istore 6, 2) := by decide +kernel
theorem dX2_lives_115 : decode cX2_lives 115 = .ok (.iload_n 3, 1) := by decide +kernel
theorem dX2_lives_116 : decode cX2_lives 116 = .ok (.bipush (-9), 2) := by decide +kernel
theorem dX2_lives_118 : decode cX2_lives 118 = .ok (.if_icmp .eq 10, 3) := by decide +kernel
theorem dX2_lives_121 : decode cX2_lives 121 = .ok (.iload 6, 2) := by decide +kernel
theorem dX2_lives_123 : decode cX2_lives 123 = .ok (.iload 4, 2) := by decide +kernel
theorem dX2_lives_125 : decode cX2_lives 125 = .ok (.if_icmp .ge 10, 3) := by decide +kernel
theorem dX2_lives_128 : decode cX2_lives 128 = .ok (.iload 5, 2) := by decide +kernel
theorem dX2_lives_130 : decode cX2_lives 130 = .ok (.istore_n 3, 1) := by decide +kernel
theorem dX2_lives_131 : decode cX2_lives 131 = .ok (.iload 6, 2) := by decide +kernel
theorem dX2_lives_133 : decode cX2_lives 133 = .ok (.istore 4, 2) := by decide +kernel
theorem dX2_lives_135 : decode cX2_lives 135 = .ok (.iinc 5 1, 3) := by decide +kernel
theorem dX2_lives_138 : decode cX2_lives 138 = .ok (.goto (-88), 3) := by decide +kernel
theorem dX2_lives_141 : decode cX2_lives 141 = .ok (.iload_n 2, 1) := by decide +kernel
theorem dX2_lives_142 : decode cX2_lives 142 = .ok (.ifCond .ne 7, 3) := by decide +kernel
theorem dX2_lives_145 : decode cX2_lives 145 = .ok (.iload_n 3, 1) := by decide +kernel
theorem dX2_lives_146 : decode cX2_lives 146 = .ok (.goto 5, 3) := by decide +kernel
theorem dX2_lives_149 : decode cX2_lives 149 = .ok (.iload 4, 2) := by decide +kernel
theorem dX2_lives_151 : decode cX2_lives 151 = .ok (.ireturn, 1) := by decide +kernel
set_option maxRecDepth 20000 in
theorem ggX2_heir_X2_refuse : GoodIn wsX2_heir wsX2_refuse := goodIn_r _ [7, 8, 102, 103, 104, 105, 106, 107, 108, 109, 110] (by decide +kernel) (by decide +kernel)
set_option maxRecDepth 20000 in
theorem gX2_heir_X2_refuse : GoodIn wsX2_heir (wsV RX2 47 RX2 yX2_refuse wsX2_refuse) := goodIn_app (goodIn_of _ (by decide +kernel)) ggX2_heir_X2_refuse
set_option maxRecDepth 20000 in
theorem ggX2_heir_X1_become : GoodIn wsX2_heir wsX1_become := goodIn_r _ [12, 13, 14, 15, 16, 17, 18, 19, 20, 21, 22, 23, 24, 111, 112, 113, 114, 115, 116, 117, 118] (by decide +kernel) (by decide +kernel)
set_option maxRecDepth 20000 in
theorem gX2_heir_X1_become_n61 : GoodIn wsX2_heir (wsX1_become) := ggX2_heir_X1_become
set_option maxRecDepth 20000 in
theorem ggX2_heir_X1_pass : GoodIn wsX2_heir wsX1_pass := goodIn_r _ [27, 28, 29, 30, 10, 31, 23, 24, 22, 32, 33, 34, 35, 19, 36, 37, 38, 39, 40, 41, 42, 43, 44, 45, 46, 47, 48, 49, 50, 51, 13, 18, 52, 53, 54, 55, 56, 57, 58, 59, 60, 61, 62, 63, 20, 21, 64, 65, 66, 67, 68, 69, 70, 71, 72, 73, 74, 75, 76, 77, 78, 79, 80, 81, 82, 83, 84, 85, 86, 87, 88, 89, 90, 111, 112, 113, 114, 115, 116, 117, 118] (by decide +kernel) (by decide +kernel)
set_option maxRecDepth 20000 in
theorem gX2_heir_X1_pass_n120 : GoodIn wsX2_heir (wsX1_pass) := ggX2_heir_X1_pass
set_option maxRecDepth 20000 in
theorem ggX2_heir_X1_bookSize : GoodIn wsX2_heir wsX1_bookSize := goodIn_r _ [93, 94, 95, 96, 10, 97, 98, 99, 100, 101, 64, 65, 66, 67, 20, 23, 75, 76, 77, 78, 21, 68, 69, 70, 71, 72, 73, 74, 111, 112, 113, 114, 115, 116, 117, 118] (by decide +kernel) (by decide +kernel)
set_option maxRecDepth 20000 in
theorem gX2_heir_X1_bookSize_n117 : GoodIn wsX2_heir (wsX1_bookSize) := ggX2_heir_X1_bookSize
set_option maxRecDepth 20000 in
theorem ggX2_heir_X1_isLiving : GoodIn wsX2_heir wsX1_isLiving := goodIn_r _ [43, 22, 23, 111, 112, 113, 114, 115, 116, 117, 118] (by decide +kernel) (by decide +kernel)
set_option maxRecDepth 20000 in
theorem gX2_heir_X1_isLiving_n85 : GoodIn wsX2_heir (wsX1_isLiving) := ggX2_heir_X1_isLiving
theorem dX2_heir_0 : decode cX2_heir 0 = .ok (.iload_n 1, 1) := by decide +kernel
theorem dX2_heir_1 : decode cX2_heir 1 = .ok (.ifCond .ge 10, 3) := by decide +kernel
theorem dX2_heir_4 : decode cX2_heir 4 = .ok (.aload_n 0, 1) := by decide +kernel
theorem dX2_heir_5 : decode cX2_heir 5 = .ok (.bipush (-4), 2) := by decide +kernel
theorem dX2_heir_7 : decode cX2_heir 7 = .ok (.invokevirtual 47, 3) := by decide +kernel
theorem dX2_heir_10 : decode cX2_heir 10 = .ok (.ireturn, 1) := by decide +kernel
theorem dX2_heir_11 : decode cX2_heir 11 = .ok (.iload_n 1, 1) := by decide +kernel
theorem dX2_heir_12 : decode cX2_heir 12 = .ok (.bipush 60, 2) := by decide +kernel
theorem dX2_heir_14 : decode cX2_heir 14 = .ok (.if_icmp .le 10, 3) := by decide +kernel
theorem dX2_heir_17 : decode cX2_heir 17 = .ok (.aload_n 0, 1) := by decide +kernel
theorem dX2_heir_18 : decode cX2_heir 18 = .ok (.bipush (-6), 2) := by decide +kernel
theorem dX2_heir_20 : decode cX2_heir 20 = .ok (.invokevirtual 47, 3) := by decide +kernel
theorem dX2_heir_23 : decode cX2_heir 23 = .ok (.ireturn, 1) := by decide +kernel
theorem dX2_heir_24 : decode cX2_heir 24 = .ok (.aload_n 0, 1) := by decide +kernel
theorem dX2_heir_25 : decode cX2_heir 25 = .ok (.getfield 16, 3) := by decide +kernel
theorem dX2_heir_28 : decode cX2_heir 28 = .ok (.aload_n 0, 1) := by decide +kernel
theorem dX2_heir_29 : decode cX2_heir 29 = .ok (.getfield 10, 3) := by decide +kernel
theorem dX2_heir_32 : decode cX2_heir 32 = .ok (.invokevirtual 61, 3) := by decide +kernel
theorem dX2_heir_35 : decode cX2_heir 35 = .ok (.aload_n 0, 1) := by decide +kernel
theorem dX2_heir_36 : decode cX2_heir 36 = .ok (.getfield 16, 3) := by decide +kernel
theorem dX2_heir_39 : decode cX2_heir 39 = .ok (.iload_n 1, 1) := by decide +kernel
theorem dX2_heir_40 : decode cX2_heir 40 = .ok (.invokevirtual 120, 3) := by decide +kernel
theorem dX2_heir_43 : decode cX2_heir 43 = .ok (.aload_n 0, 1) := by decide +kernel
theorem dX2_heir_44 : decode cX2_heir 44 = .ok (.getfield 16, 3) := by decide +kernel
theorem dX2_heir_47 : decode cX2_heir 47 = .ok (.invokevirtual 117, 3) := by decide +kernel
theorem dX2_heir_50 : decode cX2_heir 50 = .ok (.istore_n 2, 1) := by decide +kernel
theorem dX2_heir_51 : decode cX2_heir 51 = .ok (.bipush (-9), 2) := by decide +kernel
theorem dX2_heir_53 : decode cX2_heir 53 = .ok (.istore_n 3, 1) := by decide +kernel
theorem dX2_heir_54 : decode cX2_heir 54 = .ok (.iconst 0, 1) := by decide +kernel
theorem dX2_heir_55 : decode cX2_heir 55 = .ok (.istore 4, 2) := by decide +kernel
theorem dX2_heir_57 : decode cX2_heir 57 = .ok (.iload 4, 2) := by decide +kernel
theorem dX2_heir_59 : decode cX2_heir 59 = .ok (.aload_n 0, 1) := by decide +kernel
theorem dX2_heir_60 : decode cX2_heir 60 = .ok (.getfield 10, 3) := by decide +kernel
theorem dX2_heir_63 : decode cX2_heir 63 = .ok (.getfield 152, 3) := by decide +kernel
theorem dX2_heir_66 : decode cX2_heir 66 = .ok (.if_icmp .ge 76, 3) := by decide +kernel
theorem dX2_heir_69 : decode cX2_heir 69 = .ok (.aload_n 0, 1) := by decide +kernel
theorem dX2_heir_70 : decode cX2_heir 70 = .ok (.getfield 10, 3) := by decide +kernel
theorem dX2_heir_73 : decode cX2_heir 73 = .ok (.iload 4, 2) := by decide +kernel
theorem dX2_heir_75 : decode cX2_heir 75 = .ok (.invokevirtual 85, 3) := by decide +kernel
theorem dX2_heir_78 : decode cX2_heir 78 = .ok (.ifCond .ne 6, 3) := by decide +kernel
theorem dX2_heir_81 : decode cX2_heir 81 = .ok (.goto 55, 3) := by decide +kernel
theorem dX2_heir_84 : decode cX2_heir 84 = .ok (.aload_n 0, 1) := by decide +kernel
theorem dX2_heir_85 : decode cX2_heir 85 = .ok (.getfield 16, 3) := by decide +kernel
theorem dX2_heir_88 : decode cX2_heir 88 = .ok (.aload_n 0, 1) := by decide +kernel
theorem dX2_heir_89 : decode cX2_heir 89 = .ok (.getfield 10, 3) := by decide +kernel
theorem dX2_heir_92 : decode cX2_heir 92 = .ok (.invokevirtual 61, 3) := by decide +kernel
theorem dX2_heir_95 : decode cX2_heir 95 = .ok (.aload_n 0, 1) := by decide +kernel
theorem dX2_heir_96 : decode cX2_heir 96 = .ok (.getfield 16, 3) := by decide +kernel
theorem dX2_heir_99 : decode cX2_heir 99 = .ok (.getfield 76, 3) := by decide +kernel
theorem dX2_heir_102 : decode cX2_heir 102 = .ok (.iload 4, 2) := by decide +kernel
theorem dX2_heir_104 : decode cX2_heir 104 = .ok (.iconst 2, 1) := by decide +kernel
theorem dX2_heir_105 : decode cX2_heir 105 = .ok (.iastore, 1) := by decide +kernel
theorem dX2_heir_106 : decode cX2_heir 106 = .ok (.aload_n 0, 1) := by decide +kernel
theorem dX2_heir_107 : decode cX2_heir 107 = .ok (.getfield 16, 3) := by decide +kernel
theorem dX2_heir_110 : decode cX2_heir 110 = .ok (.iload_n 1, 1) := by decide +kernel
theorem dX2_heir_111 : decode cX2_heir 111 = .ok (.invokevirtual 120, 3) := by decide +kernel
theorem dX2_heir_114 : decode cX2_heir 114 = .ok (.aload_n 0, 1) := by decide +kernel
theorem dX2_heir_115 : decode cX2_heir 115 = .ok (.getfield 16, 3) := by decide +kernel
theorem dX2_heir_118 : decode cX2_heir 118 = .ok (.invokevirtual 117, 3) := by decide +kernel
theorem dX2_heir_121 : decode cX2_heir 121 = .ok (.iload_n 2, 1) := by decide +kernel
theorem dX2_heir_122 : decode cX2_heir 122 = .ok (.if_icmp .le 14, 3) := by decide +kernel
theorem dX2_heir_125 : decode cX2_heir 125 = .ok (.aload_n 0, 1) := by decide +kernel
theorem dX2_heir_126 : decode cX2_heir 126 = .ok (.getfield 16, 3) := by decide +kernel
theorem dX2_heir_129 : decode cX2_heir 129 = .ok (.invokevirtual 117, 3) := by decide +kernel
theorem dX2_heir_132 : decode cX2_heir 132 = .ok (.istore_n 2, 1) := by decide +kernel
theorem dX2_heir_133 : decode cX2_heir 133 = .ok (.iload 4, 2) := by decide +kernel
theorem dX2_heir_135 : decode cX2_heir 135 = .ok (.istore_n 3, 1) := by decide +kernel
theorem dX2_heir_136 : decode cX2_heir 136 = .ok (.iinc 4 1, 3) := by decide +kernel
theorem dX2_heir_139 : decode cX2_heir 139 = .ok (.goto (-82), 3) := by decide +kernel
theorem dX2_heir_142 : decode cX2_heir 142 = .ok (.iload_n 3, 1) := by decide +kernel
theorem dX2_heir_143 : decode cX2_heir 143 = .ok (.ireturn, 1) := by decide +kernel
set_option maxRecDepth 20000 in
theorem ggX2_so_X2_fewestAgainstMost : GoodIn wsX2_so wsX2_fewestAgainstMost := goodIn_r _ [6, 1, 7, 8, 9, 10, 11, 12, 13, 14, 15, 16, 17, 18, 19, 20, 21, 22, 23, 24, 25, 26, 27, 36, 37, 38, 39, 40, 41, 42, 43, 44, 45, 46, 47, 48, 49, 50, 51, 52] (by decide +kernel) (by decide +kernel)
set_option maxRecDepth 20000 in
theorem gX2_so_X2_fewestAgainstMost : GoodIn wsX2_so (wsV RX2 166 RX2 yX2_fewestAgainstMost wsX2_fewestAgainstMost) := goodIn_app (goodIn_of _ (by decide +kernel)) ggX2_so_X2_fewestAgainstMost
set_option maxRecDepth 20000 in
theorem ggX2_so_X2_noTopic : GoodIn wsX2_so wsX2_noTopic := goodIn_r _ [30] (by decide +kernel) (by decide +kernel)
set_option maxRecDepth 20000 in
theorem gX2_so_X2_noTopic : GoodIn wsX2_so (va_wsS RX2 94 yX2_noTopic wsX2_noTopic) := goodIn_app (goodIn_of _ (by decide +kernel)) ggX2_so_X2_noTopic
set_option maxRecDepth 20000 in
theorem ggX2_so_X2_refuse : GoodIn wsX2_so wsX2_refuse := goodIn_r _ [34, 35, 36, 37, 38, 39, 40, 41, 42, 43, 44] (by decide +kernel) (by decide +kernel)
set_option maxRecDepth 20000 in
theorem gX2_so_X2_refuse : GoodIn wsX2_so (wsV RX2 47 RX2 yX2_refuse wsX2_refuse) := goodIn_app (goodIn_of _ (by decide +kernel)) ggX2_so_X2_refuse
set_option maxRecDepth 20000 in
theorem ggX2_so_X1_livingYes : GoodIn wsX2_so wsX1_livingYes := goodIn_r _ [14, 15, 16, 45, 46, 47, 48, 49, 50, 51, 52] (by decide +kernel) (by decide +kernel)
set_option maxRecDepth 20000 in
theorem gX2_so_X1_livingYes_n157 : GoodIn wsX2_so (wsX1_livingYes) := ggX2_so_X1_livingYes
set_option maxRecDepth 20000 in
theorem ggX2_so_J6_bitCount_0f7a4 : GoodIn wsX2_so wsJ6_bitCount_0f7a4 := goodIn_r _ [20, 21, 22, 23] (by decide +kernel) (by decide +kernel)
set_option maxRecDepth 20000 in
theorem gX2_so_J6_bitCount_0f7a4 : GoodIn wsX2_so (va_wsS RX2 169 yJ6_bitCount_0f7a4 wsJ6_bitCount_0f7a4) := goodIn_app (goodIn_of _ (by decide +kernel)) ggX2_so_J6_bitCount_0f7a4
set_option maxRecDepth 20000 in
theorem ggX2_so_X1_livingNo : GoodIn wsX2_so wsX1_livingNo := goodIn_r _ [26, 27, 16, 45, 46, 47, 48, 49, 50, 51, 52] (by decide +kernel) (by decide +kernel)
set_option maxRecDepth 20000 in
theorem gX2_so_X1_livingNo_n160 : GoodIn wsX2_so (wsX1_livingNo) := ggX2_so_X1_livingNo
theorem dX2_so_0 : decode cX2_so 0 = .ok (.iload_n 1, 1) := by decide +kernel
theorem dX2_so_1 : decode cX2_so 1 = .ok (.iconst (-1), 1) := by decide +kernel
theorem dX2_so_2 : decode cX2_so 2 = .ok (.if_icmp .ne 8, 3) := by decide +kernel
theorem dX2_so_5 : decode cX2_so 5 = .ok (.aload_n 0, 1) := by decide +kernel
theorem dX2_so_6 : decode cX2_so 6 = .ok (.invokevirtual 166, 3) := by decide +kernel
theorem dX2_so_9 : decode cX2_so 9 = .ok (.ireturn, 1) := by decide +kernel
theorem dX2_so_10 : decode cX2_so 10 = .ok (.iload_n 1, 1) := by decide +kernel
theorem dX2_so_11 : decode cX2_so 11 = .ok (.invokestatic 94, 3) := by decide +kernel
theorem dX2_so_14 : decode cX2_so 14 = .ok (.ifCond .eq 9, 3) := by decide +kernel
theorem dX2_so_17 : decode cX2_so 17 = .ok (.aload_n 0, 1) := by decide +kernel
theorem dX2_so_18 : decode cX2_so 18 = .ok (.iconst (-1), 1) := by decide +kernel
theorem dX2_so_19 : decode cX2_so 19 = .ok (.invokevirtual 47, 3) := by decide +kernel
theorem dX2_so_22 : decode cX2_so 22 = .ok (.ireturn, 1) := by decide +kernel
theorem dX2_so_23 : decode cX2_so 23 = .ok (.aload_n 0, 1) := by decide +kernel
theorem dX2_so_24 : decode cX2_so 24 = .ok (.getfield 10, 3) := by decide +kernel
theorem dX2_so_27 : decode cX2_so 27 = .ok (.iload_n 1, 1) := by decide +kernel
theorem dX2_so_28 : decode cX2_so 28 = .ok (.invokevirtual 157, 3) := by decide +kernel
theorem dX2_so_31 : decode cX2_so 31 = .ok (.invokestatic 169, 3) := by decide +kernel
theorem dX2_so_34 : decode cX2_so 34 = .ok (.istore_n 2, 1) := by decide +kernel
theorem dX2_so_35 : decode cX2_so 35 = .ok (.aload_n 0, 1) := by decide +kernel
theorem dX2_so_36 : decode cX2_so 36 = .ok (.getfield 10, 3) := by decide +kernel
theorem dX2_so_39 : decode cX2_so 39 = .ok (.iload_n 1, 1) := by decide +kernel
theorem dX2_so_40 : decode cX2_so 40 = .ok (.invokevirtual 160, 3) := by decide +kernel
theorem dX2_so_43 : decode cX2_so 43 = .ok (.invokestatic 169, 3) := by decide +kernel
theorem dX2_so_46 : decode cX2_so 46 = .ok (.istore_n 3, 1) := by decide +kernel
theorem dX2_so_47 : decode cX2_so 47 = .ok (.iload_n 2, 1) := by decide +kernel
theorem dX2_so_48 : decode cX2_so 48 = .ok (.iload_n 3, 1) := by decide +kernel
theorem dX2_so_49 : decode cX2_so 49 = .ok (.iadd, 1) := by decide +kernel
theorem dX2_so_50 : decode cX2_so 50 = .ok (.ifCond .ne 5, 3) := by decide +kernel
theorem dX2_so_53 : decode cX2_so 53 = .ok (.iconst 0, 1) := by decide +kernel
theorem dX2_so_54 : decode cX2_so 54 = .ok (.ireturn, 1) := by decide +kernel
theorem dX2_so_55 : decode cX2_so 55 = .ok (.iload_n 2, 1) := by decide +kernel
theorem dX2_so_56 : decode cX2_so 56 = .ok (.iload_n 3, 1) := by decide +kernel
theorem dX2_so_57 : decode cX2_so 57 = .ok (.if_icmp .lt 7, 3) := by decide +kernel
theorem dX2_so_60 : decode cX2_so 60 = .ok (.iconst 1, 1) := by decide +kernel
theorem dX2_so_61 : decode cX2_so 61 = .ok (.goto 4, 3) := by decide +kernel
theorem dX2_so_64 : decode cX2_so 64 = .ok (.iconst 2, 1) := by decide +kernel
theorem dX2_so_65 : decode cX2_so 65 = .ok (.ireturn, 1) := by decide +kernel
set_option maxRecDepth 20000 in
theorem ggX2_leastLiars_J6_bitCount_0f7a4 : GoodIn wsX2_leastLiars wsJ6_bitCount_0f7a4 := goodIn_r _ [5, 6, 7, 8] (by decide +kernel) (by decide +kernel)
set_option maxRecDepth 20000 in
theorem gX2_leastLiars_J6_bitCount_0f7a4 : GoodIn wsX2_leastLiars (va_wsS RX2 169 yJ6_bitCount_0f7a4 wsJ6_bitCount_0f7a4) := goodIn_app (goodIn_of _ (by decide +kernel)) ggX2_leastLiars_J6_bitCount_0f7a4
set_option maxRecDepth 20000 in
theorem ggX2_leastLiars_X2_isEmptyWithout : GoodIn wsX2_leastLiars wsX2_isEmptyWithout := goodIn_r _ [13, 1, 14, 15, 16, 17, 18, 19, 20, 21, 22, 23, 24, 25, 26, 27, 28, 29, 30, 31, 32, 33, 34, 35, 36, 37, 38, 39, 40] (by decide +kernel) (by decide +kernel)
set_option maxRecDepth 20000 in
theorem gX2_leastLiars_X2_isEmptyWithout : GoodIn wsX2_leastLiars (wsV RX2 172 RX2 yX2_isEmptyWithout wsX2_isEmptyWithout) := goodIn_app (goodIn_of _ (by decide +kernel)) ggX2_leastLiars_X2_isEmptyWithout
theorem dX2_leastLiars_0 : decode cX2_leastLiars 0 = .ok (.aload_n 0, 1) := by decide +kernel
theorem dX2_leastLiars_1 : decode cX2_leastLiars 1 = .ok (.getfield 10, 3) := by decide +kernel
theorem dX2_leastLiars_4 : decode cX2_leastLiars 4 = .ok (.getfield 131, 3) := by decide +kernel
theorem dX2_leastLiars_7 : decode cX2_leastLiars 7 = .ok (.istore_n 1, 1) := by decide +kernel
theorem dX2_leastLiars_8 : decode cX2_leastLiars 8 = .ok (.iconst 0, 1) := by decide +kernel
theorem dX2_leastLiars_9 : decode cX2_leastLiars 9 = .ok (.istore_n 2, 1) := by decide +kernel
theorem dX2_leastLiars_10 : decode cX2_leastLiars 10 = .ok (.iload_n 2, 1) := by decide +kernel
theorem dX2_leastLiars_11 : decode cX2_leastLiars 11 = .ok (.aload_n 0, 1) := by decide +kernel
theorem dX2_leastLiars_12 : decode cX2_leastLiars 12 = .ok (.getfield 10, 3) := by decide +kernel
theorem dX2_leastLiars_15 : decode cX2_leastLiars 15 = .ok (.getfield 131, 3) := by decide +kernel
theorem dX2_leastLiars_18 : decode cX2_leastLiars 18 = .ok (.if_icmp .ge 47, 3) := by decide +kernel
theorem dX2_leastLiars_21 : decode cX2_leastLiars 21 = .ok (.iload_n 2, 1) := by decide +kernel
theorem dX2_leastLiars_22 : decode cX2_leastLiars 22 = .ok (.aload_n 0, 1) := by decide +kernel
theorem dX2_leastLiars_23 : decode cX2_leastLiars 23 = .ok (.getfield 10, 3) := by decide +kernel
theorem dX2_leastLiars_26 : decode cX2_leastLiars 26 = .ok (.getfield 131, 3) := by decide +kernel
theorem dX2_leastLiars_29 : decode cX2_leastLiars 29 = .ok (.iconst (-1), 1) := by decide +kernel
theorem dX2_leastLiars_30 : decode cX2_leastLiars 30 = .ok (.ixor, 1) := by decide +kernel
theorem dX2_leastLiars_31 : decode cX2_leastLiars 31 = .ok (.iand, 1) := by decide +kernel
theorem dX2_leastLiars_32 : decode cX2_leastLiars 32 = .ok (.ifCond .ne 27, 3) := by decide +kernel
theorem dX2_leastLiars_35 : decode cX2_leastLiars 35 = .ok (.iload_n 2, 1) := by decide +kernel
theorem dX2_leastLiars_36 : decode cX2_leastLiars 36 = .ok (.invokestatic 169, 3) := by decide +kernel
theorem dX2_leastLiars_39 : decode cX2_leastLiars 39 = .ok (.iload_n 1, 1) := by decide +kernel
theorem dX2_leastLiars_40 : decode cX2_leastLiars 40 = .ok (.invokestatic 169, 3) := by decide +kernel
theorem dX2_leastLiars_43 : decode cX2_leastLiars 43 = .ok (.if_icmp .lt 6, 3) := by decide +kernel
theorem dX2_leastLiars_46 : decode cX2_leastLiars 46 = .ok (.goto 13, 3) := by decide +kernel
theorem dX2_leastLiars_49 : decode cX2_leastLiars 49 = .ok (.aload_n 0, 1) := by decide +kernel
theorem dX2_leastLiars_50 : decode cX2_leastLiars 50 = .ok (.iload_n 2, 1) := by decide +kernel
theorem dX2_leastLiars_51 : decode cX2_leastLiars 51 = .ok (.invokevirtual 172, 3) := by decide +kernel
theorem dX2_leastLiars_54 : decode cX2_leastLiars 54 = .ok (.ifCond .eq 5, 3) := by decide +kernel
theorem dX2_leastLiars_57 : decode cX2_leastLiars 57 = .ok (.iload_n 2, 1) := by decide +kernel
theorem dX2_leastLiars_58 : decode cX2_leastLiars 58 = .ok (.istore_n 1, 1) := by decide +kernel
theorem dX2_leastLiars_59 : decode cX2_leastLiars 59 = .ok (.iinc 2 1, 3) := by decide +kernel
theorem dX2_leastLiars_62 : decode cX2_leastLiars 62 = .ok (.goto (-52), 3) := by decide +kernel
theorem dX2_leastLiars_65 : decode cX2_leastLiars 65 = .ok (.iload_n 1, 1) := by decide +kernel
theorem dX2_leastLiars_66 : decode cX2_leastLiars 66 = .ok (.ireturn, 1) := by decide +kernel
set_option maxRecDepth 20000 in
theorem ggX2_differ_X2_refuse : GoodIn wsX2_differ wsX2_refuse := goodIn_r _ [6, 7, 37, 38, 39, 40, 41, 42, 43, 44, 45] (by decide +kernel) (by decide +kernel)
set_option maxRecDepth 20000 in
theorem gX2_differ_X2_refuse : GoodIn wsX2_differ (wsV RX2 47 RX2 yX2_refuse wsX2_refuse) := goodIn_app (goodIn_of _ (by decide +kernel)) ggX2_differ_X2_refuse
set_option maxRecDepth 20000 in
theorem ggX2_differ_X2_mostPairs : GoodIn wsX2_differ wsX2_mostPairs := goodIn_r _ [11, 12, 1, 13, 14, 15, 16, 17, 18, 19, 20, 21, 22, 23, 24, 25, 26, 27, 28, 29, 30, 31, 37, 38, 39, 40, 41, 42, 43, 44, 45, 46, 47, 48, 49, 50, 51, 52, 53] (by decide +kernel) (by decide +kernel)
set_option maxRecDepth 20000 in
theorem gX2_differ_X2_mostPairs : GoodIn wsX2_differ (wsV RX2 175 RX2 yX2_mostPairs wsX2_mostPairs) := goodIn_app (goodIn_of _ (by decide +kernel)) ggX2_differ_X2_mostPairs
set_option maxRecDepth 20000 in
theorem ggX2_differ_X1_isLiving : GoodIn wsX2_differ wsX1_isLiving := goodIn_r _ [34, 35, 36, 46, 47, 48, 49, 50, 51, 52, 53] (by decide +kernel) (by decide +kernel)
set_option maxRecDepth 20000 in
theorem gX2_differ_X1_isLiving_n85 : GoodIn wsX2_differ (wsX1_isLiving) := ggX2_differ_X1_isLiving
set_option maxRecDepth 20000 in
theorem ggX2_differ_X1_denials : GoodIn wsX2_differ wsX1_denials := goodIn_r _ [25, 26, 27, 28, 23, 29, 30, 31, 46, 47, 48, 49, 50, 51, 52, 53] (by decide +kernel) (by decide +kernel)
set_option maxRecDepth 20000 in
theorem gX2_differ_X1_denials_n178 : GoodIn wsX2_differ (wsX1_denials) := ggX2_differ_X1_denials
theorem dX2_differ_0 : decode cX2_differ 0 = .ok (.iload_n 1, 1) := by decide +kernel
theorem dX2_differ_1 : decode cX2_differ 1 = .ok (.ifCond .lt 8, 3) := by decide +kernel
theorem dX2_differ_4 : decode cX2_differ 4 = .ok (.iload_n 1, 1) := by decide +kernel
theorem dX2_differ_5 : decode cX2_differ 5 = .ok (.iconst 2, 1) := by decide +kernel
theorem dX2_differ_6 : decode cX2_differ 6 = .ok (.if_icmp .le 10, 3) := by decide +kernel
theorem dX2_differ_9 : decode cX2_differ 9 = .ok (.aload_n 0, 1) := by decide +kernel
theorem dX2_differ_10 : decode cX2_differ 10 = .ok (.bipush (-2), 2) := by decide +kernel
theorem dX2_differ_12 : decode cX2_differ 12 = .ok (.invokevirtual 47, 3) := by decide +kernel
theorem dX2_differ_15 : decode cX2_differ 15 = .ok (.ireturn, 1) := by decide +kernel
theorem dX2_differ_16 : decode cX2_differ 16 = .ok (.iload_n 1, 1) := by decide +kernel
theorem dX2_differ_17 : decode cX2_differ 17 = .ok (.iconst 2, 1) := by decide +kernel
theorem dX2_differ_18 : decode cX2_differ 18 = .ok (.if_icmp .ne 8, 3) := by decide +kernel
theorem dX2_differ_21 : decode cX2_differ 21 = .ok (.aload_n 0, 1) := by decide +kernel
theorem dX2_differ_22 : decode cX2_differ 22 = .ok (.invokevirtual 175, 3) := by decide +kernel
theorem dX2_differ_25 : decode cX2_differ 25 = .ok (.ireturn, 1) := by decide +kernel
theorem dX2_differ_26 : decode cX2_differ 26 = .ok (.bipush (-9), 2) := by decide +kernel
theorem dX2_differ_28 : decode cX2_differ 28 = .ok (.istore_n 2, 1) := by decide +kernel
theorem dX2_differ_29 : decode cX2_differ 29 = .ok (.bipush (-9), 2) := by decide +kernel
theorem dX2_differ_31 : decode cX2_differ 31 = .ok (.istore_n 3, 1) := by decide +kernel
theorem dX2_differ_32 : decode cX2_differ 32 = .ok (.iconst 0, 1) := by decide +kernel
theorem dX2_differ_33 : decode cX2_differ 33 = .ok (.istore 4, 2) := by decide +kernel
theorem dX2_differ_35 : decode cX2_differ 35 = .ok (.iload 4, 2) := by decide +kernel
theorem dX2_differ_37 : decode cX2_differ 37 = .ok (.aload_n 0, 1) := by decide +kernel
theorem dX2_differ_38 : decode cX2_differ 38 = .ok (.getfield 10, 3) := by decide +kernel
theorem dX2_differ_41 : decode cX2_differ 41 = .ok (.getfield 152, 3) := by decide +kernel
theorem dX2_differ_44 : decode cX2_differ 44 = .ok (.if_icmp .ge 91, 3) := by decide +kernel
theorem dX2_differ_47 : decode cX2_differ 47 = .ok (.iload 4, 2) := by decide +kernel
theorem dX2_differ_49 : decode cX2_differ 49 = .ok (.iconst 1, 1) := by decide +kernel
theorem dX2_differ_50 : decode cX2_differ 50 = .ok (.iadd, 1) := by decide +kernel
theorem dX2_differ_51 : decode cX2_differ 51 = .ok (.istore 5, 2) := by decide +kernel
theorem dX2_differ_53 : decode cX2_differ 53 = .ok (.iload 5, 2) := by decide +kernel
theorem dX2_differ_55 : decode cX2_differ 55 = .ok (.aload_n 0, 1) := by decide +kernel
theorem dX2_differ_56 : decode cX2_differ 56 = .ok (.getfield 10, 3) := by decide +kernel
theorem dX2_differ_59 : decode cX2_differ 59 = .ok (.getfield 152, 3) := by decide +kernel
theorem dX2_differ_62 : decode cX2_differ 62 = .ok (.if_icmp .ge 67, 3) := by decide +kernel
theorem dX2_differ_65 : decode cX2_differ 65 = .ok (.aload_n 0, 1) := by decide +kernel
theorem dX2_differ_66 : decode cX2_differ 66 = .ok (.getfield 10, 3) := by decide +kernel
theorem dX2_differ_69 : decode cX2_differ 69 = .ok (.iload 4, 2) := by decide +kernel
theorem dX2_differ_71 : decode cX2_differ 71 = .ok (.invokevirtual 85, 3) := by decide +kernel
theorem dX2_differ_74 : decode cX2_differ 74 = .ok (.ifCond .eq 49, 3) := by decide +kernel
theorem dX2_differ_77 : decode cX2_differ 77 = .ok (.aload_n 0, 1) := by decide +kernel
theorem dX2_differ_78 : decode cX2_differ 78 = .ok (.getfield 10, 3) := by decide +kernel
theorem dX2_differ_81 : decode cX2_differ 81 = .ok (.iload 5, 2) := by decide +kernel
theorem dX2_differ_83 : decode cX2_differ 83 = .ok (.invokevirtual 85, 3) := by decide +kernel
theorem dX2_differ_86 : decode cX2_differ 86 = .ok (.ifCond .ne 6, 3) := by decide +kernel
theorem dX2_differ_89 : decode cX2_differ 89 = .ok (.goto 34, 3) := by decide +kernel
theorem dX2_differ_92 : decode cX2_differ 92 = .ok (.aload_n 0, 1) := by decide +kernel
theorem dX2_differ_93 : decode cX2_differ 93 = .ok (.getfield 10, 3) := by decide +kernel
theorem dX2_differ_96 : decode cX2_differ 96 = .ok (.iload 4, 2) := by decide +kernel
theorem dX2_differ_98 : decode cX2_differ 98 = .ok (.iload 5, 2) := by decide +kernel
theorem dX2_differ_100 : decode cX2_differ 100 = .ok (.invokevirtual 178, 3) := by decide +kernel
theorem dX2_differ_103 : decode cX2_differ 103 = .ok (.istore 6, 2) := by decide +kernel
theorem dX2_differ_105 : decode cX2_differ 105 = .ok (.iload 6, 2) := by decide +kernel
theorem dX2_differ_107 : decode cX2_differ 107 = .ok (.iload_n 3, 1) := by decide +kernel
theorem dX2_differ_108 : decode cX2_differ 108 = .ok (.if_icmp .le 15, 3) := by decide +kernel
theorem dX2_differ_111 : decode cX2_differ 111 = .ok (.iload 6, 2) := by decide +kernel
theorem dX2_differ_113 : decode cX2_differ 113 = .ok (.istore_n 3, 1) := by decide +kernel
theorem dX2_differ_114 : decode cX2_differ 114 = .ok (.bipush 10, 2) := by decide +kernel
theorem dX2_differ_116 : decode cX2_differ 116 = .ok (.iload 4, 2) := by decide +kernel
theorem dX2_differ_118 : decode cX2_differ 118 = .ok (.imul, 1) := by decide +kernel
theorem dX2_differ_119 : decode cX2_differ 119 = .ok (.iload 5, 2) := by decide +kernel
theorem dX2_differ_121 : decode cX2_differ 121 = .ok (.iadd, 1) := by decide +kernel
theorem dX2_differ_122 : decode cX2_differ 122 = .ok (.istore_n 2, 1) := by decide +kernel
theorem dX2_differ_123 : decode cX2_differ 123 = .ok (.iinc 5 1, 3) := by decide +kernel
theorem dX2_differ_126 : decode cX2_differ 126 = .ok (.goto (-73), 3) := by decide +kernel
theorem dX2_differ_129 : decode cX2_differ 129 = .ok (.iinc 4 1, 3) := by decide +kernel
theorem dX2_differ_132 : decode cX2_differ 132 = .ok (.goto (-97), 3) := by decide +kernel
theorem dX2_differ_135 : decode cX2_differ 135 = .ok (.iload_n 1, 1) := by decide +kernel
theorem dX2_differ_136 : decode cX2_differ 136 = .ok (.ifCond .ne 7, 3) := by decide +kernel
theorem dX2_differ_139 : decode cX2_differ 139 = .ok (.iload_n 2, 1) := by decide +kernel
theorem dX2_differ_140 : decode cX2_differ 140 = .ok (.goto 4, 3) := by decide +kernel
theorem dX2_differ_143 : decode cX2_differ 143 = .ok (.iload_n 3, 1) := by decide +kernel
theorem dX2_differ_144 : decode cX2_differ 144 = .ok (.ireturn, 1) := by decide +kernel
set_option maxRecDepth 20000 in
theorem ggX2_friends_X2_noCitizen : GoodIn wsX2_friends wsX2_noCitizen := goodIn_r _ [6, 1, 27, 28, 29, 30, 31, 32, 33, 34, 35, 36, 37, 38, 39, 40, 41, 42, 43] (by decide +kernel) (by decide +kernel)
set_option maxRecDepth 20000 in
theorem gX2_friends_X2_noCitizen : GoodIn wsX2_friends (wsV RX2 72 RX2 yX2_noCitizen wsX2_noCitizen) := goodIn_app (goodIn_of _ (by decide +kernel)) ggX2_friends_X2_noCitizen
set_option maxRecDepth 20000 in
theorem ggX2_friends_X2_refuse : GoodIn wsX2_friends wsX2_refuse := goodIn_r _ [10, 11, 27, 28, 29, 30, 31, 32, 33, 34, 35] (by decide +kernel) (by decide +kernel)
set_option maxRecDepth 20000 in
theorem gX2_friends_X2_refuse : GoodIn wsX2_friends (wsV RX2 47 RX2 yX2_refuse wsX2_refuse) := goodIn_app (goodIn_of _ (by decide +kernel)) ggX2_friends_X2_refuse
set_option maxRecDepth 20000 in
theorem ggX2_friends_X1_isLiving : GoodIn wsX2_friends wsX1_isLiving := goodIn_r _ [15, 16, 17, 36, 37, 38, 39, 40, 41, 42, 43] (by decide +kernel) (by decide +kernel)
set_option maxRecDepth 20000 in
theorem gX2_friends_X1_isLiving_n85 : GoodIn wsX2_friends (wsX1_isLiving) := ggX2_friends_X1_isLiving
set_option maxRecDepth 20000 in
theorem ggX2_friends_X1_denials : GoodIn wsX2_friends wsX1_denials := goodIn_r _ [20, 21, 22, 23, 13, 24, 25, 26, 36, 37, 38, 39, 40, 41, 42, 43] (by decide +kernel) (by decide +kernel)
set_option maxRecDepth 20000 in
theorem gX2_friends_X1_denials_n178 : GoodIn wsX2_friends (wsX1_denials) := ggX2_friends_X1_denials
theorem dX2_friends_0 : decode cX2_friends 0 = .ok (.aload_n 0, 1) := by decide +kernel
theorem dX2_friends_1 : decode cX2_friends 1 = .ok (.iload_n 1, 1) := by decide +kernel
theorem dX2_friends_2 : decode cX2_friends 2 = .ok (.invokevirtual 72, 3) := by decide +kernel
theorem dX2_friends_5 : decode cX2_friends 5 = .ok (.ifCond .eq 9, 3) := by decide +kernel
theorem dX2_friends_8 : decode cX2_friends 8 = .ok (.aload_n 0, 1) := by decide +kernel
theorem dX2_friends_9 : decode cX2_friends 9 = .ok (.iconst (-1), 1) := by decide +kernel
theorem dX2_friends_10 : decode cX2_friends 10 = .ok (.invokevirtual 47, 3) := by decide +kernel
theorem dX2_friends_13 : decode cX2_friends 13 = .ok (.ireturn, 1) := by decide +kernel
theorem dX2_friends_14 : decode cX2_friends 14 = .ok (.aload_n 0, 1) := by decide +kernel
theorem dX2_friends_15 : decode cX2_friends 15 = .ok (.getfield 10, 3) := by decide +kernel
theorem dX2_friends_18 : decode cX2_friends 18 = .ok (.iload_n 1, 1) := by decide +kernel
theorem dX2_friends_19 : decode cX2_friends 19 = .ok (.invokevirtual 85, 3) := by decide +kernel
theorem dX2_friends_22 : decode cX2_friends 22 = .ok (.ifCond .ne 10, 3) := by decide +kernel
theorem dX2_friends_25 : decode cX2_friends 25 = .ok (.aload_n 0, 1) := by decide +kernel
theorem dX2_friends_26 : decode cX2_friends 26 = .ok (.bipush (-3), 2) := by decide +kernel
theorem dX2_friends_28 : decode cX2_friends 28 = .ok (.invokevirtual 47, 3) := by decide +kernel
theorem dX2_friends_31 : decode cX2_friends 31 = .ok (.ireturn, 1) := by decide +kernel
theorem dX2_friends_32 : decode cX2_friends 32 = .ok (.iconst 0, 1) := by decide +kernel
theorem dX2_friends_33 : decode cX2_friends 33 = .ok (.istore_n 2, 1) := by decide +kernel
theorem dX2_friends_34 : decode cX2_friends 34 = .ok (.iconst 0, 1) := by decide +kernel
theorem dX2_friends_35 : decode cX2_friends 35 = .ok (.istore_n 3, 1) := by decide +kernel
theorem dX2_friends_36 : decode cX2_friends 36 = .ok (.iload_n 3, 1) := by decide +kernel
theorem dX2_friends_37 : decode cX2_friends 37 = .ok (.aload_n 0, 1) := by decide +kernel
theorem dX2_friends_38 : decode cX2_friends 38 = .ok (.getfield 10, 3) := by decide +kernel
theorem dX2_friends_41 : decode cX2_friends 41 = .ok (.getfield 152, 3) := by decide +kernel
theorem dX2_friends_44 : decode cX2_friends 44 = .ok (.if_icmp .ge 43, 3) := by decide +kernel
theorem dX2_friends_47 : decode cX2_friends 47 = .ok (.iload_n 3, 1) := by decide +kernel
theorem dX2_friends_48 : decode cX2_friends 48 = .ok (.iload_n 1, 1) := by decide +kernel
theorem dX2_friends_49 : decode cX2_friends 49 = .ok (.if_icmp .eq 32, 3) := by decide +kernel
theorem dX2_friends_52 : decode cX2_friends 52 = .ok (.aload_n 0, 1) := by decide +kernel
theorem dX2_friends_53 : decode cX2_friends 53 = .ok (.getfield 10, 3) := by decide +kernel
theorem dX2_friends_56 : decode cX2_friends 56 = .ok (.iload_n 3, 1) := by decide +kernel
theorem dX2_friends_57 : decode cX2_friends 57 = .ok (.invokevirtual 85, 3) := by decide +kernel
theorem dX2_friends_60 : decode cX2_friends 60 = .ok (.ifCond .eq 21, 3) := by decide +kernel
theorem dX2_friends_63 : decode cX2_friends 63 = .ok (.aload_n 0, 1) := by decide +kernel
theorem dX2_friends_64 : decode cX2_friends 64 = .ok (.getfield 10, 3) := by decide +kernel
theorem dX2_friends_67 : decode cX2_friends 67 = .ok (.iload_n 1, 1) := by decide +kernel
theorem dX2_friends_68 : decode cX2_friends 68 = .ok (.iload_n 3, 1) := by decide +kernel
theorem dX2_friends_69 : decode cX2_friends 69 = .ok (.invokevirtual 178, 3) := by decide +kernel
theorem dX2_friends_72 : decode cX2_friends 72 = .ok (.ifCond .ne 9, 3) := by decide +kernel
theorem dX2_friends_75 : decode cX2_friends 75 = .ok (.iload_n 2, 1) := by decide +kernel
theorem dX2_friends_76 : decode cX2_friends 76 = .ok (.iconst 1, 1) := by decide +kernel
theorem dX2_friends_77 : decode cX2_friends 77 = .ok (.iload_n 3, 1) := by decide +kernel
theorem dX2_friends_78 : decode cX2_friends 78 = .ok (.ishl, 1) := by decide +kernel
theorem dX2_friends_79 : decode cX2_friends 79 = .ok (.ior, 1) := by decide +kernel
theorem dX2_friends_80 : decode cX2_friends 80 = .ok (.istore_n 2, 1) := by decide +kernel
theorem dX2_friends_81 : decode cX2_friends 81 = .ok (.iinc 3 1, 3) := by decide +kernel
theorem dX2_friends_84 : decode cX2_friends 84 = .ok (.goto (-48), 3) := by decide +kernel
theorem dX2_friends_87 : decode cX2_friends 87 = .ok (.iload_n 2, 1) := by decide +kernel
theorem dX2_friends_88 : decode cX2_friends 88 = .ok (.ireturn, 1) := by decide +kernel
set_option maxRecDepth 20000 in
theorem ggX2_gives_X2_fewestAgainstMost : GoodIn wsX2_gives wsX2_fewestAgainstMost := goodIn_r _ [5, 6, 7, 8, 9, 10, 11, 12, 13, 14, 15, 16, 17, 18, 19, 20, 21, 22, 23, 24, 25, 26, 27, 28, 29, 30, 31, 32, 33, 34, 35, 36, 37, 38, 39, 40, 41, 42, 43, 44] (by decide +kernel) (by decide +kernel)
set_option maxRecDepth 20000 in
theorem gX2_gives_X2_fewestAgainstMost : GoodIn wsX2_gives (wsV RX2 166 RX2 yX2_fewestAgainstMost wsX2_fewestAgainstMost) := goodIn_app (goodIn_of _ (by decide +kernel)) ggX2_gives_X2_fewestAgainstMost
theorem dX2_gives_0 : decode cX2_gives 0 = .ok (.aload_n 0, 1) := by decide +kernel
theorem dX2_gives_1 : decode cX2_gives 1 = .ok (.invokevirtual 166, 3) := by decide +kernel
theorem dX2_gives_4 : decode cX2_gives 4 = .ok (.ireturn, 1) := by decide +kernel
set_option maxRecDepth 20000 in
theorem ggX2_two_X2_noCitizen : GoodIn wsX2_two wsX2_noCitizen := goodIn_r _ [7, 1, 109, 110, 111, 112, 113, 114, 115, 116, 117, 118, 119, 120, 121, 122, 123, 124, 125] (by decide +kernel) (by decide +kernel)
set_option maxRecDepth 20000 in
theorem gX2_two_X2_noCitizen : GoodIn wsX2_two (wsV RX2 72 RX2 yX2_noCitizen wsX2_noCitizen) := goodIn_app (goodIn_of _ (by decide +kernel)) ggX2_two_X2_noCitizen
set_option maxRecDepth 20000 in
theorem ggX2_two_X2_noTopic : GoodIn wsX2_two wsX2_noTopic := goodIn_r _ [10] (by decide +kernel) (by decide +kernel)
set_option maxRecDepth 20000 in
theorem gX2_two_X2_noTopic : GoodIn wsX2_two (va_wsS RX2 94 yX2_noTopic wsX2_noTopic) := goodIn_app (goodIn_of _ (by decide +kernel)) ggX2_two_X2_noTopic
set_option maxRecDepth 20000 in
theorem ggX2_two_X2_refuse : GoodIn wsX2_two wsX2_refuse := goodIn_r _ [14, 15, 109, 110, 111, 112, 113, 114, 115, 116, 117] (by decide +kernel) (by decide +kernel)
set_option maxRecDepth 20000 in
theorem gX2_two_X2_refuse : GoodIn wsX2_two (wsV RX2 47 RX2 yX2_refuse wsX2_refuse) := goodIn_app (goodIn_of _ (by decide +kernel)) ggX2_two_X2_refuse
set_option maxRecDepth 20000 in
theorem ggX2_two_X1_isLiving : GoodIn wsX2_two wsX1_isLiving := goodIn_r _ [19, 20, 21, 118, 119, 120, 121, 122, 123, 124, 125] (by decide +kernel) (by decide +kernel)
set_option maxRecDepth 20000 in
theorem gX2_two_X1_isLiving_n85 : GoodIn wsX2_two (wsX1_isLiving) := ggX2_two_X1_isLiving
set_option maxRecDepth 20000 in
theorem ggX2_two_X2_imagineTwo : GoodIn wsX2_two wsX2_imagineTwo := goodIn_r _ [25, 2, 1, 26, 17, 27, 28, 29, 30, 31, 32, 33, 34, 35, 36, 37, 20, 21, 38, 39, 40, 41, 42, 43, 44, 45, 46, 47, 48, 49, 50, 51, 52, 53, 54, 55, 56, 57, 16, 18, 19, 58, 59, 60, 61, 62, 63, 64, 65, 66, 67, 68, 69, 70, 71, 72, 73, 74, 75, 76, 77, 78, 79, 80, 81, 82, 83, 84, 85, 86, 87, 88, 89, 90, 91, 92, 93, 94, 95, 96, 97, 98, 99, 100, 101, 109, 110, 111, 112, 113, 114, 115, 116, 117, 118, 119, 120, 121, 122, 123, 124, 125] (by decide +kernel) (by decide +kernel)
set_option maxRecDepth 20000 in
theorem gX2_two_X2_imagineTwo : GoodIn wsX2_two (wsV RX2 181 RX2 yX2_imagineTwo wsX2_imagineTwo) := goodIn_app (goodIn_of _ (by decide +kernel)) ggX2_two_X2_imagineTwo
set_option maxRecDepth 20000 in
theorem ggX2_two_X1_chapterOf : GoodIn wsX2_two wsX1_chapterOf := goodIn_r _ [104, 57, 16, 18, 17, 19, 20, 21, 105, 106, 107, 108, 78, 79, 80, 81, 36, 89, 90, 91, 92, 37, 74, 75, 76, 77, 118, 119, 120, 121, 122, 123, 124, 125] (by decide +kernel) (by decide +kernel)
set_option maxRecDepth 20000 in
theorem gX2_two_X1_chapterOf_n149 : GoodIn wsX2_two (wsX1_chapterOf) := ggX2_two_X1_chapterOf
theorem dX2_two_0 : decode cX2_two 0 = .ok (.aload_n 0, 1) := by decide +kernel
theorem dX2_two_1 : decode cX2_two 1 = .ok (.iload_n 1, 1) := by decide +kernel
theorem dX2_two_2 : decode cX2_two 2 = .ok (.invokevirtual 72, 3) := by decide +kernel
theorem dX2_two_5 : decode cX2_two 5 = .ok (.ifCond .ne 23, 3) := by decide +kernel
theorem dX2_two_8 : decode cX2_two 8 = .ok (.aload_n 0, 1) := by decide +kernel
theorem dX2_two_9 : decode cX2_two 9 = .ok (.iload_n 2, 1) := by decide +kernel
theorem dX2_two_10 : decode cX2_two 10 = .ok (.invokevirtual 72, 3) := by decide +kernel
theorem dX2_two_13 : decode cX2_two 13 = .ok (.ifCond .ne 15, 3) := by decide +kernel
theorem dX2_two_16 : decode cX2_two 16 = .ok (.iload_n 1, 1) := by decide +kernel
theorem dX2_two_17 : decode cX2_two 17 = .ok (.iload_n 2, 1) := by decide +kernel
theorem dX2_two_18 : decode cX2_two 18 = .ok (.if_icmp .eq 10, 3) := by decide +kernel
theorem dX2_two_21 : decode cX2_two 21 = .ok (.iload_n 3, 1) := by decide +kernel
theorem dX2_two_22 : decode cX2_two 22 = .ok (.invokestatic 94, 3) := by decide +kernel
theorem dX2_two_25 : decode cX2_two 25 = .ok (.ifCond .eq 9, 3) := by decide +kernel
theorem dX2_two_28 : decode cX2_two 28 = .ok (.aload_n 0, 1) := by decide +kernel
theorem dX2_two_29 : decode cX2_two 29 = .ok (.iconst (-1), 1) := by decide +kernel
theorem dX2_two_30 : decode cX2_two 30 = .ok (.invokevirtual 47, 3) := by decide +kernel
theorem dX2_two_33 : decode cX2_two 33 = .ok (.ireturn, 1) := by decide +kernel
theorem dX2_two_34 : decode cX2_two 34 = .ok (.iload 4, 2) := by decide +kernel
theorem dX2_two_36 : decode cX2_two 36 = .ok (.ifCond .ge 10, 3) := by decide +kernel
theorem dX2_two_39 : decode cX2_two 39 = .ok (.aload_n 0, 1) := by decide +kernel
theorem dX2_two_40 : decode cX2_two 40 = .ok (.bipush (-4), 2) := by decide +kernel
theorem dX2_two_42 : decode cX2_two 42 = .ok (.invokevirtual 47, 3) := by decide +kernel
theorem dX2_two_45 : decode cX2_two 45 = .ok (.ireturn, 1) := by decide +kernel
theorem dX2_two_46 : decode cX2_two 46 = .ok (.iload 4, 2) := by decide +kernel
theorem dX2_two_48 : decode cX2_two 48 = .ok (.bipush 60, 2) := by decide +kernel
theorem dX2_two_50 : decode cX2_two 50 = .ok (.if_icmp .le 10, 3) := by decide +kernel
theorem dX2_two_53 : decode cX2_two 53 = .ok (.aload_n 0, 1) := by decide +kernel
theorem dX2_two_54 : decode cX2_two 54 = .ok (.bipush (-6), 2) := by decide +kernel
theorem dX2_two_56 : decode cX2_two 56 = .ok (.invokevirtual 47, 3) := by decide +kernel
theorem dX2_two_59 : decode cX2_two 59 = .ok (.ireturn, 1) := by decide +kernel
theorem dX2_two_60 : decode cX2_two 60 = .ok (.aload_n 0, 1) := by decide +kernel
theorem dX2_two_61 : decode cX2_two 61 = .ok (.getfield 10, 3) := by decide +kernel
theorem dX2_two_64 : decode cX2_two 64 = .ok (.iload_n 1, 1) := by decide +kernel
theorem dX2_two_65 : decode cX2_two 65 = .ok (.invokevirtual 85, 3) := by decide +kernel
theorem dX2_two_68 : decode cX2_two 68 = .ok (.ifCond .eq 14, 3) := by decide +kernel
theorem dX2_two_71 : decode cX2_two 71 = .ok (.aload_n 0, 1) := by decide +kernel
theorem dX2_two_72 : decode cX2_two 72 = .ok (.getfield 10, 3) := by decide +kernel
theorem dX2_two_75 : decode cX2_two 75 = .ok (.iload_n 2, 1) := by decide +kernel
theorem dX2_two_76 : decode cX2_two 76 = .ok (.invokevirtual 85, 3) := by decide +kernel
theorem dX2_two_79 : decode cX2_two 79 = .ok (.ifCond .ne 10, 3) := by decide +kernel
theorem dX2_two_82 : decode cX2_two 82 = .ok (.aload_n 0, 1) := by decide +kernel
theorem dX2_two_83 : decode cX2_two 83 = .ok (.bipush (-3), 2) := by decide +kernel
theorem dX2_two_85 : decode cX2_two 85 = .ok (.invokevirtual 47, 3) := by decide +kernel
theorem dX2_two_88 : decode cX2_two 88 = .ok (.ireturn, 1) := by decide +kernel
theorem dX2_two_89 : decode cX2_two 89 = .ok (.iconst 0, 1) := by decide +kernel
theorem dX2_two_90 : decode cX2_two 90 = .ok (.istore 5, 2) := by decide +kernel
theorem dX2_two_92 : decode cX2_two 92 = .ok (.iload 5, 2) := by decide +kernel
theorem dX2_two_94 : decode cX2_two 94 = .ok (.iconst 1, 1) := by decide +kernel
theorem dX2_two_95 : decode cX2_two 95 = .ok (.if_icmp .gt 128, 3) := by decide +kernel
theorem dX2_two_98 : decode cX2_two 98 = .ok (.iconst 0, 1) := by decide +kernel
theorem dX2_two_99 : decode cX2_two 99 = .ok (.istore 6, 2) := by decide +kernel
theorem dX2_two_101 : decode cX2_two 101 = .ok (.iload 6, 2) := by decide +kernel
theorem dX2_two_103 : decode cX2_two 103 = .ok (.iconst 1, 1) := by decide +kernel
theorem dX2_two_104 : decode cX2_two 104 = .ok (.if_icmp .gt 113, 3) := by decide +kernel
theorem dX2_two_107 : decode cX2_two 107 = .ok (.aload_n 0, 1) := by decide +kernel
theorem dX2_two_108 : decode cX2_two 108 = .ok (.iload_n 1, 1) := by decide +kernel
theorem dX2_two_109 : decode cX2_two 109 = .ok (.iload 5, 2) := by decide +kernel
theorem dX2_two_111 : decode cX2_two 111 = .ok (.iload_n 2, 1) := by decide +kernel
theorem dX2_two_112 : decode cX2_two 112 = .ok (.iload 6, 2) := by decide +kernel
theorem dX2_two_114 : decode cX2_two 114 = .ok (.iload_n 3, 1) := by decide +kernel
theorem dX2_two_115 : decode cX2_two 115 = .ok (.iload 4, 2) := by decide +kernel
theorem dX2_two_117 : decode cX2_two 117 = .ok (.invokevirtual 181, 3) := by decide +kernel
theorem dX2_two_120 : decode cX2_two 120 = .ok (.aload_n 0, 1) := by decide +kernel
theorem dX2_two_121 : decode cX2_two 121 = .ok (.getfield 16, 3) := by decide +kernel
theorem dX2_two_124 : decode cX2_two 124 = .ok (.iload_n 1, 1) := by decide +kernel
theorem dX2_two_125 : decode cX2_two 125 = .ok (.invokevirtual 149, 3) := by decide +kernel
theorem dX2_two_128 : decode cX2_two 128 = .ok (.istore 7, 2) := by decide +kernel
theorem dX2_two_130 : decode cX2_two 130 = .ok (.aload_n 0, 1) := by decide +kernel
theorem dX2_two_131 : decode cX2_two 131 = .ok (.getfield 16, 3) := by decide +kernel
theorem dX2_two_134 : decode cX2_two 134 = .ok (.iload_n 2, 1) := by decide +kernel
theorem dX2_two_135 : decode cX2_two 135 = .ok (.invokevirtual 149, 3) := by decide +kernel
theorem dX2_two_138 : decode cX2_two 138 = .ok (.istore 8, 2) := by decide +kernel
theorem dX2_two_140 : decode cX2_two 140 = .ok (.aload_n 0, 1) := by decide +kernel
theorem dX2_two_141 : decode cX2_two 141 = .ok (.iload_n 1, 1) := by decide +kernel
theorem dX2_two_142 : decode cX2_two 142 = .ok (.iconst 1, 1) := by decide +kernel
theorem dX2_two_143 : decode cX2_two 143 = .ok (.iload 5, 2) := by decide +kernel
theorem dX2_two_145 : decode cX2_two 145 = .ok (.isub, 1) := by decide +kernel
theorem dX2_two_146 : decode cX2_two 146 = .ok (.iload_n 2, 1) := by decide +kernel
theorem dX2_two_147 : decode cX2_two 147 = .ok (.iload 6, 2) := by decide +kernel
theorem dX2_two_149 : decode cX2_two 149 = .ok (.iload_n 3, 1) := by decide +kernel
theorem dX2_two_150 : decode cX2_two 150 = .ok (.iload 4, 2) := by decide +kernel
theorem dX2_two_152 : decode cX2_two 152 = .ok (.invokevirtual 181, 3) := by decide +kernel
theorem dX2_two_155 : decode cX2_two 155 = .ok (.aload_n 0, 1) := by decide +kernel
theorem dX2_two_156 : decode cX2_two 156 = .ok (.getfield 16, 3) := by decide +kernel
theorem dX2_two_159 : decode cX2_two 159 = .ok (.iload_n 1, 1) := by decide +kernel
theorem dX2_two_160 : decode cX2_two 160 = .ok (.invokevirtual 149, 3) := by decide +kernel
theorem dX2_two_163 : decode cX2_two 163 = .ok (.iload 7, 2) := by decide +kernel
theorem dX2_two_165 : decode cX2_two 165 = .ok (.if_icmp .le 6, 3) := by decide +kernel
theorem dX2_two_168 : decode cX2_two 168 = .ok (.goto 43, 3) := by decide +kernel
theorem dX2_two_171 : decode cX2_two 171 = .ok (.aload_n 0, 1) := by decide +kernel
theorem dX2_two_172 : decode cX2_two 172 = .ok (.iload_n 1, 1) := by decide +kernel
theorem dX2_two_173 : decode cX2_two 173 = .ok (.iload 5, 2) := by decide +kernel
theorem dX2_two_175 : decode cX2_two 175 = .ok (.iload_n 2, 1) := by decide +kernel
theorem dX2_two_176 : decode cX2_two 176 = .ok (.iconst 1, 1) := by decide +kernel
theorem dX2_two_177 : decode cX2_two 177 = .ok (.iload 6, 2) := by decide +kernel
theorem dX2_two_179 : decode cX2_two 179 = .ok (.isub, 1) := by decide +kernel
theorem dX2_two_180 : decode cX2_two 180 = .ok (.iload_n 3, 1) := by decide +kernel
theorem dX2_two_181 : decode cX2_two 181 = .ok (.iload 4, 2) := by decide +kernel
theorem dX2_two_183 : decode cX2_two 183 = .ok (.invokevirtual 181, 3) := by decide +kernel
theorem dX2_two_186 : decode cX2_two 186 = .ok (.aload_n 0, 1) := by decide +kernel
theorem dX2_two_187 : decode cX2_two 187 = .ok (.getfield 16, 3) := by decide +kernel
theorem dX2_two_190 : decode cX2_two 190 = .ok (.iload_n 2, 1) := by decide +kernel
theorem dX2_two_191 : decode cX2_two 191 = .ok (.invokevirtual 149, 3) := by decide +kernel
theorem dX2_two_194 : decode cX2_two 194 = .ok (.iload 8, 2) := by decide +kernel
theorem dX2_two_196 : decode cX2_two 196 = .ok (.if_icmp .le 6, 3) := by decide +kernel
theorem dX2_two_199 : decode cX2_two 199 = .ok (.goto 12, 3) := by decide +kernel
theorem dX2_two_202 : decode cX2_two 202 = .ok (.bipush 10, 2) := by decide +kernel
theorem dX2_two_204 : decode cX2_two 204 = .ok (.iload 5, 2) := by decide +kernel
theorem dX2_two_206 : decode cX2_two 206 = .ok (.imul, 1) := by decide +kernel
theorem dX2_two_207 : decode cX2_two 207 = .ok (.iload 6, 2) := by decide +kernel
theorem dX2_two_209 : decode cX2_two 209 = .ok (.iadd, 1) := by decide +kernel
theorem dX2_two_210 : decode cX2_two 210 = .ok (.ireturn, 1) := by decide +kernel
theorem dX2_two_211 : decode cX2_two 211 = .ok (.iinc 6 1, 3) := by decide +kernel
theorem dX2_two_214 : decode cX2_two 214 = .ok (.goto (-113), 3) := by decide +kernel
theorem dX2_two_217 : decode cX2_two 217 = .ok (.iinc 5 1, 3) := by decide +kernel
theorem dX2_two_220 : decode cX2_two 220 = .ok (.goto (-128), 3) := by decide +kernel
theorem dX2_two_223 : decode cX2_two 223 = .ok (.bipush (-9), 2) := by decide +kernel
theorem dX2_two_225 : decode cX2_two 225 = .ok (.ireturn, 1) := by decide +kernel
set_option maxRecDepth 20000 in
theorem ggX2_winter_X2_noTopic : GoodIn wsX2_winter wsX2_noTopic := goodIn_r _ [4] (by decide +kernel) (by decide +kernel)
set_option maxRecDepth 20000 in
theorem gX2_winter_X2_noTopic : GoodIn wsX2_winter (va_wsS RX2 94 yX2_noTopic wsX2_noTopic) := goodIn_app (goodIn_of _ (by decide +kernel)) ggX2_winter_X2_noTopic
set_option maxRecDepth 20000 in
theorem ggX2_winter_X2_refuseLong : GoodIn wsX2_winter wsX2_refuseLong := goodIn_r _ [8, 9, 10, 11, 12, 3, 13, 14, 109, 110, 111, 112, 113, 114, 115, 116, 117] (by decide +kernel) (by decide +kernel)
set_option maxRecDepth 20000 in
theorem gX2_winter_X2_refuseLong : GoodIn wsX2_winter (wsV RX2 185 RX2 yX2_refuseLong wsX2_refuseLong) := goodIn_app (goodIn_of _ (by decide +kernel)) ggX2_winter_X2_refuseLong
set_option maxRecDepth 20000 in
theorem ggX2_winter_X2_weightIfWritten : GoodIn wsX2_winter wsX2_weightIfWritten := goodIn_r _ [18, 19, 20, 21, 22, 23, 24, 25, 26, 27, 28, 29, 30, 31, 32, 33, 34, 35, 36, 37, 38, 39, 40, 41, 42, 43, 44, 45, 46, 47, 48, 49, 50, 51, 52, 53, 54, 55, 56, 57, 58, 59, 60, 61, 62, 63, 64, 65, 66, 67, 68, 69, 70, 71, 72, 73, 74, 75, 76, 77, 78, 79, 80, 81, 82, 83, 84, 85, 86, 87, 88, 89, 90, 91, 92, 93, 94, 95, 96, 97, 98, 99, 100, 101, 102, 103, 104, 105, 109, 110, 111, 112, 113, 114, 115, 116, 117, 118, 119, 120, 121, 122, 123, 124, 125] (by decide +kernel) (by decide +kernel)
set_option maxRecDepth 20000 in
theorem gX2_winter_X2_weightIfWritten : GoodIn wsX2_winter (wsV RX2 189 RX2 yX2_weightIfWritten wsX2_weightIfWritten) := goodIn_app (goodIn_of _ (by decide +kernel)) ggX2_winter_X2_weightIfWritten
set_option maxRecDepth 20000 in
theorem ggX2_winter_X2_leastTerms : GoodIn wsX2_winter wsX2_leastTerms := goodIn_r _ [108] (by decide +kernel) (by decide +kernel)
set_option maxRecDepth 20000 in
theorem gX2_winter_X2_leastTerms : GoodIn wsX2_winter (va_wsS RX2 193 yX2_leastTerms wsX2_leastTerms) := goodIn_app (goodIn_of _ (by decide +kernel)) ggX2_winter_X2_leastTerms
theorem dX2_winter_0 : decode cX2_winter 0 = .ok (.iload_n 1, 1) := by decide +kernel
theorem dX2_winter_1 : decode cX2_winter 1 = .ok (.invokestatic 94, 3) := by decide +kernel
theorem dX2_winter_4 : decode cX2_winter 4 = .ok (.ifCond .eq 9, 3) := by decide +kernel
theorem dX2_winter_7 : decode cX2_winter 7 = .ok (.aload_n 0, 1) := by decide +kernel
theorem dX2_winter_8 : decode cX2_winter 8 = .ok (.iconst (-1), 1) := by decide +kernel
theorem dX2_winter_9 : decode cX2_winter 9 = .ok (.invokevirtual 185, 3) := by decide +kernel
theorem dX2_winter_12 : decode cX2_winter 12 = .ok (.lreturn, 1) := by decide +kernel
theorem dX2_winter_13 : decode cX2_winter 13 = .ok (.iload_n 2, 1) := by decide +kernel
theorem dX2_winter_14 : decode cX2_winter 14 = .ok (.ifCond .lt 8, 3) := by decide +kernel
theorem dX2_winter_17 : decode cX2_winter 17 = .ok (.iload_n 3, 1) := by decide +kernel
theorem dX2_winter_18 : decode cX2_winter 18 = .ok (.iconst 2, 1) := by decide +kernel
theorem dX2_winter_19 : decode cX2_winter 19 = .ok (.if_icmp .ge 10, 3) := by decide +kernel
theorem dX2_winter_22 : decode cX2_winter 22 = .ok (.aload_n 0, 1) := by decide +kernel
theorem dX2_winter_23 : decode cX2_winter 23 = .ok (.bipush (-4), 2) := by decide +kernel
theorem dX2_winter_25 : decode cX2_winter 25 = .ok (.invokevirtual 185, 3) := by decide +kernel
theorem dX2_winter_28 : decode cX2_winter 28 = .ok (.lreturn, 1) := by decide +kernel
theorem dX2_winter_29 : decode cX2_winter 29 = .ok (.iload_n 2, 1) := by decide +kernel
theorem dX2_winter_30 : decode cX2_winter 30 = .ok (.bipush 7, 2) := by decide +kernel
theorem dX2_winter_32 : decode cX2_winter 32 = .ok (.if_icmp .gt 9, 3) := by decide +kernel
theorem dX2_winter_35 : decode cX2_winter 35 = .ok (.iload_n 3, 1) := by decide +kernel
theorem dX2_winter_36 : decode cX2_winter 36 = .ok (.bipush 20, 2) := by decide +kernel
theorem dX2_winter_38 : decode cX2_winter 38 = .ok (.if_icmp .le 10, 3) := by decide +kernel
theorem dX2_winter_41 : decode cX2_winter 41 = .ok (.aload_n 0, 1) := by decide +kernel
theorem dX2_winter_42 : decode cX2_winter 42 = .ok (.bipush (-6), 2) := by decide +kernel
theorem dX2_winter_44 : decode cX2_winter 44 = .ok (.invokevirtual 185, 3) := by decide +kernel
theorem dX2_winter_47 : decode cX2_winter 47 = .ok (.lreturn, 1) := by decide +kernel
theorem dX2_winter_48 : decode cX2_winter 48 = .ok (.iload 4, 2) := by decide +kernel
theorem dX2_winter_50 : decode cX2_winter 50 = .ok (.ifCond .lt 9, 3) := by decide +kernel
theorem dX2_winter_53 : decode cX2_winter 53 = .ok (.iload 4, 2) := by decide +kernel
theorem dX2_winter_55 : decode cX2_winter 55 = .ok (.iconst 1, 1) := by decide +kernel
theorem dX2_winter_56 : decode cX2_winter 56 = .ok (.if_icmp .le 10, 3) := by decide +kernel
theorem dX2_winter_59 : decode cX2_winter 59 = .ok (.aload_n 0, 1) := by decide +kernel
theorem dX2_winter_60 : decode cX2_winter 60 = .ok (.bipush (-2), 2) := by decide +kernel
theorem dX2_winter_62 : decode cX2_winter 62 = .ok (.invokevirtual 185, 3) := by decide +kernel
theorem dX2_winter_65 : decode cX2_winter 65 = .ok (.lreturn, 1) := by decide +kernel
theorem dX2_winter_66 : decode cX2_winter 66 = .ok (.lconst 0, 1) := by decide +kernel
theorem dX2_winter_67 : decode cX2_winter 67 = .ok (.lstore 5, 2) := by decide +kernel
theorem dX2_winter_69 : decode cX2_winter 69 = .ok (.iconst 0, 1) := by decide +kernel
theorem dX2_winter_70 : decode cX2_winter 70 = .ok (.istore 7, 2) := by decide +kernel
theorem dX2_winter_72 : decode cX2_winter 72 = .ok (.iload 7, 2) := by decide +kernel
theorem dX2_winter_74 : decode cX2_winter 74 = .ok (.iconst 1, 1) := by decide +kernel
theorem dX2_winter_75 : decode cX2_winter 75 = .ok (.iload_n 2, 1) := by decide +kernel
theorem dX2_winter_76 : decode cX2_winter 76 = .ok (.ishl, 1) := by decide +kernel
theorem dX2_winter_77 : decode cX2_winter 77 = .ok (.if_icmp .ge 23, 3) := by decide +kernel
theorem dX2_winter_80 : decode cX2_winter 80 = .ok (.lload 5, 2) := by decide +kernel
theorem dX2_winter_82 : decode cX2_winter 82 = .ok (.aload_n 0, 1) := by decide +kernel
theorem dX2_winter_83 : decode cX2_winter 83 = .ok (.iload_n 1, 1) := by decide +kernel
theorem dX2_winter_84 : decode cX2_winter 84 = .ok (.iload_n 2, 1) := by decide +kernel
theorem dX2_winter_85 : decode cX2_winter 85 = .ok (.iload_n 3, 1) := by decide +kernel
theorem dX2_winter_86 : decode cX2_winter 86 = .ok (.iload 7, 2) := by decide +kernel
theorem dX2_winter_88 : decode cX2_winter 88 = .ok (.invokevirtual 189, 3) := by decide +kernel
theorem dX2_winter_91 : decode cX2_winter 91 = .ok (.ladd, 1) := by decide +kernel
theorem dX2_winter_92 : decode cX2_winter 92 = .ok (.lstore 5, 2) := by decide +kernel
theorem dX2_winter_94 : decode cX2_winter 94 = .ok (.iinc 7 1, 3) := by decide +kernel
theorem dX2_winter_97 : decode cX2_winter 97 = .ok (.goto (-25), 3) := by decide +kernel
theorem dX2_winter_100 : decode cX2_winter 100 = .ok (.lconst 1, 1) := by decide +kernel
theorem dX2_winter_101 : decode cX2_winter 101 = .ok (.lstore 7, 2) := by decide +kernel
theorem dX2_winter_103 : decode cX2_winter 103 = .ok (.iconst 0, 1) := by decide +kernel
theorem dX2_winter_104 : decode cX2_winter 104 = .ok (.istore 9, 2) := by decide +kernel
theorem dX2_winter_106 : decode cX2_winter 106 = .ok (.iload 9, 2) := by decide +kernel
theorem dX2_winter_108 : decode cX2_winter 108 = .ok (.iload_n 2, 1) := by decide +kernel
theorem dX2_winter_109 : decode cX2_winter 109 = .ok (.if_icmp .ge 16, 3) := by decide +kernel
theorem dX2_winter_112 : decode cX2_winter 112 = .ok (.lload 7, 2) := by decide +kernel
theorem dX2_winter_114 : decode cX2_winter 114 = .ok (.iload_n 3, 1) := by decide +kernel
theorem dX2_winter_115 : decode cX2_winter 115 = .ok (.i2l, 1) := by decide +kernel
theorem dX2_winter_116 : decode cX2_winter 116 = .ok (.lmul, 1) := by decide +kernel
theorem dX2_winter_117 : decode cX2_winter 117 = .ok (.lstore 7, 2) := by decide +kernel
theorem dX2_winter_119 : decode cX2_winter 119 = .ok (.iinc 9 1, 3) := by decide +kernel
theorem dX2_winter_122 : decode cX2_winter 122 = .ok (.goto (-16), 3) := by decide +kernel
theorem dX2_winter_125 : decode cX2_winter 125 = .ok (.lload 5, 2) := by decide +kernel
theorem dX2_winter_127 : decode cX2_winter 127 = .ok (.lload 7, 2) := by decide +kernel
theorem dX2_winter_129 : decode cX2_winter 129 = .ok (.iload 4, 2) := by decide +kernel
theorem dX2_winter_131 : decode cX2_winter 131 = .ok (.invokestatic 193, 3) := by decide +kernel
theorem dX2_winter_134 : decode cX2_winter 134 = .ok (.lreturn, 1) := by decide +kernel
set_option maxRecDepth 20000 in
theorem ggX2_mean_X2_refuseLong : GoodIn wsX2_mean wsX2_refuseLong := goodIn_r _ [6, 7, 8, 9, 10, 5, 11, 12, 37, 38, 39, 40, 41, 42, 43, 44, 45] (by decide +kernel) (by decide +kernel)
set_option maxRecDepth 20000 in
theorem gX2_mean_X2_refuseLong : GoodIn wsX2_mean (wsV RX2 185 RX2 yX2_refuseLong wsX2_refuseLong) := goodIn_app (goodIn_of _ (by decide +kernel)) ggX2_mean_X2_refuseLong
set_option maxRecDepth 20000 in
theorem ggX2_mean_X1_agesOfLiving : GoodIn wsX2_mean wsX1_agesOfLiving := goodIn_r _ [16, 17, 18, 19, 20, 21, 14, 22, 23, 46, 47, 48, 49, 50, 51, 52, 53] (by decide +kernel) (by decide +kernel)
set_option maxRecDepth 20000 in
theorem gX2_mean_X1_agesOfLiving_n197 : GoodIn wsX2_mean (wsX1_agesOfLiving) := ggX2_mean_X1_agesOfLiving
set_option maxRecDepth 20000 in
theorem ggX2_mean_X1_howManyLive : GoodIn wsX2_mean wsX1_howManyLive := goodIn_r _ [26, 23, 27, 28, 29, 30, 31, 32, 33, 46, 47, 48, 49, 50, 51, 52, 53] (by decide +kernel) (by decide +kernel)
set_option maxRecDepth 20000 in
theorem gX2_mean_X1_howManyLive_n111 : GoodIn wsX2_mean (wsX1_howManyLive) := ggX2_mean_X1_howManyLive
set_option maxRecDepth 20000 in
theorem ggX2_mean_X2_leastTerms : GoodIn wsX2_mean wsX2_leastTerms := goodIn_r _ [36] (by decide +kernel) (by decide +kernel)
set_option maxRecDepth 20000 in
theorem gX2_mean_X2_leastTerms : GoodIn wsX2_mean (va_wsS RX2 193 yX2_leastTerms wsX2_leastTerms) := goodIn_app (goodIn_of _ (by decide +kernel)) ggX2_mean_X2_leastTerms
theorem dX2_mean_0 : decode cX2_mean 0 = .ok (.iload_n 1, 1) := by decide +kernel
theorem dX2_mean_1 : decode cX2_mean 1 = .ok (.ifCond .lt 8, 3) := by decide +kernel
theorem dX2_mean_4 : decode cX2_mean 4 = .ok (.iload_n 1, 1) := by decide +kernel
theorem dX2_mean_5 : decode cX2_mean 5 = .ok (.iconst 1, 1) := by decide +kernel
theorem dX2_mean_6 : decode cX2_mean 6 = .ok (.if_icmp .le 10, 3) := by decide +kernel
theorem dX2_mean_9 : decode cX2_mean 9 = .ok (.aload_n 0, 1) := by decide +kernel
theorem dX2_mean_10 : decode cX2_mean 10 = .ok (.bipush (-2), 2) := by decide +kernel
theorem dX2_mean_12 : decode cX2_mean 12 = .ok (.invokevirtual 185, 3) := by decide +kernel
theorem dX2_mean_15 : decode cX2_mean 15 = .ok (.lreturn, 1) := by decide +kernel
theorem dX2_mean_16 : decode cX2_mean 16 = .ok (.aload_n 0, 1) := by decide +kernel
theorem dX2_mean_17 : decode cX2_mean 17 = .ok (.getfield 10, 3) := by decide +kernel
theorem dX2_mean_20 : decode cX2_mean 20 = .ok (.invokevirtual 197, 3) := by decide +kernel
theorem dX2_mean_23 : decode cX2_mean 23 = .ok (.i2l, 1) := by decide +kernel
theorem dX2_mean_24 : decode cX2_mean 24 = .ok (.aload_n 0, 1) := by decide +kernel
theorem dX2_mean_25 : decode cX2_mean 25 = .ok (.getfield 10, 3) := by decide +kernel
theorem dX2_mean_28 : decode cX2_mean 28 = .ok (.invokevirtual 111, 3) := by decide +kernel
theorem dX2_mean_31 : decode cX2_mean 31 = .ok (.i2l, 1) := by decide +kernel
theorem dX2_mean_32 : decode cX2_mean 32 = .ok (.iload_n 1, 1) := by decide +kernel
theorem dX2_mean_33 : decode cX2_mean 33 = .ok (.invokestatic 193, 3) := by decide +kernel
theorem dX2_mean_36 : decode cX2_mean 36 = .ok (.lreturn, 1) := by decide +kernel
set_option maxRecDepth 20000 in
theorem ggX2_whatIs_X2_noCitizen : GoodIn wsX2_whatIs wsX2_noCitizen := goodIn_r _ [7, 2, 104, 105, 106, 107, 108, 109, 110, 111, 112, 113, 114, 115, 116, 117, 118, 119, 120] (by decide +kernel) (by decide +kernel)
set_option maxRecDepth 20000 in
theorem gX2_whatIs_X2_noCitizen : GoodIn wsX2_whatIs (wsV RX2 72 RX2 yX2_noCitizen wsX2_noCitizen) := goodIn_app (goodIn_of _ (by decide +kernel)) ggX2_whatIs_X2_noCitizen
set_option maxRecDepth 20000 in
theorem ggX2_whatIs_X2_noTopic : GoodIn wsX2_whatIs wsX2_noTopic := goodIn_r _ [10] (by decide +kernel) (by decide +kernel)
set_option maxRecDepth 20000 in
theorem gX2_whatIs_X2_noTopic : GoodIn wsX2_whatIs (va_wsS RX2 94 yX2_noTopic wsX2_noTopic) := goodIn_app (goodIn_of _ (by decide +kernel)) ggX2_whatIs_X2_noTopic
set_option maxRecDepth 20000 in
theorem ggX2_whatIs_X2_refuse : GoodIn wsX2_whatIs wsX2_refuse := goodIn_r _ [14, 15, 104, 105, 106, 107, 108, 109, 110, 111, 112] (by decide +kernel) (by decide +kernel)
set_option maxRecDepth 20000 in
theorem gX2_whatIs_X2_refuse : GoodIn wsX2_whatIs (wsV RX2 47 RX2 yX2_refuse wsX2_refuse) := goodIn_app (goodIn_of _ (by decide +kernel)) ggX2_whatIs_X2_refuse
set_option maxRecDepth 20000 in
theorem ggX2_whatIs_X1_become : GoodIn wsX2_whatIs wsX1_become := goodIn_r _ [19, 20, 21, 22, 23, 24, 25, 26, 27, 28, 29, 30, 31, 113, 114, 115, 116, 117, 118, 119, 120] (by decide +kernel) (by decide +kernel)
set_option maxRecDepth 20000 in
theorem gX2_whatIs_X1_become_n61 : GoodIn wsX2_whatIs (wsX1_become) := ggX2_whatIs_X1_become
set_option maxRecDepth 20000 in
theorem ggX2_whatIs_X2_mindSaysRow : GoodIn wsX2_whatIs wsX2_mindSaysRow := goodIn_r _ [35, 36, 1, 37, 38, 17, 39, 40, 27, 28, 41, 42, 43, 44, 45, 46, 47, 30, 31, 29, 48, 49, 50, 51, 26, 52, 53, 54, 55, 56, 57, 58, 59, 60, 61, 62, 63, 64, 65, 66, 67, 20, 25, 68, 69, 70, 71, 72, 73, 74, 75, 76, 77, 78, 79, 80, 81, 82, 83, 84, 85, 86, 87, 88, 89, 90, 91, 92, 93, 94, 95, 96, 97, 98, 99, 100, 101, 102, 103, 104, 105, 106, 107, 108, 109, 110, 111, 112, 113, 114, 115, 116, 117, 118, 119, 120] (by decide +kernel) (by decide +kernel)
set_option maxRecDepth 20000 in
theorem gX2_whatIs_X2_mindSaysRow : GoodIn wsX2_whatIs (wsV RX2 200 RX2 yX2_mindSaysRow wsX2_mindSaysRow) := goodIn_app (goodIn_of _ (by decide +kernel)) ggX2_whatIs_X2_mindSaysRow
theorem dX2_whatIs_0 : decode cX2_whatIs 0 = .ok (.aload_n 0, 1) := by decide +kernel
theorem dX2_whatIs_1 : decode cX2_whatIs 1 = .ok (.iload_n 1, 1) := by decide +kernel
theorem dX2_whatIs_2 : decode cX2_whatIs 2 = .ok (.invokevirtual 72, 3) := by decide +kernel
theorem dX2_whatIs_5 : decode cX2_whatIs 5 = .ok (.ifCond .ne 10, 3) := by decide +kernel
theorem dX2_whatIs_8 : decode cX2_whatIs 8 = .ok (.iload_n 2, 1) := by decide +kernel
theorem dX2_whatIs_9 : decode cX2_whatIs 9 = .ok (.invokestatic 94, 3) := by decide +kernel
theorem dX2_whatIs_12 : decode cX2_whatIs 12 = .ok (.ifCond .eq 9, 3) := by decide +kernel
theorem dX2_whatIs_15 : decode cX2_whatIs 15 = .ok (.aload_n 0, 1) := by decide +kernel
theorem dX2_whatIs_16 : decode cX2_whatIs 16 = .ok (.iconst (-1), 1) := by decide +kernel
theorem dX2_whatIs_17 : decode cX2_whatIs 17 = .ok (.invokevirtual 47, 3) := by decide +kernel
theorem dX2_whatIs_20 : decode cX2_whatIs 20 = .ok (.ireturn, 1) := by decide +kernel
theorem dX2_whatIs_21 : decode cX2_whatIs 21 = .ok (.iload_n 3, 1) := by decide +kernel
theorem dX2_whatIs_22 : decode cX2_whatIs 22 = .ok (.ifCond .lt 8, 3) := by decide +kernel
theorem dX2_whatIs_25 : decode cX2_whatIs 25 = .ok (.iload_n 3, 1) := by decide +kernel
theorem dX2_whatIs_26 : decode cX2_whatIs 26 = .ok (.iconst 1, 1) := by decide +kernel
theorem dX2_whatIs_27 : decode cX2_whatIs 27 = .ok (.if_icmp .le 10, 3) := by decide +kernel
theorem dX2_whatIs_30 : decode cX2_whatIs 30 = .ok (.aload_n 0, 1) := by decide +kernel
theorem dX2_whatIs_31 : decode cX2_whatIs 31 = .ok (.bipush (-2), 2) := by decide +kernel
theorem dX2_whatIs_33 : decode cX2_whatIs 33 = .ok (.invokevirtual 47, 3) := by decide +kernel
theorem dX2_whatIs_36 : decode cX2_whatIs 36 = .ok (.ireturn, 1) := by decide +kernel
theorem dX2_whatIs_37 : decode cX2_whatIs 37 = .ok (.iconst 0, 1) := by decide +kernel
theorem dX2_whatIs_38 : decode cX2_whatIs 38 = .ok (.istore 4, 2) := by decide +kernel
theorem dX2_whatIs_40 : decode cX2_whatIs 40 = .ok (.iload_n 3, 1) := by decide +kernel
theorem dX2_whatIs_41 : decode cX2_whatIs 41 = .ok (.ifCond .ne 8, 3) := by decide +kernel
theorem dX2_whatIs_44 : decode cX2_whatIs 44 = .ok (.bipush 6, 2) := by decide +kernel
theorem dX2_whatIs_46 : decode cX2_whatIs 46 = .ok (.goto 5, 3) := by decide +kernel
theorem dX2_whatIs_49 : decode cX2_whatIs 49 = .ok (.bipush 10, 2) := by decide +kernel
theorem dX2_whatIs_51 : decode cX2_whatIs 51 = .ok (.istore 5, 2) := by decide +kernel
theorem dX2_whatIs_53 : decode cX2_whatIs 53 = .ok (.iconst 0, 1) := by decide +kernel
theorem dX2_whatIs_54 : decode cX2_whatIs 54 = .ok (.istore 6, 2) := by decide +kernel
theorem dX2_whatIs_56 : decode cX2_whatIs 56 = .ok (.iload 6, 2) := by decide +kernel
theorem dX2_whatIs_58 : decode cX2_whatIs 58 = .ok (.iload 5, 2) := by decide +kernel
theorem dX2_whatIs_60 : decode cX2_whatIs 60 = .ok (.if_icmp .ge 67, 3) := by decide +kernel
theorem dX2_whatIs_63 : decode cX2_whatIs 63 = .ok (.aload_n 0, 1) := by decide +kernel
theorem dX2_whatIs_64 : decode cX2_whatIs 64 = .ok (.getfield 16, 3) := by decide +kernel
theorem dX2_whatIs_67 : decode cX2_whatIs 67 = .ok (.aload_n 0, 1) := by decide +kernel
theorem dX2_whatIs_68 : decode cX2_whatIs 68 = .ok (.getfield 10, 3) := by decide +kernel
theorem dX2_whatIs_71 : decode cX2_whatIs 71 = .ok (.invokevirtual 61, 3) := by decide +kernel
theorem dX2_whatIs_74 : decode cX2_whatIs 74 = .ok (.iload_n 3, 1) := by decide +kernel
theorem dX2_whatIs_75 : decode cX2_whatIs 75 = .ok (.ifCond .ne 17, 3) := by decide +kernel
theorem dX2_whatIs_78 : decode cX2_whatIs 78 = .ok (.aload_n 0, 1) := by decide +kernel
theorem dX2_whatIs_79 : decode cX2_whatIs 79 = .ok (.getfield 16, 3) := by decide +kernel
theorem dX2_whatIs_82 : decode cX2_whatIs 82 = .ok (.getfield 76, 3) := by decide +kernel
theorem dX2_whatIs_85 : decode cX2_whatIs 85 = .ok (.iload_n 1, 1) := by decide +kernel
theorem dX2_whatIs_86 : decode cX2_whatIs 86 = .ok (.iload 6, 2) := by decide +kernel
theorem dX2_whatIs_88 : decode cX2_whatIs 88 = .ok (.iastore, 1) := by decide +kernel
theorem dX2_whatIs_89 : decode cX2_whatIs 89 = .ok (.goto 14, 3) := by decide +kernel
theorem dX2_whatIs_92 : decode cX2_whatIs 92 = .ok (.aload_n 0, 1) := by decide +kernel
theorem dX2_whatIs_93 : decode cX2_whatIs 93 = .ok (.getfield 16, 3) := by decide +kernel
theorem dX2_whatIs_96 : decode cX2_whatIs 96 = .ok (.getfield 79, 3) := by decide +kernel
theorem dX2_whatIs_99 : decode cX2_whatIs 99 = .ok (.iload_n 1, 1) := by decide +kernel
theorem dX2_whatIs_100 : decode cX2_whatIs 100 = .ok (.iload 6, 2) := by decide +kernel
theorem dX2_whatIs_102 : decode cX2_whatIs 102 = .ok (.iastore, 1) := by decide +kernel
theorem dX2_whatIs_103 : decode cX2_whatIs 103 = .ok (.aload_n 0, 1) := by decide +kernel
theorem dX2_whatIs_104 : decode cX2_whatIs 104 = .ok (.iload_n 1, 1) := by decide +kernel
theorem dX2_whatIs_105 : decode cX2_whatIs 105 = .ok (.iload_n 2, 1) := by decide +kernel
theorem dX2_whatIs_106 : decode cX2_whatIs 106 = .ok (.invokevirtual 200, 3) := by decide +kernel
theorem dX2_whatIs_109 : decode cX2_whatIs 109 = .ok (.ifCond .eq 12, 3) := by decide +kernel
theorem dX2_whatIs_112 : decode cX2_whatIs 112 = .ok (.iload 4, 2) := by decide +kernel
theorem dX2_whatIs_114 : decode cX2_whatIs 114 = .ok (.iconst 1, 1) := by decide +kernel
theorem dX2_whatIs_115 : decode cX2_whatIs 115 = .ok (.iload 6, 2) := by decide +kernel
theorem dX2_whatIs_117 : decode cX2_whatIs 117 = .ok (.ishl, 1) := by decide +kernel
theorem dX2_whatIs_118 : decode cX2_whatIs 118 = .ok (.ior, 1) := by decide +kernel
theorem dX2_whatIs_119 : decode cX2_whatIs 119 = .ok (.istore 4, 2) := by decide +kernel
theorem dX2_whatIs_121 : decode cX2_whatIs 121 = .ok (.iinc 6 1, 3) := by decide +kernel
theorem dX2_whatIs_124 : decode cX2_whatIs 124 = .ok (.goto (-68), 3) := by decide +kernel
theorem dX2_whatIs_127 : decode cX2_whatIs 127 = .ok (.iload 4, 2) := by decide +kernel
theorem dX2_whatIs_129 : decode cX2_whatIs 129 = .ok (.ireturn, 1) := by decide +kernel
set_option maxRecDepth 20000 in
theorem ggX2_row_X2_refuse : GoodIn wsX2_row wsX2_refuse := goodIn_r _ [7, 8, 9, 10, 11, 12, 13, 14, 15, 16, 17] (by decide +kernel) (by decide +kernel)
set_option maxRecDepth 20000 in
theorem gX2_row_X2_refuse : GoodIn wsX2_row (wsV RX2 47 RX2 yX2_refuse wsX2_refuse) := goodIn_app (goodIn_of _ (by decide +kernel)) ggX2_row_X2_refuse
theorem dX2_row_0 : decode cX2_row 0 = .ok (.iload_n 1, 1) := by decide +kernel
theorem dX2_row_1 : decode cX2_row 1 = .ok (.ifCond .ge 10, 3) := by decide +kernel
theorem dX2_row_4 : decode cX2_row 4 = .ok (.aload_n 0, 1) := by decide +kernel
theorem dX2_row_5 : decode cX2_row 5 = .ok (.bipush (-4), 2) := by decide +kernel
theorem dX2_row_7 : decode cX2_row 7 = .ok (.invokevirtual 47, 3) := by decide +kernel
theorem dX2_row_10 : decode cX2_row 10 = .ok (.ireturn, 1) := by decide +kernel
theorem dX2_row_11 : decode cX2_row 11 = .ok (.iload_n 1, 1) := by decide +kernel
theorem dX2_row_12 : decode cX2_row 12 = .ok (.bipush 99, 2) := by decide +kernel
theorem dX2_row_14 : decode cX2_row 14 = .ok (.if_icmp .gt 12, 3) := by decide +kernel
theorem dX2_row_17 : decode cX2_row 17 = .ok (.aload_n 0, 1) := by decide +kernel
theorem dX2_row_18 : decode cX2_row 18 = .ok (.getfield 37, 3) := by decide +kernel
theorem dX2_row_21 : decode cX2_row 21 = .ok (.bipush 16, 2) := by decide +kernel
theorem dX2_row_23 : decode cX2_row 23 = .ok (.if_icmp .lt 10, 3) := by decide +kernel
theorem dX2_row_26 : decode cX2_row 26 = .ok (.aload_n 0, 1) := by decide +kernel
theorem dX2_row_27 : decode cX2_row 27 = .ok (.bipush (-6), 2) := by decide +kernel
theorem dX2_row_29 : decode cX2_row 29 = .ok (.invokevirtual 47, 3) := by decide +kernel
theorem dX2_row_32 : decode cX2_row 32 = .ok (.ireturn, 1) := by decide +kernel
theorem dX2_row_33 : decode cX2_row 33 = .ok (.aload_n 0, 1) := by decide +kernel
theorem dX2_row_34 : decode cX2_row 34 = .ok (.getfield 33, 3) := by decide +kernel
theorem dX2_row_37 : decode cX2_row 37 = .ok (.aload_n 0, 1) := by decide +kernel
theorem dX2_row_38 : decode cX2_row 38 = .ok (.getfield 37, 3) := by decide +kernel
theorem dX2_row_41 : decode cX2_row 41 = .ok (.iload_n 1, 1) := by decide +kernel
theorem dX2_row_42 : decode cX2_row 42 = .ok (.iastore, 1) := by decide +kernel
theorem dX2_row_43 : decode cX2_row 43 = .ok (.aload_n 0, 1) := by decide +kernel
theorem dX2_row_44 : decode cX2_row 44 = .ok (.dup, 1) := by decide +kernel
theorem dX2_row_45 : decode cX2_row 45 = .ok (.getfield 37, 3) := by decide +kernel
theorem dX2_row_48 : decode cX2_row 48 = .ok (.iconst 1, 1) := by decide +kernel
theorem dX2_row_49 : decode cX2_row 49 = .ok (.iadd, 1) := by decide +kernel
theorem dX2_row_50 : decode cX2_row 50 = .ok (.putfield 37, 3) := by decide +kernel
theorem dX2_row_53 : decode cX2_row 53 = .ok (.aload_n 0, 1) := by decide +kernel
theorem dX2_row_54 : decode cX2_row 54 = .ok (.getfield 37, 3) := by decide +kernel
theorem dX2_row_57 : decode cX2_row 57 = .ok (.ireturn, 1) := by decide +kernel
set_option maxRecDepth 20000 in
theorem ggX2_judge_X2_clear : GoodIn wsX2_judge wsX2_clear := goodIn_r _ [8, 9, 103, 104, 105, 106, 107, 108, 109, 110, 111] (by decide +kernel) (by decide +kernel)
set_option maxRecDepth 20000 in
theorem gX2_judge_X2_clear : GoodIn wsX2_judge (wsV RX2 203 RX2 yX2_clear wsX2_clear) := goodIn_app (goodIn_of _ (by decide +kernel)) ggX2_judge_X2_clear
set_option maxRecDepth 20000 in
theorem ggX2_judge_X1_become : GoodIn wsX2_judge wsX1_become := goodIn_r _ [13, 14, 15, 16, 17, 18, 19, 20, 21, 22, 23, 24, 25, 112, 113, 114, 115, 116, 117, 118, 119] (by decide +kernel) (by decide +kernel)
set_option maxRecDepth 20000 in
theorem gX2_judge_X1_become_n61 : GoodIn wsX2_judge (wsX1_become) := ggX2_judge_X1_become
set_option maxRecDepth 20000 in
theorem ggX2_judge_X1_bookSize : GoodIn wsX2_judge wsX1_bookSize := goodIn_r _ [28, 29, 30, 31, 11, 32, 33, 34, 35, 36, 37, 38, 39, 40, 21, 24, 41, 42, 43, 44, 22, 45, 46, 47, 48, 49, 50, 51, 112, 113, 114, 115, 116, 117, 118, 119] (by decide +kernel) (by decide +kernel)
set_option maxRecDepth 20000 in
theorem gX2_judge_X1_bookSize_n117 : GoodIn wsX2_judge (wsX1_bookSize) := ggX2_judge_X1_bookSize
set_option maxRecDepth 20000 in
theorem ggX2_judge_X1_pass : GoodIn wsX2_judge wsX1_pass := goodIn_r _ [54, 55, 56, 57, 11, 58, 24, 25, 23, 59, 60, 61, 62, 20, 63, 64, 65, 66, 67, 68, 69, 70, 71, 72, 73, 74, 75, 76, 77, 78, 14, 19, 79, 80, 81, 82, 83, 84, 85, 86, 87, 88, 89, 90, 21, 22, 37, 38, 39, 40, 45, 46, 47, 48, 49, 50, 51, 41, 42, 43, 44, 91, 92, 93, 94, 95, 96, 97, 98, 99, 100, 101, 102, 112, 113, 114, 115, 116, 117, 118, 119] (by decide +kernel) (by decide +kernel)
set_option maxRecDepth 20000 in
theorem gX2_judge_X1_pass_n120 : GoodIn wsX2_judge (wsX1_pass) := ggX2_judge_X1_pass
theorem dX2_judge_0 : decode cX2_judge 0 = .ok (.aload_n 0, 1) := by decide +kernel
theorem dX2_judge_1 : decode cX2_judge 1 = .ok (.invokevirtual 203, 3) := by decide +kernel
theorem dX2_judge_4 : decode cX2_judge 4 = .ok (.istore_n 1, 1) := by decide +kernel
theorem dX2_judge_5 : decode cX2_judge 5 = .ok (.aload_n 0, 1) := by decide +kernel
theorem dX2_judge_6 : decode cX2_judge 6 = .ok (.getfield 16, 3) := by decide +kernel
theorem dX2_judge_9 : decode cX2_judge 9 = .ok (.aload_n 0, 1) := by decide +kernel
theorem dX2_judge_10 : decode cX2_judge 10 = .ok (.getfield 10, 3) := by decide +kernel
theorem dX2_judge_13 : decode cX2_judge 13 = .ok (.invokevirtual 61, 3) := by decide +kernel
theorem dX2_judge_16 : decode cX2_judge 16 = .ok (.iconst 0, 1) := by decide +kernel
theorem dX2_judge_17 : decode cX2_judge 17 = .ok (.istore_n 2, 1) := by decide +kernel
theorem dX2_judge_18 : decode cX2_judge 18 = .ok (.iload_n 2, 1) := by decide +kernel
theorem dX2_judge_19 : decode cX2_judge 19 = .ok (.iload_n 1, 1) := by decide +kernel
theorem dX2_judge_20 : decode cX2_judge 20 = .ok (.if_icmp .ge 35, 3) := by decide +kernel
theorem dX2_judge_23 : decode cX2_judge 23 = .ok (.aload_n 0, 1) := by decide +kernel
theorem dX2_judge_24 : decode cX2_judge 24 = .ok (.getfield 16, 3) := by decide +kernel
theorem dX2_judge_27 : decode cX2_judge 27 = .ok (.invokevirtual 117, 3) := by decide +kernel
theorem dX2_judge_30 : decode cX2_judge 30 = .ok (.aload_n 0, 1) := by decide +kernel
theorem dX2_judge_31 : decode cX2_judge 31 = .ok (.getfield 33, 3) := by decide +kernel
theorem dX2_judge_34 : decode cX2_judge 34 = .ok (.iload_n 2, 1) := by decide +kernel
theorem dX2_judge_35 : decode cX2_judge 35 = .ok (.iaload, 1) := by decide +kernel
theorem dX2_judge_36 : decode cX2_judge 36 = .ok (.if_icmp .eq 5, 3) := by decide +kernel
theorem dX2_judge_39 : decode cX2_judge 39 = .ok (.iload_n 2, 1) := by decide +kernel
theorem dX2_judge_40 : decode cX2_judge 40 = .ok (.ireturn, 1) := by decide +kernel
theorem dX2_judge_41 : decode cX2_judge 41 = .ok (.aload_n 0, 1) := by decide +kernel
theorem dX2_judge_42 : decode cX2_judge 42 = .ok (.getfield 16, 3) := by decide +kernel
theorem dX2_judge_45 : decode cX2_judge 45 = .ok (.iconst 1, 1) := by decide +kernel
theorem dX2_judge_46 : decode cX2_judge 46 = .ok (.invokevirtual 120, 3) := by decide +kernel
theorem dX2_judge_49 : decode cX2_judge 49 = .ok (.iinc 2 1, 3) := by decide +kernel
theorem dX2_judge_52 : decode cX2_judge 52 = .ok (.goto (-34), 3) := by decide +kernel
theorem dX2_judge_55 : decode cX2_judge 55 = .ok (.bipush (-9), 2) := by decide +kernel
theorem dX2_judge_57 : decode cX2_judge 57 = .ok (.ireturn, 1) := by decide +kernel
theorem dX2_clear_0 : decode cX2_clear 0 = .ok (.aload_n 0, 1) := by decide +kernel
theorem dX2_clear_1 : decode cX2_clear 1 = .ok (.getfield 37, 3) := by decide +kernel
theorem dX2_clear_4 : decode cX2_clear 4 = .ok (.istore_n 1, 1) := by decide +kernel
theorem dX2_clear_5 : decode cX2_clear 5 = .ok (.aload_n 0, 1) := by decide +kernel
theorem dX2_clear_6 : decode cX2_clear 6 = .ok (.iconst 0, 1) := by decide +kernel
theorem dX2_clear_7 : decode cX2_clear 7 = .ok (.putfield 37, 3) := by decide +kernel
theorem dX2_clear_10 : decode cX2_clear 10 = .ok (.iload_n 1, 1) := by decide +kernel
theorem dX2_clear_11 : decode cX2_clear 11 = .ok (.ireturn, 1) := by decide +kernel
set_option maxRecDepth 20000 in
theorem ggX2_lots_X2_refuse : GoodIn wsX2_lots wsX2_refuse := goodIn_r _ [7, 8, 111, 112, 113, 114, 115, 116, 117, 118, 119] (by decide +kernel) (by decide +kernel)
set_option maxRecDepth 20000 in
theorem gX2_lots_X2_refuse : GoodIn wsX2_lots (wsV RX2 47 RX2 yX2_refuse wsX2_refuse) := goodIn_app (goodIn_of _ (by decide +kernel)) ggX2_lots_X2_refuse
set_option maxRecDepth 20000 in
theorem ggX2_lots_X1_become : GoodIn wsX2_lots wsX1_become := goodIn_r _ [12, 13, 14, 15, 16, 17, 18, 19, 20, 21, 22, 23, 24, 120, 121, 122, 123, 124, 125, 126, 127] (by decide +kernel) (by decide +kernel)
set_option maxRecDepth 20000 in
theorem gX2_lots_X1_become_n61 : GoodIn wsX2_lots (wsX1_become) := ggX2_lots_X1_become
set_option maxRecDepth 20000 in
theorem ggX2_lots_X1_drawWords : GoodIn wsX2_lots wsX1_drawWords := goodIn_r _ [27, 22, 28, 29, 30, 31, 32, 33, 10, 34, 23, 35, 36, 37, 38, 20, 21, 120, 121, 122, 123, 124, 125, 126, 127] (by decide +kernel) (by decide +kernel)
set_option maxRecDepth 20000 in
theorem gX2_lots_X1_drawWords_n206 : GoodIn wsX2_lots (wsX1_drawWords) := ggX2_lots_X1_drawWords
set_option maxRecDepth 20000 in
theorem ggX2_lots_X1_pass : GoodIn wsX2_lots wsX1_pass := goodIn_r _ [41, 42, 43, 44, 10, 45, 23, 24, 22, 46, 47, 48, 49, 19, 50, 51, 52, 53, 31, 32, 33, 34, 54, 55, 56, 57, 58, 59, 60, 61, 13, 18, 62, 63, 64, 65, 66, 67, 68, 69, 70, 71, 72, 73, 20, 21, 74, 75, 76, 77, 78, 79, 80, 81, 82, 83, 84, 85, 86, 87, 88, 89, 90, 91, 92, 93, 94, 95, 96, 35, 36, 37, 38, 120, 121, 122, 123, 124, 125, 126, 127] (by decide +kernel) (by decide +kernel)
set_option maxRecDepth 20000 in
theorem gX2_lots_X1_pass_n120 : GoodIn wsX2_lots (wsX1_pass) := ggX2_lots_X1_pass
set_option maxRecDepth 20000 in
theorem ggX2_lots_X1_bookSize : GoodIn wsX2_lots wsX1_bookSize := goodIn_r _ [99, 100, 101, 102, 10, 103, 104, 105, 106, 107, 74, 75, 76, 77, 20, 23, 85, 86, 87, 88, 21, 78, 79, 80, 81, 82, 83, 84, 120, 121, 122, 123, 124, 125, 126, 127] (by decide +kernel) (by decide +kernel)
set_option maxRecDepth 20000 in
theorem gX2_lots_X1_bookSize_n117 : GoodIn wsX2_lots (wsX1_bookSize) := ggX2_lots_X1_bookSize
set_option maxRecDepth 20000 in
theorem ggX2_lots_X1_howManyLive : GoodIn wsX2_lots wsX1_howManyLive := goodIn_r _ [110, 23, 78, 79, 80, 81, 82, 83, 84, 120, 121, 122, 123, 124, 125, 126, 127] (by decide +kernel) (by decide +kernel)
set_option maxRecDepth 20000 in
theorem gX2_lots_X1_howManyLive_n111 : GoodIn wsX2_lots (wsX1_howManyLive) := ggX2_lots_X1_howManyLive
theorem dX2_lots_0 : decode cX2_lots 0 = .ok (.iload_n 1, 1) := by decide +kernel
theorem dX2_lots_1 : decode cX2_lots 1 = .ok (.iconst 1, 1) := by decide +kernel
theorem dX2_lots_2 : decode cX2_lots 2 = .ok (.if_icmp .ge 10, 3) := by decide +kernel
theorem dX2_lots_5 : decode cX2_lots 5 = .ok (.aload_n 0, 1) := by decide +kernel
theorem dX2_lots_6 : decode cX2_lots 6 = .ok (.bipush (-4), 2) := by decide +kernel
theorem dX2_lots_8 : decode cX2_lots 8 = .ok (.invokevirtual 47, 3) := by decide +kernel
theorem dX2_lots_11 : decode cX2_lots 11 = .ok (.ireturn, 1) := by decide +kernel
theorem dX2_lots_12 : decode cX2_lots 12 = .ok (.iload_n 1, 1) := by decide +kernel
theorem dX2_lots_13 : decode cX2_lots 13 = .ok (.bipush 20, 2) := by decide +kernel
theorem dX2_lots_15 : decode cX2_lots 15 = .ok (.if_icmp .le 10, 3) := by decide +kernel
theorem dX2_lots_18 : decode cX2_lots 18 = .ok (.aload_n 0, 1) := by decide +kernel
theorem dX2_lots_19 : decode cX2_lots 19 = .ok (.bipush (-6), 2) := by decide +kernel
theorem dX2_lots_21 : decode cX2_lots 21 = .ok (.invokevirtual 47, 3) := by decide +kernel
theorem dX2_lots_24 : decode cX2_lots 24 = .ok (.ireturn, 1) := by decide +kernel
theorem dX2_lots_25 : decode cX2_lots 25 = .ok (.iload_n 3, 1) := by decide +kernel
theorem dX2_lots_26 : decode cX2_lots 26 = .ok (.ifCond .lt 8, 3) := by decide +kernel
theorem dX2_lots_29 : decode cX2_lots 29 = .ok (.iload_n 3, 1) := by decide +kernel
theorem dX2_lots_30 : decode cX2_lots 30 = .ok (.iconst 1, 1) := by decide +kernel
theorem dX2_lots_31 : decode cX2_lots 31 = .ok (.if_icmp .le 10, 3) := by decide +kernel
theorem dX2_lots_34 : decode cX2_lots 34 = .ok (.aload_n 0, 1) := by decide +kernel
theorem dX2_lots_35 : decode cX2_lots 35 = .ok (.bipush (-2), 2) := by decide +kernel
theorem dX2_lots_37 : decode cX2_lots 37 = .ok (.invokevirtual 47, 3) := by decide +kernel
theorem dX2_lots_40 : decode cX2_lots 40 = .ok (.ireturn, 1) := by decide +kernel
theorem dX2_lots_41 : decode cX2_lots 41 = .ok (.iconst 0, 1) := by decide +kernel
theorem dX2_lots_42 : decode cX2_lots 42 = .ok (.istore 4, 2) := by decide +kernel
theorem dX2_lots_44 : decode cX2_lots 44 = .ok (.iload_n 2, 1) := by decide +kernel
theorem dX2_lots_45 : decode cX2_lots 45 = .ok (.istore 5, 2) := by decide +kernel
theorem dX2_lots_47 : decode cX2_lots 47 = .ok (.iconst 0, 1) := by decide +kernel
theorem dX2_lots_48 : decode cX2_lots 48 = .ok (.istore 6, 2) := by decide +kernel
theorem dX2_lots_50 : decode cX2_lots 50 = .ok (.iload 6, 2) := by decide +kernel
theorem dX2_lots_52 : decode cX2_lots 52 = .ok (.iload_n 1, 1) := by decide +kernel
theorem dX2_lots_53 : decode cX2_lots 53 = .ok (.if_icmp .ge 66, 3) := by decide +kernel
theorem dX2_lots_56 : decode cX2_lots 56 = .ok (.aload_n 0, 1) := by decide +kernel
theorem dX2_lots_57 : decode cX2_lots 57 = .ok (.getfield 16, 3) := by decide +kernel
theorem dX2_lots_60 : decode cX2_lots 60 = .ok (.aload_n 0, 1) := by decide +kernel
theorem dX2_lots_61 : decode cX2_lots 61 = .ok (.getfield 10, 3) := by decide +kernel
theorem dX2_lots_64 : decode cX2_lots 64 = .ok (.invokevirtual 61, 3) := by decide +kernel
theorem dX2_lots_67 : decode cX2_lots 67 = .ok (.aload_n 0, 1) := by decide +kernel
theorem dX2_lots_68 : decode cX2_lots 68 = .ok (.getfield 16, 3) := by decide +kernel
theorem dX2_lots_71 : decode cX2_lots 71 = .ok (.iload 5, 2) := by decide +kernel
theorem dX2_lots_73 : decode cX2_lots 73 = .ok (.invokevirtual 206, 3) := by decide +kernel
theorem dX2_lots_76 : decode cX2_lots 76 = .ok (.istore 5, 2) := by decide +kernel
theorem dX2_lots_78 : decode cX2_lots 78 = .ok (.aload_n 0, 1) := by decide +kernel
theorem dX2_lots_79 : decode cX2_lots 79 = .ok (.getfield 16, 3) := by decide +kernel
theorem dX2_lots_82 : decode cX2_lots 82 = .ok (.bipush 10, 2) := by decide +kernel
theorem dX2_lots_84 : decode cX2_lots 84 = .ok (.invokevirtual 120, 3) := by decide +kernel
theorem dX2_lots_87 : decode cX2_lots 87 = .ok (.iload 4, 2) := by decide +kernel
theorem dX2_lots_89 : decode cX2_lots 89 = .ok (.iload_n 3, 1) := by decide +kernel
theorem dX2_lots_90 : decode cX2_lots 90 = .ok (.ifCond .ne 13, 3) := by decide +kernel
theorem dX2_lots_93 : decode cX2_lots 93 = .ok (.aload_n 0, 1) := by decide +kernel
theorem dX2_lots_94 : decode cX2_lots 94 = .ok (.getfield 16, 3) := by decide +kernel
theorem dX2_lots_97 : decode cX2_lots 97 = .ok (.invokevirtual 117, 3) := by decide +kernel
theorem dX2_lots_100 : decode cX2_lots 100 = .ok (.goto 10, 3) := by decide +kernel
theorem dX2_lots_103 : decode cX2_lots 103 = .ok (.aload_n 0, 1) := by decide +kernel
theorem dX2_lots_104 : decode cX2_lots 104 = .ok (.getfield 16, 3) := by decide +kernel
theorem dX2_lots_107 : decode cX2_lots 107 = .ok (.invokevirtual 111, 3) := by decide +kernel
theorem dX2_lots_110 : decode cX2_lots 110 = .ok (.iadd, 1) := by decide +kernel
theorem dX2_lots_111 : decode cX2_lots 111 = .ok (.istore 4, 2) := by decide +kernel
theorem dX2_lots_113 : decode cX2_lots 113 = .ok (.iinc 6 1, 3) := by decide +kernel
theorem dX2_lots_116 : decode cX2_lots 116 = .ok (.goto (-66), 3) := by decide +kernel
theorem dX2_lots_119 : decode cX2_lots 119 = .ok (.iload 4, 2) := by decide +kernel
theorem dX2_lots_121 : decode cX2_lots 121 = .ok (.ireturn, 1) := by decide +kernel
set_option maxRecDepth 20000 in
theorem ggX2_image_X1_become : GoodIn wsX2_image wsX1_become := goodIn_r _ [7, 8, 9, 10, 11, 12, 13, 14, 15, 16, 17, 18, 19, 29, 30, 31, 32, 33, 34, 35, 36] (by decide +kernel) (by decide +kernel)
set_option maxRecDepth 20000 in
theorem gX2_image_X1_become_n61 : GoodIn wsX2_image (wsX1_become) := ggX2_image_X1_become
theorem dX2_image_0 : decode cX2_image 0 = .ok (.aload_n 0, 1) := by decide +kernel
theorem dX2_image_1 : decode cX2_image 1 = .ok (.getfield 19, 3) := by decide +kernel
theorem dX2_image_4 : decode cX2_image 4 = .ok (.aload_n 0, 1) := by decide +kernel
theorem dX2_image_5 : decode cX2_image 5 = .ok (.getfield 10, 3) := by decide +kernel
theorem dX2_image_8 : decode cX2_image 8 = .ok (.invokevirtual 61, 3) := by decide +kernel
theorem dX2_image_11 : decode cX2_image 11 = .ok (.aload_n 0, 1) := by decide +kernel
theorem dX2_image_12 : decode cX2_image 12 = .ok (.iconst 1, 1) := by decide +kernel
theorem dX2_image_13 : decode cX2_image 13 = .ok (.putfield 22, 3) := by decide +kernel
theorem dX2_image_16 : decode cX2_image 16 = .ok (.aload_n 0, 1) := by decide +kernel
theorem dX2_image_17 : decode cX2_image 17 = .ok (.getfield 10, 3) := by decide +kernel
theorem dX2_image_20 : decode cX2_image 20 = .ok (.getfield 209, 3) := by decide +kernel
theorem dX2_image_23 : decode cX2_image 23 = .ok (.ireturn, 1) := by decide +kernel
set_option maxRecDepth 20000 in
theorem ggX2_on_X2_refuse : GoodIn wsX2_on wsX2_refuse := goodIn_r _ [8, 9, 26, 27, 28, 29, 30, 31, 32, 33, 34] (by decide +kernel) (by decide +kernel)
set_option maxRecDepth 20000 in
theorem gX2_on_X2_refuse : GoodIn wsX2_on (wsV RX2 47 RX2 yX2_refuse wsX2_refuse) := goodIn_app (goodIn_of _ (by decide +kernel)) ggX2_on_X2_refuse
set_option maxRecDepth 20000 in
theorem ggX2_on_X1_become : GoodIn wsX2_on wsX1_become := goodIn_r _ [13, 14, 15, 16, 17, 18, 19, 20, 21, 22, 23, 24, 25, 35, 36, 37, 38, 39, 40, 41, 42] (by decide +kernel) (by decide +kernel)
set_option maxRecDepth 20000 in
theorem gX2_on_X1_become_n61 : GoodIn wsX2_on (wsX1_become) := ggX2_on_X1_become
theorem dX2_on_0 : decode cX2_on 0 = .ok (.aload_n 0, 1) := by decide +kernel
theorem dX2_on_1 : decode cX2_on 1 = .ok (.getfield 22, 3) := by decide +kernel
theorem dX2_on_4 : decode cX2_on 4 = .ok (.ifCond .ne 10, 3) := by decide +kernel
theorem dX2_on_7 : decode cX2_on 7 = .ok (.aload_n 0, 1) := by decide +kernel
theorem dX2_on_8 : decode cX2_on 8 = .ok (.bipush (-3), 2) := by decide +kernel
theorem dX2_on_10 : decode cX2_on 10 = .ok (.invokevirtual 47, 3) := by decide +kernel
theorem dX2_on_13 : decode cX2_on 13 = .ok (.ireturn, 1) := by decide +kernel
theorem dX2_on_14 : decode cX2_on 14 = .ok (.aload_n 0, 1) := by decide +kernel
theorem dX2_on_15 : decode cX2_on 15 = .ok (.getfield 10, 3) := by decide +kernel
theorem dX2_on_18 : decode cX2_on 18 = .ok (.aload_n 0, 1) := by decide +kernel
theorem dX2_on_19 : decode cX2_on 19 = .ok (.getfield 19, 3) := by decide +kernel
theorem dX2_on_22 : decode cX2_on 22 = .ok (.invokevirtual 61, 3) := by decide +kernel
theorem dX2_on_25 : decode cX2_on 25 = .ok (.aload_n 0, 1) := by decide +kernel
theorem dX2_on_26 : decode cX2_on 26 = .ok (.getfield 10, 3) := by decide +kernel
theorem dX2_on_29 : decode cX2_on 29 = .ok (.getfield 209, 3) := by decide +kernel
theorem dX2_on_32 : decode cX2_on 32 = .ok (.ireturn, 1) := by decide +kernel
set_option maxRecDepth 20000 in
theorem ggX2_count_X1_howManyLive : GoodIn wsX2_count wsX1_howManyLive := goodIn_r _ [8, 9, 10, 11, 12, 13, 14, 15, 16, 59, 60, 61, 62, 63, 64, 65, 66] (by decide +kernel) (by decide +kernel)
set_option maxRecDepth 20000 in
theorem gX2_count_X1_howManyLive_n111 : GoodIn wsX2_count (wsX1_howManyLive) := ggX2_count_X1_howManyLive
set_option maxRecDepth 20000 in
theorem ggX2_count_X1_bookSize : GoodIn wsX2_count wsX1_bookSize := goodIn_r _ [19, 20, 21, 22, 6, 23, 24, 25, 26, 27, 28, 29, 30, 31, 32, 9, 33, 34, 35, 36, 37, 10, 11, 12, 13, 14, 15, 16, 59, 60, 61, 62, 63, 64, 65, 66] (by decide +kernel) (by decide +kernel)
set_option maxRecDepth 20000 in
theorem gX2_count_X1_bookSize_n117 : GoodIn wsX2_count (wsX1_bookSize) := ggX2_count_X1_bookSize
set_option maxRecDepth 20000 in
theorem ggX2_count_X1_wordsOfLiving : GoodIn wsX2_count wsX1_wordsOfLiving := goodIn_r _ [40, 32, 37, 9, 10, 11, 12, 13, 14, 15, 16, 59, 60, 61, 62, 63, 64, 65, 66] (by decide +kernel) (by decide +kernel)
set_option maxRecDepth 20000 in
theorem gX2_count_X1_wordsOfLiving_n212 : GoodIn wsX2_count (wsX1_wordsOfLiving) := ggX2_count_X1_wordsOfLiving
set_option maxRecDepth 20000 in
theorem ggX2_count_X1_agesOfLiving : GoodIn wsX2_count wsX1_agesOfLiving := goodIn_r _ [43, 44, 45, 46, 47, 48, 6, 49, 9, 59, 60, 61, 62, 63, 64, 65, 66] (by decide +kernel) (by decide +kernel)
set_option maxRecDepth 20000 in
theorem gX2_count_X1_agesOfLiving_n197 : GoodIn wsX2_count (wsX1_agesOfLiving) := ggX2_count_X1_agesOfLiving
theorem dX2_count_0 : decode cX2_count 0 = .ok (.iload_n 1, 1) := by decide +kernel
theorem dX2_count_1 : decode cX2_count 1 = .ok (.bipush 11, 2) := by decide +kernel
theorem dX2_count_3 : decode cX2_count 3 = .ok (.if_icmp .lt 19, 3) := by decide +kernel
theorem dX2_count_6 : decode cX2_count 6 = .ok (.iload_n 1, 1) := by decide +kernel
theorem dX2_count_7 : decode cX2_count 7 = .ok (.bipush 16, 2) := by decide +kernel
theorem dX2_count_9 : decode cX2_count 9 = .ok (.if_icmp .gt 13, 3) := by decide +kernel
theorem dX2_count_12 : decode cX2_count 12 = .ok (.aload_n 0, 1) := by decide +kernel
theorem dX2_count_13 : decode cX2_count 13 = .ok (.getfield 41, 3) := by decide +kernel
theorem dX2_count_16 : decode cX2_count 16 = .ok (.iload_n 1, 1) := by decide +kernel
theorem dX2_count_17 : decode cX2_count 17 = .ok (.bipush 10, 2) := by decide +kernel
theorem dX2_count_19 : decode cX2_count 19 = .ok (.isub, 1) := by decide +kernel
theorem dX2_count_20 : decode cX2_count 20 = .ok (.iaload, 1) := by decide +kernel
theorem dX2_count_21 : decode cX2_count 21 = .ok (.ireturn, 1) := by decide +kernel
theorem dX2_count_22 : decode cX2_count 22 = .ok (.iload_n 1, 1) := by decide +kernel
theorem dX2_count_23 : decode cX2_count 23 = .ok (.tableswitch 106 0 7 #[45, 53, 61, 69, 77, 85, 93, 98], 45) := by decide +kernel
theorem dX2_count_68 : decode cX2_count 68 = .ok (.aload_n 0, 1) := by decide +kernel
theorem dX2_count_69 : decode cX2_count 69 = .ok (.getfield 10, 3) := by decide +kernel
theorem dX2_count_72 : decode cX2_count 72 = .ok (.getfield 152, 3) := by decide +kernel
theorem dX2_count_75 : decode cX2_count 75 = .ok (.ireturn, 1) := by decide +kernel
theorem dX2_count_76 : decode cX2_count 76 = .ok (.aload_n 0, 1) := by decide +kernel
theorem dX2_count_77 : decode cX2_count 77 = .ok (.getfield 10, 3) := by decide +kernel
theorem dX2_count_80 : decode cX2_count 80 = .ok (.getfield 209, 3) := by decide +kernel
theorem dX2_count_83 : decode cX2_count 83 = .ok (.ireturn, 1) := by decide +kernel
theorem dX2_count_84 : decode cX2_count 84 = .ok (.aload_n 0, 1) := by decide +kernel
theorem dX2_count_85 : decode cX2_count 85 = .ok (.getfield 10, 3) := by decide +kernel
theorem dX2_count_88 : decode cX2_count 88 = .ok (.invokevirtual 111, 3) := by decide +kernel
theorem dX2_count_91 : decode cX2_count 91 = .ok (.ireturn, 1) := by decide +kernel
theorem dX2_count_92 : decode cX2_count 92 = .ok (.aload_n 0, 1) := by decide +kernel
theorem dX2_count_93 : decode cX2_count 93 = .ok (.getfield 10, 3) := by decide +kernel
theorem dX2_count_96 : decode cX2_count 96 = .ok (.invokevirtual 117, 3) := by decide +kernel
theorem dX2_count_99 : decode cX2_count 99 = .ok (.ireturn, 1) := by decide +kernel
theorem dX2_count_100 : decode cX2_count 100 = .ok (.aload_n 0, 1) := by decide +kernel
theorem dX2_count_101 : decode cX2_count 101 = .ok (.getfield 10, 3) := by decide +kernel
theorem dX2_count_104 : decode cX2_count 104 = .ok (.invokevirtual 212, 3) := by decide +kernel
theorem dX2_count_107 : decode cX2_count 107 = .ok (.ireturn, 1) := by decide +kernel
theorem dX2_count_108 : decode cX2_count 108 = .ok (.aload_n 0, 1) := by decide +kernel
theorem dX2_count_109 : decode cX2_count 109 = .ok (.getfield 10, 3) := by decide +kernel
theorem dX2_count_112 : decode cX2_count 112 = .ok (.invokevirtual 197, 3) := by decide +kernel
theorem dX2_count_115 : decode cX2_count 115 = .ok (.ireturn, 1) := by decide +kernel
theorem dX2_count_116 : decode cX2_count 116 = .ok (.aload_n 0, 1) := by decide +kernel
theorem dX2_count_117 : decode cX2_count 117 = .ok (.getfield 37, 3) := by decide +kernel
theorem dX2_count_120 : decode cX2_count 120 = .ok (.ireturn, 1) := by decide +kernel
theorem dX2_count_121 : decode cX2_count 121 = .ok (.aload_n 0, 1) := by decide +kernel
theorem dX2_count_122 : decode cX2_count 122 = .ok (.getfield 29, 3) := by decide +kernel
theorem dX2_count_125 : decode cX2_count 125 = .ok (.getfield 51, 3) := by decide +kernel
theorem dX2_count_128 : decode cX2_count 128 = .ok (.ireturn, 1) := by decide +kernel
theorem dX2_count_129 : decode cX2_count 129 = .ok (.bipush (-9), 2) := by decide +kernel
theorem dX2_count_131 : decode cX2_count 131 = .ok (.ireturn, 1) := by decide +kernel
theorem dX2_refuse_0 : decode cX2_refuse 0 = .ok (.iload_n 1, 1) := by decide +kernel
theorem dX2_refuse_1 : decode cX2_refuse 1 = .ok (.ineg, 1) := by decide +kernel
theorem dX2_refuse_2 : decode cX2_refuse 2 = .ok (.istore_n 2, 1) := by decide +kernel
theorem dX2_refuse_3 : decode cX2_refuse 3 = .ok (.iload_n 2, 1) := by decide +kernel
theorem dX2_refuse_4 : decode cX2_refuse 4 = .ok (.iconst 1, 1) := by decide +kernel
theorem dX2_refuse_5 : decode cX2_refuse 5 = .ok (.if_icmp .lt 22, 3) := by decide +kernel
theorem dX2_refuse_8 : decode cX2_refuse 8 = .ok (.iload_n 2, 1) := by decide +kernel
theorem dX2_refuse_9 : decode cX2_refuse 9 = .ok (.aload_n 0, 1) := by decide +kernel
theorem dX2_refuse_10 : decode cX2_refuse 10 = .ok (.getfield 41, 3) := by decide +kernel
theorem dX2_refuse_13 : decode cX2_refuse 13 = .ok (.arraylength, 1) := by decide +kernel
theorem dX2_refuse_14 : decode cX2_refuse 14 = .ok (.if_icmp .ge 13, 3) := by decide +kernel
theorem dX2_refuse_17 : decode cX2_refuse 17 = .ok (.aload_n 0, 1) := by decide +kernel
theorem dX2_refuse_18 : decode cX2_refuse 18 = .ok (.getfield 41, 3) := by decide +kernel
theorem dX2_refuse_21 : decode cX2_refuse 21 = .ok (.iload_n 2, 1) := by decide +kernel
theorem dX2_refuse_22 : decode cX2_refuse 22 = .ok (.dup2, 1) := by decide +kernel
theorem dX2_refuse_23 : decode cX2_refuse 23 = .ok (.iaload, 1) := by decide +kernel
theorem dX2_refuse_24 : decode cX2_refuse 24 = .ok (.iconst 1, 1) := by decide +kernel
theorem dX2_refuse_25 : decode cX2_refuse 25 = .ok (.iadd, 1) := by decide +kernel
theorem dX2_refuse_26 : decode cX2_refuse 26 = .ok (.iastore, 1) := by decide +kernel
theorem dX2_refuse_27 : decode cX2_refuse 27 = .ok (.iload_n 1, 1) := by decide +kernel
theorem dX2_refuse_28 : decode cX2_refuse 28 = .ok (.ireturn, 1) := by decide +kernel
set_option maxRecDepth 20000 in
theorem ggX2_refuseLong_X2_refuse : GoodIn wsX2_refuseLong wsX2_refuse := goodIn_r _ [6, 7, 8, 9, 10, 11, 12, 13, 14, 15, 16] (by decide +kernel) (by decide +kernel)
set_option maxRecDepth 20000 in
theorem gX2_refuseLong_X2_refuse : GoodIn wsX2_refuseLong (wsV RX2 47 RX2 yX2_refuse wsX2_refuse) := goodIn_app (goodIn_of _ (by decide +kernel)) ggX2_refuseLong_X2_refuse
theorem dX2_refuseLong_0 : decode cX2_refuseLong 0 = .ok (.ldc2_w 215, 3) := by decide +kernel
theorem dX2_refuseLong_3 : decode cX2_refuseLong 3 = .ok (.aload_n 0, 1) := by decide +kernel
theorem dX2_refuseLong_4 : decode cX2_refuseLong 4 = .ok (.iload_n 1, 1) := by decide +kernel
theorem dX2_refuseLong_5 : decode cX2_refuseLong 5 = .ok (.invokevirtual 47, 3) := by decide +kernel
theorem dX2_refuseLong_8 : decode cX2_refuseLong 8 = .ok (.i2l, 1) := by decide +kernel
theorem dX2_refuseLong_9 : decode cX2_refuseLong 9 = .ok (.lsub, 1) := by decide +kernel
theorem dX2_refuseLong_10 : decode cX2_refuseLong 10 = .ok (.lreturn, 1) := by decide +kernel
theorem dX2_noCitizen_0 : decode cX2_noCitizen 0 = .ok (.iload_n 1, 1) := by decide +kernel
theorem dX2_noCitizen_1 : decode cX2_noCitizen 1 = .ok (.ifCond .lt 14, 3) := by decide +kernel
theorem dX2_noCitizen_4 : decode cX2_noCitizen 4 = .ok (.iload_n 1, 1) := by decide +kernel
theorem dX2_noCitizen_5 : decode cX2_noCitizen 5 = .ok (.aload_n 0, 1) := by decide +kernel
theorem dX2_noCitizen_6 : decode cX2_noCitizen 6 = .ok (.getfield 10, 3) := by decide +kernel
theorem dX2_noCitizen_9 : decode cX2_noCitizen 9 = .ok (.getfield 152, 3) := by decide +kernel
theorem dX2_noCitizen_12 : decode cX2_noCitizen 12 = .ok (.if_icmp .lt 7, 3) := by decide +kernel
theorem dX2_noCitizen_15 : decode cX2_noCitizen 15 = .ok (.iconst 1, 1) := by decide +kernel
theorem dX2_noCitizen_16 : decode cX2_noCitizen 16 = .ok (.goto 4, 3) := by decide +kernel
theorem dX2_noCitizen_19 : decode cX2_noCitizen 19 = .ok (.iconst 0, 1) := by decide +kernel
theorem dX2_noCitizen_20 : decode cX2_noCitizen 20 = .ok (.ireturn, 1) := by decide +kernel
set_option maxRecDepth 20000 in
theorem ggX2_largestChapter_X1_isLiving : GoodIn wsX2_largestChapter wsX1_isLiving := goodIn_r _ [5, 6, 7, 39, 40, 41, 42, 43, 44, 45, 46] (by decide +kernel) (by decide +kernel)
set_option maxRecDepth 20000 in
theorem gX2_largestChapter_X1_isLiving_n85 : GoodIn wsX2_largestChapter (wsX1_isLiving) := ggX2_largestChapter_X1_isLiving
set_option maxRecDepth 20000 in
theorem ggX2_largestChapter_X1_chapterOf : GoodIn wsX2_largestChapter wsX1_chapterOf := goodIn_r _ [10, 11, 2, 4, 3, 5, 6, 7, 12, 13, 14, 15, 16, 17, 18, 19, 20, 21, 22, 23, 24, 25, 26, 27, 28, 29, 39, 40, 41, 42, 43, 44, 45, 46] (by decide +kernel) (by decide +kernel)
set_option maxRecDepth 20000 in
theorem gX2_largestChapter_X1_chapterOf_n149 : GoodIn wsX2_largestChapter (wsX1_chapterOf) := ggX2_largestChapter_X1_chapterOf
theorem dX2_largestChapter_0 : decode cX2_largestChapter 0 = .ok (.bipush (-9), 2) := by decide +kernel
theorem dX2_largestChapter_2 : decode cX2_largestChapter 2 = .ok (.istore_n 1, 1) := by decide +kernel
theorem dX2_largestChapter_3 : decode cX2_largestChapter 3 = .ok (.bipush (-9), 2) := by decide +kernel
theorem dX2_largestChapter_5 : decode cX2_largestChapter 5 = .ok (.istore_n 2, 1) := by decide +kernel
theorem dX2_largestChapter_6 : decode cX2_largestChapter 6 = .ok (.iconst 0, 1) := by decide +kernel
theorem dX2_largestChapter_7 : decode cX2_largestChapter 7 = .ok (.istore_n 3, 1) := by decide +kernel
theorem dX2_largestChapter_8 : decode cX2_largestChapter 8 = .ok (.iload_n 3, 1) := by decide +kernel
theorem dX2_largestChapter_9 : decode cX2_largestChapter 9 = .ok (.aload_n 0, 1) := by decide +kernel
theorem dX2_largestChapter_10 : decode cX2_largestChapter 10 = .ok (.getfield 10, 3) := by decide +kernel
theorem dX2_largestChapter_13 : decode cX2_largestChapter 13 = .ok (.getfield 152, 3) := by decide +kernel
theorem dX2_largestChapter_16 : decode cX2_largestChapter 16 = .ok (.if_icmp .ge 43, 3) := by decide +kernel
theorem dX2_largestChapter_19 : decode cX2_largestChapter 19 = .ok (.aload_n 0, 1) := by decide +kernel
theorem dX2_largestChapter_20 : decode cX2_largestChapter 20 = .ok (.getfield 10, 3) := by decide +kernel
theorem dX2_largestChapter_23 : decode cX2_largestChapter 23 = .ok (.iload_n 3, 1) := by decide +kernel
theorem dX2_largestChapter_24 : decode cX2_largestChapter 24 = .ok (.invokevirtual 85, 3) := by decide +kernel
theorem dX2_largestChapter_27 : decode cX2_largestChapter 27 = .ok (.ifCond .eq 26, 3) := by decide +kernel
theorem dX2_largestChapter_30 : decode cX2_largestChapter 30 = .ok (.aload_n 0, 1) := by decide +kernel
theorem dX2_largestChapter_31 : decode cX2_largestChapter 31 = .ok (.getfield 10, 3) := by decide +kernel
theorem dX2_largestChapter_34 : decode cX2_largestChapter 34 = .ok (.iload_n 3, 1) := by decide +kernel
theorem dX2_largestChapter_35 : decode cX2_largestChapter 35 = .ok (.invokevirtual 149, 3) := by decide +kernel
theorem dX2_largestChapter_38 : decode cX2_largestChapter 38 = .ok (.iload_n 2, 1) := by decide +kernel
theorem dX2_largestChapter_39 : decode cX2_largestChapter 39 = .ok (.if_icmp .le 14, 3) := by decide +kernel
theorem dX2_largestChapter_42 : decode cX2_largestChapter 42 = .ok (.aload_n 0, 1) := by decide +kernel
theorem dX2_largestChapter_43 : decode cX2_largestChapter 43 = .ok (.getfield 10, 3) := by decide +kernel
theorem dX2_largestChapter_46 : decode cX2_largestChapter 46 = .ok (.iload_n 3, 1) := by decide +kernel
theorem dX2_largestChapter_47 : decode cX2_largestChapter 47 = .ok (.invokevirtual 149, 3) := by decide +kernel
theorem dX2_largestChapter_50 : decode cX2_largestChapter 50 = .ok (.istore_n 2, 1) := by decide +kernel
theorem dX2_largestChapter_51 : decode cX2_largestChapter 51 = .ok (.iload_n 3, 1) := by decide +kernel
theorem dX2_largestChapter_52 : decode cX2_largestChapter 52 = .ok (.istore_n 1, 1) := by decide +kernel
theorem dX2_largestChapter_53 : decode cX2_largestChapter 53 = .ok (.iinc 3 1, 3) := by decide +kernel
theorem dX2_largestChapter_56 : decode cX2_largestChapter 56 = .ok (.goto (-48), 3) := by decide +kernel
theorem dX2_largestChapter_59 : decode cX2_largestChapter 59 = .ok (.iload_n 1, 1) := by decide +kernel
theorem dX2_largestChapter_60 : decode cX2_largestChapter 60 = .ok (.ireturn, 1) := by decide +kernel
set_option maxRecDepth 20000 in
theorem ggX2_endOfQuarrel_X1_become : GoodIn wsX2_endOfQuarrel wsX1_become := goodIn_r _ [6, 7, 8, 9, 10, 11, 12, 13, 14, 15, 16, 17, 18, 98, 99, 100, 101, 102, 103, 104, 105] (by decide +kernel) (by decide +kernel)
set_option maxRecDepth 20000 in
theorem gX2_endOfQuarrel_X1_become_n61 : GoodIn wsX2_endOfQuarrel (wsX1_become) := ggX2_endOfQuarrel_X1_become
set_option maxRecDepth 20000 in
theorem ggX2_endOfQuarrel_X1_put : GoodIn wsX2_endOfQuarrel wsX1_put := goodIn_r _ [21, 14, 15, 98, 99, 100, 101, 102, 103, 104, 105] (by decide +kernel) (by decide +kernel)
set_option maxRecDepth 20000 in
theorem gX2_endOfQuarrel_X1_put_n104 : GoodIn wsX2_endOfQuarrel (wsX1_put) := ggX2_endOfQuarrel_X1_put
set_option maxRecDepth 20000 in
theorem ggX2_endOfQuarrel_X1_endOf : GoodIn wsX2_endOfQuarrel wsX1_endOf := goodIn_r _ [24, 25, 26, 27, 4, 28, 29, 30, 31, 32, 14, 17, 33, 34, 35, 36, 15, 37, 38, 39, 40, 18, 16, 41, 42, 43, 44, 13, 45, 46, 47, 48, 49, 50, 51, 52, 53, 54, 55, 56, 57, 58, 59, 60, 7, 12, 61, 62, 63, 64, 65, 66, 67, 68, 69, 70, 71, 72, 73, 74, 75, 76, 77, 78, 79, 80, 81, 82, 83, 84, 85, 86, 87, 88, 19, 20, 21, 98, 99, 100, 101, 102, 103, 104, 105] (by decide +kernel) (by decide +kernel)
set_option maxRecDepth 20000 in
theorem gX2_endOfQuarrel_X1_endOf_n134 : GoodIn wsX2_endOfQuarrel (wsX1_endOf) := ggX2_endOfQuarrel_X1_endOf
theorem dX2_endOfQuarrel_0 : decode cX2_endOfQuarrel 0 = .ok (.aload_n 0, 1) := by decide +kernel
theorem dX2_endOfQuarrel_1 : decode cX2_endOfQuarrel 1 = .ok (.getfield 16, 3) := by decide +kernel
theorem dX2_endOfQuarrel_4 : decode cX2_endOfQuarrel 4 = .ok (.aload_n 0, 1) := by decide +kernel
theorem dX2_endOfQuarrel_5 : decode cX2_endOfQuarrel 5 = .ok (.getfield 10, 3) := by decide +kernel
theorem dX2_endOfQuarrel_8 : decode cX2_endOfQuarrel 8 = .ok (.invokevirtual 61, 3) := by decide +kernel
theorem dX2_endOfQuarrel_11 : decode cX2_endOfQuarrel 11 = .ok (.aload_n 0, 1) := by decide +kernel
theorem dX2_endOfQuarrel_12 : decode cX2_endOfQuarrel 12 = .ok (.getfield 16, 3) := by decide +kernel
theorem dX2_endOfQuarrel_15 : decode cX2_endOfQuarrel 15 = .ok (.iload_n 1, 1) := by decide +kernel
theorem dX2_endOfQuarrel_16 : decode cX2_endOfQuarrel 16 = .ok (.iload_n 3, 1) := by decide +kernel
theorem dX2_endOfQuarrel_17 : decode cX2_endOfQuarrel 17 = .ok (.iconst 1, 1) := by decide +kernel
theorem dX2_endOfQuarrel_18 : decode cX2_endOfQuarrel 18 = .ok (.invokevirtual 104, 3) := by decide +kernel
theorem dX2_endOfQuarrel_21 : decode cX2_endOfQuarrel 21 = .ok (.aload_n 0, 1) := by decide +kernel
theorem dX2_endOfQuarrel_22 : decode cX2_endOfQuarrel 22 = .ok (.getfield 16, 3) := by decide +kernel
theorem dX2_endOfQuarrel_25 : decode cX2_endOfQuarrel 25 = .ok (.iload_n 2, 1) := by decide +kernel
theorem dX2_endOfQuarrel_26 : decode cX2_endOfQuarrel 26 = .ok (.iload_n 3, 1) := by decide +kernel
theorem dX2_endOfQuarrel_27 : decode cX2_endOfQuarrel 27 = .ok (.iconst 2, 1) := by decide +kernel
theorem dX2_endOfQuarrel_28 : decode cX2_endOfQuarrel 28 = .ok (.invokevirtual 104, 3) := by decide +kernel
theorem dX2_endOfQuarrel_31 : decode cX2_endOfQuarrel 31 = .ok (.aload_n 0, 1) := by decide +kernel
theorem dX2_endOfQuarrel_32 : decode cX2_endOfQuarrel 32 = .ok (.getfield 16, 3) := by decide +kernel
theorem dX2_endOfQuarrel_35 : decode cX2_endOfQuarrel 35 = .ok (.iload_n 3, 1) := by decide +kernel
theorem dX2_endOfQuarrel_36 : decode cX2_endOfQuarrel 36 = .ok (.invokevirtual 134, 3) := by decide +kernel
theorem dX2_endOfQuarrel_39 : decode cX2_endOfQuarrel 39 = .ok (.ireturn, 1) := by decide +kernel
set_option maxRecDepth 20000 in
theorem ggX2_fewestAgainstMost_X1_livingYes : GoodIn wsX2_fewestAgainstMost wsX1_livingYes := goodIn_r _ [9, 10, 11, 32, 33, 34, 35, 36, 37, 38, 39] (by decide +kernel) (by decide +kernel)
set_option maxRecDepth 20000 in
theorem gX2_fewestAgainstMost_X1_livingYes_n157 : GoodIn wsX2_fewestAgainstMost (wsX1_livingYes) := ggX2_fewestAgainstMost_X1_livingYes
set_option maxRecDepth 20000 in
theorem ggX2_fewestAgainstMost_J6_bitCount_0f7a4 : GoodIn wsX2_fewestAgainstMost wsJ6_bitCount_0f7a4 := goodIn_r _ [15, 16, 17, 18] (by decide +kernel) (by decide +kernel)
set_option maxRecDepth 20000 in
theorem gX2_fewestAgainstMost_J6_bitCount_0f7a4 : GoodIn wsX2_fewestAgainstMost (va_wsS RX2 169 yJ6_bitCount_0f7a4 wsJ6_bitCount_0f7a4) := goodIn_app (goodIn_of _ (by decide +kernel)) ggX2_fewestAgainstMost_J6_bitCount_0f7a4
set_option maxRecDepth 20000 in
theorem ggX2_fewestAgainstMost_X1_livingNo : GoodIn wsX2_fewestAgainstMost wsX1_livingNo := goodIn_r _ [21, 22, 11, 32, 33, 34, 35, 36, 37, 38, 39] (by decide +kernel) (by decide +kernel)
set_option maxRecDepth 20000 in
theorem gX2_fewestAgainstMost_X1_livingNo_n160 : GoodIn wsX2_fewestAgainstMost (wsX1_livingNo) := ggX2_fewestAgainstMost_X1_livingNo
theorem dX2_fewestAgainstMost_0 : decode cX2_fewestAgainstMost 0 = .ok (.iconst 0, 1) := by decide +kernel
theorem dX2_fewestAgainstMost_1 : decode cX2_fewestAgainstMost 1 = .ok (.istore_n 1, 1) := by decide +kernel
theorem dX2_fewestAgainstMost_2 : decode cX2_fewestAgainstMost 2 = .ok (.iconst 0, 1) := by decide +kernel
theorem dX2_fewestAgainstMost_3 : decode cX2_fewestAgainstMost 3 = .ok (.istore_n 2, 1) := by decide +kernel
theorem dX2_fewestAgainstMost_4 : decode cX2_fewestAgainstMost 4 = .ok (.iload_n 2, 1) := by decide +kernel
theorem dX2_fewestAgainstMost_5 : decode cX2_fewestAgainstMost 5 = .ok (.bipush 8, 2) := by decide +kernel
theorem dX2_fewestAgainstMost_7 : decode cX2_fewestAgainstMost 7 = .ok (.if_icmp .ge 37, 3) := by decide +kernel
theorem dX2_fewestAgainstMost_10 : decode cX2_fewestAgainstMost 10 = .ok (.iload_n 1, 1) := by decide +kernel
theorem dX2_fewestAgainstMost_11 : decode cX2_fewestAgainstMost 11 = .ok (.aload_n 0, 1) := by decide +kernel
theorem dX2_fewestAgainstMost_12 : decode cX2_fewestAgainstMost 12 = .ok (.getfield 10, 3) := by decide +kernel
theorem dX2_fewestAgainstMost_15 : decode cX2_fewestAgainstMost 15 = .ok (.iload_n 2, 1) := by decide +kernel
theorem dX2_fewestAgainstMost_16 : decode cX2_fewestAgainstMost 16 = .ok (.invokevirtual 157, 3) := by decide +kernel
theorem dX2_fewestAgainstMost_19 : decode cX2_fewestAgainstMost 19 = .ok (.invokestatic 169, 3) := by decide +kernel
theorem dX2_fewestAgainstMost_22 : decode cX2_fewestAgainstMost 22 = .ok (.aload_n 0, 1) := by decide +kernel
theorem dX2_fewestAgainstMost_23 : decode cX2_fewestAgainstMost 23 = .ok (.getfield 10, 3) := by decide +kernel
theorem dX2_fewestAgainstMost_26 : decode cX2_fewestAgainstMost 26 = .ok (.iload_n 2, 1) := by decide +kernel
theorem dX2_fewestAgainstMost_27 : decode cX2_fewestAgainstMost 27 = .ok (.invokevirtual 160, 3) := by decide +kernel
theorem dX2_fewestAgainstMost_30 : decode cX2_fewestAgainstMost 30 = .ok (.invokestatic 169, 3) := by decide +kernel
theorem dX2_fewestAgainstMost_33 : decode cX2_fewestAgainstMost 33 = .ok (.invokestatic 217, 3) := by decide +kernel
theorem dX2_fewestAgainstMost_36 : decode cX2_fewestAgainstMost 36 = .ok (.iadd, 1) := by decide +kernel
theorem dX2_fewestAgainstMost_37 : decode cX2_fewestAgainstMost 37 = .ok (.istore_n 1, 1) := by decide +kernel
theorem dX2_fewestAgainstMost_38 : decode cX2_fewestAgainstMost 38 = .ok (.iinc 2 1, 3) := by decide +kernel
theorem dX2_fewestAgainstMost_41 : decode cX2_fewestAgainstMost 41 = .ok (.goto (-37), 3) := by decide +kernel
theorem dX2_fewestAgainstMost_44 : decode cX2_fewestAgainstMost 44 = .ok (.iload_n 1, 1) := by decide +kernel
theorem dX2_fewestAgainstMost_45 : decode cX2_fewestAgainstMost 45 = .ok (.ireturn, 1) := by decide +kernel
set_option maxRecDepth 20000 in
theorem ggX2_isEmptyWithout_X1_livingYes : GoodIn wsX2_isEmptyWithout wsX1_livingYes := goodIn_r _ [5, 6, 7, 21, 22, 23, 24, 25, 26, 27, 28] (by decide +kernel) (by decide +kernel)
set_option maxRecDepth 20000 in
theorem gX2_isEmptyWithout_X1_livingYes_n157 : GoodIn wsX2_isEmptyWithout (wsX1_livingYes) := ggX2_isEmptyWithout_X1_livingYes
set_option maxRecDepth 20000 in
theorem ggX2_isEmptyWithout_X1_livingNo : GoodIn wsX2_isEmptyWithout wsX1_livingNo := goodIn_r _ [10, 11, 7, 21, 22, 23, 24, 25, 26, 27, 28] (by decide +kernel) (by decide +kernel)
set_option maxRecDepth 20000 in
theorem gX2_isEmptyWithout_X1_livingNo_n160 : GoodIn wsX2_isEmptyWithout (wsX1_livingNo) := ggX2_isEmptyWithout_X1_livingNo
theorem dX2_isEmptyWithout_0 : decode cX2_isEmptyWithout 0 = .ok (.iconst 0, 1) := by decide +kernel
theorem dX2_isEmptyWithout_1 : decode cX2_isEmptyWithout 1 = .ok (.istore_n 2, 1) := by decide +kernel
theorem dX2_isEmptyWithout_2 : decode cX2_isEmptyWithout 2 = .ok (.iload_n 2, 1) := by decide +kernel
theorem dX2_isEmptyWithout_3 : decode cX2_isEmptyWithout 3 = .ok (.bipush 8, 2) := by decide +kernel
theorem dX2_isEmptyWithout_5 : decode cX2_isEmptyWithout 5 = .ok (.if_icmp .ge 41, 3) := by decide +kernel
theorem dX2_isEmptyWithout_8 : decode cX2_isEmptyWithout 8 = .ok (.aload_n 0, 1) := by decide +kernel
theorem dX2_isEmptyWithout_9 : decode cX2_isEmptyWithout 9 = .ok (.getfield 10, 3) := by decide +kernel
theorem dX2_isEmptyWithout_12 : decode cX2_isEmptyWithout 12 = .ok (.iload_n 2, 1) := by decide +kernel
theorem dX2_isEmptyWithout_13 : decode cX2_isEmptyWithout 13 = .ok (.invokevirtual 157, 3) := by decide +kernel
theorem dX2_isEmptyWithout_16 : decode cX2_isEmptyWithout 16 = .ok (.iload_n 1, 1) := by decide +kernel
theorem dX2_isEmptyWithout_17 : decode cX2_isEmptyWithout 17 = .ok (.iconst (-1), 1) := by decide +kernel
theorem dX2_isEmptyWithout_18 : decode cX2_isEmptyWithout 18 = .ok (.ixor, 1) := by decide +kernel
theorem dX2_isEmptyWithout_19 : decode cX2_isEmptyWithout 19 = .ok (.iand, 1) := by decide +kernel
theorem dX2_isEmptyWithout_20 : decode cX2_isEmptyWithout 20 = .ok (.ifCond .eq 20, 3) := by decide +kernel
theorem dX2_isEmptyWithout_23 : decode cX2_isEmptyWithout 23 = .ok (.aload_n 0, 1) := by decide +kernel
theorem dX2_isEmptyWithout_24 : decode cX2_isEmptyWithout 24 = .ok (.getfield 10, 3) := by decide +kernel
theorem dX2_isEmptyWithout_27 : decode cX2_isEmptyWithout 27 = .ok (.iload_n 2, 1) := by decide +kernel
theorem dX2_isEmptyWithout_28 : decode cX2_isEmptyWithout 28 = .ok (.invokevirtual 160, 3) := by decide +kernel
theorem dX2_isEmptyWithout_31 : decode cX2_isEmptyWithout 31 = .ok (.iload_n 1, 1) := by decide +kernel
theorem dX2_isEmptyWithout_32 : decode cX2_isEmptyWithout 32 = .ok (.iconst (-1), 1) := by decide +kernel
theorem dX2_isEmptyWithout_33 : decode cX2_isEmptyWithout 33 = .ok (.ixor, 1) := by decide +kernel
theorem dX2_isEmptyWithout_34 : decode cX2_isEmptyWithout 34 = .ok (.iand, 1) := by decide +kernel
theorem dX2_isEmptyWithout_35 : decode cX2_isEmptyWithout 35 = .ok (.ifCond .eq 5, 3) := by decide +kernel
theorem dX2_isEmptyWithout_38 : decode cX2_isEmptyWithout 38 = .ok (.iconst 0, 1) := by decide +kernel
theorem dX2_isEmptyWithout_39 : decode cX2_isEmptyWithout 39 = .ok (.ireturn, 1) := by decide +kernel
theorem dX2_isEmptyWithout_40 : decode cX2_isEmptyWithout 40 = .ok (.iinc 2 1, 3) := by decide +kernel
theorem dX2_isEmptyWithout_43 : decode cX2_isEmptyWithout 43 = .ok (.goto (-41), 3) := by decide +kernel
theorem dX2_isEmptyWithout_46 : decode cX2_isEmptyWithout 46 = .ok (.iconst 1, 1) := by decide +kernel
theorem dX2_isEmptyWithout_47 : decode cX2_isEmptyWithout 47 = .ok (.ireturn, 1) := by decide +kernel
set_option maxRecDepth 20000 in
theorem ggX2_mostPairs_J6_numberOfTrailingZeros_0f7a4 : GoodIn wsX2_mostPairs wsJ6_numberOfTrailingZeros_0f7a4 := goodIn_r _ [10, 11] (by decide +kernel) (by decide +kernel)
set_option maxRecDepth 20000 in
theorem gX2_mostPairs_J6_numberOfTrailingZeros_0f7a4 : GoodIn wsX2_mostPairs (va_wsS RX2 137 yJ6_numberOfTrailingZeros_0f7a4 wsJ6_numberOfTrailingZeros_0f7a4) := goodIn_app (goodIn_of _ (by decide +kernel)) ggX2_mostPairs_J6_numberOfTrailingZeros_0f7a4
set_option maxRecDepth 20000 in
theorem ggX2_mostPairs_X1_denials : GoodIn wsX2_mostPairs wsX1_denials := goodIn_r _ [15, 16, 17, 18, 13, 19, 20, 21, 31, 32, 33, 34, 35, 36, 37, 38] (by decide +kernel) (by decide +kernel)
set_option maxRecDepth 20000 in
theorem gX2_mostPairs_X1_denials_n178 : GoodIn wsX2_mostPairs (wsX1_denials) := ggX2_mostPairs_X1_denials
theorem dX2_mostPairs_0 : decode cX2_mostPairs 0 = .ok (.aload_n 0, 1) := by decide +kernel
theorem dX2_mostPairs_1 : decode cX2_mostPairs 1 = .ok (.getfield 44, 3) := by decide +kernel
theorem dX2_mostPairs_4 : decode cX2_mostPairs 4 = .ok (.iconst 0, 1) := by decide +kernel
theorem dX2_mostPairs_5 : decode cX2_mostPairs 5 = .ok (.iconst 0, 1) := by decide +kernel
theorem dX2_mostPairs_6 : decode cX2_mostPairs 6 = .ok (.iastore, 1) := by decide +kernel
theorem dX2_mostPairs_7 : decode cX2_mostPairs 7 = .ok (.iconst 1, 1) := by decide +kernel
theorem dX2_mostPairs_8 : decode cX2_mostPairs 8 = .ok (.istore_n 1, 1) := by decide +kernel
theorem dX2_mostPairs_9 : decode cX2_mostPairs 9 = .ok (.iload_n 1, 1) := by decide +kernel
theorem dX2_mostPairs_10 : decode cX2_mostPairs 10 = .ok (.aload_n 0, 1) := by decide +kernel
theorem dX2_mostPairs_11 : decode cX2_mostPairs 11 = .ok (.getfield 44, 3) := by decide +kernel
theorem dX2_mostPairs_14 : decode cX2_mostPairs 14 = .ok (.arraylength, 1) := by decide +kernel
theorem dX2_mostPairs_15 : decode cX2_mostPairs 15 = .ok (.if_icmp .ge 101, 3) := by decide +kernel
theorem dX2_mostPairs_18 : decode cX2_mostPairs 18 = .ok (.iload_n 1, 1) := by decide +kernel
theorem dX2_mostPairs_19 : decode cX2_mostPairs 19 = .ok (.invokestatic 137, 3) := by decide +kernel
theorem dX2_mostPairs_22 : decode cX2_mostPairs 22 = .ok (.istore_n 2, 1) := by decide +kernel
theorem dX2_mostPairs_23 : decode cX2_mostPairs 23 = .ok (.iload_n 1, 1) := by decide +kernel
theorem dX2_mostPairs_24 : decode cX2_mostPairs 24 = .ok (.iload_n 1, 1) := by decide +kernel
theorem dX2_mostPairs_25 : decode cX2_mostPairs 25 = .ok (.iconst 1, 1) := by decide +kernel
theorem dX2_mostPairs_26 : decode cX2_mostPairs 26 = .ok (.isub, 1) := by decide +kernel
theorem dX2_mostPairs_27 : decode cX2_mostPairs 27 = .ok (.iand, 1) := by decide +kernel
theorem dX2_mostPairs_28 : decode cX2_mostPairs 28 = .ok (.istore_n 3, 1) := by decide +kernel
theorem dX2_mostPairs_29 : decode cX2_mostPairs 29 = .ok (.aload_n 0, 1) := by decide +kernel
theorem dX2_mostPairs_30 : decode cX2_mostPairs 30 = .ok (.getfield 44, 3) := by decide +kernel
theorem dX2_mostPairs_33 : decode cX2_mostPairs 33 = .ok (.iload_n 3, 1) := by decide +kernel
theorem dX2_mostPairs_34 : decode cX2_mostPairs 34 = .ok (.iaload, 1) := by decide +kernel
theorem dX2_mostPairs_35 : decode cX2_mostPairs 35 = .ok (.istore 4, 2) := by decide +kernel
theorem dX2_mostPairs_37 : decode cX2_mostPairs 37 = .ok (.iload_n 2, 1) := by decide +kernel
theorem dX2_mostPairs_38 : decode cX2_mostPairs 38 = .ok (.iconst 1, 1) := by decide +kernel
theorem dX2_mostPairs_39 : decode cX2_mostPairs 39 = .ok (.iadd, 1) := by decide +kernel
theorem dX2_mostPairs_40 : decode cX2_mostPairs 40 = .ok (.istore 5, 2) := by decide +kernel
theorem dX2_mostPairs_42 : decode cX2_mostPairs 42 = .ok (.iload 5, 2) := by decide +kernel
theorem dX2_mostPairs_44 : decode cX2_mostPairs 44 = .ok (.bipush 6, 2) := by decide +kernel
theorem dX2_mostPairs_46 : decode cX2_mostPairs 46 = .ok (.if_icmp .ge 56, 3) := by decide +kernel
theorem dX2_mostPairs_49 : decode cX2_mostPairs 49 = .ok (.iload_n 3, 1) := by decide +kernel
theorem dX2_mostPairs_50 : decode cX2_mostPairs 50 = .ok (.iload 5, 2) := by decide +kernel
theorem dX2_mostPairs_52 : decode cX2_mostPairs 52 = .ok (.ishr, 1) := by decide +kernel
theorem dX2_mostPairs_53 : decode cX2_mostPairs 53 = .ok (.iconst 1, 1) := by decide +kernel
theorem dX2_mostPairs_54 : decode cX2_mostPairs 54 = .ok (.iand, 1) := by decide +kernel
theorem dX2_mostPairs_55 : decode cX2_mostPairs 55 = .ok (.ifCond .eq 41, 3) := by decide +kernel
theorem dX2_mostPairs_58 : decode cX2_mostPairs 58 = .ok (.aload_n 0, 1) := by decide +kernel
theorem dX2_mostPairs_59 : decode cX2_mostPairs 59 = .ok (.getfield 10, 3) := by decide +kernel
theorem dX2_mostPairs_62 : decode cX2_mostPairs 62 = .ok (.iload_n 2, 1) := by decide +kernel
theorem dX2_mostPairs_63 : decode cX2_mostPairs 63 = .ok (.iload 5, 2) := by decide +kernel
theorem dX2_mostPairs_65 : decode cX2_mostPairs 65 = .ok (.invokevirtual 178, 3) := by decide +kernel
theorem dX2_mostPairs_68 : decode cX2_mostPairs 68 = .ok (.ifCond .ne 6, 3) := by decide +kernel
theorem dX2_mostPairs_71 : decode cX2_mostPairs 71 = .ok (.goto 25, 3) := by decide +kernel
theorem dX2_mostPairs_74 : decode cX2_mostPairs 74 = .ok (.iload 4, 2) := by decide +kernel
theorem dX2_mostPairs_76 : decode cX2_mostPairs 76 = .ok (.iconst 1, 1) := by decide +kernel
theorem dX2_mostPairs_77 : decode cX2_mostPairs 77 = .ok (.aload_n 0, 1) := by decide +kernel
theorem dX2_mostPairs_78 : decode cX2_mostPairs 78 = .ok (.getfield 44, 3) := by decide +kernel
theorem dX2_mostPairs_81 : decode cX2_mostPairs 81 = .ok (.iload_n 3, 1) := by decide +kernel
theorem dX2_mostPairs_82 : decode cX2_mostPairs 82 = .ok (.iconst 1, 1) := by decide +kernel
theorem dX2_mostPairs_83 : decode cX2_mostPairs 83 = .ok (.iload 5, 2) := by decide +kernel
theorem dX2_mostPairs_85 : decode cX2_mostPairs 85 = .ok (.ishl, 1) := by decide +kernel
theorem dX2_mostPairs_86 : decode cX2_mostPairs 86 = .ok (.iconst (-1), 1) := by decide +kernel
theorem dX2_mostPairs_87 : decode cX2_mostPairs 87 = .ok (.ixor, 1) := by decide +kernel
theorem dX2_mostPairs_88 : decode cX2_mostPairs 88 = .ok (.iand, 1) := by decide +kernel
theorem dX2_mostPairs_89 : decode cX2_mostPairs 89 = .ok (.iaload, 1) := by decide +kernel
theorem dX2_mostPairs_90 : decode cX2_mostPairs 90 = .ok (.iadd, 1) := by decide +kernel
theorem dX2_mostPairs_91 : decode cX2_mostPairs 91 = .ok (.invokestatic 222, 3) := by decide +kernel
theorem dX2_mostPairs_94 : decode cX2_mostPairs 94 = .ok (.istore 4, 2) := by decide +kernel
theorem dX2_mostPairs_96 : decode cX2_mostPairs 96 = .ok (.iinc 5 1, 3) := by decide +kernel
theorem dX2_mostPairs_99 : decode cX2_mostPairs 99 = .ok (.goto (-57), 3) := by decide +kernel
theorem dX2_mostPairs_102 : decode cX2_mostPairs 102 = .ok (.aload_n 0, 1) := by decide +kernel
theorem dX2_mostPairs_103 : decode cX2_mostPairs 103 = .ok (.getfield 44, 3) := by decide +kernel
theorem dX2_mostPairs_106 : decode cX2_mostPairs 106 = .ok (.iload_n 1, 1) := by decide +kernel
theorem dX2_mostPairs_107 : decode cX2_mostPairs 107 = .ok (.iload 4, 2) := by decide +kernel
theorem dX2_mostPairs_109 : decode cX2_mostPairs 109 = .ok (.iastore, 1) := by decide +kernel
theorem dX2_mostPairs_110 : decode cX2_mostPairs 110 = .ok (.iinc 1 1, 3) := by decide +kernel
theorem dX2_mostPairs_113 : decode cX2_mostPairs 113 = .ok (.goto (-104), 3) := by decide +kernel
theorem dX2_mostPairs_116 : decode cX2_mostPairs 116 = .ok (.aload_n 0, 1) := by decide +kernel
theorem dX2_mostPairs_117 : decode cX2_mostPairs 117 = .ok (.getfield 44, 3) := by decide +kernel
theorem dX2_mostPairs_120 : decode cX2_mostPairs 120 = .ok (.aload_n 0, 1) := by decide +kernel
theorem dX2_mostPairs_121 : decode cX2_mostPairs 121 = .ok (.getfield 10, 3) := by decide +kernel
theorem dX2_mostPairs_124 : decode cX2_mostPairs 124 = .ok (.getfield 131, 3) := by decide +kernel
theorem dX2_mostPairs_127 : decode cX2_mostPairs 127 = .ok (.iaload, 1) := by decide +kernel
theorem dX2_mostPairs_128 : decode cX2_mostPairs 128 = .ok (.ireturn, 1) := by decide +kernel
set_option maxRecDepth 20000 in
theorem ggX2_imagineTwo_X1_become : GoodIn wsX2_imagineTwo wsX1_become := goodIn_r _ [6, 7, 8, 9, 10, 11, 12, 13, 14, 15, 16, 17, 18, 94, 95, 96, 97, 98, 99, 100, 101] (by decide +kernel) (by decide +kernel)
set_option maxRecDepth 20000 in
theorem gX2_imagineTwo_X1_become_n61 : GoodIn wsX2_imagineTwo (wsX1_become) := ggX2_imagineTwo_X1_become
set_option maxRecDepth 20000 in
theorem ggX2_imagineTwo_X1_put : GoodIn wsX2_imagineTwo wsX1_put := goodIn_r _ [21, 14, 15, 94, 95, 96, 97, 98, 99, 100, 101] (by decide +kernel) (by decide +kernel)
set_option maxRecDepth 20000 in
theorem gX2_imagineTwo_X1_put_n104 : GoodIn wsX2_imagineTwo (wsX1_put) := ggX2_imagineTwo_X1_put
set_option maxRecDepth 20000 in
theorem ggX2_imagineTwo_X1_pass : GoodIn wsX2_imagineTwo wsX1_pass := goodIn_r _ [24, 25, 26, 27, 4, 28, 17, 18, 16, 29, 30, 31, 32, 13, 33, 34, 35, 36, 37, 38, 39, 40, 41, 42, 43, 44, 45, 46, 47, 48, 7, 12, 49, 50, 51, 52, 53, 54, 55, 56, 57, 58, 59, 60, 14, 15, 61, 62, 63, 64, 65, 66, 67, 68, 69, 70, 71, 72, 73, 74, 75, 76, 77, 78, 79, 80, 81, 82, 83, 84, 19, 20, 21, 94, 95, 96, 97, 98, 99, 100, 101] (by decide +kernel) (by decide +kernel)
set_option maxRecDepth 20000 in
theorem gX2_imagineTwo_X1_pass_n120 : GoodIn wsX2_imagineTwo (wsX1_pass) := ggX2_imagineTwo_X1_pass
theorem dX2_imagineTwo_0 : decode cX2_imagineTwo 0 = .ok (.aload_n 0, 1) := by decide +kernel
theorem dX2_imagineTwo_1 : decode cX2_imagineTwo 1 = .ok (.getfield 16, 3) := by decide +kernel
theorem dX2_imagineTwo_4 : decode cX2_imagineTwo 4 = .ok (.aload_n 0, 1) := by decide +kernel
theorem dX2_imagineTwo_5 : decode cX2_imagineTwo 5 = .ok (.getfield 10, 3) := by decide +kernel
theorem dX2_imagineTwo_8 : decode cX2_imagineTwo 8 = .ok (.invokevirtual 61, 3) := by decide +kernel
theorem dX2_imagineTwo_11 : decode cX2_imagineTwo 11 = .ok (.iload_n 2, 1) := by decide +kernel
theorem dX2_imagineTwo_12 : decode cX2_imagineTwo 12 = .ok (.iconst 1, 1) := by decide +kernel
theorem dX2_imagineTwo_13 : decode cX2_imagineTwo 13 = .ok (.if_icmp .ne 14, 3) := by decide +kernel
theorem dX2_imagineTwo_16 : decode cX2_imagineTwo 16 = .ok (.aload_n 0, 1) := by decide +kernel
theorem dX2_imagineTwo_17 : decode cX2_imagineTwo 17 = .ok (.getfield 16, 3) := by decide +kernel
theorem dX2_imagineTwo_20 : decode cX2_imagineTwo 20 = .ok (.iload_n 1, 1) := by decide +kernel
theorem dX2_imagineTwo_21 : decode cX2_imagineTwo 21 = .ok (.iload 5, 2) := by decide +kernel
theorem dX2_imagineTwo_23 : decode cX2_imagineTwo 23 = .ok (.iconst 0, 1) := by decide +kernel
theorem dX2_imagineTwo_24 : decode cX2_imagineTwo 24 = .ok (.invokevirtual 104, 3) := by decide +kernel
theorem dX2_imagineTwo_27 : decode cX2_imagineTwo 27 = .ok (.iload 4, 2) := by decide +kernel
theorem dX2_imagineTwo_29 : decode cX2_imagineTwo 29 = .ok (.iconst 1, 1) := by decide +kernel
theorem dX2_imagineTwo_30 : decode cX2_imagineTwo 30 = .ok (.if_icmp .ne 14, 3) := by decide +kernel
theorem dX2_imagineTwo_33 : decode cX2_imagineTwo 33 = .ok (.aload_n 0, 1) := by decide +kernel
theorem dX2_imagineTwo_34 : decode cX2_imagineTwo 34 = .ok (.getfield 16, 3) := by decide +kernel
theorem dX2_imagineTwo_37 : decode cX2_imagineTwo 37 = .ok (.iload_n 3, 1) := by decide +kernel
theorem dX2_imagineTwo_38 : decode cX2_imagineTwo 38 = .ok (.iload 5, 2) := by decide +kernel
theorem dX2_imagineTwo_40 : decode cX2_imagineTwo 40 = .ok (.iconst 0, 1) := by decide +kernel
theorem dX2_imagineTwo_41 : decode cX2_imagineTwo 41 = .ok (.invokevirtual 104, 3) := by decide +kernel
theorem dX2_imagineTwo_44 : decode cX2_imagineTwo 44 = .ok (.aload_n 0, 1) := by decide +kernel
theorem dX2_imagineTwo_45 : decode cX2_imagineTwo 45 = .ok (.getfield 16, 3) := by decide +kernel
theorem dX2_imagineTwo_48 : decode cX2_imagineTwo 48 = .ok (.iload 6, 2) := by decide +kernel
theorem dX2_imagineTwo_50 : decode cX2_imagineTwo 50 = .ok (.invokevirtual 120, 3) := by decide +kernel
theorem dX2_imagineTwo_53 : decode cX2_imagineTwo 53 = .ok (.return_, 1) := by decide +kernel
set_option maxRecDepth 20000 in
theorem ggX2_weightIfWritten_X1_become : GoodIn wsX2_weightIfWritten wsX1_become := goodIn_r _ [6, 7, 8, 9, 10, 11, 12, 13, 14, 15, 16, 17, 18, 97, 98, 99, 100, 101, 102, 103, 104] (by decide +kernel) (by decide +kernel)
set_option maxRecDepth 20000 in
theorem gX2_weightIfWritten_X1_become_n61 : GoodIn wsX2_weightIfWritten (wsX1_become) := ggX2_weightIfWritten_X1_become
set_option maxRecDepth 20000 in
theorem ggX2_weightIfWritten_X1_growOlder : GoodIn wsX2_weightIfWritten wsX1_growOlder := goodIn_r _ [21, 16, 13, 22, 23, 24, 25, 26, 27, 28, 4, 29, 17, 97, 98, 99, 100, 101, 102, 103, 104] (by decide +kernel) (by decide +kernel)
set_option maxRecDepth 20000 in
theorem gX2_weightIfWritten_X1_growOlder_n225 : GoodIn wsX2_weightIfWritten (wsX1_growOlder) := ggX2_weightIfWritten_X1_growOlder
set_option maxRecDepth 20000 in
theorem ggX2_weightIfWritten_X1_passFor : GoodIn wsX2_weightIfWritten wsX1_passFor := goodIn_r _ [32, 33, 34, 35, 4, 36, 17, 18, 16, 37, 19, 20, 21, 13, 22, 23, 24, 25, 26, 27, 28, 29, 38, 39, 40, 41, 42, 43, 44, 45, 7, 12, 46, 47, 48, 49, 50, 51, 52, 53, 54, 55, 56, 57, 14, 15, 58, 59, 60, 61, 62, 63, 64, 65, 66, 67, 68, 69, 70, 71, 72, 73, 74, 75, 76, 77, 78, 79, 80, 81, 82, 83, 84, 97, 98, 99, 100, 101, 102, 103, 104] (by decide +kernel) (by decide +kernel)
set_option maxRecDepth 20000 in
theorem gX2_weightIfWritten_X1_passFor_n124 : GoodIn wsX2_weightIfWritten (wsX1_passFor) := ggX2_weightIfWritten_X1_passFor
set_option maxRecDepth 20000 in
theorem ggX2_weightIfWritten_X1_isWritten : GoodIn wsX2_weightIfWritten wsX1_isWritten := goodIn_r _ [87, 58, 59, 60, 4, 61, 14, 17, 69, 70, 71, 72, 15, 97, 98, 99, 100, 101, 102, 103, 104] (by decide +kernel) (by decide +kernel)
set_option maxRecDepth 20000 in
theorem gX2_weightIfWritten_X1_isWritten_n163 : GoodIn wsX2_weightIfWritten (wsX1_isWritten) := ggX2_weightIfWritten_X1_isWritten
theorem dX2_weightIfWritten_0 : decode cX2_weightIfWritten 0 = .ok (.lconst 1, 1) := by decide +kernel
theorem dX2_weightIfWritten_1 : decode cX2_weightIfWritten 1 = .ok (.lstore 5, 2) := by decide +kernel
theorem dX2_weightIfWritten_3 : decode cX2_weightIfWritten 3 = .ok (.aload_n 0, 1) := by decide +kernel
theorem dX2_weightIfWritten_4 : decode cX2_weightIfWritten 4 = .ok (.getfield 16, 3) := by decide +kernel
theorem dX2_weightIfWritten_7 : decode cX2_weightIfWritten 7 = .ok (.aload_n 0, 1) := by decide +kernel
theorem dX2_weightIfWritten_8 : decode cX2_weightIfWritten 8 = .ok (.getfield 10, 3) := by decide +kernel
theorem dX2_weightIfWritten_11 : decode cX2_weightIfWritten 11 = .ok (.invokevirtual 61, 3) := by decide +kernel
theorem dX2_weightIfWritten_14 : decode cX2_weightIfWritten 14 = .ok (.iconst 0, 1) := by decide +kernel
theorem dX2_weightIfWritten_15 : decode cX2_weightIfWritten 15 = .ok (.istore 7, 2) := by decide +kernel
theorem dX2_weightIfWritten_17 : decode cX2_weightIfWritten 17 = .ok (.iload 7, 2) := by decide +kernel
theorem dX2_weightIfWritten_19 : decode cX2_weightIfWritten 19 = .ok (.iload_n 2, 1) := by decide +kernel
theorem dX2_weightIfWritten_20 : decode cX2_weightIfWritten 20 = .ok (.if_icmp .ge 49, 3) := by decide +kernel
theorem dX2_weightIfWritten_23 : decode cX2_weightIfWritten 23 = .ok (.iload 4, 2) := by decide +kernel
theorem dX2_weightIfWritten_25 : decode cX2_weightIfWritten 25 = .ok (.iload 7, 2) := by decide +kernel
theorem dX2_weightIfWritten_27 : decode cX2_weightIfWritten 27 = .ok (.ishr, 1) := by decide +kernel
theorem dX2_weightIfWritten_28 : decode cX2_weightIfWritten 28 = .ok (.iconst 1, 1) := by decide +kernel
theorem dX2_weightIfWritten_29 : decode cX2_weightIfWritten 29 = .ok (.iand, 1) := by decide +kernel
theorem dX2_weightIfWritten_30 : decode cX2_weightIfWritten 30 = .ok (.iconst 1, 1) := by decide +kernel
theorem dX2_weightIfWritten_31 : decode cX2_weightIfWritten 31 = .ok (.if_icmp .ne 14, 3) := by decide +kernel
theorem dX2_weightIfWritten_34 : decode cX2_weightIfWritten 34 = .ok (.aload_n 0, 1) := by decide +kernel
theorem dX2_weightIfWritten_35 : decode cX2_weightIfWritten 35 = .ok (.getfield 16, 3) := by decide +kernel
theorem dX2_weightIfWritten_38 : decode cX2_weightIfWritten 38 = .ok (.iconst 5, 1) := by decide +kernel
theorem dX2_weightIfWritten_39 : decode cX2_weightIfWritten 39 = .ok (.invokevirtual 225, 3) := by decide +kernel
theorem dX2_weightIfWritten_42 : decode cX2_weightIfWritten 42 = .ok (.goto 12, 3) := by decide +kernel
theorem dX2_weightIfWritten_45 : decode cX2_weightIfWritten 45 = .ok (.lload 5, 2) := by decide +kernel
theorem dX2_weightIfWritten_47 : decode cX2_weightIfWritten 47 = .ok (.iload_n 3, 1) := by decide +kernel
theorem dX2_weightIfWritten_48 : decode cX2_weightIfWritten 48 = .ok (.iconst 1, 1) := by decide +kernel
theorem dX2_weightIfWritten_49 : decode cX2_weightIfWritten 49 = .ok (.isub, 1) := by decide +kernel
theorem dX2_weightIfWritten_50 : decode cX2_weightIfWritten 50 = .ok (.i2l, 1) := by decide +kernel
theorem dX2_weightIfWritten_51 : decode cX2_weightIfWritten 51 = .ok (.lmul, 1) := by decide +kernel
theorem dX2_weightIfWritten_52 : decode cX2_weightIfWritten 52 = .ok (.lstore 5, 2) := by decide +kernel
theorem dX2_weightIfWritten_54 : decode cX2_weightIfWritten 54 = .ok (.aload_n 0, 1) := by decide +kernel
theorem dX2_weightIfWritten_55 : decode cX2_weightIfWritten 55 = .ok (.getfield 16, 3) := by decide +kernel
theorem dX2_weightIfWritten_58 : decode cX2_weightIfWritten 58 = .ok (.iload_n 1, 1) := by decide +kernel
theorem dX2_weightIfWritten_59 : decode cX2_weightIfWritten 59 = .ok (.iconst 1, 1) := by decide +kernel
theorem dX2_weightIfWritten_60 : decode cX2_weightIfWritten 60 = .ok (.invokevirtual 124, 3) := by decide +kernel
theorem dX2_weightIfWritten_63 : decode cX2_weightIfWritten 63 = .ok (.iinc 7 1, 3) := by decide +kernel
theorem dX2_weightIfWritten_66 : decode cX2_weightIfWritten 66 = .ok (.goto (-49), 3) := by decide +kernel
theorem dX2_weightIfWritten_69 : decode cX2_weightIfWritten 69 = .ok (.aload_n 0, 1) := by decide +kernel
theorem dX2_weightIfWritten_70 : decode cX2_weightIfWritten 70 = .ok (.getfield 16, 3) := by decide +kernel
theorem dX2_weightIfWritten_73 : decode cX2_weightIfWritten 73 = .ok (.iload_n 1, 1) := by decide +kernel
theorem dX2_weightIfWritten_74 : decode cX2_weightIfWritten 74 = .ok (.invokevirtual 163, 3) := by decide +kernel
theorem dX2_weightIfWritten_77 : decode cX2_weightIfWritten 77 = .ok (.ifCond .eq 8, 3) := by decide +kernel
theorem dX2_weightIfWritten_80 : decode cX2_weightIfWritten 80 = .ok (.lload 5, 2) := by decide +kernel
theorem dX2_weightIfWritten_82 : decode cX2_weightIfWritten 82 = .ok (.goto 4, 3) := by decide +kernel
theorem dX2_weightIfWritten_85 : decode cX2_weightIfWritten 85 = .ok (.lconst 0, 1) := by decide +kernel
theorem dX2_weightIfWritten_86 : decode cX2_weightIfWritten 86 = .ok (.lreturn, 1) := by decide +kernel
set_option maxRecDepth 20000 in
theorem ggX2_mindSaysRow_X1_wordOf : GoodIn wsX2_mindSaysRow wsX1_wordOf := goodIn_r _ [7, 8, 9, 88, 89, 90, 91, 92, 93, 94, 95] (by decide +kernel) (by decide +kernel)
set_option maxRecDepth 20000 in
theorem gX2_mindSaysRow_X1_wordOf_n97 : GoodIn wsX2_mindSaysRow (wsX1_wordOf) := ggX2_mindSaysRow_X1_wordOf
set_option maxRecDepth 20000 in
theorem ggX2_mindSaysRow_X1_passFor : GoodIn wsX2_mindSaysRow wsX1_passFor := goodIn_r _ [12, 13, 14, 15, 5, 16, 17, 18, 19, 20, 21, 22, 23, 24, 25, 26, 27, 28, 29, 30, 31, 32, 33, 34, 35, 36, 37, 38, 39, 40, 41, 42, 43, 44, 45, 46, 47, 48, 49, 50, 51, 4, 6, 7, 8, 9, 52, 53, 54, 55, 56, 57, 58, 59, 60, 61, 62, 63, 64, 65, 66, 67, 68, 69, 70, 71, 72, 73, 74, 75, 76, 77, 78, 88, 89, 90, 91, 92, 93, 94, 95] (by decide +kernel) (by decide +kernel)
set_option maxRecDepth 20000 in
theorem gX2_mindSaysRow_X1_passFor_n124 : GoodIn wsX2_mindSaysRow (wsX1_passFor) := ggX2_mindSaysRow_X1_passFor
theorem dX2_mindSaysRow_0 : decode cX2_mindSaysRow 0 = .ok (.iconst 0, 1) := by decide +kernel
theorem dX2_mindSaysRow_1 : decode cX2_mindSaysRow 1 = .ok (.istore_n 3, 1) := by decide +kernel
theorem dX2_mindSaysRow_2 : decode cX2_mindSaysRow 2 = .ok (.iload_n 3, 1) := by decide +kernel
theorem dX2_mindSaysRow_3 : decode cX2_mindSaysRow 3 = .ok (.aload_n 0, 1) := by decide +kernel
theorem dX2_mindSaysRow_4 : decode cX2_mindSaysRow 4 = .ok (.getfield 37, 3) := by decide +kernel
theorem dX2_mindSaysRow_7 : decode cX2_mindSaysRow 7 = .ok (.if_icmp .ge 38, 3) := by decide +kernel
theorem dX2_mindSaysRow_10 : decode cX2_mindSaysRow 10 = .ok (.aload_n 0, 1) := by decide +kernel
theorem dX2_mindSaysRow_11 : decode cX2_mindSaysRow 11 = .ok (.getfield 16, 3) := by decide +kernel
theorem dX2_mindSaysRow_14 : decode cX2_mindSaysRow 14 = .ok (.iload_n 1, 1) := by decide +kernel
theorem dX2_mindSaysRow_15 : decode cX2_mindSaysRow 15 = .ok (.iload_n 2, 1) := by decide +kernel
theorem dX2_mindSaysRow_16 : decode cX2_mindSaysRow 16 = .ok (.invokevirtual 97, 3) := by decide +kernel
theorem dX2_mindSaysRow_19 : decode cX2_mindSaysRow 19 = .ok (.aload_n 0, 1) := by decide +kernel
theorem dX2_mindSaysRow_20 : decode cX2_mindSaysRow 20 = .ok (.getfield 33, 3) := by decide +kernel
theorem dX2_mindSaysRow_23 : decode cX2_mindSaysRow 23 = .ok (.iload_n 3, 1) := by decide +kernel
theorem dX2_mindSaysRow_24 : decode cX2_mindSaysRow 24 = .ok (.iaload, 1) := by decide +kernel
theorem dX2_mindSaysRow_25 : decode cX2_mindSaysRow 25 = .ok (.if_icmp .eq 5, 3) := by decide +kernel
theorem dX2_mindSaysRow_28 : decode cX2_mindSaysRow 28 = .ok (.iconst 0, 1) := by decide +kernel
theorem dX2_mindSaysRow_29 : decode cX2_mindSaysRow 29 = .ok (.ireturn, 1) := by decide +kernel
theorem dX2_mindSaysRow_30 : decode cX2_mindSaysRow 30 = .ok (.aload_n 0, 1) := by decide +kernel
theorem dX2_mindSaysRow_31 : decode cX2_mindSaysRow 31 = .ok (.getfield 16, 3) := by decide +kernel
theorem dX2_mindSaysRow_34 : decode cX2_mindSaysRow 34 = .ok (.iload_n 2, 1) := by decide +kernel
theorem dX2_mindSaysRow_35 : decode cX2_mindSaysRow 35 = .ok (.iconst 1, 1) := by decide +kernel
theorem dX2_mindSaysRow_36 : decode cX2_mindSaysRow 36 = .ok (.invokevirtual 124, 3) := by decide +kernel
theorem dX2_mindSaysRow_39 : decode cX2_mindSaysRow 39 = .ok (.iinc 3 1, 3) := by decide +kernel
theorem dX2_mindSaysRow_42 : decode cX2_mindSaysRow 42 = .ok (.goto (-40), 3) := by decide +kernel
theorem dX2_mindSaysRow_45 : decode cX2_mindSaysRow 45 = .ok (.iconst 1, 1) := by decide +kernel
theorem dX2_mindSaysRow_46 : decode cX2_mindSaysRow 46 = .ok (.ireturn, 1) := by decide +kernel
theorem dX2_leastTerms_0 : decode cX2_leastTerms 0 = .ok (.lload_n 0, 1) := by decide +kernel
theorem dX2_leastTerms_1 : decode cX2_leastTerms 1 = .ok (.lconst 0, 1) := by decide +kernel
theorem dX2_leastTerms_2 : decode cX2_leastTerms 2 = .ok (.lcmp, 1) := by decide +kernel
theorem dX2_leastTerms_3 : decode cX2_leastTerms 3 = .ok (.ifCond .eq 9, 3) := by decide +kernel
theorem dX2_leastTerms_6 : decode cX2_leastTerms 6 = .ok (.lload_n 2, 1) := by decide +kernel
theorem dX2_leastTerms_7 : decode cX2_leastTerms 7 = .ok (.lconst 0, 1) := by decide +kernel
theorem dX2_leastTerms_8 : decode cX2_leastTerms 8 = .ok (.lcmp, 1) := by decide +kernel
theorem dX2_leastTerms_9 : decode cX2_leastTerms 9 = .ok (.ifCond .ne 7, 3) := by decide +kernel
theorem dX2_leastTerms_12 : decode cX2_leastTerms 12 = .ok (.iload 4, 2) := by decide +kernel
theorem dX2_leastTerms_14 : decode cX2_leastTerms 14 = .ok (.i2l, 1) := by decide +kernel
theorem dX2_leastTerms_15 : decode cX2_leastTerms 15 = .ok (.lreturn, 1) := by decide +kernel
theorem dX2_leastTerms_16 : decode cX2_leastTerms 16 = .ok (.lload_n 0, 1) := by decide +kernel
theorem dX2_leastTerms_17 : decode cX2_leastTerms 17 = .ok (.lstore 5, 2) := by decide +kernel
theorem dX2_leastTerms_19 : decode cX2_leastTerms 19 = .ok (.lload_n 2, 1) := by decide +kernel
theorem dX2_leastTerms_20 : decode cX2_leastTerms 20 = .ok (.lstore 7, 2) := by decide +kernel
theorem dX2_leastTerms_22 : decode cX2_leastTerms 22 = .ok (.iconst 0, 1) := by decide +kernel
theorem dX2_leastTerms_23 : decode cX2_leastTerms 23 = .ok (.istore 9, 2) := by decide +kernel
theorem dX2_leastTerms_25 : decode cX2_leastTerms 25 = .ok (.iload 9, 2) := by decide +kernel
theorem dX2_leastTerms_27 : decode cX2_leastTerms 27 = .ok (.sipush 1000, 3) := by decide +kernel
theorem dX2_leastTerms_30 : decode cX2_leastTerms 30 = .ok (.if_icmp .ge 31, 3) := by decide +kernel
theorem dX2_leastTerms_33 : decode cX2_leastTerms 33 = .ok (.lload 7, 2) := by decide +kernel
theorem dX2_leastTerms_35 : decode cX2_leastTerms 35 = .ok (.lconst 0, 1) := by decide +kernel
theorem dX2_leastTerms_36 : decode cX2_leastTerms 36 = .ok (.lcmp, 1) := by decide +kernel
theorem dX2_leastTerms_37 : decode cX2_leastTerms 37 = .ok (.ifCond .eq 24, 3) := by decide +kernel
theorem dX2_leastTerms_40 : decode cX2_leastTerms 40 = .ok (.lload 5, 2) := by decide +kernel
theorem dX2_leastTerms_42 : decode cX2_leastTerms 42 = .ok (.lload 7, 2) := by decide +kernel
theorem dX2_leastTerms_44 : decode cX2_leastTerms 44 = .ok (.lrem, 1) := by decide +kernel
theorem dX2_leastTerms_45 : decode cX2_leastTerms 45 = .ok (.lstore 10, 2) := by decide +kernel
theorem dX2_leastTerms_47 : decode cX2_leastTerms 47 = .ok (.lload 7, 2) := by decide +kernel
theorem dX2_leastTerms_49 : decode cX2_leastTerms 49 = .ok (.lstore 5, 2) := by decide +kernel
theorem dX2_leastTerms_51 : decode cX2_leastTerms 51 = .ok (.lload 10, 2) := by decide +kernel
theorem dX2_leastTerms_53 : decode cX2_leastTerms 53 = .ok (.lstore 7, 2) := by decide +kernel
theorem dX2_leastTerms_55 : decode cX2_leastTerms 55 = .ok (.iinc 9 1, 3) := by decide +kernel
theorem dX2_leastTerms_58 : decode cX2_leastTerms 58 = .ok (.goto (-33), 3) := by decide +kernel
theorem dX2_leastTerms_61 : decode cX2_leastTerms 61 = .ok (.lload 5, 2) := by decide +kernel
theorem dX2_leastTerms_63 : decode cX2_leastTerms 63 = .ok (.lconst 0, 1) := by decide +kernel
theorem dX2_leastTerms_64 : decode cX2_leastTerms 64 = .ok (.lcmp, 1) := by decide +kernel
theorem dX2_leastTerms_65 : decode cX2_leastTerms 65 = .ok (.ifCond .ne 7, 3) := by decide +kernel
theorem dX2_leastTerms_68 : decode cX2_leastTerms 68 = .ok (.iload 4, 2) := by decide +kernel
theorem dX2_leastTerms_70 : decode cX2_leastTerms 70 = .ok (.i2l, 1) := by decide +kernel
theorem dX2_leastTerms_71 : decode cX2_leastTerms 71 = .ok (.lreturn, 1) := by decide +kernel
theorem dX2_leastTerms_72 : decode cX2_leastTerms 72 = .ok (.iload 4, 2) := by decide +kernel
theorem dX2_leastTerms_74 : decode cX2_leastTerms 74 = .ok (.ifCond .ne 10, 3) := by decide +kernel
theorem dX2_leastTerms_77 : decode cX2_leastTerms 77 = .ok (.lload_n 0, 1) := by decide +kernel
theorem dX2_leastTerms_78 : decode cX2_leastTerms 78 = .ok (.lload 5, 2) := by decide +kernel
theorem dX2_leastTerms_80 : decode cX2_leastTerms 80 = .ok (.ldiv, 1) := by decide +kernel
theorem dX2_leastTerms_81 : decode cX2_leastTerms 81 = .ok (.goto 7, 3) := by decide +kernel
theorem dX2_leastTerms_84 : decode cX2_leastTerms 84 = .ok (.lload_n 2, 1) := by decide +kernel
theorem dX2_leastTerms_85 : decode cX2_leastTerms 85 = .ok (.lload 5, 2) := by decide +kernel
theorem dX2_leastTerms_87 : decode cX2_leastTerms 87 = .ok (.ldiv, 1) := by decide +kernel
theorem dX2_leastTerms_88 : decode cX2_leastTerms 88 = .ok (.lreturn, 1) := by decide +kernel
