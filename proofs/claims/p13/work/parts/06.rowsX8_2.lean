theorem dX8_countTold_19 : decode cX8_countTold 19 = .ok (.iload_n 3, 1) := by decide +kernel
theorem dX8_countTold_20 : decode cX8_countTold 20 = .ok (.iadd, 1) := by decide +kernel
theorem dX8_countTold_21 : decode cX8_countTold 21 = .ok (.iaload, 1) := by decide +kernel
theorem dX8_countTold_22 : decode cX8_countTold 22 = .ok (.iadd, 1) := by decide +kernel
theorem dX8_countTold_23 : decode cX8_countTold 23 = .ok (.istore_n 2, 1) := by decide +kernel
theorem dX8_countTold_24 : decode cX8_countTold 24 = .ok (.iinc 3 1, 3) := by decide +kernel
theorem dX8_countTold_27 : decode cX8_countTold 27 = .ok (.goto (-23), 3) := by decide +kernel
theorem dX8_countTold_30 : decode cX8_countTold 30 = .ok (.iload_n 2, 1) := by decide +kernel
theorem dX8_countTold_31 : decode cX8_countTold 31 = .ok (.ireturn, 1) := by decide +kernel
set_option maxRecDepth 20000 in
theorem aw_wsX8_isRule : wsX8_isRule.all goodWord = true := by decide +kernel
set_option maxRecDepth 20000 in
theorem ggX8_ofRule_X8_isRule : GoodIn wsX8_ofRule wsX8_isRule := goodIn_r _ [11, 12, 17, 18, 19, 20, 21, 22, 23, 24, 25, 26, 27, 28, 29, 30, 31, 32, 33, 34, 35, 36, 37, 38, 39, 40, 41, 42, 43, 44, 45, 46, 47, 48, 49, 50] rfl aw_wsX8_isRule
set_option maxRecDepth 20000 in
theorem gX8_ofRule_X8_isRule : GoodIn wsX8_ofRule (wsV RX8 195 RX8 yX8_isRule wsX8_isRule) := goodIn_app (goodIn_r _ [7, 8, 9, 10] rfl (by decide +kernel)) ggX8_ofRule_X8_isRule
set_option maxRecDepth 20000 in
theorem ggX8_ofRule_X8_costOf : GoodIn wsX8_ofRule wsX8_costOf := goodIn_r _ [16, 1, 2, 17, 18, 19, 20, 21, 22, 23, 24, 25, 26, 27, 28, 29, 30, 31, 32, 33, 34, 35, 36, 37, 38, 39, 40, 41, 42, 43, 44, 45, 46, 47, 48, 49, 50] rfl aw_wsX8_costOf
set_option maxRecDepth 20000 in
theorem gX8_ofRule_X8_costOf : GoodIn wsX8_ofRule (wsV RX8 179 RX8 yX8_costOf wsX8_costOf) := goodIn_app (goodIn_r _ [13, 14, 15, 10] rfl (by decide +kernel)) ggX8_ofRule_X8_costOf
theorem dX8_ofRule_0 : decode cX8_ofRule 0 = .ok (.aload_n 0, 1) := by decide +kernel
theorem dX8_ofRule_1 : decode cX8_ofRule 1 = .ok (.iload_n 1, 1) := by decide +kernel
theorem dX8_ofRule_2 : decode cX8_ofRule 2 = .ok (.invokevirtual 195, 3) := by decide +kernel
theorem dX8_ofRule_5 : decode cX8_ofRule 5 = .ok (.ifCond .ne 5, 3) := by decide +kernel
theorem dX8_ofRule_8 : decode cX8_ofRule 8 = .ok (.iconst (-1), 1) := by decide +kernel
theorem dX8_ofRule_9 : decode cX8_ofRule 9 = .ok (.ireturn, 1) := by decide +kernel
theorem dX8_ofRule_10 : decode cX8_ofRule 10 = .ok (.iload_n 2, 1) := by decide +kernel
theorem dX8_ofRule_11 : decode cX8_ofRule 11 = .ok (.tableswitch 89 0 6 #[41, 48, 55, 61, 68, 75, 82], 41) := by decide +kernel
theorem dX8_ofRule_52 : decode cX8_ofRule 52 = .ok (.aload_n 0, 1) := by decide +kernel
theorem dX8_ofRule_53 : decode cX8_ofRule 53 = .ok (.getfield 19, 3) := by decide +kernel
theorem dX8_ofRule_56 : decode cX8_ofRule 56 = .ok (.iload_n 1, 1) := by decide +kernel
theorem dX8_ofRule_57 : decode cX8_ofRule 57 = .ok (.iaload, 1) := by decide +kernel
theorem dX8_ofRule_58 : decode cX8_ofRule 58 = .ok (.ireturn, 1) := by decide +kernel
theorem dX8_ofRule_59 : decode cX8_ofRule 59 = .ok (.aload_n 0, 1) := by decide +kernel
theorem dX8_ofRule_60 : decode cX8_ofRule 60 = .ok (.getfield 22, 3) := by decide +kernel
theorem dX8_ofRule_63 : decode cX8_ofRule 63 = .ok (.iload_n 1, 1) := by decide +kernel
theorem dX8_ofRule_64 : decode cX8_ofRule 64 = .ok (.iaload, 1) := by decide +kernel
theorem dX8_ofRule_65 : decode cX8_ofRule 65 = .ok (.ireturn, 1) := by decide +kernel
theorem dX8_ofRule_66 : decode cX8_ofRule 66 = .ok (.aload_n 0, 1) := by decide +kernel
theorem dX8_ofRule_67 : decode cX8_ofRule 67 = .ok (.iload_n 1, 1) := by decide +kernel
theorem dX8_ofRule_68 : decode cX8_ofRule 68 = .ok (.invokevirtual 179, 3) := by decide +kernel
theorem dX8_ofRule_71 : decode cX8_ofRule 71 = .ok (.ireturn, 1) := by decide +kernel
theorem dX8_ofRule_72 : decode cX8_ofRule 72 = .ok (.aload_n 0, 1) := by decide +kernel
theorem dX8_ofRule_73 : decode cX8_ofRule 73 = .ok (.getfield 25, 3) := by decide +kernel
theorem dX8_ofRule_76 : decode cX8_ofRule 76 = .ok (.iload_n 1, 1) := by decide +kernel
theorem dX8_ofRule_77 : decode cX8_ofRule 77 = .ok (.iaload, 1) := by decide +kernel
theorem dX8_ofRule_78 : decode cX8_ofRule 78 = .ok (.ireturn, 1) := by decide +kernel
theorem dX8_ofRule_79 : decode cX8_ofRule 79 = .ok (.aload_n 0, 1) := by decide +kernel
theorem dX8_ofRule_80 : decode cX8_ofRule 80 = .ok (.getfield 28, 3) := by decide +kernel
theorem dX8_ofRule_83 : decode cX8_ofRule 83 = .ok (.iload_n 1, 1) := by decide +kernel
theorem dX8_ofRule_84 : decode cX8_ofRule 84 = .ok (.iaload, 1) := by decide +kernel
theorem dX8_ofRule_85 : decode cX8_ofRule 85 = .ok (.ireturn, 1) := by decide +kernel
theorem dX8_ofRule_86 : decode cX8_ofRule 86 = .ok (.aload_n 0, 1) := by decide +kernel
theorem dX8_ofRule_87 : decode cX8_ofRule 87 = .ok (.getfield 31, 3) := by decide +kernel
theorem dX8_ofRule_90 : decode cX8_ofRule 90 = .ok (.iload_n 1, 1) := by decide +kernel
theorem dX8_ofRule_91 : decode cX8_ofRule 91 = .ok (.iaload, 1) := by decide +kernel
theorem dX8_ofRule_92 : decode cX8_ofRule 92 = .ok (.ireturn, 1) := by decide +kernel
theorem dX8_ofRule_93 : decode cX8_ofRule 93 = .ok (.aload_n 0, 1) := by decide +kernel
theorem dX8_ofRule_94 : decode cX8_ofRule 94 = .ok (.getfield 34, 3) := by decide +kernel
theorem dX8_ofRule_97 : decode cX8_ofRule 97 = .ok (.iload_n 1, 1) := by decide +kernel
theorem dX8_ofRule_98 : decode cX8_ofRule 98 = .ok (.iaload, 1) := by decide +kernel
theorem dX8_ofRule_99 : decode cX8_ofRule 99 = .ok (.ireturn, 1) := by decide +kernel
theorem dX8_ofRule_100 : decode cX8_ofRule 100 = .ok (.bipush (-2), 2) := by decide +kernel
theorem dX8_ofRule_102 : decode cX8_ofRule 102 = .ok (.ireturn, 1) := by decide +kernel
set_option maxRecDepth 20000 in
theorem aw_wsX8_isRelation : wsX8_isRelation.all goodWord = true := by decide +kernel
set_option maxRecDepth 20000 in
theorem ggX8_ofRelation_X8_isRelation : GoodIn wsX8_ofRelation wsX8_isRelation := goodIn_r _ [8, 9, 45, 46, 47, 48, 49, 50, 51, 52, 53, 54, 55, 56, 57, 58, 59, 60, 61, 62, 63, 64, 65, 66, 67, 68, 69, 70, 71, 72, 73, 74, 75, 76, 77, 78] rfl aw_wsX8_isRelation
set_option maxRecDepth 20000 in
theorem gX8_ofRelation_X8_isRelation : GoodIn wsX8_ofRelation (wsV RX8 198 RX8 yX8_isRelation wsX8_isRelation) := goodIn_app (goodIn_r _ [4, 5, 6, 7] rfl (by decide +kernel)) ggX8_ofRelation_X8_isRelation
set_option maxRecDepth 20000 in
theorem ggX8_ofRelation_X8_findHolds : GoodIn wsX8_ofRelation wsX8_findHolds := goodIn_r _ [13, 14, 15, 16, 17, 18, 19, 20, 7, 21, 1, 2, 22, 23, 24, 3, 25, 26, 27, 28, 29, 30, 31, 32, 33, 34, 35, 36, 45, 46, 47, 48, 49, 50, 51, 52, 53, 54, 55, 56, 57, 58, 59, 60, 61, 62, 63, 64, 65, 66, 67, 68, 69, 70, 71, 72, 73, 74, 75, 76, 77, 78] rfl aw_wsX8_findHolds
set_option maxRecDepth 20000 in
theorem gX8_ofRelation_X8_findHolds : GoodIn wsX8_ofRelation (wsV RX8 185 RX8 yX8_findHolds wsX8_findHolds) := goodIn_app (goodIn_r _ [10, 11, 12, 7] rfl (by decide +kernel)) ggX8_ofRelation_X8_findHolds
set_option maxRecDepth 20000 in
theorem aw_wsX8_countHeld : wsX8_countHeld.all goodWord = true := by decide +kernel
set_option maxRecDepth 20000 in
theorem ggX8_ofRelation_X8_countHeld : GoodIn wsX8_ofRelation wsX8_countHeld := goodIn_r _ [40, 15, 45, 46, 47, 48, 49, 50, 51, 52, 53, 54, 55, 56, 57, 58, 59, 60, 61, 62, 63, 64, 65, 66, 67, 68, 69, 70, 71, 72, 73, 74, 75, 76, 77, 78] rfl aw_wsX8_countHeld
set_option maxRecDepth 20000 in
theorem gX8_ofRelation_X8_countHeld : GoodIn wsX8_ofRelation (wsV RX8 201 RX8 yX8_countHeld wsX8_countHeld) := goodIn_app (goodIn_r _ [37, 38, 39, 7] rfl (by decide +kernel)) ggX8_ofRelation_X8_countHeld
set_option maxRecDepth 20000 in
theorem aw_wsX8_countTold : wsX8_countTold.all goodWord = true := by decide +kernel
set_option maxRecDepth 20000 in
theorem ggX8_ofRelation_X8_countTold : GoodIn wsX8_ofRelation wsX8_countTold := goodIn_r _ [44, 16, 45, 46, 47, 48, 49, 50, 51, 52, 53, 54, 55, 56, 57, 58, 59, 60, 61, 62, 63, 64, 65, 66, 67, 68, 69, 70, 71, 72, 73, 74, 75, 76, 77, 78] rfl aw_wsX8_countTold
set_option maxRecDepth 20000 in
theorem gX8_ofRelation_X8_countTold : GoodIn wsX8_ofRelation (wsV RX8 204 RX8 yX8_countTold wsX8_countTold) := goodIn_app (goodIn_r _ [41, 42, 43, 7] rfl (by decide +kernel)) ggX8_ofRelation_X8_countTold
theorem dX8_ofRelation_0 : decode cX8_ofRelation 0 = .ok (.aload_n 0, 1) := by decide +kernel
theorem dX8_ofRelation_1 : decode cX8_ofRelation 1 = .ok (.iload_n 1, 1) := by decide +kernel
theorem dX8_ofRelation_2 : decode cX8_ofRelation 2 = .ok (.invokevirtual 198, 3) := by decide +kernel
theorem dX8_ofRelation_5 : decode cX8_ofRelation 5 = .ok (.ifCond .ne 5, 3) := by decide +kernel
theorem dX8_ofRelation_8 : decode cX8_ofRelation 8 = .ok (.iconst (-1), 1) := by decide +kernel
theorem dX8_ofRelation_9 : decode cX8_ofRelation 9 = .ok (.ireturn, 1) := by decide +kernel
theorem dX8_ofRelation_10 : decode cX8_ofRelation 10 = .ok (.aload_n 0, 1) := by decide +kernel
theorem dX8_ofRelation_11 : decode cX8_ofRelation 11 = .ok (.invokevirtual 185, 3) := by decide +kernel
theorem dX8_ofRelation_14 : decode cX8_ofRelation 14 = .ok (.iload_n 2, 1) := by decide +kernel
theorem dX8_ofRelation_15 : decode cX8_ofRelation 15 = .ok (.tableswitch 92 0 3 #[29, 36, 42, 48], 29) := by decide +kernel
theorem dX8_ofRelation_44 : decode cX8_ofRelation 44 = .ok (.aload_n 0, 1) := by decide +kernel
theorem dX8_ofRelation_45 : decode cX8_ofRelation 45 = .ok (.getfield 49, 3) := by decide +kernel
theorem dX8_ofRelation_48 : decode cX8_ofRelation 48 = .ok (.iload_n 1, 1) := by decide +kernel
theorem dX8_ofRelation_49 : decode cX8_ofRelation 49 = .ok (.iaload, 1) := by decide +kernel
theorem dX8_ofRelation_50 : decode cX8_ofRelation 50 = .ok (.ireturn, 1) := by decide +kernel
theorem dX8_ofRelation_51 : decode cX8_ofRelation 51 = .ok (.aload_n 0, 1) := by decide +kernel
theorem dX8_ofRelation_52 : decode cX8_ofRelation 52 = .ok (.iload_n 1, 1) := by decide +kernel
theorem dX8_ofRelation_53 : decode cX8_ofRelation 53 = .ok (.invokevirtual 201, 3) := by decide +kernel
theorem dX8_ofRelation_56 : decode cX8_ofRelation 56 = .ok (.ireturn, 1) := by decide +kernel
theorem dX8_ofRelation_57 : decode cX8_ofRelation 57 = .ok (.aload_n 0, 1) := by decide +kernel
theorem dX8_ofRelation_58 : decode cX8_ofRelation 58 = .ok (.iload_n 1, 1) := by decide +kernel
theorem dX8_ofRelation_59 : decode cX8_ofRelation 59 = .ok (.invokevirtual 204, 3) := by decide +kernel
theorem dX8_ofRelation_62 : decode cX8_ofRelation 62 = .ok (.ireturn, 1) := by decide +kernel
theorem dX8_ofRelation_63 : decode cX8_ofRelation 63 = .ok (.iconst 0, 1) := by decide +kernel
theorem dX8_ofRelation_64 : decode cX8_ofRelation 64 = .ok (.istore_n 3, 1) := by decide +kernel
theorem dX8_ofRelation_65 : decode cX8_ofRelation 65 = .ok (.iconst 0, 1) := by decide +kernel
theorem dX8_ofRelation_66 : decode cX8_ofRelation 66 = .ok (.istore 4, 2) := by decide +kernel
theorem dX8_ofRelation_68 : decode cX8_ofRelation 68 = .ok (.iload 4, 2) := by decide +kernel
theorem dX8_ofRelation_70 : decode cX8_ofRelation 70 = .ok (.aload_n 0, 1) := by decide +kernel
theorem dX8_ofRelation_71 : decode cX8_ofRelation 71 = .ok (.getfield 95, 3) := by decide +kernel
theorem dX8_ofRelation_74 : decode cX8_ofRelation 74 = .ok (.if_icmp .ge 31, 3) := by decide +kernel
theorem dX8_ofRelation_77 : decode cX8_ofRelation 77 = .ok (.iload_n 3, 1) := by decide +kernel
theorem dX8_ofRelation_78 : decode cX8_ofRelation 78 = .ok (.aload_n 0, 1) := by decide +kernel
theorem dX8_ofRelation_79 : decode cX8_ofRelation 79 = .ok (.getfield 28, 3) := by decide +kernel
theorem dX8_ofRelation_82 : decode cX8_ofRelation 82 = .ok (.iload 4, 2) := by decide +kernel
theorem dX8_ofRelation_84 : decode cX8_ofRelation 84 = .ok (.iaload, 1) := by decide +kernel
theorem dX8_ofRelation_85 : decode cX8_ofRelation 85 = .ok (.iload_n 1, 1) := by decide +kernel
theorem dX8_ofRelation_86 : decode cX8_ofRelation 86 = .ok (.if_icmp .ne 10, 3) := by decide +kernel
theorem dX8_ofRelation_89 : decode cX8_ofRelation 89 = .ok (.iconst 1, 1) := by decide +kernel
theorem dX8_ofRelation_90 : decode cX8_ofRelation 90 = .ok (.iload 4, 2) := by decide +kernel
theorem dX8_ofRelation_92 : decode cX8_ofRelation 92 = .ok (.ishl, 1) := by decide +kernel
theorem dX8_ofRelation_93 : decode cX8_ofRelation 93 = .ok (.goto 4, 3) := by decide +kernel
theorem dX8_ofRelation_96 : decode cX8_ofRelation 96 = .ok (.iconst 0, 1) := by decide +kernel
theorem dX8_ofRelation_97 : decode cX8_ofRelation 97 = .ok (.ior, 1) := by decide +kernel
theorem dX8_ofRelation_98 : decode cX8_ofRelation 98 = .ok (.istore_n 3, 1) := by decide +kernel
theorem dX8_ofRelation_99 : decode cX8_ofRelation 99 = .ok (.iinc 4 1, 3) := by decide +kernel
theorem dX8_ofRelation_102 : decode cX8_ofRelation 102 = .ok (.goto (-34), 3) := by decide +kernel
theorem dX8_ofRelation_105 : decode cX8_ofRelation 105 = .ok (.iload_n 3, 1) := by decide +kernel
theorem dX8_ofRelation_106 : decode cX8_ofRelation 106 = .ok (.ireturn, 1) := by decide +kernel
theorem dX8_ofRelation_107 : decode cX8_ofRelation 107 = .ok (.bipush (-2), 2) := by decide +kernel
theorem dX8_ofRelation_109 : decode cX8_ofRelation 109 = .ok (.ireturn, 1) := by decide +kernel
set_option maxRecDepth 20000 in
theorem ggX8_gets_X8_goesRoundBy : GoodIn wsX8_gets wsX8_goesRoundBy := goodIn_r _ [6, 7, 8, 9, 10, 5, 11, 12, 13, 14, 1, 15, 16, 17, 18, 19, 20, 21, 22, 23, 24, 25, 26, 27, 28, 29, 30, 31, 32, 33, 34, 35, 36, 37, 38, 39, 40, 41, 42, 43, 44, 45, 46, 47, 48, 49, 50, 51, 52] rfl aw_wsX8_goesRoundBy
set_option maxRecDepth 20000 in
theorem gX8_gets_X8_goesRoundBy : GoodIn wsX8_gets (wsV RX8 125 RX8 yX8_goesRoundBy wsX8_goesRoundBy) := goodIn_app (goodIn_r _ [2, 3, 4, 5] rfl (by decide +kernel)) ggX8_gets_X8_goesRoundBy
theorem dX8_gets_0 : decode cX8_gets 0 = .ok (.aload_n 0, 1) := by decide +kernel
theorem dX8_gets_1 : decode cX8_gets 1 = .ok (.getfield 25, 3) := by decide +kernel
theorem dX8_gets_4 : decode cX8_gets 4 = .ok (.iload_n 1, 1) := by decide +kernel
theorem dX8_gets_5 : decode cX8_gets 5 = .ok (.iaload, 1) := by decide +kernel
theorem dX8_gets_6 : decode cX8_gets 6 = .ok (.istore_n 3, 1) := by decide +kernel
theorem dX8_gets_7 : decode cX8_gets 7 = .ok (.aload_n 0, 1) := by decide +kernel
theorem dX8_gets_8 : decode cX8_gets 8 = .ok (.getfield 25, 3) := by decide +kernel
theorem dX8_gets_11 : decode cX8_gets 11 = .ok (.iload_n 1, 1) := by decide +kernel
theorem dX8_gets_12 : decode cX8_gets 12 = .ok (.iload_n 2, 1) := by decide +kernel
theorem dX8_gets_13 : decode cX8_gets 13 = .ok (.iastore, 1) := by decide +kernel
theorem dX8_gets_14 : decode cX8_gets 14 = .ok (.aload_n 0, 1) := by decide +kernel
theorem dX8_gets_15 : decode cX8_gets 15 = .ok (.invokevirtual 125, 3) := by decide +kernel
theorem dX8_gets_18 : decode cX8_gets 18 = .ok (.bipush (-9), 2) := by decide +kernel
theorem dX8_gets_20 : decode cX8_gets 20 = .ok (.if_icmp .ne 5, 3) := by decide +kernel
theorem dX8_gets_23 : decode cX8_gets 23 = .ok (.iconst 1, 1) := by decide +kernel
theorem dX8_gets_24 : decode cX8_gets 24 = .ok (.ireturn, 1) := by decide +kernel
theorem dX8_gets_25 : decode cX8_gets 25 = .ok (.aload_n 0, 1) := by decide +kernel
theorem dX8_gets_26 : decode cX8_gets 26 = .ok (.getfield 25, 3) := by decide +kernel
theorem dX8_gets_29 : decode cX8_gets 29 = .ok (.iload_n 1, 1) := by decide +kernel
theorem dX8_gets_30 : decode cX8_gets 30 = .ok (.iload_n 3, 1) := by decide +kernel
theorem dX8_gets_31 : decode cX8_gets 31 = .ok (.iastore, 1) := by decide +kernel
theorem dX8_gets_32 : decode cX8_gets 32 = .ok (.iconst 0, 1) := by decide +kernel
theorem dX8_gets_33 : decode cX8_gets 33 = .ok (.ireturn, 1) := by decide +kernel
set_option maxRecDepth 20000 in
theorem ggX8_isForm_X8_within : GoodIn wsX8_isForm wsX8_within := goodIn_r _ [5] rfl aw_wsX8_within
set_option maxRecDepth 20000 in
theorem gX8_isForm_X8_within : GoodIn wsX8_isForm (va_wsS RX8 88 yX8_within wsX8_within) := goodIn_app (goodIn_r _ [2, 3, 4] rfl (by decide +kernel)) ggX8_isForm_X8_within
theorem dX8_isForm_0 : decode cX8_isForm 0 = .ok (.aload_n 0, 1) := by decide +kernel
theorem dX8_isForm_1 : decode cX8_isForm 1 = .ok (.getfield 25, 3) := by decide +kernel
theorem dX8_isForm_4 : decode cX8_isForm 4 = .ok (.iload_n 1, 1) := by decide +kernel
theorem dX8_isForm_5 : decode cX8_isForm 5 = .ok (.iaload, 1) := by decide +kernel
theorem dX8_isForm_6 : decode cX8_isForm 6 = .ok (.iconst 2, 1) := by decide +kernel
theorem dX8_isForm_7 : decode cX8_isForm 7 = .ok (.if_icmp .ge 12, 3) := by decide +kernel
theorem dX8_isForm_10 : decode cX8_isForm 10 = .ok (.iload_n 2, 1) := by decide +kernel
theorem dX8_isForm_11 : decode cX8_isForm 11 = .ok (.iconst 0, 1) := by decide +kernel
theorem dX8_isForm_12 : decode cX8_isForm 12 = .ok (.iconst 1, 1) := by decide +kernel
theorem dX8_isForm_13 : decode cX8_isForm 13 = .ok (.invokestatic 88, 3) := by decide +kernel
theorem dX8_isForm_16 : decode cX8_isForm 16 = .ok (.goto 9, 3) := by decide +kernel
theorem dX8_isForm_19 : decode cX8_isForm 19 = .ok (.iload_n 2, 1) := by decide +kernel
theorem dX8_isForm_20 : decode cX8_isForm 20 = .ok (.iconst 2, 1) := by decide +kernel
theorem dX8_isForm_21 : decode cX8_isForm 21 = .ok (.iconst 3, 1) := by decide +kernel
theorem dX8_isForm_22 : decode cX8_isForm 22 = .ok (.invokestatic 88, 3) := by decide +kernel
theorem dX8_isForm_25 : decode cX8_isForm 25 = .ok (.ireturn, 1) := by decide +kernel
set_option maxRecDepth 20000 in
theorem ggX8_form_X8_isRule : GoodIn wsX8_form wsX8_isRule := goodIn_r _ [6, 7, 34, 35, 36, 37, 38, 39, 40, 41, 42, 43, 44, 45, 46, 47, 48, 49, 50, 51, 52, 53, 54, 55, 56, 57, 58, 59, 60, 61, 62, 63, 64, 65, 66, 67] rfl aw_wsX8_isRule
set_option maxRecDepth 20000 in
theorem gX8_form_X8_isRule : GoodIn wsX8_form (wsV RX8 195 RX8 yX8_isRule wsX8_isRule) := goodIn_app (goodIn_r _ [2, 3, 4, 5] rfl (by decide +kernel)) ggX8_form_X8_isRule
set_option maxRecDepth 20000 in
theorem aw_wsX8_isForm : wsX8_isForm.all goodWord = true := by decide +kernel
set_option maxRecDepth 20000 in
theorem ggX8_form_X8_isForm : GoodIn wsX8_form wsX8_isForm := goodIn_r _ [11, 1, 12, 13, 5, 14, 34, 35, 36, 37, 38, 39, 40, 41, 42, 43, 44, 45, 46, 47, 48, 49, 50, 51, 52, 53, 54, 55, 56, 57, 58, 59, 60, 61, 62, 63, 64, 65, 66, 67] rfl aw_wsX8_isForm
set_option maxRecDepth 20000 in
theorem gX8_form_X8_isForm : GoodIn wsX8_form (wsV RX8 207 RX8 yX8_isForm wsX8_isForm) := goodIn_app (goodIn_r _ [8, 9, 10, 5] rfl (by decide +kernel)) ggX8_form_X8_isForm
set_option maxRecDepth 20000 in
theorem aw_wsX8_gets : wsX8_gets.all goodWord = true := by decide +kernel
set_option maxRecDepth 20000 in
theorem ggX8_form_X8_gets : GoodIn wsX8_form wsX8_gets := goodIn_r _ [18, 1, 19, 20, 21, 5, 22, 23, 24, 25, 26, 27, 7, 28, 29, 30, 31, 32, 33, 34, 35, 36, 37, 38, 39, 40, 41, 42, 43, 44, 45, 46, 47, 48, 49, 50, 51, 52, 53, 54, 55, 56, 57, 58, 59, 60, 61, 62, 63, 64, 65, 66, 67] rfl aw_wsX8_gets
set_option maxRecDepth 20000 in
theorem gX8_form_X8_gets : GoodIn wsX8_form (wsV RX8 210 RX8 yX8_gets wsX8_gets) := goodIn_app (goodIn_r _ [15, 16, 17, 5] rfl (by decide +kernel)) ggX8_form_X8_gets
theorem dX8_form_0 : decode cX8_form 0 = .ok (.aload_n 0, 1) := by decide +kernel
theorem dX8_form_1 : decode cX8_form 1 = .ok (.iload_n 1, 1) := by decide +kernel
theorem dX8_form_2 : decode cX8_form 2 = .ok (.invokevirtual 195, 3) := by decide +kernel
theorem dX8_form_5 : decode cX8_form 5 = .ok (.ifCond .ne 5, 3) := by decide +kernel
theorem dX8_form_8 : decode cX8_form 8 = .ok (.iconst (-1), 1) := by decide +kernel
theorem dX8_form_9 : decode cX8_form 9 = .ok (.ireturn, 1) := by decide +kernel
theorem dX8_form_10 : decode cX8_form 10 = .ok (.aload_n 0, 1) := by decide +kernel
theorem dX8_form_11 : decode cX8_form 11 = .ok (.iload_n 1, 1) := by decide +kernel
theorem dX8_form_12 : decode cX8_form 12 = .ok (.iload_n 2, 1) := by decide +kernel
theorem dX8_form_13 : decode cX8_form 13 = .ok (.invokevirtual 207, 3) := by decide +kernel
theorem dX8_form_16 : decode cX8_form 16 = .ok (.ifCond .ne 6, 3) := by decide +kernel
theorem dX8_form_19 : decode cX8_form 19 = .ok (.bipush (-2), 2) := by decide +kernel
theorem dX8_form_21 : decode cX8_form 21 = .ok (.ireturn, 1) := by decide +kernel
theorem dX8_form_22 : decode cX8_form 22 = .ok (.aload_n 0, 1) := by decide +kernel
theorem dX8_form_23 : decode cX8_form 23 = .ok (.getfield 25, 3) := by decide +kernel
theorem dX8_form_26 : decode cX8_form 26 = .ok (.iload_n 1, 1) := by decide +kernel
theorem dX8_form_27 : decode cX8_form 27 = .ok (.iaload, 1) := by decide +kernel
theorem dX8_form_28 : decode cX8_form 28 = .ok (.istore_n 3, 1) := by decide +kernel
theorem dX8_form_29 : decode cX8_form 29 = .ok (.aload_n 0, 1) := by decide +kernel
theorem dX8_form_30 : decode cX8_form 30 = .ok (.iload_n 1, 1) := by decide +kernel
theorem dX8_form_31 : decode cX8_form 31 = .ok (.iload_n 2, 1) := by decide +kernel
theorem dX8_form_32 : decode cX8_form 32 = .ok (.invokevirtual 210, 3) := by decide +kernel
theorem dX8_form_35 : decode cX8_form 35 = .ok (.ifCond .eq 7, 3) := by decide +kernel
theorem dX8_form_38 : decode cX8_form 38 = .ok (.iload_n 3, 1) := by decide +kernel
theorem dX8_form_39 : decode cX8_form 39 = .ok (.goto 5, 3) := by decide +kernel
theorem dX8_form_42 : decode cX8_form 42 = .ok (.bipush (-3), 2) := by decide +kernel
theorem dX8_form_44 : decode cX8_form 44 = .ok (.ireturn, 1) := by decide +kernel
set_option maxRecDepth 20000 in
theorem ggX8_tell_X8_isRelation : GoodIn wsX8_tell wsX8_isRelation := goodIn_r _ [6, 7, 17, 18, 19, 20, 21, 22, 23, 24, 25, 26, 27, 28, 29, 30, 31, 32, 33, 34, 35, 36, 37, 38, 39, 40, 41, 42, 43, 44, 45, 46, 47, 48, 49, 50] rfl aw_wsX8_isRelation
set_option maxRecDepth 20000 in
theorem gX8_tell_X8_isRelation : GoodIn wsX8_tell (wsV RX8 198 RX8 yX8_isRelation wsX8_isRelation) := goodIn_app (goodIn_r _ [2, 3, 4, 5] rfl (by decide +kernel)) ggX8_tell_X8_isRelation
set_option maxRecDepth 20000 in
theorem aw_wsX8_isThing : wsX8_isThing.all goodWord = true := by decide +kernel
set_option maxRecDepth 20000 in
theorem ggX8_tell_X8_isThing : GoodIn wsX8_tell wsX8_isThing := goodIn_r _ [10, 11, 12, 5, 13] rfl aw_wsX8_isThing
set_option maxRecDepth 20000 in
theorem gX8_tell_X8_isThing : GoodIn wsX8_tell (va_wsS RX8 213 yX8_isThing wsX8_isThing) := goodIn_app (goodIn_r _ [8, 9, 5] rfl (by decide +kernel)) ggX8_tell_X8_isThing
set_option maxRecDepth 20000 in
theorem ggX8_tell_X8_factOf : GoodIn wsX8_tell wsX8_factOf := goodIn_r _ [16] rfl aw_wsX8_factOf
set_option maxRecDepth 20000 in
theorem gX8_tell_X8_factOf : GoodIn wsX8_tell (va_wsS RX8 164 yX8_factOf wsX8_factOf) := goodIn_app (goodIn_r _ [14, 15, 5] rfl (by decide +kernel)) ggX8_tell_X8_factOf
theorem dX8_tell_0 : decode cX8_tell 0 = .ok (.aload_n 0, 1) := by decide +kernel
theorem dX8_tell_1 : decode cX8_tell 1 = .ok (.iload_n 1, 1) := by decide +kernel
theorem dX8_tell_2 : decode cX8_tell 2 = .ok (.invokevirtual 198, 3) := by decide +kernel
theorem dX8_tell_5 : decode cX8_tell 5 = .ok (.ifCond .ne 5, 3) := by decide +kernel
theorem dX8_tell_8 : decode cX8_tell 8 = .ok (.iconst (-1), 1) := by decide +kernel
theorem dX8_tell_9 : decode cX8_tell 9 = .ok (.ireturn, 1) := by decide +kernel
theorem dX8_tell_10 : decode cX8_tell 10 = .ok (.iload_n 2, 1) := by decide +kernel
theorem dX8_tell_11 : decode cX8_tell 11 = .ok (.invokestatic 213, 3) := by decide +kernel
theorem dX8_tell_14 : decode cX8_tell 14 = .ok (.ifCond .eq 10, 3) := by decide +kernel
theorem dX8_tell_17 : decode cX8_tell 17 = .ok (.iload_n 3, 1) := by decide +kernel
theorem dX8_tell_18 : decode cX8_tell 18 = .ok (.invokestatic 213, 3) := by decide +kernel
theorem dX8_tell_21 : decode cX8_tell 21 = .ok (.ifCond .ne 6, 3) := by decide +kernel
theorem dX8_tell_24 : decode cX8_tell 24 = .ok (.bipush (-2), 2) := by decide +kernel
theorem dX8_tell_26 : decode cX8_tell 26 = .ok (.ireturn, 1) := by decide +kernel
theorem dX8_tell_27 : decode cX8_tell 27 = .ok (.iload_n 1, 1) := by decide +kernel
theorem dX8_tell_28 : decode cX8_tell 28 = .ok (.iload_n 2, 1) := by decide +kernel
theorem dX8_tell_29 : decode cX8_tell 29 = .ok (.iload_n 3, 1) := by decide +kernel
theorem dX8_tell_30 : decode cX8_tell 30 = .ok (.invokestatic 164, 3) := by decide +kernel
theorem dX8_tell_33 : decode cX8_tell 33 = .ok (.istore 4, 2) := by decide +kernel
theorem dX8_tell_35 : decode cX8_tell 35 = .ok (.aload_n 0, 1) := by decide +kernel
theorem dX8_tell_36 : decode cX8_tell 36 = .ok (.getfield 37, 3) := by decide +kernel
theorem dX8_tell_39 : decode cX8_tell 39 = .ok (.iload 4, 2) := by decide +kernel
theorem dX8_tell_41 : decode cX8_tell 41 = .ok (.iconst 1, 1) := by decide +kernel
theorem dX8_tell_42 : decode cX8_tell 42 = .ok (.aload_n 0, 1) := by decide +kernel
theorem dX8_tell_43 : decode cX8_tell 43 = .ok (.getfield 37, 3) := by decide +kernel
theorem dX8_tell_46 : decode cX8_tell 46 = .ok (.iload 4, 2) := by decide +kernel
theorem dX8_tell_48 : decode cX8_tell 48 = .ok (.iaload, 1) := by decide +kernel
theorem dX8_tell_49 : decode cX8_tell 49 = .ok (.isub, 1) := by decide +kernel
theorem dX8_tell_50 : decode cX8_tell 50 = .ok (.iastore, 1) := by decide +kernel
theorem dX8_tell_51 : decode cX8_tell 51 = .ok (.aload_n 0, 1) := by decide +kernel
theorem dX8_tell_52 : decode cX8_tell 52 = .ok (.getfield 37, 3) := by decide +kernel
theorem dX8_tell_55 : decode cX8_tell 55 = .ok (.iload 4, 2) := by decide +kernel
theorem dX8_tell_57 : decode cX8_tell 57 = .ok (.iaload, 1) := by decide +kernel
theorem dX8_tell_58 : decode cX8_tell 58 = .ok (.ireturn, 1) := by decide +kernel
set_option maxRecDepth 20000 in
theorem ggX8_ofFact_X8_isRelation : GoodIn wsX8_ofFact wsX8_isRelation := goodIn_r _ [11, 12, 68, 69, 70, 71, 72, 73, 74, 75, 76, 77, 78, 79, 80, 81, 82, 83, 84, 85, 86, 87, 88, 89, 90, 91, 92, 93, 94, 95, 96, 97, 98, 99, 100, 101] rfl aw_wsX8_isRelation
set_option maxRecDepth 20000 in
theorem gX8_ofFact_X8_isRelation : GoodIn wsX8_ofFact (wsV RX8 198 RX8 yX8_isRelation wsX8_isRelation) := goodIn_app (goodIn_r _ [7, 8, 9, 10] rfl (by decide +kernel)) ggX8_ofFact_X8_isRelation
set_option maxRecDepth 20000 in
theorem ggX8_ofFact_X8_isThing : GoodIn wsX8_ofFact wsX8_isThing := goodIn_r _ [15, 16, 17, 10, 18] rfl aw_wsX8_isThing
set_option maxRecDepth 20000 in
theorem gX8_ofFact_X8_isThing : GoodIn wsX8_ofFact (va_wsS RX8 213 yX8_isThing wsX8_isThing) := goodIn_app (goodIn_r _ [13, 14, 10] rfl (by decide +kernel)) ggX8_ofFact_X8_isThing
set_option maxRecDepth 20000 in
theorem ggX8_ofFact_X8_within : GoodIn wsX8_ofFact wsX8_within := goodIn_r _ [18] rfl aw_wsX8_within
set_option maxRecDepth 20000 in
theorem gX8_ofFact_X8_within : GoodIn wsX8_ofFact (va_wsS RX8 88 yX8_within wsX8_within) := goodIn_app (goodIn_r _ [16, 17, 10] rfl (by decide +kernel)) ggX8_ofFact_X8_within
set_option maxRecDepth 20000 in
theorem aw_wsX8_findCheap : wsX8_findCheap.all goodWord = true := by decide +kernel
set_option maxRecDepth 20000 in
theorem ggX8_ofFact_X8_findCheap : GoodIn wsX8_ofFact wsX8_findCheap := goodIn_r _ [22, 4, 2, 23, 24, 25, 10, 26, 27, 1, 3, 28, 29, 30, 31, 32, 33, 34, 35, 36, 37, 38, 39, 40, 41, 42, 43, 44, 45, 46, 47, 48, 49, 50, 51, 52, 53, 54, 55, 56, 57, 58, 59, 60, 61, 62, 63, 64, 65, 66, 67, 5, 6, 68, 69, 70, 71, 72, 73, 74, 75, 76, 77, 78, 79, 80, 81, 82, 83, 84, 85, 86, 87, 88, 89, 90, 91, 92, 93, 94, 95, 96, 97, 98, 99, 100, 101] rfl aw_wsX8_findCheap
set_option maxRecDepth 20000 in
theorem gX8_ofFact_X8_findCheap : GoodIn wsX8_ofFact (wsV RX8 216 RX8 yX8_findCheap wsX8_findCheap) := goodIn_app (goodIn_r _ [19, 20, 21, 10] rfl (by decide +kernel)) ggX8_ofFact_X8_findCheap
set_option maxRecDepth 20000 in
theorem ggX8_ofFact_X8_factOf : GoodIn wsX8_ofFact wsX8_factOf := goodIn_r _ [49] rfl aw_wsX8_factOf
set_option maxRecDepth 20000 in
theorem gX8_ofFact_X8_factOf : GoodIn wsX8_ofFact (va_wsS RX8 164 yX8_factOf wsX8_factOf) := goodIn_app (goodIn_r _ [47, 48, 10] rfl (by decide +kernel)) ggX8_ofFact_X8_factOf
theorem dX8_ofFact_0 : decode cX8_ofFact 0 = .ok (.aload_n 0, 1) := by decide +kernel
theorem dX8_ofFact_1 : decode cX8_ofFact 1 = .ok (.iload_n 1, 1) := by decide +kernel
theorem dX8_ofFact_2 : decode cX8_ofFact 2 = .ok (.invokevirtual 198, 3) := by decide +kernel
theorem dX8_ofFact_5 : decode cX8_ofFact 5 = .ok (.ifCond .ne 5, 3) := by decide +kernel
theorem dX8_ofFact_8 : decode cX8_ofFact 8 = .ok (.iconst (-1), 1) := by decide +kernel
theorem dX8_ofFact_9 : decode cX8_ofFact 9 = .ok (.ireturn, 1) := by decide +kernel
theorem dX8_ofFact_10 : decode cX8_ofFact 10 = .ok (.iload_n 2, 1) := by decide +kernel
theorem dX8_ofFact_11 : decode cX8_ofFact 11 = .ok (.invokestatic 213, 3) := by decide +kernel
theorem dX8_ofFact_14 : decode cX8_ofFact 14 = .ok (.ifCond .eq 20, 3) := by decide +kernel
theorem dX8_ofFact_17 : decode cX8_ofFact 17 = .ok (.iload_n 3, 1) := by decide +kernel
theorem dX8_ofFact_18 : decode cX8_ofFact 18 = .ok (.invokestatic 213, 3) := by decide +kernel
theorem dX8_ofFact_21 : decode cX8_ofFact 21 = .ok (.ifCond .eq 13, 3) := by decide +kernel
theorem dX8_ofFact_24 : decode cX8_ofFact 24 = .ok (.iload 4, 2) := by decide +kernel
theorem dX8_ofFact_26 : decode cX8_ofFact 26 = .ok (.iconst 0, 1) := by decide +kernel
theorem dX8_ofFact_27 : decode cX8_ofFact 27 = .ok (.iconst 5, 1) := by decide +kernel
theorem dX8_ofFact_28 : decode cX8_ofFact 28 = .ok (.invokestatic 88, 3) := by decide +kernel
theorem dX8_ofFact_31 : decode cX8_ofFact 31 = .ok (.ifCond .ne 6, 3) := by decide +kernel
theorem dX8_ofFact_34 : decode cX8_ofFact 34 = .ok (.bipush (-2), 2) := by decide +kernel
theorem dX8_ofFact_36 : decode cX8_ofFact 36 = .ok (.ireturn, 1) := by decide +kernel
theorem dX8_ofFact_37 : decode cX8_ofFact 37 = .ok (.aload_n 0, 1) := by decide +kernel
theorem dX8_ofFact_38 : decode cX8_ofFact 38 = .ok (.invokevirtual 216, 3) := by decide +kernel
theorem dX8_ofFact_41 : decode cX8_ofFact 41 = .ok (.iload_n 1, 1) := by decide +kernel
theorem dX8_ofFact_42 : decode cX8_ofFact 42 = .ok (.iload_n 2, 1) := by decide +kernel
theorem dX8_ofFact_43 : decode cX8_ofFact 43 = .ok (.iload_n 3, 1) := by decide +kernel
theorem dX8_ofFact_44 : decode cX8_ofFact 44 = .ok (.invokestatic 164, 3) := by decide +kernel
theorem dX8_ofFact_47 : decode cX8_ofFact 47 = .ok (.istore 5, 2) := by decide +kernel
theorem dX8_ofFact_49 : decode cX8_ofFact 49 = .ok (.iload 4, 2) := by decide +kernel
theorem dX8_ofFact_51 : decode cX8_ofFact 51 = .ok (.iconst 2, 1) := by decide +kernel
theorem dX8_ofFact_52 : decode cX8_ofFact 52 = .ok (.if_icmp .ge 26, 3) := by decide +kernel
theorem dX8_ofFact_55 : decode cX8_ofFact 55 = .ok (.iload 4, 2) := by decide +kernel
theorem dX8_ofFact_57 : decode cX8_ofFact 57 = .ok (.ifCond .ne 13, 3) := by decide +kernel
theorem dX8_ofFact_60 : decode cX8_ofFact 60 = .ok (.aload_n 0, 1) := by decide +kernel
theorem dX8_ofFact_61 : decode cX8_ofFact 61 = .ok (.getfield 52, 3) := by decide +kernel
theorem dX8_ofFact_64 : decode cX8_ofFact 64 = .ok (.iload 5, 2) := by decide +kernel
theorem dX8_ofFact_66 : decode cX8_ofFact 66 = .ok (.iaload, 1) := by decide +kernel
theorem dX8_ofFact_67 : decode cX8_ofFact 67 = .ok (.goto 10, 3) := by decide +kernel
theorem dX8_ofFact_70 : decode cX8_ofFact 70 = .ok (.aload_n 0, 1) := by decide +kernel
theorem dX8_ofFact_71 : decode cX8_ofFact 71 = .ok (.getfield 37, 3) := by decide +kernel
theorem dX8_ofFact_74 : decode cX8_ofFact 74 = .ok (.iload 5, 2) := by decide +kernel
theorem dX8_ofFact_76 : decode cX8_ofFact 76 = .ok (.iaload, 1) := by decide +kernel
theorem dX8_ofFact_77 : decode cX8_ofFact 77 = .ok (.ireturn, 1) := by decide +kernel
theorem dX8_ofFact_78 : decode cX8_ofFact 78 = .ok (.aload_n 0, 1) := by decide +kernel
theorem dX8_ofFact_79 : decode cX8_ofFact 79 = .ok (.getfield 52, 3) := by decide +kernel
theorem dX8_ofFact_82 : decode cX8_ofFact 82 = .ok (.iload 5, 2) := by decide +kernel
theorem dX8_ofFact_84 : decode cX8_ofFact 84 = .ok (.iaload, 1) := by decide +kernel
theorem dX8_ofFact_85 : decode cX8_ofFact 85 = .ok (.ifCond .ne 6, 3) := by decide +kernel
theorem dX8_ofFact_88 : decode cX8_ofFact 88 = .ok (.bipush (-9), 2) := by decide +kernel
theorem dX8_ofFact_90 : decode cX8_ofFact 90 = .ok (.ireturn, 1) := by decide +kernel
theorem dX8_ofFact_91 : decode cX8_ofFact 91 = .ok (.iload 4, 2) := by decide +kernel
theorem dX8_ofFact_93 : decode cX8_ofFact 93 = .ok (.iconst 2, 1) := by decide +kernel
theorem dX8_ofFact_94 : decode cX8_ofFact 94 = .ok (.if_icmp .ne 13, 3) := by decide +kernel
theorem dX8_ofFact_97 : decode cX8_ofFact 97 = .ok (.aload_n 0, 1) := by decide +kernel
theorem dX8_ofFact_98 : decode cX8_ofFact 98 = .ok (.getfield 58, 3) := by decide +kernel
theorem dX8_ofFact_101 : decode cX8_ofFact 101 = .ok (.iload 5, 2) := by decide +kernel
theorem dX8_ofFact_103 : decode cX8_ofFact 103 = .ok (.iaload, 1) := by decide +kernel
theorem dX8_ofFact_104 : decode cX8_ofFact 104 = .ok (.goto 42, 3) := by decide +kernel
theorem dX8_ofFact_107 : decode cX8_ofFact 107 = .ok (.iload 4, 2) := by decide +kernel
theorem dX8_ofFact_109 : decode cX8_ofFact 109 = .ok (.iconst 3, 1) := by decide +kernel
theorem dX8_ofFact_110 : decode cX8_ofFact 110 = .ok (.if_icmp .ne 13, 3) := by decide +kernel
theorem dX8_ofFact_113 : decode cX8_ofFact 113 = .ok (.aload_n 0, 1) := by decide +kernel
theorem dX8_ofFact_114 : decode cX8_ofFact 114 = .ok (.getfield 61, 3) := by decide +kernel
theorem dX8_ofFact_117 : decode cX8_ofFact 117 = .ok (.iload 5, 2) := by decide +kernel
theorem dX8_ofFact_119 : decode cX8_ofFact 119 = .ok (.iaload, 1) := by decide +kernel
theorem dX8_ofFact_120 : decode cX8_ofFact 120 = .ok (.goto 26, 3) := by decide +kernel
theorem dX8_ofFact_123 : decode cX8_ofFact 123 = .ok (.iload 4, 2) := by decide +kernel
theorem dX8_ofFact_125 : decode cX8_ofFact 125 = .ok (.iconst 4, 1) := by decide +kernel
theorem dX8_ofFact_126 : decode cX8_ofFact 126 = .ok (.if_icmp .ne 13, 3) := by decide +kernel
theorem dX8_ofFact_129 : decode cX8_ofFact 129 = .ok (.aload_n 0, 1) := by decide +kernel
theorem dX8_ofFact_130 : decode cX8_ofFact 130 = .ok (.getfield 64, 3) := by decide +kernel
theorem dX8_ofFact_133 : decode cX8_ofFact 133 = .ok (.iload 5, 2) := by decide +kernel
theorem dX8_ofFact_135 : decode cX8_ofFact 135 = .ok (.iaload, 1) := by decide +kernel
theorem dX8_ofFact_136 : decode cX8_ofFact 136 = .ok (.goto 10, 3) := by decide +kernel
theorem dX8_ofFact_139 : decode cX8_ofFact 139 = .ok (.aload_n 0, 1) := by decide +kernel
theorem dX8_ofFact_140 : decode cX8_ofFact 140 = .ok (.getfield 67, 3) := by decide +kernel
theorem dX8_ofFact_143 : decode cX8_ofFact 143 = .ok (.iload 5, 2) := by decide +kernel
theorem dX8_ofFact_145 : decode cX8_ofFact 145 = .ok (.iaload, 1) := by decide +kernel
theorem dX8_ofFact_146 : decode cX8_ofFact 146 = .ok (.ireturn, 1) := by decide +kernel
set_option maxRecDepth 20000 in
theorem ggX8_does_X8_isRule : GoodIn wsX8_does wsX8_isRule := goodIn_r _ [7, 8, 46, 47, 48, 49, 50, 51, 52, 53, 54, 55, 56, 57, 58, 59, 60, 61, 62, 63, 64, 65, 66, 67, 68, 69, 70, 71, 72, 73, 74, 75, 76, 77, 78, 79] rfl aw_wsX8_isRule
set_option maxRecDepth 20000 in
theorem gX8_does_X8_isRule : GoodIn wsX8_does (wsV RX8 195 RX8 yX8_isRule wsX8_isRule) := goodIn_app (goodIn_r _ [3, 4, 5, 6] rfl (by decide +kernel)) ggX8_does_X8_isRule
set_option maxRecDepth 20000 in
theorem ggX8_does_X8_isForm : GoodIn wsX8_does wsX8_isForm := goodIn_r _ [12, 13, 14, 15, 6, 16, 46, 47, 48, 49, 50, 51, 52, 53, 54, 55, 56, 57, 58, 59, 60, 61, 62, 63, 64, 65, 66, 67, 68, 69, 70, 71, 72, 73, 74, 75, 76, 77, 78, 79] rfl aw_wsX8_isForm
set_option maxRecDepth 20000 in
theorem gX8_does_X8_isForm : GoodIn wsX8_does (wsV RX8 207 RX8 yX8_isForm wsX8_isForm) := goodIn_app (goodIn_r _ [9, 10, 11, 6] rfl (by decide +kernel)) ggX8_does_X8_isForm
set_option maxRecDepth 20000 in
theorem ggX8_does_X8_gets : GoodIn wsX8_does wsX8_gets := goodIn_r _ [20, 13, 21, 22, 23, 6, 24, 25, 26, 27, 28, 29, 8, 30, 31, 32, 33, 34, 35, 46, 47, 48, 49, 50, 51, 52, 53, 54, 55, 56, 57, 58, 59, 60, 61, 62, 63, 64, 65, 66, 67, 68, 69, 70, 71, 72, 73, 74, 75, 76, 77, 78, 79] rfl aw_wsX8_gets
set_option maxRecDepth 20000 in
theorem gX8_does_X8_gets : GoodIn wsX8_does (wsV RX8 210 RX8 yX8_gets wsX8_gets) := goodIn_app (goodIn_r _ [17, 18, 19, 6] rfl (by decide +kernel)) ggX8_does_X8_gets
set_option maxRecDepth 20000 in
theorem ggX8_does_X8_isRelation : GoodIn wsX8_does wsX8_isRelation := goodIn_r _ [39, 25, 46, 47, 48, 49, 50, 51, 52, 53, 54, 55, 56, 57, 58, 59, 60, 61, 62, 63, 64, 65, 66, 67, 68, 69, 70, 71, 72, 73, 74, 75, 76, 77, 78, 79] rfl aw_wsX8_isRelation
set_option maxRecDepth 20000 in
theorem gX8_does_X8_isRelation : GoodIn wsX8_does (wsV RX8 198 RX8 yX8_isRelation wsX8_isRelation) := goodIn_app (goodIn_r _ [36, 37, 38, 6] rfl (by decide +kernel)) ggX8_does_X8_isRelation
set_option maxRecDepth 20000 in
theorem ggX8_does_X8_isThing : GoodIn wsX8_does wsX8_isThing := goodIn_r _ [42, 14, 15, 6, 16] rfl aw_wsX8_isThing
set_option maxRecDepth 20000 in
theorem gX8_does_X8_isThing : GoodIn wsX8_does (va_wsS RX8 213 yX8_isThing wsX8_isThing) := goodIn_app (goodIn_r _ [40, 41, 6] rfl (by decide +kernel)) ggX8_does_X8_isThing
set_option maxRecDepth 20000 in
theorem ggX8_does_X8_factOf : GoodIn wsX8_does wsX8_factOf := goodIn_r _ [45] rfl aw_wsX8_factOf
set_option maxRecDepth 20000 in
theorem gX8_does_X8_factOf : GoodIn wsX8_does (va_wsS RX8 164 yX8_factOf wsX8_factOf) := goodIn_app (goodIn_r _ [43, 44, 6] rfl (by decide +kernel)) ggX8_does_X8_factOf
theorem dX8_does_0 : decode cX8_does 0 = .ok (.aload_n 0, 1) := by decide +kernel
theorem dX8_does_1 : decode cX8_does 1 = .ok (.getfield 16, 3) := by decide +kernel
theorem dX8_does_4 : decode cX8_does 4 = .ok (.iload_n 1, 1) := by decide +kernel
theorem dX8_does_5 : decode cX8_does 5 = .ok (.iaload, 1) := by decide +kernel
theorem dX8_does_6 : decode cX8_does 6 = .ok (.istore_n 2, 1) := by decide +kernel
theorem dX8_does_7 : decode cX8_does 7 = .ok (.aload_n 0, 1) := by decide +kernel
theorem dX8_does_8 : decode cX8_does 8 = .ok (.getfield 16, 3) := by decide +kernel
theorem dX8_does_11 : decode cX8_does 11 = .ok (.iload_n 1, 1) := by decide +kernel
theorem dX8_does_12 : decode cX8_does 12 = .ok (.iconst 1, 1) := by decide +kernel
theorem dX8_does_13 : decode cX8_does 13 = .ok (.iadd, 1) := by decide +kernel
theorem dX8_does_14 : decode cX8_does 14 = .ok (.iaload, 1) := by decide +kernel
theorem dX8_does_15 : decode cX8_does 15 = .ok (.istore_n 3, 1) := by decide +kernel
theorem dX8_does_16 : decode cX8_does 16 = .ok (.aload_n 0, 1) := by decide +kernel
theorem dX8_does_17 : decode cX8_does 17 = .ok (.getfield 16, 3) := by decide +kernel
theorem dX8_does_20 : decode cX8_does 20 = .ok (.iload_n 1, 1) := by decide +kernel
theorem dX8_does_21 : decode cX8_does 21 = .ok (.iconst 2, 1) := by decide +kernel
theorem dX8_does_22 : decode cX8_does 22 = .ok (.iadd, 1) := by decide +kernel
theorem dX8_does_23 : decode cX8_does 23 = .ok (.iaload, 1) := by decide +kernel
theorem dX8_does_24 : decode cX8_does 24 = .ok (.istore 4, 2) := by decide +kernel
theorem dX8_does_26 : decode cX8_does 26 = .ok (.iload_n 2, 1) := by decide +kernel
theorem dX8_does_27 : decode cX8_does 27 = .ok (.bipush 10, 2) := by decide +kernel
theorem dX8_does_29 : decode cX8_does 29 = .ok (.if_icmp .lt 44, 3) := by decide +kernel
theorem dX8_does_32 : decode cX8_does 32 = .ok (.iload_n 2, 1) := by decide +kernel
theorem dX8_does_33 : decode cX8_does 33 = .ok (.bipush 10, 2) := by decide +kernel
theorem dX8_does_35 : decode cX8_does 35 = .ok (.isub, 1) := by decide +kernel
theorem dX8_does_36 : decode cX8_does 36 = .ok (.istore 5, 2) := by decide +kernel
theorem dX8_does_38 : decode cX8_does 38 = .ok (.aload_n 0, 1) := by decide +kernel
theorem dX8_does_39 : decode cX8_does 39 = .ok (.iload 5, 2) := by decide +kernel
theorem dX8_does_41 : decode cX8_does 41 = .ok (.invokevirtual 195, 3) := by decide +kernel
theorem dX8_does_44 : decode cX8_does 44 = .ok (.ifCond .eq 27, 3) := by decide +kernel
theorem dX8_does_47 : decode cX8_does 47 = .ok (.aload_n 0, 1) := by decide +kernel
theorem dX8_does_48 : decode cX8_does 48 = .ok (.iload 5, 2) := by decide +kernel
theorem dX8_does_50 : decode cX8_does 50 = .ok (.iload_n 3, 1) := by decide +kernel
theorem dX8_does_51 : decode cX8_does 51 = .ok (.invokevirtual 207, 3) := by decide +kernel
theorem dX8_does_54 : decode cX8_does 54 = .ok (.ifCond .eq 17, 3) := by decide +kernel
theorem dX8_does_57 : decode cX8_does 57 = .ok (.aload_n 0, 1) := by decide +kernel
theorem dX8_does_58 : decode cX8_does 58 = .ok (.iload 5, 2) := by decide +kernel
theorem dX8_does_60 : decode cX8_does 60 = .ok (.iload_n 3, 1) := by decide +kernel
theorem dX8_does_61 : decode cX8_does 61 = .ok (.invokevirtual 210, 3) := by decide +kernel
theorem dX8_does_64 : decode cX8_does 64 = .ok (.ifCond .eq 7, 3) := by decide +kernel
theorem dX8_does_67 : decode cX8_does 67 = .ok (.iconst 1, 1) := by decide +kernel
theorem dX8_does_68 : decode cX8_does 68 = .ok (.goto 4, 3) := by decide +kernel
theorem dX8_does_71 : decode cX8_does 71 = .ok (.iconst 0, 1) := by decide +kernel
theorem dX8_does_72 : decode cX8_does 72 = .ok (.ireturn, 1) := by decide +kernel
theorem dX8_does_73 : decode cX8_does 73 = .ok (.aload_n 0, 1) := by decide +kernel
theorem dX8_does_74 : decode cX8_does 74 = .ok (.iload_n 2, 1) := by decide +kernel
theorem dX8_does_75 : decode cX8_does 75 = .ok (.invokevirtual 198, 3) := by decide +kernel
theorem dX8_does_78 : decode cX8_does 78 = .ok (.ifCond .eq 18, 3) := by decide +kernel
theorem dX8_does_81 : decode cX8_does 81 = .ok (.iload_n 3, 1) := by decide +kernel
theorem dX8_does_82 : decode cX8_does 82 = .ok (.invokestatic 213, 3) := by decide +kernel
theorem dX8_does_85 : decode cX8_does 85 = .ok (.ifCond .eq 11, 3) := by decide +kernel
theorem dX8_does_88 : decode cX8_does 88 = .ok (.iload 4, 2) := by decide +kernel
theorem dX8_does_90 : decode cX8_does 90 = .ok (.invokestatic 213, 3) := by decide +kernel
theorem dX8_does_93 : decode cX8_does 93 = .ok (.ifCond .ne 5, 3) := by decide +kernel
theorem dX8_does_96 : decode cX8_does 96 = .ok (.iconst 0, 1) := by decide +kernel
theorem dX8_does_97 : decode cX8_does 97 = .ok (.ireturn, 1) := by decide +kernel
theorem dX8_does_98 : decode cX8_does 98 = .ok (.aload_n 0, 1) := by decide +kernel
theorem dX8_does_99 : decode cX8_does 99 = .ok (.getfield 37, 3) := by decide +kernel
theorem dX8_does_102 : decode cX8_does 102 = .ok (.iload_n 2, 1) := by decide +kernel
theorem dX8_does_103 : decode cX8_does 103 = .ok (.iload_n 3, 1) := by decide +kernel
theorem dX8_does_104 : decode cX8_does 104 = .ok (.iload 4, 2) := by decide +kernel
theorem dX8_does_106 : decode cX8_does 106 = .ok (.invokestatic 164, 3) := by decide +kernel
theorem dX8_does_109 : decode cX8_does 109 = .ok (.iconst 1, 1) := by decide +kernel
theorem dX8_does_110 : decode cX8_does 110 = .ok (.aload_n 0, 1) := by decide +kernel
theorem dX8_does_111 : decode cX8_does 111 = .ok (.getfield 37, 3) := by decide +kernel
theorem dX8_does_114 : decode cX8_does 114 = .ok (.iload_n 2, 1) := by decide +kernel
theorem dX8_does_115 : decode cX8_does 115 = .ok (.iload_n 3, 1) := by decide +kernel
theorem dX8_does_116 : decode cX8_does 116 = .ok (.iload 4, 2) := by decide +kernel
theorem dX8_does_118 : decode cX8_does 118 = .ok (.invokestatic 164, 3) := by decide +kernel
theorem dX8_does_121 : decode cX8_does 121 = .ok (.iaload, 1) := by decide +kernel
theorem dX8_does_122 : decode cX8_does 122 = .ok (.isub, 1) := by decide +kernel
theorem dX8_does_123 : decode cX8_does 123 = .ok (.iastore, 1) := by decide +kernel
theorem dX8_does_124 : decode cX8_does 124 = .ok (.iconst 1, 1) := by decide +kernel
theorem dX8_does_125 : decode cX8_does 125 = .ok (.ireturn, 1) := by decide +kernel
set_option maxRecDepth 20000 in
theorem aw_wsX8_does : wsX8_does.all goodWord = true := by decide +kernel
set_option maxRecDepth 20000 in
theorem ggX8_goDay_X8_does : GoodIn wsX8_goDay wsX8_does := goodIn_r _ [5, 6, 7, 8, 9, 10, 4, 11, 12, 13, 14, 15, 16, 17, 18, 19, 20, 21, 22, 23, 24, 25, 26, 27, 28, 29, 30, 31, 32, 33, 34, 35, 36, 37, 38, 39, 40, 41, 42, 43, 44, 45, 46, 47, 48, 49, 50, 51, 52, 53, 54, 55, 56, 57, 58, 59, 60, 61, 62, 63, 64, 65, 66, 67, 68, 69, 70, 71, 72, 73, 74, 75, 76, 77, 78, 79, 80, 81, 82, 83] rfl aw_wsX8_does
set_option maxRecDepth 20000 in
theorem gX8_goDay_X8_does : GoodIn wsX8_goDay (wsV RX8 219 RX8 yX8_does wsX8_does) := goodIn_app (goodIn_r _ [1, 2, 3, 4] rfl (by decide +kernel)) ggX8_goDay_X8_does
theorem dX8_goDay_0 : decode cX8_goDay 0 = .ok (.iconst 0, 1) := by decide +kernel
theorem dX8_goDay_1 : decode cX8_goDay 1 = .ok (.istore_n 3, 1) := by decide +kernel
theorem dX8_goDay_2 : decode cX8_goDay 2 = .ok (.iload_n 3, 1) := by decide +kernel
theorem dX8_goDay_3 : decode cX8_goDay 3 = .ok (.iload_n 2, 1) := by decide +kernel
theorem dX8_goDay_4 : decode cX8_goDay 4 = .ok (.if_icmp .ge 23, 3) := by decide +kernel
theorem dX8_goDay_7 : decode cX8_goDay 7 = .ok (.aload_n 0, 1) := by decide +kernel
theorem dX8_goDay_8 : decode cX8_goDay 8 = .ok (.iload_n 1, 1) := by decide +kernel
theorem dX8_goDay_9 : decode cX8_goDay 9 = .ok (.iconst 3, 1) := by decide +kernel
theorem dX8_goDay_10 : decode cX8_goDay 10 = .ok (.iload_n 3, 1) := by decide +kernel
theorem dX8_goDay_11 : decode cX8_goDay 11 = .ok (.imul, 1) := by decide +kernel
theorem dX8_goDay_12 : decode cX8_goDay 12 = .ok (.iadd, 1) := by decide +kernel
theorem dX8_goDay_13 : decode cX8_goDay 13 = .ok (.invokevirtual 219, 3) := by decide +kernel
theorem dX8_goDay_16 : decode cX8_goDay 16 = .ok (.ifCond .ne 5, 3) := by decide +kernel
theorem dX8_goDay_19 : decode cX8_goDay 19 = .ok (.iload_n 3, 1) := by decide +kernel
theorem dX8_goDay_20 : decode cX8_goDay 20 = .ok (.ireturn, 1) := by decide +kernel
theorem dX8_goDay_21 : decode cX8_goDay 21 = .ok (.iinc 3 1, 3) := by decide +kernel
theorem dX8_goDay_24 : decode cX8_goDay 24 = .ok (.goto (-22), 3) := by decide +kernel
theorem dX8_goDay_27 : decode cX8_goDay 27 = .ok (.bipush (-9), 2) := by decide +kernel
theorem dX8_goDay_29 : decode cX8_goDay 29 = .ok (.ireturn, 1) := by decide +kernel
set_option maxRecDepth 20000 in
theorem ggX8_day_X8_isSheet : GoodIn wsX8_day wsX8_isSheet := goodIn_r _ [11, 12, 13, 10, 14] rfl aw_wsX8_isSheet
set_option maxRecDepth 20000 in
theorem gX8_day_X8_isSheet : GoodIn wsX8_day (va_wsS RX8 101 yX8_isSheet wsX8_isSheet) := goodIn_app (goodIn_r _ [8, 9, 10] rfl (by decide +kernel)) ggX8_day_X8_isSheet
set_option maxRecDepth 20000 in
theorem ggX8_day_X8_isSort : GoodIn wsX8_day wsX8_isSort := goodIn_r _ [17, 12, 13, 10, 14] rfl aw_wsX8_isSort
set_option maxRecDepth 20000 in
theorem gX8_day_X8_isSort : GoodIn wsX8_day (va_wsS RX8 105 yX8_isSort wsX8_isSort) := goodIn_app (goodIn_r _ [15, 16, 10] rfl (by decide +kernel)) ggX8_day_X8_isSort
set_option maxRecDepth 20000 in
theorem ggX8_day_X8_within : GoodIn wsX8_day wsX8_within := goodIn_r _ [14] rfl aw_wsX8_within
set_option maxRecDepth 20000 in
theorem gX8_day_X8_within : GoodIn wsX8_day (va_wsS RX8 88 yX8_within wsX8_within) := goodIn_app (goodIn_r _ [12, 13, 10] rfl (by decide +kernel)) ggX8_day_X8_within
set_option maxRecDepth 20000 in
theorem ggX8_day_X8_against : GoodIn wsX8_day wsX8_against := goodIn_r _ [21, 22, 23, 139, 140, 141, 142, 143, 144, 145, 146, 147, 148, 149, 150, 151, 152, 153, 154, 155, 156, 157, 158, 159, 160, 161, 162, 163, 164, 165, 166, 167, 168, 169, 170, 171, 172] rfl aw_wsX8_against
set_option maxRecDepth 20000 in
theorem gX8_day_X8_against : GoodIn wsX8_day (wsV RX8 108 RX8 yX8_against wsX8_against) := goodIn_app (goodIn_r _ [18, 19, 20, 10] rfl (by decide +kernel)) ggX8_day_X8_against
set_option maxRecDepth 20000 in
theorem ggX8_day_X8_fails : GoodIn wsX8_day wsX8_fails := goodIn_r _ [27, 1, 139, 140, 141, 142, 143, 144, 145, 146, 147, 148, 149, 150, 151, 152, 153, 154, 155, 156, 157, 158, 159, 160, 161, 162, 163, 164, 165, 166, 167, 168, 169, 170, 171, 172] rfl aw_wsX8_fails
set_option maxRecDepth 20000 in
theorem gX8_day_X8_fails : GoodIn wsX8_day (wsV RX8 112 RX8 yX8_fails wsX8_fails) := goodIn_app (goodIn_r _ [24, 25, 26, 10] rfl (by decide +kernel)) ggX8_day_X8_fails
set_option maxRecDepth 20000 in
theorem aw_wsX8_goDay : wsX8_goDay.all goodWord = true := by decide +kernel
set_option maxRecDepth 20000 in
theorem ggX8_day_X8_goDay : GoodIn wsX8_day wsX8_goDay := goodIn_r _ [31, 32, 33, 34, 10, 35, 3, 5, 36, 37, 38, 39, 40, 41, 42, 43, 44, 7, 12, 13, 14, 45, 46, 47, 48, 49, 50, 51, 52, 2, 53, 54, 55, 56, 57, 58, 59, 60, 61, 62, 63, 64, 65, 66, 67, 68, 69, 70, 71, 72, 139, 140, 141, 142, 143, 144, 145, 146, 147, 148, 149, 150, 151, 152, 153, 154, 155, 156, 157, 158, 159, 160, 161, 162, 163, 164, 165, 166, 167, 168, 169, 170, 171, 172] rfl aw_wsX8_goDay
set_option maxRecDepth 20000 in
theorem gX8_day_X8_goDay : GoodIn wsX8_day (wsV RX8 222 RX8 yX8_goDay wsX8_goDay) := goodIn_app (goodIn_r _ [28, 29, 30, 10] rfl (by decide +kernel)) ggX8_day_X8_goDay
set_option maxRecDepth 20000 in
theorem aw_wsX8_tellDay : wsX8_tellDay.all goodWord = true := by decide +kernel
set_option maxRecDepth 20000 in
theorem ggX8_day_X8_tellDay : GoodIn wsX8_day wsX8_tellDay := goodIn_r _ [76, 77, 78, 79, 80, 81, 10, 82, 5, 83, 84, 85, 86, 87, 88, 89, 90, 91, 92, 93, 40, 58, 7, 59, 57, 94, 95, 96, 97, 98, 99, 100, 101, 102, 70, 71, 72, 103, 104, 105, 106, 107, 108, 109, 110, 111, 112, 113, 114, 115, 116, 117, 118, 119, 120, 121, 122, 63, 64, 65, 66, 2, 123, 124, 125, 126, 127, 128, 129, 130, 131, 132, 133, 134, 135, 136, 137, 138, 139, 140, 141, 142, 143, 144, 145, 146, 147, 148, 149, 150, 151, 152, 153, 154, 155, 156, 157, 158, 159, 160, 161, 162, 163, 164, 165, 166, 167, 168, 169, 170, 171, 172] rfl aw_wsX8_tellDay
set_option maxRecDepth 20000 in
theorem gX8_day_X8_tellDay : GoodIn wsX8_day (wsV RX8 226 RX8 yX8_tellDay wsX8_tellDay) := goodIn_app (goodIn_r _ [73, 74, 75, 10] rfl (by decide +kernel)) ggX8_day_X8_tellDay
theorem dX8_day_0 : decode cX8_day 0 = .ok (.aload_n 0, 1) := by decide +kernel
theorem dX8_day_1 : decode cX8_day 1 = .ok (.iconst 0, 1) := by decide +kernel
theorem dX8_day_2 : decode cX8_day 2 = .ok (.putfield 82, 3) := by decide +kernel
theorem dX8_day_5 : decode cX8_day 5 = .ok (.iload_n 1, 1) := by decide +kernel
theorem dX8_day_6 : decode cX8_day 6 = .ok (.invokestatic 101, 3) := by decide +kernel
theorem dX8_day_9 : decode cX8_day 9 = .ok (.ifCond .ne 5, 3) := by decide +kernel
theorem dX8_day_12 : decode cX8_day 12 = .ok (.iconst (-1), 1) := by decide +kernel
theorem dX8_day_13 : decode cX8_day 13 = .ok (.ireturn, 1) := by decide +kernel
theorem dX8_day_14 : decode cX8_day 14 = .ok (.iload_n 2, 1) := by decide +kernel
theorem dX8_day_15 : decode cX8_day 15 = .ok (.invokestatic 105, 3) := by decide +kernel
theorem dX8_day_18 : decode cX8_day 18 = .ok (.ifCond .eq 36, 3) := by decide +kernel
theorem dX8_day_21 : decode cX8_day 21 = .ok (.iload 4, 2) := by decide +kernel
theorem dX8_day_23 : decode cX8_day 23 = .ok (.iconst 0, 1) := by decide +kernel
theorem dX8_day_24 : decode cX8_day 24 = .ok (.bipush 20, 2) := by decide +kernel
theorem dX8_day_26 : decode cX8_day 26 = .ok (.invokestatic 88, 3) := by decide +kernel
theorem dX8_day_29 : decode cX8_day 29 = .ok (.ifCond .eq 25, 3) := by decide +kernel
theorem dX8_day_32 : decode cX8_day 32 = .ok (.iload 5, 2) := by decide +kernel
theorem dX8_day_34 : decode cX8_day 34 = .ok (.iconst 0, 1) := by decide +kernel
theorem dX8_day_35 : decode cX8_day 35 = .ok (.iconst 4, 1) := by decide +kernel
theorem dX8_day_36 : decode cX8_day 36 = .ok (.invokestatic 88, 3) := by decide +kernel
theorem dX8_day_39 : decode cX8_day 39 = .ok (.ifCond .ne 18, 3) := by decide +kernel
theorem dX8_day_42 : decode cX8_day 42 = .ok (.iload 5, 2) := by decide +kernel
theorem dX8_day_44 : decode cX8_day 44 = .ok (.bipush 10, 2) := by decide +kernel
theorem dX8_day_46 : decode cX8_day 46 = .ok (.bipush 13, 2) := by decide +kernel
theorem dX8_day_48 : decode cX8_day 48 = .ok (.invokestatic 88, 3) := by decide +kernel
theorem dX8_day_51 : decode cX8_day 51 = .ok (.ifCond .ne 6, 3) := by decide +kernel
theorem dX8_day_54 : decode cX8_day 54 = .ok (.bipush (-2), 2) := by decide +kernel
theorem dX8_day_56 : decode cX8_day 56 = .ok (.ireturn, 1) := by decide +kernel
theorem dX8_day_57 : decode cX8_day 57 = .ok (.aload_n 0, 1) := by decide +kernel
theorem dX8_day_58 : decode cX8_day 58 = .ok (.iload_n 1, 1) := by decide +kernel
theorem dX8_day_59 : decode cX8_day 59 = .ok (.iload_n 2, 1) := by decide +kernel
theorem dX8_day_60 : decode cX8_day 60 = .ok (.iload_n 3, 1) := by decide +kernel
theorem dX8_day_61 : decode cX8_day 61 = .ok (.iconst 3, 1) := by decide +kernel
theorem dX8_day_62 : decode cX8_day 62 = .ok (.iload 4, 2) := by decide +kernel
theorem dX8_day_64 : decode cX8_day 64 = .ok (.imul, 1) := by decide +kernel
theorem dX8_day_65 : decode cX8_day 65 = .ok (.invokevirtual 108, 3) := by decide +kernel
theorem dX8_day_68 : decode cX8_day 68 = .ok (.istore 6, 2) := by decide +kernel
theorem dX8_day_70 : decode cX8_day 70 = .ok (.iload 6, 2) := by decide +kernel
theorem dX8_day_72 : decode cX8_day 72 = .ok (.ifCond .eq 10, 3) := by decide +kernel
theorem dX8_day_75 : decode cX8_day 75 = .ok (.aload_n 0, 1) := by decide +kernel
theorem dX8_day_76 : decode cX8_day 76 = .ok (.iload 6, 2) := by decide +kernel
theorem dX8_day_78 : decode cX8_day 78 = .ok (.invokevirtual 112, 3) := by decide +kernel
theorem dX8_day_81 : decode cX8_day 81 = .ok (.ireturn, 1) := by decide +kernel
theorem dX8_day_82 : decode cX8_day 82 = .ok (.aload_n 0, 1) := by decide +kernel
theorem dX8_day_83 : decode cX8_day 83 = .ok (.getfield 92, 3) := by decide +kernel
theorem dX8_day_86 : decode cX8_day 86 = .ok (.ifCond .ne 6, 3) := by decide +kernel
theorem dX8_day_89 : decode cX8_day 89 = .ok (.bipush (-3), 2) := by decide +kernel
theorem dX8_day_91 : decode cX8_day 91 = .ok (.ireturn, 1) := by decide +kernel
theorem dX8_day_92 : decode cX8_day 92 = .ok (.bipush 60, 2) := by decide +kernel
theorem dX8_day_94 : decode cX8_day 94 = .ok (.iload_n 1, 1) := by decide +kernel
theorem dX8_day_95 : decode cX8_day 95 = .ok (.imul, 1) := by decide +kernel
theorem dX8_day_96 : decode cX8_day 96 = .ok (.iload_n 3, 1) := by decide +kernel
theorem dX8_day_97 : decode cX8_day 97 = .ok (.iadd, 1) := by decide +kernel
theorem dX8_day_98 : decode cX8_day 98 = .ok (.istore 7, 2) := by decide +kernel
theorem dX8_day_100 : decode cX8_day 100 = .ok (.iconst 0, 1) := by decide +kernel
theorem dX8_day_101 : decode cX8_day 101 = .ok (.istore 8, 2) := by decide +kernel
theorem dX8_day_103 : decode cX8_day 103 = .ok (.iload 8, 2) := by decide +kernel
theorem dX8_day_105 : decode cX8_day 105 = .ok (.iload 4, 2) := by decide +kernel
theorem dX8_day_107 : decode cX8_day 107 = .ok (.if_icmp .ge 54, 3) := by decide +kernel
theorem dX8_day_110 : decode cX8_day 110 = .ok (.aload_n 0, 1) := by decide +kernel
theorem dX8_day_111 : decode cX8_day 111 = .ok (.getfield 16, 3) := by decide +kernel
theorem dX8_day_114 : decode cX8_day 114 = .ok (.iload 7, 2) := by decide +kernel
theorem dX8_day_116 : decode cX8_day 116 = .ok (.iconst 3, 1) := by decide +kernel
theorem dX8_day_117 : decode cX8_day 117 = .ok (.iload 8, 2) := by decide +kernel
theorem dX8_day_119 : decode cX8_day 119 = .ok (.imul, 1) := by decide +kernel
theorem dX8_day_120 : decode cX8_day 120 = .ok (.iadd, 1) := by decide +kernel
theorem dX8_day_121 : decode cX8_day 121 = .ok (.iaload, 1) := by decide +kernel
theorem dX8_day_122 : decode cX8_day 122 = .ok (.iconst 0, 1) := by decide +kernel
theorem dX8_day_123 : decode cX8_day 123 = .ok (.iconst 3, 1) := by decide +kernel
theorem dX8_day_124 : decode cX8_day 124 = .ok (.invokestatic 88, 3) := by decide +kernel
theorem dX8_day_127 : decode cX8_day 127 = .ok (.ifCond .ne 28, 3) := by decide +kernel
theorem dX8_day_130 : decode cX8_day 130 = .ok (.aload_n 0, 1) := by decide +kernel
theorem dX8_day_131 : decode cX8_day 131 = .ok (.getfield 16, 3) := by decide +kernel
theorem dX8_day_134 : decode cX8_day 134 = .ok (.iload 7, 2) := by decide +kernel
theorem dX8_day_136 : decode cX8_day 136 = .ok (.iconst 3, 1) := by decide +kernel
theorem dX8_day_137 : decode cX8_day 137 = .ok (.iload 8, 2) := by decide +kernel
theorem dX8_day_139 : decode cX8_day 139 = .ok (.imul, 1) := by decide +kernel
theorem dX8_day_140 : decode cX8_day 140 = .ok (.iadd, 1) := by decide +kernel
theorem dX8_day_141 : decode cX8_day 141 = .ok (.iaload, 1) := by decide +kernel
theorem dX8_day_142 : decode cX8_day 142 = .ok (.bipush 10, 2) := by decide +kernel
theorem dX8_day_144 : decode cX8_day 144 = .ok (.bipush 14, 2) := by decide +kernel
theorem dX8_day_146 : decode cX8_day 146 = .ok (.invokestatic 88, 3) := by decide +kernel
theorem dX8_day_149 : decode cX8_day 149 = .ok (.ifCond .ne 6, 3) := by decide +kernel
theorem dX8_day_152 : decode cX8_day 152 = .ok (.bipush (-2), 2) := by decide +kernel
theorem dX8_day_154 : decode cX8_day 154 = .ok (.ireturn, 1) := by decide +kernel
theorem dX8_day_155 : decode cX8_day 155 = .ok (.iinc 8 1, 3) := by decide +kernel
theorem dX8_day_158 : decode cX8_day 158 = .ok (.goto (-55), 3) := by decide +kernel
theorem dX8_day_161 : decode cX8_day 161 = .ok (.iconst 0, 1) := by decide +kernel
theorem dX8_day_162 : decode cX8_day 162 = .ok (.istore 8, 2) := by decide +kernel
theorem dX8_day_164 : decode cX8_day 164 = .ok (.iload 8, 2) := by decide +kernel
theorem dX8_day_166 : decode cX8_day 166 = .ok (.bipush 64, 2) := by decide +kernel
theorem dX8_day_168 : decode cX8_day 168 = .ok (.if_icmp .ge 23, 3) := by decide +kernel
theorem dX8_day_171 : decode cX8_day 171 = .ok (.aload_n 0, 1) := by decide +kernel
theorem dX8_day_172 : decode cX8_day 172 = .ok (.getfield 70, 3) := by decide +kernel
theorem dX8_day_175 : decode cX8_day 175 = .ok (.iload 8, 2) := by decide +kernel
theorem dX8_day_177 : decode cX8_day 177 = .ok (.aload_n 0, 1) := by decide +kernel
theorem dX8_day_178 : decode cX8_day 178 = .ok (.getfield 37, 3) := by decide +kernel
theorem dX8_day_181 : decode cX8_day 181 = .ok (.iload 8, 2) := by decide +kernel
theorem dX8_day_183 : decode cX8_day 183 = .ok (.iaload, 1) := by decide +kernel
theorem dX8_day_184 : decode cX8_day 184 = .ok (.iastore, 1) := by decide +kernel
theorem dX8_day_185 : decode cX8_day 185 = .ok (.iinc 8 1, 3) := by decide +kernel
theorem dX8_day_188 : decode cX8_day 188 = .ok (.goto (-24), 3) := by decide +kernel
theorem dX8_day_191 : decode cX8_day 191 = .ok (.iconst 0, 1) := by decide +kernel
theorem dX8_day_192 : decode cX8_day 192 = .ok (.istore 8, 2) := by decide +kernel
theorem dX8_day_194 : decode cX8_day 194 = .ok (.iload 8, 2) := by decide +kernel
theorem dX8_day_196 : decode cX8_day 196 = .ok (.iconst 5, 1) := by decide +kernel
theorem dX8_day_197 : decode cX8_day 197 = .ok (.if_icmp .ge 23, 3) := by decide +kernel
theorem dX8_day_200 : decode cX8_day 200 = .ok (.aload_n 0, 1) := by decide +kernel
theorem dX8_day_201 : decode cX8_day 201 = .ok (.getfield 73, 3) := by decide +kernel
theorem dX8_day_204 : decode cX8_day 204 = .ok (.iload 8, 2) := by decide +kernel
theorem dX8_day_206 : decode cX8_day 206 = .ok (.aload_n 0, 1) := by decide +kernel
theorem dX8_day_207 : decode cX8_day 207 = .ok (.getfield 25, 3) := by decide +kernel
theorem dX8_day_210 : decode cX8_day 210 = .ok (.iload 8, 2) := by decide +kernel
theorem dX8_day_212 : decode cX8_day 212 = .ok (.iaload, 1) := by decide +kernel
theorem dX8_day_213 : decode cX8_day 213 = .ok (.iastore, 1) := by decide +kernel
theorem dX8_day_214 : decode cX8_day 214 = .ok (.iinc 8 1, 3) := by decide +kernel
theorem dX8_day_217 : decode cX8_day 217 = .ok (.goto (-23), 3) := by decide +kernel
theorem dX8_day_220 : decode cX8_day 220 = .ok (.aload_n 0, 1) := by decide +kernel
theorem dX8_day_221 : decode cX8_day 221 = .ok (.iload 7, 2) := by decide +kernel
theorem dX8_day_223 : decode cX8_day 223 = .ok (.iload 4, 2) := by decide +kernel
theorem dX8_day_225 : decode cX8_day 225 = .ok (.invokevirtual 222, 3) := by decide +kernel
theorem dX8_day_228 : decode cX8_day 228 = .ok (.istore 8, 2) := by decide +kernel
theorem dX8_day_230 : decode cX8_day 230 = .ok (.aload_n 0, 1) := by decide +kernel
theorem dX8_day_231 : decode cX8_day 231 = .ok (.iload 5, 2) := by decide +kernel
theorem dX8_day_233 : decode cX8_day 233 = .ok (.invokevirtual 226, 3) := by decide +kernel
theorem dX8_day_236 : decode cX8_day 236 = .ok (.istore 9, 2) := by decide +kernel
theorem dX8_day_238 : decode cX8_day 238 = .ok (.iconst 0, 1) := by decide +kernel
theorem dX8_day_239 : decode cX8_day 239 = .ok (.istore 10, 2) := by decide +kernel
theorem dX8_day_241 : decode cX8_day 241 = .ok (.iload 10, 2) := by decide +kernel
theorem dX8_day_243 : decode cX8_day 243 = .ok (.bipush 64, 2) := by decide +kernel
theorem dX8_day_245 : decode cX8_day 245 = .ok (.if_icmp .ge 23, 3) := by decide +kernel
theorem dX8_day_248 : decode cX8_day 248 = .ok (.aload_n 0, 1) := by decide +kernel
theorem dX8_day_249 : decode cX8_day 249 = .ok (.getfield 37, 3) := by decide +kernel
theorem dX8_day_252 : decode cX8_day 252 = .ok (.iload 10, 2) := by decide +kernel
theorem dX8_day_254 : decode cX8_day 254 = .ok (.aload_n 0, 1) := by decide +kernel
theorem dX8_day_255 : decode cX8_day 255 = .ok (.getfield 70, 3) := by decide +kernel
theorem dX8_day_258 : decode cX8_day 258 = .ok (.iload 10, 2) := by decide +kernel
theorem dX8_day_260 : decode cX8_day 260 = .ok (.iaload, 1) := by decide +kernel
theorem dX8_day_261 : decode cX8_day 261 = .ok (.iastore, 1) := by decide +kernel
theorem dX8_day_262 : decode cX8_day 262 = .ok (.iinc 10 1, 3) := by decide +kernel
theorem dX8_day_265 : decode cX8_day 265 = .ok (.goto (-24), 3) := by decide +kernel
theorem dX8_day_268 : decode cX8_day 268 = .ok (.iconst 0, 1) := by decide +kernel
theorem dX8_day_269 : decode cX8_day 269 = .ok (.istore 10, 2) := by decide +kernel
theorem dX8_day_271 : decode cX8_day 271 = .ok (.iload 10, 2) := by decide +kernel
theorem dX8_day_273 : decode cX8_day 273 = .ok (.iconst 5, 1) := by decide +kernel
theorem dX8_day_274 : decode cX8_day 274 = .ok (.if_icmp .ge 23, 3) := by decide +kernel
theorem dX8_day_277 : decode cX8_day 277 = .ok (.aload_n 0, 1) := by decide +kernel
theorem dX8_day_278 : decode cX8_day 278 = .ok (.getfield 25, 3) := by decide +kernel
theorem dX8_day_281 : decode cX8_day 281 = .ok (.iload 10, 2) := by decide +kernel
theorem dX8_day_283 : decode cX8_day 283 = .ok (.aload_n 0, 1) := by decide +kernel
theorem dX8_day_284 : decode cX8_day 284 = .ok (.getfield 73, 3) := by decide +kernel
theorem dX8_day_287 : decode cX8_day 287 = .ok (.iload 10, 2) := by decide +kernel
theorem dX8_day_289 : decode cX8_day 289 = .ok (.iaload, 1) := by decide +kernel
theorem dX8_day_290 : decode cX8_day 290 = .ok (.iastore, 1) := by decide +kernel
theorem dX8_day_291 : decode cX8_day 291 = .ok (.iinc 10 1, 3) := by decide +kernel
theorem dX8_day_294 : decode cX8_day 294 = .ok (.goto (-23), 3) := by decide +kernel
theorem dX8_day_297 : decode cX8_day 297 = .ok (.iload 5, 2) := by decide +kernel
theorem dX8_day_299 : decode cX8_day 299 = .ok (.iconst 1, 1) := by decide +kernel
theorem dX8_day_300 : decode cX8_day 300 = .ok (.if_icmp .ne 8, 3) := by decide +kernel
theorem dX8_day_303 : decode cX8_day 303 = .ok (.iload 8, 2) := by decide +kernel
theorem dX8_day_305 : decode cX8_day 305 = .ok (.goto 20, 3) := by decide +kernel
theorem dX8_day_308 : decode cX8_day 308 = .ok (.iload 8, 2) := by decide +kernel
theorem dX8_day_310 : decode cX8_day 310 = .ok (.bipush (-9), 2) := by decide +kernel
theorem dX8_day_312 : decode cX8_day 312 = .ok (.if_icmp .ne 8, 3) := by decide +kernel
theorem dX8_day_315 : decode cX8_day 315 = .ok (.iload 9, 2) := by decide +kernel
theorem dX8_day_317 : decode cX8_day 317 = .ok (.goto 8, 3) := by decide +kernel
theorem dX8_day_320 : decode cX8_day 320 = .ok (.bipush (-100), 2) := by decide +kernel
theorem dX8_day_322 : decode cX8_day 322 = .ok (.iload 8, 2) := by decide +kernel
theorem dX8_day_324 : decode cX8_day 324 = .ok (.isub, 1) := by decide +kernel
theorem dX8_day_325 : decode cX8_day 325 = .ok (.ireturn, 1) := by decide +kernel
set_option maxRecDepth 20000 in
theorem ggX8_tellDay_X8_findCheap : GoodIn wsX8_tellDay wsX8_findCheap := goodIn_r _ [7, 2, 8, 9, 10, 11, 6, 12, 1, 13, 14, 15, 16, 17, 18, 19, 20, 21, 22, 23, 24, 25, 26, 27, 28, 29, 30, 31, 32, 33, 34, 35, 36, 37, 38, 39, 40, 41, 42, 43, 44, 45, 46, 47, 48, 49, 50, 51, 52, 53, 54, 55, 56, 78, 79, 80, 81, 82, 83, 84, 85, 86, 87, 88, 89, 90, 91, 92, 93, 94, 95, 96, 97, 98, 99, 100, 101, 102, 103, 104, 105, 106, 107, 108, 109, 110, 111] rfl aw_wsX8_findCheap
set_option maxRecDepth 20000 in
theorem gX8_tellDay_X8_findCheap : GoodIn wsX8_tellDay (wsV RX8 216 RX8 yX8_findCheap wsX8_findCheap) := goodIn_app (goodIn_r _ [3, 4, 5, 6] rfl (by decide +kernel)) ggX8_tellDay_X8_findCheap
set_option maxRecDepth 20000 in
theorem ggX8_tellDay_X8_isRelation : GoodIn wsX8_tellDay wsX8_isRelation := goodIn_r _ [60, 61, 78, 79, 80, 81, 82, 83, 84, 85, 86, 87, 88, 89, 90, 91, 92, 93, 94, 95, 96, 97, 98, 99, 100, 101, 102, 103, 104, 105, 106, 107, 108, 109, 110, 111] rfl aw_wsX8_isRelation
set_option maxRecDepth 20000 in
theorem gX8_tellDay_X8_isRelation : GoodIn wsX8_tellDay (wsV RX8 198 RX8 yX8_isRelation wsX8_isRelation) := goodIn_app (goodIn_r _ [57, 58, 59, 6] rfl (by decide +kernel)) ggX8_tellDay_X8_isRelation
set_option maxRecDepth 20000 in
theorem ggX8_tellDay_X8_countHeld : GoodIn wsX8_tellDay wsX8_countHeld := goodIn_r _ [65, 13, 78, 79, 80, 81, 82, 83, 84, 85, 86, 87, 88, 89, 90, 91, 92, 93, 94, 95, 96, 97, 98, 99, 100, 101, 102, 103, 104, 105, 106, 107, 108, 109, 110, 111] rfl aw_wsX8_countHeld
set_option maxRecDepth 20000 in
theorem gX8_tellDay_X8_countHeld : GoodIn wsX8_tellDay (wsV RX8 201 RX8 yX8_countHeld wsX8_countHeld) := goodIn_app (goodIn_r _ [62, 63, 64, 6] rfl (by decide +kernel)) ggX8_tellDay_X8_countHeld
set_option maxRecDepth 20000 in
theorem aw_wsX8_allHeld : wsX8_allHeld.all goodWord = true := by decide +kernel
set_option maxRecDepth 20000 in
theorem ggX8_tellDay_X8_allHeld : GoodIn wsX8_tellDay wsX8_allHeld := goodIn_r _ [69, 62, 63, 64, 6, 65, 13, 78, 79, 80, 81, 82, 83, 84, 85, 86, 87, 88, 89, 90, 91, 92, 93, 94, 95, 96, 97, 98, 99, 100, 101, 102, 103, 104, 105, 106, 107, 108, 109, 110, 111] rfl aw_wsX8_allHeld
set_option maxRecDepth 20000 in
theorem gX8_tellDay_X8_allHeld : GoodIn wsX8_tellDay (wsV RX8 229 RX8 yX8_allHeld wsX8_allHeld) := goodIn_app (goodIn_r _ [66, 67, 68, 6] rfl (by decide +kernel)) ggX8_tellDay_X8_allHeld
set_option maxRecDepth 20000 in
theorem aw_wsX8_allTold : wsX8_allTold.all goodWord = true := by decide +kernel
set_option maxRecDepth 20000 in
theorem ggX8_tellDay_X8_allTold : GoodIn wsX8_tellDay wsX8_allTold := goodIn_r _ [73, 74, 75, 76, 6, 77, 8, 78, 79, 80, 81, 82, 83, 84, 85, 86, 87, 88, 89, 90, 91, 92, 93, 94, 95, 96, 97, 98, 99, 100, 101, 102, 103, 104, 105, 106, 107, 108, 109, 110, 111] rfl aw_wsX8_allTold
set_option maxRecDepth 20000 in
theorem gX8_tellDay_X8_allTold : GoodIn wsX8_tellDay (wsV RX8 232 RX8 yX8_allTold wsX8_allTold) := goodIn_app (goodIn_r _ [70, 71, 72, 6] rfl (by decide +kernel)) ggX8_tellDay_X8_allTold
theorem dX8_tellDay_0 : decode cX8_tellDay 0 = .ok (.aload_n 0, 1) := by decide +kernel
theorem dX8_tellDay_1 : decode cX8_tellDay 1 = .ok (.invokevirtual 216, 3) := by decide +kernel
theorem dX8_tellDay_4 : decode cX8_tellDay 4 = .ok (.iload_n 1, 1) := by decide +kernel
theorem dX8_tellDay_5 : decode cX8_tellDay 5 = .ok (.bipush 10, 2) := by decide +kernel
theorem dX8_tellDay_7 : decode cX8_tellDay 7 = .ok (.if_icmp .lt 28, 3) := by decide +kernel
theorem dX8_tellDay_10 : decode cX8_tellDay 10 = .ok (.aload_n 0, 1) := by decide +kernel
theorem dX8_tellDay_11 : decode cX8_tellDay 11 = .ok (.iload_n 1, 1) := by decide +kernel
theorem dX8_tellDay_12 : decode cX8_tellDay 12 = .ok (.bipush 10, 2) := by decide +kernel
theorem dX8_tellDay_14 : decode cX8_tellDay 14 = .ok (.isub, 1) := by decide +kernel
theorem dX8_tellDay_15 : decode cX8_tellDay 15 = .ok (.invokevirtual 198, 3) := by decide +kernel
theorem dX8_tellDay_18 : decode cX8_tellDay 18 = .ok (.ifCond .eq 14, 3) := by decide +kernel
theorem dX8_tellDay_21 : decode cX8_tellDay 21 = .ok (.aload_n 0, 1) := by decide +kernel
theorem dX8_tellDay_22 : decode cX8_tellDay 22 = .ok (.iload_n 1, 1) := by decide +kernel
theorem dX8_tellDay_23 : decode cX8_tellDay 23 = .ok (.bipush 10, 2) := by decide +kernel
theorem dX8_tellDay_25 : decode cX8_tellDay 25 = .ok (.isub, 1) := by decide +kernel
theorem dX8_tellDay_26 : decode cX8_tellDay 26 = .ok (.invokevirtual 201, 3) := by decide +kernel
theorem dX8_tellDay_29 : decode cX8_tellDay 29 = .ok (.goto 5, 3) := by decide +kernel
theorem dX8_tellDay_32 : decode cX8_tellDay 32 = .ok (.bipush (-9), 2) := by decide +kernel
theorem dX8_tellDay_34 : decode cX8_tellDay 34 = .ok (.ireturn, 1) := by decide +kernel
theorem dX8_tellDay_35 : decode cX8_tellDay 35 = .ok (.iload_n 1, 1) := by decide +kernel
theorem dX8_tellDay_36 : decode cX8_tellDay 36 = .ok (.tableswitch 81 0 3 #[32, 81, 37, 42], 32) := by decide +kernel
theorem dX8_tellDay_68 : decode cX8_tellDay 68 = .ok (.aload_n 0, 1) := by decide +kernel
theorem dX8_tellDay_69 : decode cX8_tellDay 69 = .ok (.invokevirtual 229, 3) := by decide +kernel
theorem dX8_tellDay_72 : decode cX8_tellDay 72 = .ok (.ireturn, 1) := by decide +kernel
theorem dX8_tellDay_73 : decode cX8_tellDay 73 = .ok (.aload_n 0, 1) := by decide +kernel
theorem dX8_tellDay_74 : decode cX8_tellDay 74 = .ok (.getfield 170, 3) := by decide +kernel
theorem dX8_tellDay_77 : decode cX8_tellDay 77 = .ok (.ireturn, 1) := by decide +kernel
theorem dX8_tellDay_78 : decode cX8_tellDay 78 = .ok (.iconst 0, 1) := by decide +kernel
theorem dX8_tellDay_79 : decode cX8_tellDay 79 = .ok (.istore_n 2, 1) := by decide +kernel
theorem dX8_tellDay_80 : decode cX8_tellDay 80 = .ok (.iconst 0, 1) := by decide +kernel
theorem dX8_tellDay_81 : decode cX8_tellDay 81 = .ok (.istore_n 3, 1) := by decide +kernel
theorem dX8_tellDay_82 : decode cX8_tellDay 82 = .ok (.iload_n 3, 1) := by decide +kernel
theorem dX8_tellDay_83 : decode cX8_tellDay 83 = .ok (.bipush 64, 2) := by decide +kernel
theorem dX8_tellDay_85 : decode cX8_tellDay 85 = .ok (.if_icmp .ge 30, 3) := by decide +kernel
theorem dX8_tellDay_88 : decode cX8_tellDay 88 = .ok (.aload_n 0, 1) := by decide +kernel
theorem dX8_tellDay_89 : decode cX8_tellDay 89 = .ok (.getfield 61, 3) := by decide +kernel
theorem dX8_tellDay_92 : decode cX8_tellDay 92 = .ok (.iload_n 3, 1) := by decide +kernel
theorem dX8_tellDay_93 : decode cX8_tellDay 93 = .ok (.iaload, 1) := by decide +kernel
theorem dX8_tellDay_94 : decode cX8_tellDay 94 = .ok (.iload_n 2, 1) := by decide +kernel
theorem dX8_tellDay_95 : decode cX8_tellDay 95 = .ok (.if_icmp .le 12, 3) := by decide +kernel
theorem dX8_tellDay_98 : decode cX8_tellDay 98 = .ok (.aload_n 0, 1) := by decide +kernel
theorem dX8_tellDay_99 : decode cX8_tellDay 99 = .ok (.getfield 61, 3) := by decide +kernel
theorem dX8_tellDay_102 : decode cX8_tellDay 102 = .ok (.iload_n 3, 1) := by decide +kernel
theorem dX8_tellDay_103 : decode cX8_tellDay 103 = .ok (.iaload, 1) := by decide +kernel
theorem dX8_tellDay_104 : decode cX8_tellDay 104 = .ok (.goto 4, 3) := by decide +kernel
theorem dX8_tellDay_107 : decode cX8_tellDay 107 = .ok (.iload_n 2, 1) := by decide +kernel
theorem dX8_tellDay_108 : decode cX8_tellDay 108 = .ok (.istore_n 2, 1) := by decide +kernel
theorem dX8_tellDay_109 : decode cX8_tellDay 109 = .ok (.iinc 3 1, 3) := by decide +kernel
theorem dX8_tellDay_112 : decode cX8_tellDay 112 = .ok (.goto (-30), 3) := by decide +kernel
theorem dX8_tellDay_115 : decode cX8_tellDay 115 = .ok (.iload_n 2, 1) := by decide +kernel
theorem dX8_tellDay_116 : decode cX8_tellDay 116 = .ok (.ireturn, 1) := by decide +kernel
theorem dX8_tellDay_117 : decode cX8_tellDay 117 = .ok (.aload_n 0, 1) := by decide +kernel
theorem dX8_tellDay_118 : decode cX8_tellDay 118 = .ok (.invokevirtual 232, 3) := by decide +kernel
theorem dX8_tellDay_121 : decode cX8_tellDay 121 = .ok (.ireturn, 1) := by decide +kernel
set_option maxRecDepth 20000 in
theorem ggX8_allHeld_X8_countHeld : GoodIn wsX8_allHeld wsX8_countHeld := goodIn_r _ [5, 6, 7, 8, 9, 10, 11, 12, 13, 14, 15, 16, 17, 18, 19, 20, 21, 22, 23, 24, 25, 26, 27, 28, 29, 30, 31, 32, 33, 34, 35, 36, 37, 38, 39, 40] rfl aw_wsX8_countHeld
set_option maxRecDepth 20000 in
theorem gX8_allHeld_X8_countHeld : GoodIn wsX8_allHeld (wsV RX8 201 RX8 yX8_countHeld wsX8_countHeld) := goodIn_app (goodIn_r _ [1, 2, 3, 4] rfl (by decide +kernel)) ggX8_allHeld_X8_countHeld
theorem dX8_allHeld_0 : decode cX8_allHeld 0 = .ok (.aload_n 0, 1) := by decide +kernel
theorem dX8_allHeld_1 : decode cX8_allHeld 1 = .ok (.iconst 0, 1) := by decide +kernel
theorem dX8_allHeld_2 : decode cX8_allHeld 2 = .ok (.invokevirtual 201, 3) := by decide +kernel
theorem dX8_allHeld_5 : decode cX8_allHeld 5 = .ok (.aload_n 0, 1) := by decide +kernel
theorem dX8_allHeld_6 : decode cX8_allHeld 6 = .ok (.iconst 1, 1) := by decide +kernel
theorem dX8_allHeld_7 : decode cX8_allHeld 7 = .ok (.invokevirtual 201, 3) := by decide +kernel
theorem dX8_allHeld_10 : decode cX8_allHeld 10 = .ok (.iadd, 1) := by decide +kernel
theorem dX8_allHeld_11 : decode cX8_allHeld 11 = .ok (.aload_n 0, 1) := by decide +kernel
theorem dX8_allHeld_12 : decode cX8_allHeld 12 = .ok (.iconst 2, 1) := by decide +kernel
theorem dX8_allHeld_13 : decode cX8_allHeld 13 = .ok (.invokevirtual 201, 3) := by decide +kernel
theorem dX8_allHeld_16 : decode cX8_allHeld 16 = .ok (.iadd, 1) := by decide +kernel
theorem dX8_allHeld_17 : decode cX8_allHeld 17 = .ok (.aload_n 0, 1) := by decide +kernel
theorem dX8_allHeld_18 : decode cX8_allHeld 18 = .ok (.iconst 3, 1) := by decide +kernel
theorem dX8_allHeld_19 : decode cX8_allHeld 19 = .ok (.invokevirtual 201, 3) := by decide +kernel
theorem dX8_allHeld_22 : decode cX8_allHeld 22 = .ok (.iadd, 1) := by decide +kernel
theorem dX8_allHeld_23 : decode cX8_allHeld 23 = .ok (.ireturn, 1) := by decide +kernel
set_option maxRecDepth 20000 in
theorem ggX8_allTold_X8_countTold : GoodIn wsX8_allTold wsX8_countTold := goodIn_r _ [5, 6, 7, 8, 9, 10, 11, 12, 13, 14, 15, 16, 17, 18, 19, 20, 21, 22, 23, 24, 25, 26, 27, 28, 29, 30, 31, 32, 33, 34, 35, 36, 37, 38, 39, 40] rfl aw_wsX8_countTold
set_option maxRecDepth 20000 in
theorem gX8_allTold_X8_countTold : GoodIn wsX8_allTold (wsV RX8 204 RX8 yX8_countTold wsX8_countTold) := goodIn_app (goodIn_r _ [1, 2, 3, 4] rfl (by decide +kernel)) ggX8_allTold_X8_countTold
theorem dX8_allTold_0 : decode cX8_allTold 0 = .ok (.aload_n 0, 1) := by decide +kernel
theorem dX8_allTold_1 : decode cX8_allTold 1 = .ok (.iconst 0, 1) := by decide +kernel
theorem dX8_allTold_2 : decode cX8_allTold 2 = .ok (.invokevirtual 204, 3) := by decide +kernel
theorem dX8_allTold_5 : decode cX8_allTold 5 = .ok (.aload_n 0, 1) := by decide +kernel
theorem dX8_allTold_6 : decode cX8_allTold 6 = .ok (.iconst 1, 1) := by decide +kernel
theorem dX8_allTold_7 : decode cX8_allTold 7 = .ok (.invokevirtual 204, 3) := by decide +kernel
theorem dX8_allTold_10 : decode cX8_allTold 10 = .ok (.iadd, 1) := by decide +kernel
theorem dX8_allTold_11 : decode cX8_allTold 11 = .ok (.aload_n 0, 1) := by decide +kernel
theorem dX8_allTold_12 : decode cX8_allTold 12 = .ok (.iconst 2, 1) := by decide +kernel
theorem dX8_allTold_13 : decode cX8_allTold 13 = .ok (.invokevirtual 204, 3) := by decide +kernel
theorem dX8_allTold_16 : decode cX8_allTold 16 = .ok (.iadd, 1) := by decide +kernel
theorem dX8_allTold_17 : decode cX8_allTold 17 = .ok (.aload_n 0, 1) := by decide +kernel
theorem dX8_allTold_18 : decode cX8_allTold 18 = .ok (.iconst 3, 1) := by decide +kernel
theorem dX8_allTold_19 : decode cX8_allTold 19 = .ok (.invokevirtual 204, 3) := by decide +kernel
theorem dX8_allTold_22 : decode cX8_allTold 22 = .ok (.iadd, 1) := by decide +kernel
theorem dX8_allTold_23 : decode cX8_allTold 23 = .ok (.ireturn, 1) := by decide +kernel
set_option maxRecDepth 20000 in
theorem ggX8_rounds_X8_findHolds : GoodIn wsX8_rounds wsX8_findHolds := goodIn_r _ [7, 2, 8, 9, 10, 11, 12, 13, 6, 14, 15, 16, 17, 18, 19, 20, 21, 22, 23, 24, 25, 26, 27, 28, 29, 30, 31, 32, 33, 34, 35, 36, 37, 38, 39, 40, 41, 42, 43, 44, 45, 46, 47, 48, 49, 50, 51, 52, 53, 54, 55, 56, 57, 58, 59, 60, 61, 62, 63, 64, 65, 66] rfl aw_wsX8_findHolds
set_option maxRecDepth 20000 in
theorem gX8_rounds_X8_findHolds : GoodIn wsX8_rounds (wsV RX8 185 RX8 yX8_findHolds wsX8_findHolds) := goodIn_app (goodIn_r _ [3, 4, 5, 6] rfl (by decide +kernel)) ggX8_rounds_X8_findHolds
theorem dX8_rounds_0 : decode cX8_rounds 0 = .ok (.aload_n 0, 1) := by decide +kernel
theorem dX8_rounds_1 : decode cX8_rounds 1 = .ok (.getfield 92, 3) := by decide +kernel
theorem dX8_rounds_4 : decode cX8_rounds 4 = .ok (.ifCond .ne 6, 3) := by decide +kernel
theorem dX8_rounds_7 : decode cX8_rounds 7 = .ok (.bipush (-3), 2) := by decide +kernel
theorem dX8_rounds_9 : decode cX8_rounds 9 = .ok (.ireturn, 1) := by decide +kernel
theorem dX8_rounds_10 : decode cX8_rounds 10 = .ok (.aload_n 0, 1) := by decide +kernel
theorem dX8_rounds_11 : decode cX8_rounds 11 = .ok (.invokevirtual 185, 3) := by decide +kernel
theorem dX8_rounds_14 : decode cX8_rounds 14 = .ok (.aload_n 0, 1) := by decide +kernel
theorem dX8_rounds_15 : decode cX8_rounds 15 = .ok (.getfield 170, 3) := by decide +kernel
theorem dX8_rounds_18 : decode cX8_rounds 18 = .ok (.ireturn, 1) := by decide +kernel
set_option maxRecDepth 20000 in
theorem ggX8_born_X8_findHolds : GoodIn wsX8_born wsX8_findHolds := goodIn_r _ [8, 9, 2, 10, 3, 11, 12, 13, 7, 14, 15, 16, 17, 18, 19, 20, 21, 22, 23, 24, 25, 26, 27, 28, 29, 30, 31, 32, 33, 34, 35, 36, 37, 38, 39, 40, 41, 42, 43, 44, 45, 46, 47, 48, 49, 50, 51, 52, 53, 54, 55, 56, 57, 58, 59, 60, 61, 62, 63, 64, 65, 66] rfl aw_wsX8_findHolds
set_option maxRecDepth 20000 in
theorem gX8_born_X8_findHolds : GoodIn wsX8_born (wsV RX8 185 RX8 yX8_findHolds wsX8_findHolds) := goodIn_app (goodIn_r _ [4, 5, 6, 7] rfl (by decide +kernel)) ggX8_born_X8_findHolds
theorem dX8_born_0 : decode cX8_born 0 = .ok (.iload_n 1, 1) := by decide +kernel
theorem dX8_born_1 : decode cX8_born 1 = .ok (.ifCond .ge 6, 3) := by decide +kernel
theorem dX8_born_4 : decode cX8_born 4 = .ok (.bipush (-2), 2) := by decide +kernel
theorem dX8_born_6 : decode cX8_born 6 = .ok (.ireturn, 1) := by decide +kernel
theorem dX8_born_7 : decode cX8_born 7 = .ok (.aload_n 0, 1) := by decide +kernel
theorem dX8_born_8 : decode cX8_born 8 = .ok (.getfield 92, 3) := by decide +kernel
theorem dX8_born_11 : decode cX8_born 11 = .ok (.ifCond .ne 6, 3) := by decide +kernel
theorem dX8_born_14 : decode cX8_born 14 = .ok (.bipush (-3), 2) := by decide +kernel
theorem dX8_born_16 : decode cX8_born 16 = .ok (.ireturn, 1) := by decide +kernel
theorem dX8_born_17 : decode cX8_born 17 = .ok (.aload_n 0, 1) := by decide +kernel
theorem dX8_born_18 : decode cX8_born 18 = .ok (.invokevirtual 185, 3) := by decide +kernel
theorem dX8_born_21 : decode cX8_born 21 = .ok (.iconst 0, 1) := by decide +kernel
theorem dX8_born_22 : decode cX8_born 22 = .ok (.istore_n 2, 1) := by decide +kernel
theorem dX8_born_23 : decode cX8_born 23 = .ok (.iconst 0, 1) := by decide +kernel
theorem dX8_born_24 : decode cX8_born 24 = .ok (.istore_n 3, 1) := by decide +kernel
theorem dX8_born_25 : decode cX8_born 25 = .ok (.iload_n 3, 1) := by decide +kernel
theorem dX8_born_26 : decode cX8_born 26 = .ok (.bipush 64, 2) := by decide +kernel
theorem dX8_born_28 : decode cX8_born 28 = .ok (.if_icmp .ge 37, 3) := by decide +kernel
theorem dX8_born_31 : decode cX8_born 31 = .ok (.iload_n 2, 1) := by decide +kernel
theorem dX8_born_32 : decode cX8_born 32 = .ok (.aload_n 0, 1) := by decide +kernel
theorem dX8_born_33 : decode cX8_born 33 = .ok (.getfield 52, 3) := by decide +kernel
theorem dX8_born_36 : decode cX8_born 36 = .ok (.iload_n 3, 1) := by decide +kernel
theorem dX8_born_37 : decode cX8_born 37 = .ok (.iaload, 1) := by decide +kernel
theorem dX8_born_38 : decode cX8_born 38 = .ok (.iconst 1, 1) := by decide +kernel
theorem dX8_born_39 : decode cX8_born 39 = .ok (.if_icmp .ne 17, 3) := by decide +kernel
theorem dX8_born_42 : decode cX8_born 42 = .ok (.aload_n 0, 1) := by decide +kernel
theorem dX8_born_43 : decode cX8_born 43 = .ok (.getfield 58, 3) := by decide +kernel
theorem dX8_born_46 : decode cX8_born 46 = .ok (.iload_n 3, 1) := by decide +kernel
theorem dX8_born_47 : decode cX8_born 47 = .ok (.iaload, 1) := by decide +kernel
theorem dX8_born_48 : decode cX8_born 48 = .ok (.iload_n 1, 1) := by decide +kernel
theorem dX8_born_49 : decode cX8_born 49 = .ok (.if_icmp .ne 7, 3) := by decide +kernel
theorem dX8_born_52 : decode cX8_born 52 = .ok (.iconst 1, 1) := by decide +kernel
theorem dX8_born_53 : decode cX8_born 53 = .ok (.goto 4, 3) := by decide +kernel
theorem dX8_born_56 : decode cX8_born 56 = .ok (.iconst 0, 1) := by decide +kernel
theorem dX8_born_57 : decode cX8_born 57 = .ok (.iadd, 1) := by decide +kernel
theorem dX8_born_58 : decode cX8_born 58 = .ok (.istore_n 2, 1) := by decide +kernel
theorem dX8_born_59 : decode cX8_born 59 = .ok (.iinc 3 1, 3) := by decide +kernel
theorem dX8_born_62 : decode cX8_born 62 = .ok (.goto (-37), 3) := by decide +kernel
theorem dX8_born_65 : decode cX8_born 65 = .ok (.iload_n 2, 1) := by decide +kernel
theorem dX8_born_66 : decode cX8_born 66 = .ok (.ireturn, 1) := by decide +kernel
theorem dX8_isCheaper_0 : decode cX8_isCheaper 0 = .ok (.aload_n 0, 1) := by decide +kernel
theorem dX8_isCheaper_1 : decode cX8_isCheaper 1 = .ok (.getfield 61, 3) := by decide +kernel
theorem dX8_isCheaper_4 : decode cX8_isCheaper 4 = .ok (.iload_n 1, 1) := by decide +kernel
theorem dX8_isCheaper_5 : decode cX8_isCheaper 5 = .ok (.iaload, 1) := by decide +kernel
theorem dX8_isCheaper_6 : decode cX8_isCheaper 6 = .ok (.aload_n 0, 1) := by decide +kernel
theorem dX8_isCheaper_7 : decode cX8_isCheaper 7 = .ok (.getfield 61, 3) := by decide +kernel
theorem dX8_isCheaper_10 : decode cX8_isCheaper 10 = .ok (.iload_n 2, 1) := by decide +kernel
theorem dX8_isCheaper_11 : decode cX8_isCheaper 11 = .ok (.iaload, 1) := by decide +kernel
theorem dX8_isCheaper_12 : decode cX8_isCheaper 12 = .ok (.if_icmp .eq 26, 3) := by decide +kernel
theorem dX8_isCheaper_15 : decode cX8_isCheaper 15 = .ok (.aload_n 0, 1) := by decide +kernel
theorem dX8_isCheaper_16 : decode cX8_isCheaper 16 = .ok (.getfield 61, 3) := by decide +kernel
theorem dX8_isCheaper_19 : decode cX8_isCheaper 19 = .ok (.iload_n 1, 1) := by decide +kernel
theorem dX8_isCheaper_20 : decode cX8_isCheaper 20 = .ok (.iaload, 1) := by decide +kernel
theorem dX8_isCheaper_21 : decode cX8_isCheaper 21 = .ok (.aload_n 0, 1) := by decide +kernel
theorem dX8_isCheaper_22 : decode cX8_isCheaper 22 = .ok (.getfield 61, 3) := by decide +kernel
theorem dX8_isCheaper_25 : decode cX8_isCheaper 25 = .ok (.iload_n 2, 1) := by decide +kernel
theorem dX8_isCheaper_26 : decode cX8_isCheaper 26 = .ok (.iaload, 1) := by decide +kernel
theorem dX8_isCheaper_27 : decode cX8_isCheaper 27 = .ok (.if_icmp .ge 7, 3) := by decide +kernel
theorem dX8_isCheaper_30 : decode cX8_isCheaper 30 = .ok (.iconst 1, 1) := by decide +kernel
theorem dX8_isCheaper_31 : decode cX8_isCheaper 31 = .ok (.goto 17, 3) := by decide +kernel
theorem dX8_isCheaper_34 : decode cX8_isCheaper 34 = .ok (.iconst 0, 1) := by decide +kernel
theorem dX8_isCheaper_35 : decode cX8_isCheaper 35 = .ok (.goto 13, 3) := by decide +kernel
theorem dX8_isCheaper_38 : decode cX8_isCheaper 38 = .ok (.iload_n 1, 1) := by decide +kernel
theorem dX8_isCheaper_39 : decode cX8_isCheaper 39 = .ok (.iload_n 2, 1) := by decide +kernel
theorem dX8_isCheaper_40 : decode cX8_isCheaper 40 = .ok (.if_icmp .ge 7, 3) := by decide +kernel
theorem dX8_isCheaper_43 : decode cX8_isCheaper 43 = .ok (.iconst 1, 1) := by decide +kernel
theorem dX8_isCheaper_44 : decode cX8_isCheaper 44 = .ok (.goto 4, 3) := by decide +kernel
theorem dX8_isCheaper_47 : decode cX8_isCheaper 47 = .ok (.iconst 0, 1) := by decide +kernel
theorem dX8_isCheaper_48 : decode cX8_isCheaper 48 = .ok (.ireturn, 1) := by decide +kernel
set_option maxRecDepth 20000 in
theorem ggX8_ranked_X8_isRelation : GoodIn wsX8_ranked wsX8_isRelation := goodIn_r _ [6, 7, 66, 67, 68, 69, 70, 71, 72, 73, 74, 75, 76, 77, 78, 79, 80, 81, 82, 83, 84, 85, 86, 87, 88, 89, 90, 91, 92, 93, 94, 95, 96, 97, 98, 99] rfl aw_wsX8_isRelation
set_option maxRecDepth 20000 in
theorem gX8_ranked_X8_isRelation : GoodIn wsX8_ranked (wsV RX8 198 RX8 yX8_isRelation wsX8_isRelation) := goodIn_app (goodIn_r _ [2, 3, 4, 5] rfl (by decide +kernel)) ggX8_ranked_X8_isRelation
set_option maxRecDepth 20000 in
theorem ggX8_ranked_X8_findCheap : GoodIn wsX8_ranked wsX8_findCheap := goodIn_r _ [11, 12, 13, 14, 15, 16, 5, 17, 18, 1, 19, 20, 21, 22, 23, 24, 25, 26, 27, 28, 29, 30, 31, 32, 33, 34, 35, 36, 37, 38, 39, 40, 41, 42, 43, 44, 45, 46, 47, 48, 49, 50, 51, 52, 53, 54, 55, 56, 57, 58, 59, 60, 61, 66, 67, 68, 69, 70, 71, 72, 73, 74, 75, 76, 77, 78, 79, 80, 81, 82, 83, 84, 85, 86, 87, 88, 89, 90, 91, 92, 93, 94, 95, 96, 97, 98, 99] rfl aw_wsX8_findCheap
set_option maxRecDepth 20000 in
theorem gX8_ranked_X8_findCheap : GoodIn wsX8_ranked (wsV RX8 216 RX8 yX8_findCheap wsX8_findCheap) := goodIn_app (goodIn_r _ [8, 9, 10, 5] rfl (by decide +kernel)) ggX8_ranked_X8_findCheap
set_option maxRecDepth 20000 in
theorem aw_wsX8_isCheaper : wsX8_isCheaper.all goodWord = true := by decide +kernel
set_option maxRecDepth 20000 in
theorem ggX8_ranked_X8_isCheaper : GoodIn wsX8_ranked wsX8_isCheaper := goodIn_r _ [65, 12, 66, 67, 68, 69, 70, 71, 72, 73, 74, 75, 76, 77, 78, 79, 80, 81, 82, 83, 84, 85, 86, 87, 88, 89, 90, 91, 92, 93, 94, 95, 96, 97, 98, 99] rfl aw_wsX8_isCheaper
set_option maxRecDepth 20000 in
theorem gX8_ranked_X8_isCheaper : GoodIn wsX8_ranked (wsV RX8 235 RX8 yX8_isCheaper wsX8_isCheaper) := goodIn_app (goodIn_r _ [62, 63, 64, 5] rfl (by decide +kernel)) ggX8_ranked_X8_isCheaper
theorem dX8_ranked_0 : decode cX8_ranked 0 = .ok (.aload_n 0, 1) := by decide +kernel
theorem dX8_ranked_1 : decode cX8_ranked 1 = .ok (.iload_n 1, 1) := by decide +kernel
theorem dX8_ranked_2 : decode cX8_ranked 2 = .ok (.invokevirtual 198, 3) := by decide +kernel
theorem dX8_ranked_5 : decode cX8_ranked 5 = .ok (.ifCond .ne 5, 3) := by decide +kernel
theorem dX8_ranked_8 : decode cX8_ranked 8 = .ok (.iconst (-1), 1) := by decide +kernel
theorem dX8_ranked_9 : decode cX8_ranked 9 = .ok (.ireturn, 1) := by decide +kernel
theorem dX8_ranked_10 : decode cX8_ranked 10 = .ok (.iload_n 2, 1) := by decide +kernel
theorem dX8_ranked_11 : decode cX8_ranked 11 = .ok (.ifCond .ge 6, 3) := by decide +kernel
theorem dX8_ranked_14 : decode cX8_ranked 14 = .ok (.bipush (-2), 2) := by decide +kernel
theorem dX8_ranked_16 : decode cX8_ranked 16 = .ok (.ireturn, 1) := by decide +kernel
theorem dX8_ranked_17 : decode cX8_ranked 17 = .ok (.aload_n 0, 1) := by decide +kernel
theorem dX8_ranked_18 : decode cX8_ranked 18 = .ok (.invokevirtual 216, 3) := by decide +kernel
theorem dX8_ranked_21 : decode cX8_ranked 21 = .ok (.bipush 16, 2) := by decide +kernel
theorem dX8_ranked_23 : decode cX8_ranked 23 = .ok (.iload_n 1, 1) := by decide +kernel
theorem dX8_ranked_24 : decode cX8_ranked 24 = .ok (.imul, 1) := by decide +kernel
theorem dX8_ranked_25 : decode cX8_ranked 25 = .ok (.istore_n 3, 1) := by decide +kernel
theorem dX8_ranked_26 : decode cX8_ranked 26 = .ok (.iload_n 3, 1) := by decide +kernel
theorem dX8_ranked_27 : decode cX8_ranked 27 = .ok (.bipush 16, 2) := by decide +kernel
theorem dX8_ranked_29 : decode cX8_ranked 29 = .ok (.iload_n 1, 1) := by decide +kernel
theorem dX8_ranked_30 : decode cX8_ranked 30 = .ok (.iconst 1, 1) := by decide +kernel
theorem dX8_ranked_31 : decode cX8_ranked 31 = .ok (.iadd, 1) := by decide +kernel
theorem dX8_ranked_32 : decode cX8_ranked 32 = .ok (.imul, 1) := by decide +kernel
theorem dX8_ranked_33 : decode cX8_ranked 33 = .ok (.if_icmp .ge 89, 3) := by decide +kernel
theorem dX8_ranked_36 : decode cX8_ranked 36 = .ok (.iconst 0, 1) := by decide +kernel
theorem dX8_ranked_37 : decode cX8_ranked 37 = .ok (.istore 4, 2) := by decide +kernel
theorem dX8_ranked_39 : decode cX8_ranked 39 = .ok (.bipush 16, 2) := by decide +kernel
theorem dX8_ranked_41 : decode cX8_ranked 41 = .ok (.iload_n 1, 1) := by decide +kernel
theorem dX8_ranked_42 : decode cX8_ranked 42 = .ok (.imul, 1) := by decide +kernel
theorem dX8_ranked_43 : decode cX8_ranked 43 = .ok (.istore 5, 2) := by decide +kernel
theorem dX8_ranked_45 : decode cX8_ranked 45 = .ok (.iload 5, 2) := by decide +kernel
theorem dX8_ranked_47 : decode cX8_ranked 47 = .ok (.bipush 16, 2) := by decide +kernel
theorem dX8_ranked_49 : decode cX8_ranked 49 = .ok (.iload_n 1, 1) := by decide +kernel
theorem dX8_ranked_50 : decode cX8_ranked 50 = .ok (.iconst 1, 1) := by decide +kernel
theorem dX8_ranked_51 : decode cX8_ranked 51 = .ok (.iadd, 1) := by decide +kernel
theorem dX8_ranked_52 : decode cX8_ranked 52 = .ok (.imul, 1) := by decide +kernel
theorem dX8_ranked_53 : decode cX8_ranked 53 = .ok (.if_icmp .ge 40, 3) := by decide +kernel
theorem dX8_ranked_56 : decode cX8_ranked 56 = .ok (.iload 4, 2) := by decide +kernel
theorem dX8_ranked_58 : decode cX8_ranked 58 = .ok (.aload_n 0, 1) := by decide +kernel
theorem dX8_ranked_59 : decode cX8_ranked 59 = .ok (.getfield 52, 3) := by decide +kernel
theorem dX8_ranked_62 : decode cX8_ranked 62 = .ok (.iload 5, 2) := by decide +kernel
theorem dX8_ranked_64 : decode cX8_ranked 64 = .ok (.iaload, 1) := by decide +kernel
theorem dX8_ranked_65 : decode cX8_ranked 65 = .ok (.iconst 1, 1) := by decide +kernel
theorem dX8_ranked_66 : decode cX8_ranked 66 = .ok (.if_icmp .ne 17, 3) := by decide +kernel
theorem dX8_ranked_69 : decode cX8_ranked 69 = .ok (.aload_n 0, 1) := by decide +kernel
theorem dX8_ranked_70 : decode cX8_ranked 70 = .ok (.iload 5, 2) := by decide +kernel
theorem dX8_ranked_72 : decode cX8_ranked 72 = .ok (.iload_n 3, 1) := by decide +kernel
theorem dX8_ranked_73 : decode cX8_ranked 73 = .ok (.invokevirtual 235, 3) := by decide +kernel
theorem dX8_ranked_76 : decode cX8_ranked 76 = .ok (.ifCond .eq 7, 3) := by decide +kernel
theorem dX8_ranked_79 : decode cX8_ranked 79 = .ok (.iconst 1, 1) := by decide +kernel
theorem dX8_ranked_80 : decode cX8_ranked 80 = .ok (.goto 4, 3) := by decide +kernel
theorem dX8_ranked_83 : decode cX8_ranked 83 = .ok (.iconst 0, 1) := by decide +kernel
theorem dX8_ranked_84 : decode cX8_ranked 84 = .ok (.iadd, 1) := by decide +kernel
theorem dX8_ranked_85 : decode cX8_ranked 85 = .ok (.istore 4, 2) := by decide +kernel
theorem dX8_ranked_87 : decode cX8_ranked 87 = .ok (.iinc 5 1, 3) := by decide +kernel
theorem dX8_ranked_90 : decode cX8_ranked 90 = .ok (.goto (-45), 3) := by decide +kernel
theorem dX8_ranked_93 : decode cX8_ranked 93 = .ok (.aload_n 0, 1) := by decide +kernel
theorem dX8_ranked_94 : decode cX8_ranked 94 = .ok (.getfield 52, 3) := by decide +kernel
theorem dX8_ranked_97 : decode cX8_ranked 97 = .ok (.iload_n 3, 1) := by decide +kernel
theorem dX8_ranked_98 : decode cX8_ranked 98 = .ok (.iaload, 1) := by decide +kernel
theorem dX8_ranked_99 : decode cX8_ranked 99 = .ok (.iconst 1, 1) := by decide +kernel
theorem dX8_ranked_100 : decode cX8_ranked 100 = .ok (.if_icmp .ne 16, 3) := by decide +kernel
theorem dX8_ranked_103 : decode cX8_ranked 103 = .ok (.iload 4, 2) := by decide +kernel
theorem dX8_ranked_105 : decode cX8_ranked 105 = .ok (.iload_n 2, 1) := by decide +kernel
theorem dX8_ranked_106 : decode cX8_ranked 106 = .ok (.if_icmp .ne 10, 3) := by decide +kernel
theorem dX8_ranked_109 : decode cX8_ranked 109 = .ok (.iload_n 3, 1) := by decide +kernel
theorem dX8_ranked_110 : decode cX8_ranked 110 = .ok (.bipush 16, 2) := by decide +kernel
theorem dX8_ranked_112 : decode cX8_ranked 112 = .ok (.iload_n 1, 1) := by decide +kernel
theorem dX8_ranked_113 : decode cX8_ranked 113 = .ok (.imul, 1) := by decide +kernel
theorem dX8_ranked_114 : decode cX8_ranked 114 = .ok (.isub, 1) := by decide +kernel
theorem dX8_ranked_115 : decode cX8_ranked 115 = .ok (.ireturn, 1) := by decide +kernel
theorem dX8_ranked_116 : decode cX8_ranked 116 = .ok (.iinc 3 1, 3) := by decide +kernel
theorem dX8_ranked_119 : decode cX8_ranked 119 = .ok (.goto (-93), 3) := by decide +kernel
theorem dX8_ranked_122 : decode cX8_ranked 122 = .ok (.bipush (-9), 2) := by decide +kernel
theorem dX8_ranked_124 : decode cX8_ranked 124 = .ok (.ireturn, 1) := by decide +kernel
set_option maxRecDepth 20000 in
theorem ggX8_settled_X8_findCheap : GoodIn wsX8_settled wsX8_findCheap := goodIn_r _ [8, 9, 10, 11, 12, 13, 7, 14, 15, 3, 16, 17, 18, 19, 20, 2, 21, 22, 23, 24, 25, 26, 27, 28, 29, 30, 31, 32, 33, 34, 35, 36, 37, 38, 39, 40, 41, 42, 43, 44, 45, 46, 47, 48, 49, 50, 51, 52, 53, 54, 55, 56, 57, 62, 63, 64, 65, 66, 67, 68, 69, 70, 71, 72, 73, 74, 75, 76, 77, 78, 79, 80, 81, 82, 83, 84, 85, 86, 87, 88, 89, 90, 91, 92, 93, 94, 95] rfl aw_wsX8_findCheap
set_option maxRecDepth 20000 in
theorem gX8_settled_X8_findCheap : GoodIn wsX8_settled (wsV RX8 216 RX8 yX8_findCheap wsX8_findCheap) := goodIn_app (goodIn_r _ [4, 5, 6, 7] rfl (by decide +kernel)) ggX8_settled_X8_findCheap
set_option maxRecDepth 20000 in
theorem ggX8_settled_X8_isCheaper : GoodIn wsX8_settled wsX8_isCheaper := goodIn_r _ [61, 9, 62, 63, 64, 65, 66, 67, 68, 69, 70, 71, 72, 73, 74, 75, 76, 77, 78, 79, 80, 81, 82, 83, 84, 85, 86, 87, 88, 89, 90, 91, 92, 93, 94, 95] rfl aw_wsX8_isCheaper
set_option maxRecDepth 20000 in
theorem gX8_settled_X8_isCheaper : GoodIn wsX8_settled (wsV RX8 235 RX8 yX8_isCheaper wsX8_isCheaper) := goodIn_app (goodIn_r _ [58, 59, 60, 7] rfl (by decide +kernel)) ggX8_settled_X8_isCheaper
theorem dX8_settled_0 : decode cX8_settled 0 = .ok (.iload_n 1, 1) := by decide +kernel
theorem dX8_settled_1 : decode cX8_settled 1 = .ok (.ifCond .ge 6, 3) := by decide +kernel
theorem dX8_settled_4 : decode cX8_settled 4 = .ok (.bipush (-2), 2) := by decide +kernel
theorem dX8_settled_6 : decode cX8_settled 6 = .ok (.ireturn, 1) := by decide +kernel
theorem dX8_settled_7 : decode cX8_settled 7 = .ok (.aload_n 0, 1) := by decide +kernel
theorem dX8_settled_8 : decode cX8_settled 8 = .ok (.getfield 92, 3) := by decide +kernel
theorem dX8_settled_11 : decode cX8_settled 11 = .ok (.ifCond .ne 6, 3) := by decide +kernel
theorem dX8_settled_14 : decode cX8_settled 14 = .ok (.bipush (-3), 2) := by decide +kernel
theorem dX8_settled_16 : decode cX8_settled 16 = .ok (.ireturn, 1) := by decide +kernel
theorem dX8_settled_17 : decode cX8_settled 17 = .ok (.aload_n 0, 1) := by decide +kernel
theorem dX8_settled_18 : decode cX8_settled 18 = .ok (.invokevirtual 216, 3) := by decide +kernel
theorem dX8_settled_21 : decode cX8_settled 21 = .ok (.iconst 0, 1) := by decide +kernel
theorem dX8_settled_22 : decode cX8_settled 22 = .ok (.istore_n 2, 1) := by decide +kernel
theorem dX8_settled_23 : decode cX8_settled 23 = .ok (.iload_n 2, 1) := by decide +kernel
theorem dX8_settled_24 : decode cX8_settled 24 = .ok (.bipush 64, 2) := by decide +kernel
theorem dX8_settled_26 : decode cX8_settled 26 = .ok (.if_icmp .ge 105, 3) := by decide +kernel
theorem dX8_settled_29 : decode cX8_settled 29 = .ok (.iconst 0, 1) := by decide +kernel
theorem dX8_settled_30 : decode cX8_settled 30 = .ok (.istore_n 3, 1) := by decide +kernel
theorem dX8_settled_31 : decode cX8_settled 31 = .ok (.iconst 0, 1) := by decide +kernel
theorem dX8_settled_32 : decode cX8_settled 32 = .ok (.istore 4, 2) := by decide +kernel
theorem dX8_settled_34 : decode cX8_settled 34 = .ok (.iload 4, 2) := by decide +kernel
theorem dX8_settled_36 : decode cX8_settled 36 = .ok (.bipush 64, 2) := by decide +kernel
theorem dX8_settled_38 : decode cX8_settled 38 = .ok (.if_icmp .ge 70, 3) := by decide +kernel
theorem dX8_settled_41 : decode cX8_settled 41 = .ok (.aload_n 0, 1) := by decide +kernel
theorem dX8_settled_42 : decode cX8_settled 42 = .ok (.getfield 49, 3) := by decide +kernel
theorem dX8_settled_45 : decode cX8_settled 45 = .ok (.iload 4, 2) := by decide +kernel
theorem dX8_settled_47 : decode cX8_settled 47 = .ok (.bipush 16, 2) := by decide +kernel
theorem dX8_settled_49 : decode cX8_settled 49 = .ok (.idiv, 1) := by decide +kernel
theorem dX8_settled_50 : decode cX8_settled 50 = .ok (.iaload, 1) := by decide +kernel
theorem dX8_settled_51 : decode cX8_settled 51 = .ok (.aload_n 0, 1) := by decide +kernel
theorem dX8_settled_52 : decode cX8_settled 52 = .ok (.getfield 49, 3) := by decide +kernel
theorem dX8_settled_55 : decode cX8_settled 55 = .ok (.iload_n 2, 1) := by decide +kernel
theorem dX8_settled_56 : decode cX8_settled 56 = .ok (.bipush 16, 2) := by decide +kernel
theorem dX8_settled_58 : decode cX8_settled 58 = .ok (.idiv, 1) := by decide +kernel
theorem dX8_settled_59 : decode cX8_settled 59 = .ok (.iaload, 1) := by decide +kernel
theorem dX8_settled_60 : decode cX8_settled 60 = .ok (.isub, 1) := by decide +kernel
theorem dX8_settled_61 : decode cX8_settled 61 = .ok (.istore 5, 2) := by decide +kernel
theorem dX8_settled_63 : decode cX8_settled 63 = .ok (.iload_n 3, 1) := by decide +kernel
theorem dX8_settled_64 : decode cX8_settled 64 = .ok (.aload_n 0, 1) := by decide +kernel
theorem dX8_settled_65 : decode cX8_settled 65 = .ok (.getfield 52, 3) := by decide +kernel
theorem dX8_settled_68 : decode cX8_settled 68 = .ok (.iload 4, 2) := by decide +kernel
theorem dX8_settled_70 : decode cX8_settled 70 = .ok (.iaload, 1) := by decide +kernel
theorem dX8_settled_71 : decode cX8_settled 71 = .ok (.iconst 1, 1) := by decide +kernel
theorem dX8_settled_72 : decode cX8_settled 72 = .ok (.if_icmp .ne 27, 3) := by decide +kernel
theorem dX8_settled_75 : decode cX8_settled 75 = .ok (.iload 5, 2) := by decide +kernel
theorem dX8_settled_77 : decode cX8_settled 77 = .ok (.ifCond .lt 18, 3) := by decide +kernel
theorem dX8_settled_80 : decode cX8_settled 80 = .ok (.iload 5, 2) := by decide +kernel
theorem dX8_settled_82 : decode cX8_settled 82 = .ok (.ifCond .ne 17, 3) := by decide +kernel
theorem dX8_settled_85 : decode cX8_settled 85 = .ok (.aload_n 0, 1) := by decide +kernel
theorem dX8_settled_86 : decode cX8_settled 86 = .ok (.iload 4, 2) := by decide +kernel
theorem dX8_settled_88 : decode cX8_settled 88 = .ok (.iload_n 2, 1) := by decide +kernel
theorem dX8_settled_89 : decode cX8_settled 89 = .ok (.invokevirtual 235, 3) := by decide +kernel
theorem dX8_settled_92 : decode cX8_settled 92 = .ok (.ifCond .eq 7, 3) := by decide +kernel
theorem dX8_settled_95 : decode cX8_settled 95 = .ok (.iconst 1, 1) := by decide +kernel
theorem dX8_settled_96 : decode cX8_settled 96 = .ok (.goto 4, 3) := by decide +kernel
theorem dX8_settled_99 : decode cX8_settled 99 = .ok (.iconst 0, 1) := by decide +kernel
theorem dX8_settled_100 : decode cX8_settled 100 = .ok (.iadd, 1) := by decide +kernel
theorem dX8_settled_101 : decode cX8_settled 101 = .ok (.istore_n 3, 1) := by decide +kernel
theorem dX8_settled_102 : decode cX8_settled 102 = .ok (.iinc 4 1, 3) := by decide +kernel
theorem dX8_settled_105 : decode cX8_settled 105 = .ok (.goto (-71), 3) := by decide +kernel
theorem dX8_settled_108 : decode cX8_settled 108 = .ok (.aload_n 0, 1) := by decide +kernel
theorem dX8_settled_109 : decode cX8_settled 109 = .ok (.getfield 52, 3) := by decide +kernel
theorem dX8_settled_112 : decode cX8_settled 112 = .ok (.iload_n 2, 1) := by decide +kernel
theorem dX8_settled_113 : decode cX8_settled 113 = .ok (.iaload, 1) := by decide +kernel
theorem dX8_settled_114 : decode cX8_settled 114 = .ok (.iconst 1, 1) := by decide +kernel
theorem dX8_settled_115 : decode cX8_settled 115 = .ok (.if_icmp .ne 10, 3) := by decide +kernel
theorem dX8_settled_118 : decode cX8_settled 118 = .ok (.iload_n 3, 1) := by decide +kernel
theorem dX8_settled_119 : decode cX8_settled 119 = .ok (.iload_n 1, 1) := by decide +kernel
theorem dX8_settled_120 : decode cX8_settled 120 = .ok (.if_icmp .ne 5, 3) := by decide +kernel
theorem dX8_settled_123 : decode cX8_settled 123 = .ok (.iload_n 2, 1) := by decide +kernel
theorem dX8_settled_124 : decode cX8_settled 124 = .ok (.ireturn, 1) := by decide +kernel
theorem dX8_settled_125 : decode cX8_settled 125 = .ok (.iinc 2 1, 3) := by decide +kernel
theorem dX8_settled_128 : decode cX8_settled 128 = .ok (.goto (-105), 3) := by decide +kernel
