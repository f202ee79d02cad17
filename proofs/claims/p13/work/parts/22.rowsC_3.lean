theorem dX7_ofRule_115 : decode cX7_ofRule 115 = .ok (.goto 5, 3) := by decide +kernel
theorem dX7_ofRule_118 : decode cX7_ofRule 118 = .ok (.bipush (-9), 2) := by decide +kernel
theorem dX7_ofRule_120 : decode cX7_ofRule 120 = .ok (.ireturn, 1) := by decide +kernel
theorem dX7_ofRule_121 : decode cX7_ofRule 121 = .ok (.bipush (-2), 2) := by decide +kernel
theorem dX7_ofRule_123 : decode cX7_ofRule 123 = .ok (.ireturn, 1) := by decide +kernel
set_option maxRecDepth 20000 in
theorem aw_wsX7_isRelation : wsX7_isRelation.all goodWord = true := by decide +kernel
set_option maxRecDepth 20000 in
theorem ggX7_ofRelation_X7_isRelation : GoodIn wsX7_ofRelation wsX7_isRelation := goodIn_r _ [12, 1, 6, 13, 159, 160, 161, 162, 163, 164, 165, 166, 167, 168, 169, 170, 171, 172, 182, 183, 184, 185, 186, 187, 188, 189, 190] rfl aw_wsX7_isRelation
set_option maxRecDepth 20000 in
theorem gX7_ofRelation_X7_isRelation : GoodIn wsX7_ofRelation (wsV RX7 132 RX7 yX7_isRelation wsX7_isRelation) := goodIn_app (goodIn_r _ [8, 9, 10, 11] rfl (by decide +kernel)) ggX7_ofRelation_X7_isRelation
set_option maxRecDepth 20000 in
theorem aw_wsX6_settle : wsX6_settle.all goodWord = true := by decide +kernel
set_option maxRecDepth 20000 in
theorem ggX7_ofRelation_X6_settle : GoodIn wsX7_ofRelation wsX6_settle := goodIn_r _ [18, 19, 20, 21, 22, 23, 24, 25, 26, 27, 28, 29, 30, 31, 32, 33, 34, 35, 36, 37, 38, 39, 40, 41, 42, 43, 44, 45, 46, 47, 48, 49, 50, 51, 52, 53, 54, 55, 56, 57, 58, 59, 60, 61, 62, 63, 64, 65, 66, 67, 68, 69, 70, 71, 72, 73, 74, 75, 76, 77, 78, 79, 80, 81, 82, 83, 84, 85, 86, 87, 88, 89, 90, 91, 92, 11, 93, 94, 95, 96, 97, 98, 99, 100, 101, 102, 103, 104, 105, 106, 107, 108, 109, 110, 111, 112, 113, 114, 115, 116, 117, 118, 119, 120, 121, 122, 123, 124, 125, 126, 127, 128, 129, 130, 131, 132, 133, 134, 135, 136, 137, 138, 139, 140, 141, 142, 143, 144, 145, 168, 169, 170, 171, 172, 173, 174, 175, 182, 183, 184, 185, 186, 187, 188, 189, 190, 176, 177, 178, 179, 180, 181, 191, 192, 193, 194, 195, 196, 197] rfl aw_wsX6_settle
set_option maxRecDepth 20000 in
theorem gX7_ofRelation_X6_settle : GoodIn wsX7_ofRelation (wsV RX7 135 RX6 yX6_settle wsX6_settle) := goodIn_app (goodIn_r _ [14, 15, 16, 17] rfl (by decide +kernel)) ggX7_ofRelation_X6_settle
set_option maxRecDepth 20000 in
theorem ggX7_ofRelation_J6_bitCount_0f7a4 : GoodIn wsX7_ofRelation wsJ6_bitCount_0f7a4 := goodIn_r _ [149, 150, 151, 152] rfl aw_wsJ6_bitCount_0f7a4
set_option maxRecDepth 20000 in
theorem gX7_ofRelation_J6_bitCount_0f7a4 : GoodIn wsX7_ofRelation (va_wsS RX7 150 yJ6_bitCount_0f7a4 wsJ6_bitCount_0f7a4) := goodIn_app (goodIn_r _ [146, 147, 148] rfl (by decide +kernel)) ggX7_ofRelation_J6_bitCount_0f7a4
set_option maxRecDepth 20000 in
theorem aw_wsX2_rulesOfHead : wsX2_rulesOfHead.all goodWord = true := by decide +kernel
set_option maxRecDepth 20000 in
theorem ggX7_ofRelation_X2_rulesOfHead : GoodIn wsX7_ofRelation wsX2_rulesOfHead := goodIn_r _ [156, 157, 158, 182, 183, 184, 185, 186, 187, 188, 189, 190] rfl aw_wsX2_rulesOfHead
set_option maxRecDepth 20000 in
theorem gX7_ofRelation_X2_rulesOfHead : GoodIn wsX7_ofRelation (wsV RX7 158 RX2 yX2_rulesOfHead wsX2_rulesOfHead) := goodIn_app (goodIn_r _ [153, 154, 155, 54] rfl (by decide +kernel)) ggX7_ofRelation_X2_rulesOfHead
theorem dX7_ofRelation_0 : decode cX7_ofRelation 0 = .ok (.aload_n 0, 1) := by decide +kernel
theorem dX7_ofRelation_1 : decode cX7_ofRelation 1 = .ok (.iload_n 1, 1) := by decide +kernel
theorem dX7_ofRelation_2 : decode cX7_ofRelation 2 = .ok (.invokevirtual 132, 3) := by decide +kernel
theorem dX7_ofRelation_5 : decode cX7_ofRelation 5 = .ok (.ifCond .ne 5, 3) := by decide +kernel
theorem dX7_ofRelation_8 : decode cX7_ofRelation 8 = .ok (.iconst (-1), 1) := by decide +kernel
theorem dX7_ofRelation_9 : decode cX7_ofRelation 9 = .ok (.ireturn, 1) := by decide +kernel
theorem dX7_ofRelation_10 : decode cX7_ofRelation 10 = .ok (.aload_n 0, 1) := by decide +kernel
theorem dX7_ofRelation_11 : decode cX7_ofRelation 11 = .ok (.getfield 21, 3) := by decide +kernel
theorem dX7_ofRelation_14 : decode cX7_ofRelation 14 = .ok (.invokevirtual 135, 3) := by decide +kernel
theorem dX7_ofRelation_17 : decode cX7_ofRelation 17 = .ok (.iload_n 2, 1) := by decide +kernel
theorem dX7_ofRelation_18 : decode cX7_ofRelation 18 = .ok (.tableswitch 87 0 3 #[30, 43, 59, 75], 30) := by decide +kernel
theorem dX7_ofRelation_48 : decode cX7_ofRelation 48 = .ok (.aload_n 0, 1) := by decide +kernel
theorem dX7_ofRelation_49 : decode cX7_ofRelation 49 = .ok (.getfield 21, 3) := by decide +kernel
theorem dX7_ofRelation_52 : decode cX7_ofRelation 52 = .ok (.getfield 79, 3) := by decide +kernel
theorem dX7_ofRelation_55 : decode cX7_ofRelation 55 = .ok (.getfield 138, 3) := by decide +kernel
theorem dX7_ofRelation_58 : decode cX7_ofRelation 58 = .ok (.iload_n 1, 1) := by decide +kernel
theorem dX7_ofRelation_59 : decode cX7_ofRelation 59 = .ok (.iaload, 1) := by decide +kernel
theorem dX7_ofRelation_60 : decode cX7_ofRelation 60 = .ok (.ireturn, 1) := by decide +kernel
theorem dX7_ofRelation_61 : decode cX7_ofRelation 61 = .ok (.aload_n 0, 1) := by decide +kernel
theorem dX7_ofRelation_62 : decode cX7_ofRelation 62 = .ok (.getfield 21, 3) := by decide +kernel
theorem dX7_ofRelation_65 : decode cX7_ofRelation 65 = .ok (.getfield 141, 3) := by decide +kernel
theorem dX7_ofRelation_68 : decode cX7_ofRelation 68 = .ok (.getfield 145, 3) := by decide +kernel
theorem dX7_ofRelation_71 : decode cX7_ofRelation 71 = .ok (.iload_n 1, 1) := by decide +kernel
theorem dX7_ofRelation_72 : decode cX7_ofRelation 72 = .ok (.iaload, 1) := by decide +kernel
theorem dX7_ofRelation_73 : decode cX7_ofRelation 73 = .ok (.invokestatic 150, 3) := by decide +kernel
theorem dX7_ofRelation_76 : decode cX7_ofRelation 76 = .ok (.ireturn, 1) := by decide +kernel
theorem dX7_ofRelation_77 : decode cX7_ofRelation 77 = .ok (.aload_n 0, 1) := by decide +kernel
theorem dX7_ofRelation_78 : decode cX7_ofRelation 78 = .ok (.getfield 21, 3) := by decide +kernel
theorem dX7_ofRelation_81 : decode cX7_ofRelation 81 = .ok (.getfield 68, 3) := by decide +kernel
theorem dX7_ofRelation_84 : decode cX7_ofRelation 84 = .ok (.getfield 155, 3) := by decide +kernel
theorem dX7_ofRelation_87 : decode cX7_ofRelation 87 = .ok (.iload_n 1, 1) := by decide +kernel
theorem dX7_ofRelation_88 : decode cX7_ofRelation 88 = .ok (.iaload, 1) := by decide +kernel
theorem dX7_ofRelation_89 : decode cX7_ofRelation 89 = .ok (.invokestatic 150, 3) := by decide +kernel
theorem dX7_ofRelation_92 : decode cX7_ofRelation 92 = .ok (.ireturn, 1) := by decide +kernel
theorem dX7_ofRelation_93 : decode cX7_ofRelation 93 = .ok (.aload_n 0, 1) := by decide +kernel
theorem dX7_ofRelation_94 : decode cX7_ofRelation 94 = .ok (.getfield 21, 3) := by decide +kernel
theorem dX7_ofRelation_97 : decode cX7_ofRelation 97 = .ok (.getfield 68, 3) := by decide +kernel
theorem dX7_ofRelation_100 : decode cX7_ofRelation 100 = .ok (.iload_n 1, 1) := by decide +kernel
theorem dX7_ofRelation_101 : decode cX7_ofRelation 101 = .ok (.invokevirtual 158, 3) := by decide +kernel
theorem dX7_ofRelation_104 : decode cX7_ofRelation 104 = .ok (.ireturn, 1) := by decide +kernel
theorem dX7_ofRelation_105 : decode cX7_ofRelation 105 = .ok (.bipush (-2), 2) := by decide +kernel
theorem dX7_ofRelation_107 : decode cX7_ofRelation 107 = .ok (.ireturn, 1) := by decide +kernel
set_option maxRecDepth 20000 in
theorem ggX7_form_X7_isRule : GoodIn wsX7_form wsX7_isRule := goodIn_r _ [8, 1, 2, 9, 58, 59, 60, 61, 62, 63, 64, 65, 66, 67, 68, 69, 70, 71, 72, 73, 74, 75, 76, 77, 78, 79, 80] rfl aw_wsX7_isRule
set_option maxRecDepth 20000 in
theorem gX7_form_X7_isRule : GoodIn wsX7_form (wsV RX7 105 RX7 yX7_isRule wsX7_isRule) := goodIn_app (goodIn_r _ [4, 5, 6, 7] rfl (by decide +kernel)) ggX7_form_X7_isRule
set_option maxRecDepth 20000 in
theorem aw_wsX2_fits : wsX2_fits.all goodWord = true := by decide +kernel
set_option maxRecDepth 20000 in
theorem ggX7_form_X2_fits : GoodIn wsX7_form wsX2_fits := goodIn_r _ [14, 15, 16, 17, 13, 18, 19, 72, 73, 74, 75, 76, 77, 78, 79, 80] rfl aw_wsX2_fits
set_option maxRecDepth 20000 in
theorem gX7_form_X2_fits : GoodIn wsX7_form (wsV RX7 161 RX2 yX2_fits wsX2_fits) := goodIn_app (goodIn_r _ [10, 11, 12, 13] rfl (by decide +kernel)) ggX7_form_X2_fits
set_option maxRecDepth 20000 in
theorem aw_wsX6_reforms : wsX6_reforms.all goodWord = true := by decide +kernel
set_option maxRecDepth 20000 in
theorem ggX7_form_X6_reforms : GoodIn wsX7_form wsX6_reforms := goodIn_r _ [24, 25, 26, 27, 28, 29, 30, 31, 32, 33, 34, 35, 36, 37, 38, 39, 40, 41, 42, 43, 44, 45, 46, 47, 48, 49, 50, 51, 52, 53, 54, 55, 56, 57, 16, 17, 13, 18, 19, 67, 68, 69, 70, 71, 72, 73, 74, 75, 76, 77, 78, 79, 80, 81, 82, 83] rfl aw_wsX6_reforms
set_option maxRecDepth 20000 in
theorem gX7_form_X6_reforms : GoodIn wsX7_form (wsV RX7 164 RX6 yX6_reforms wsX6_reforms) := goodIn_app (goodIn_r _ [20, 21, 22, 23] rfl (by decide +kernel)) ggX7_form_X6_reforms
theorem dX7_form_0 : decode cX7_form 0 = .ok (.aload_n 0, 1) := by decide +kernel
theorem dX7_form_1 : decode cX7_form 1 = .ok (.iload_n 1, 1) := by decide +kernel
theorem dX7_form_2 : decode cX7_form 2 = .ok (.invokevirtual 105, 3) := by decide +kernel
theorem dX7_form_5 : decode cX7_form 5 = .ok (.ifCond .ne 5, 3) := by decide +kernel
theorem dX7_form_8 : decode cX7_form 8 = .ok (.iconst (-1), 1) := by decide +kernel
theorem dX7_form_9 : decode cX7_form 9 = .ok (.ireturn, 1) := by decide +kernel
theorem dX7_form_10 : decode cX7_form 10 = .ok (.aload_n 0, 1) := by decide +kernel
theorem dX7_form_11 : decode cX7_form 11 = .ok (.getfield 21, 3) := by decide +kernel
theorem dX7_form_14 : decode cX7_form 14 = .ok (.getfield 68, 3) := by decide +kernel
theorem dX7_form_17 : decode cX7_form 17 = .ok (.iload_n 1, 1) := by decide +kernel
theorem dX7_form_18 : decode cX7_form 18 = .ok (.iload_n 2, 1) := by decide +kernel
theorem dX7_form_19 : decode cX7_form 19 = .ok (.invokevirtual 161, 3) := by decide +kernel
theorem dX7_form_22 : decode cX7_form 22 = .ok (.ifCond .ne 6, 3) := by decide +kernel
theorem dX7_form_25 : decode cX7_form 25 = .ok (.bipush (-2), 2) := by decide +kernel
theorem dX7_form_27 : decode cX7_form 27 = .ok (.ireturn, 1) := by decide +kernel
theorem dX7_form_28 : decode cX7_form 28 = .ok (.aload_n 0, 1) := by decide +kernel
theorem dX7_form_29 : decode cX7_form 29 = .ok (.getfield 21, 3) := by decide +kernel
theorem dX7_form_32 : decode cX7_form 32 = .ok (.getfield 68, 3) := by decide +kernel
theorem dX7_form_35 : decode cX7_form 35 = .ok (.getfield 117, 3) := by decide +kernel
theorem dX7_form_38 : decode cX7_form 38 = .ok (.iload_n 1, 1) := by decide +kernel
theorem dX7_form_39 : decode cX7_form 39 = .ok (.iaload, 1) := by decide +kernel
theorem dX7_form_40 : decode cX7_form 40 = .ok (.istore_n 3, 1) := by decide +kernel
theorem dX7_form_41 : decode cX7_form 41 = .ok (.aload_n 0, 1) := by decide +kernel
theorem dX7_form_42 : decode cX7_form 42 = .ok (.getfield 21, 3) := by decide +kernel
theorem dX7_form_45 : decode cX7_form 45 = .ok (.iload_n 1, 1) := by decide +kernel
theorem dX7_form_46 : decode cX7_form 46 = .ok (.iload_n 2, 1) := by decide +kernel
theorem dX7_form_47 : decode cX7_form 47 = .ok (.invokevirtual 164, 3) := by decide +kernel
theorem dX7_form_50 : decode cX7_form 50 = .ok (.ifCond .eq 7, 3) := by decide +kernel
theorem dX7_form_53 : decode cX7_form 53 = .ok (.iload_n 3, 1) := by decide +kernel
theorem dX7_form_54 : decode cX7_form 54 = .ok (.goto 5, 3) := by decide +kernel
theorem dX7_form_57 : decode cX7_form 57 = .ok (.bipush (-3), 2) := by decide +kernel
theorem dX7_form_59 : decode cX7_form 59 = .ok (.ireturn, 1) := by decide +kernel
set_option maxRecDepth 20000 in
theorem ggX7_tell_X7_isRelation : GoodIn wsX7_tell wsX7_isRelation := goodIn_r _ [6, 1, 7, 8, 20, 21, 22, 23, 24, 25, 26, 27, 28, 29, 30, 31, 32, 33, 34, 35, 36, 37, 38, 39, 40, 41, 42] rfl aw_wsX7_isRelation
set_option maxRecDepth 20000 in
theorem gX7_tell_X7_isRelation : GoodIn wsX7_tell (wsV RX7 132 RX7 yX7_isRelation wsX7_isRelation) := goodIn_app (goodIn_r _ [2, 3, 4, 5] rfl (by decide +kernel)) ggX7_tell_X7_isRelation
set_option maxRecDepth 20000 in
theorem aw_wsX7_isThing : wsX7_isThing.all goodWord = true := by decide +kernel
set_option maxRecDepth 20000 in
theorem ggX7_tell_X7_isThing : GoodIn wsX7_tell wsX7_isThing := goodIn_r _ [11] rfl aw_wsX7_isThing
set_option maxRecDepth 20000 in
theorem gX7_tell_X7_isThing : GoodIn wsX7_tell (va_wsS RX7 167 yX7_isThing wsX7_isThing) := goodIn_app (goodIn_r _ [9, 10, 5] rfl (by decide +kernel)) ggX7_tell_X7_isThing
set_option maxRecDepth 20000 in
theorem aw_wsX6_toggle : wsX6_toggle.all goodWord = true := by decide +kernel
set_option maxRecDepth 20000 in
theorem ggX7_tell_X6_toggle : GoodIn wsX7_tell wsX6_toggle := goodIn_r _ [16, 17, 18, 19, 29, 30, 31, 32, 33, 34, 35, 36, 37, 38, 39, 40, 41, 42] rfl aw_wsX6_toggle
set_option maxRecDepth 20000 in
theorem gX7_tell_X6_toggle : GoodIn wsX7_tell (wsV RX7 170 RX6 yX6_toggle wsX6_toggle) := goodIn_app (goodIn_r _ [12, 13, 14, 15] rfl (by decide +kernel)) ggX7_tell_X6_toggle
theorem dX7_tell_0 : decode cX7_tell 0 = .ok (.aload_n 0, 1) := by decide +kernel
theorem dX7_tell_1 : decode cX7_tell 1 = .ok (.iload_n 1, 1) := by decide +kernel
theorem dX7_tell_2 : decode cX7_tell 2 = .ok (.invokevirtual 132, 3) := by decide +kernel
theorem dX7_tell_5 : decode cX7_tell 5 = .ok (.ifCond .ne 5, 3) := by decide +kernel
theorem dX7_tell_8 : decode cX7_tell 8 = .ok (.iconst (-1), 1) := by decide +kernel
theorem dX7_tell_9 : decode cX7_tell 9 = .ok (.ireturn, 1) := by decide +kernel
theorem dX7_tell_10 : decode cX7_tell 10 = .ok (.iload_n 2, 1) := by decide +kernel
theorem dX7_tell_11 : decode cX7_tell 11 = .ok (.invokestatic 167, 3) := by decide +kernel
theorem dX7_tell_14 : decode cX7_tell 14 = .ok (.ifCond .eq 10, 3) := by decide +kernel
theorem dX7_tell_17 : decode cX7_tell 17 = .ok (.iload_n 3, 1) := by decide +kernel
theorem dX7_tell_18 : decode cX7_tell 18 = .ok (.invokestatic 167, 3) := by decide +kernel
theorem dX7_tell_21 : decode cX7_tell 21 = .ok (.ifCond .ne 6, 3) := by decide +kernel
theorem dX7_tell_24 : decode cX7_tell 24 = .ok (.bipush (-2), 2) := by decide +kernel
theorem dX7_tell_26 : decode cX7_tell 26 = .ok (.ireturn, 1) := by decide +kernel
theorem dX7_tell_27 : decode cX7_tell 27 = .ok (.aload_n 0, 1) := by decide +kernel
theorem dX7_tell_28 : decode cX7_tell 28 = .ok (.getfield 21, 3) := by decide +kernel
theorem dX7_tell_31 : decode cX7_tell 31 = .ok (.iload_n 1, 1) := by decide +kernel
theorem dX7_tell_32 : decode cX7_tell 32 = .ok (.iload_n 2, 1) := by decide +kernel
theorem dX7_tell_33 : decode cX7_tell 33 = .ok (.iload_n 3, 1) := by decide +kernel
theorem dX7_tell_34 : decode cX7_tell 34 = .ok (.invokevirtual 170, 3) := by decide +kernel
theorem dX7_tell_37 : decode cX7_tell 37 = .ok (.ifCond .eq 7, 3) := by decide +kernel
theorem dX7_tell_40 : decode cX7_tell 40 = .ok (.iconst 1, 1) := by decide +kernel
theorem dX7_tell_41 : decode cX7_tell 41 = .ok (.goto 4, 3) := by decide +kernel
theorem dX7_tell_44 : decode cX7_tell 44 = .ok (.iconst 0, 1) := by decide +kernel
theorem dX7_tell_45 : decode cX7_tell 45 = .ok (.ireturn, 1) := by decide +kernel
set_option maxRecDepth 20000 in
theorem ggX7_ofFact_X7_isRelation : GoodIn wsX7_ofFact wsX7_isRelation := goodIn_r _ [10, 1, 3, 11, 165, 166, 167, 168, 169, 170, 171, 172, 173, 174, 175, 176, 177, 178, 185, 186, 187, 188, 189, 190, 191, 192, 193] rfl aw_wsX7_isRelation
set_option maxRecDepth 20000 in
theorem gX7_ofFact_X7_isRelation : GoodIn wsX7_ofFact (wsV RX7 132 RX7 yX7_isRelation wsX7_isRelation) := goodIn_app (goodIn_r _ [6, 7, 8, 9] rfl (by decide +kernel)) ggX7_ofFact_X7_isRelation
set_option maxRecDepth 20000 in
theorem ggX7_ofFact_X7_isThing : GoodIn wsX7_ofFact wsX7_isThing := goodIn_r _ [14] rfl aw_wsX7_isThing
set_option maxRecDepth 20000 in
theorem gX7_ofFact_X7_isThing : GoodIn wsX7_ofFact (va_wsS RX7 167 yX7_isThing wsX7_isThing) := goodIn_app (goodIn_r _ [12, 13, 9] rfl (by decide +kernel)) ggX7_ofFact_X7_isThing
set_option maxRecDepth 20000 in
theorem ggX7_ofFact_X6_settle : GoodIn wsX7_ofFact wsX6_settle := goodIn_r _ [19, 20, 21, 22, 23, 24, 25, 26, 27, 28, 29, 30, 31, 32, 33, 34, 35, 36, 37, 38, 39, 40, 41, 42, 43, 44, 45, 46, 47, 48, 49, 50, 51, 52, 53, 54, 55, 56, 57, 58, 59, 60, 61, 62, 63, 64, 65, 66, 67, 68, 69, 70, 71, 72, 73, 74, 75, 76, 77, 78, 79, 80, 81, 82, 83, 84, 85, 86, 87, 88, 89, 90, 91, 92, 93, 9, 94, 95, 96, 97, 98, 99, 100, 101, 102, 103, 104, 105, 106, 107, 108, 109, 110, 111, 112, 113, 114, 115, 116, 117, 118, 119, 120, 121, 122, 123, 124, 125, 126, 127, 128, 129, 130, 131, 132, 133, 134, 135, 136, 137, 138, 139, 140, 141, 142, 143, 144, 145, 146, 174, 175, 176, 177, 178, 194, 195, 196, 185, 186, 187, 188, 189, 190, 191, 192, 193, 179, 180, 181, 182, 183, 184, 197, 198, 199, 200, 201, 202, 203] rfl aw_wsX6_settle
set_option maxRecDepth 20000 in
theorem gX7_ofFact_X6_settle : GoodIn wsX7_ofFact (wsV RX7 135 RX6 yX6_settle wsX6_settle) := goodIn_app (goodIn_r _ [15, 16, 17, 18] rfl (by decide +kernel)) ggX7_ofFact_X6_settle
set_option maxRecDepth 20000 in
theorem aw_wsX7_factOf : wsX7_factOf.all goodWord = true := by decide +kernel
set_option maxRecDepth 20000 in
theorem ggX7_ofFact_X7_factOf : GoodIn wsX7_ofFact wsX7_factOf := goodIn_r _ [149] rfl aw_wsX7_factOf
set_option maxRecDepth 20000 in
theorem gX7_ofFact_X7_factOf : GoodIn wsX7_ofFact (va_wsS RX7 174 yX7_factOf wsX7_factOf) := goodIn_app (goodIn_r _ [147, 148, 9] rfl (by decide +kernel)) ggX7_ofFact_X7_factOf
set_option maxRecDepth 20000 in
theorem ggX7_ofFact_X3_isHeld : GoodIn wsX7_ofFact wsX3_isHeld := goodIn_r _ [146, 64, 179, 180, 181, 182, 183, 184] rfl aw_wsX3_isHeld
set_option maxRecDepth 20000 in
theorem gX7_ofFact_X3_isHeld : GoodIn wsX7_ofFact (wsV RX7 178 RX3 yX3_isHeld wsX3_isHeld) := goodIn_app (goodIn_r _ [150, 144, 145, 61] rfl (by decide +kernel)) ggX7_ofFact_X3_isHeld
set_option maxRecDepth 20000 in
theorem ggX7_ofFact_X2_isTold : GoodIn wsX7_ofFact wsX2_isTold := goodIn_r _ [112, 113, 185, 186, 187, 188, 189, 190, 191, 192, 193] rfl aw_wsX2_isTold
set_option maxRecDepth 20000 in
theorem gX7_ofFact_X2_isTold : GoodIn wsX7_ofFact (wsV RX7 181 RX2 yX2_isTold wsX2_isTold) := goodIn_app (goodIn_r _ [151, 110, 111, 55] rfl (by decide +kernel)) ggX7_ofFact_X2_isTold
set_option maxRecDepth 20000 in
theorem aw_wsX0_cheapOf : wsX0_cheapOf.all goodWord = true := by decide +kernel
set_option maxRecDepth 20000 in
theorem ggX7_ofFact_X0_cheapOf : GoodIn wsX7_ofFact wsX0_cheapOf := goodIn_r _ [155, 120, 105, 143, 144, 145, 61, 146, 64, 197, 198, 199, 200, 201, 202, 203, 179, 180, 181, 182, 183, 184] rfl aw_wsX0_cheapOf
set_option maxRecDepth 20000 in
theorem gX7_ofFact_X0_cheapOf : GoodIn wsX7_ofFact (wsV RX7 191 RX0 yX0_cheapOf wsX0_cheapOf) := goodIn_app (goodIn_r _ [152, 153, 154, 103] rfl (by decide +kernel)) ggX7_ofFact_X0_cheapOf
set_option maxRecDepth 20000 in
theorem ggX7_ofFact_X0_lastRule : GoodIn wsX7_ofFact wsX0_lastRule := goodIn_r _ [159, 120, 106, 118, 119, 105, 143, 144, 145, 61, 146, 64, 109, 110, 111, 55, 112, 113, 123, 124, 125, 103, 126, 127, 107, 128, 129, 50, 130, 131, 132, 133, 134, 135, 136, 137, 138, 139, 140, 141, 142, 93, 9, 94, 197, 198, 199, 200, 201, 202, 203, 185, 186, 187, 188, 189, 190, 191, 192, 193, 179, 180, 181, 182, 183, 184] rfl aw_wsX0_lastRule
set_option maxRecDepth 20000 in
theorem gX7_ofFact_X0_lastRule : GoodIn wsX7_ofFact (wsV RX7 196 RX0 yX0_lastRule wsX0_lastRule) := goodIn_app (goodIn_r _ [156, 157, 158, 103] rfl (by decide +kernel)) ggX7_ofFact_X0_lastRule
set_option maxRecDepth 20000 in
theorem aw_wsX0_middle : wsX0_middle.all goodWord = true := by decide +kernel
set_option maxRecDepth 20000 in
theorem ggX7_ofFact_X0_middle : GoodIn wsX7_ofFact wsX0_middle := goodIn_r _ [163, 106, 127, 105, 164, 157, 158, 103, 159, 120, 118, 119, 143, 144, 145, 61, 146, 64, 109, 110, 111, 55, 112, 113, 123, 124, 125, 126, 107, 128, 129, 50, 130, 131, 132, 133, 134, 135, 136, 137, 138, 139, 140, 141, 142, 93, 9, 94, 197, 198, 199, 200, 201, 202, 203, 185, 186, 187, 188, 189, 190, 191, 192, 193, 179, 180, 181, 182, 183, 184] rfl aw_wsX0_middle
set_option maxRecDepth 20000 in
theorem gX7_ofFact_X0_middle : GoodIn wsX7_ofFact (wsV RX7 199 RX0 yX0_middle wsX0_middle) := goodIn_app (goodIn_r _ [160, 161, 162, 103] rfl (by decide +kernel)) ggX7_ofFact_X0_middle
theorem dX7_ofFact_0 : decode cX7_ofFact 0 = .ok (.aload_n 0, 1) := by decide +kernel
theorem dX7_ofFact_1 : decode cX7_ofFact 1 = .ok (.iload_n 1, 1) := by decide +kernel
theorem dX7_ofFact_2 : decode cX7_ofFact 2 = .ok (.invokevirtual 132, 3) := by decide +kernel
theorem dX7_ofFact_5 : decode cX7_ofFact 5 = .ok (.ifCond .ne 5, 3) := by decide +kernel
theorem dX7_ofFact_8 : decode cX7_ofFact 8 = .ok (.iconst (-1), 1) := by decide +kernel
theorem dX7_ofFact_9 : decode cX7_ofFact 9 = .ok (.ireturn, 1) := by decide +kernel
theorem dX7_ofFact_10 : decode cX7_ofFact 10 = .ok (.iload_n 2, 1) := by decide +kernel
theorem dX7_ofFact_11 : decode cX7_ofFact 11 = .ok (.invokestatic 167, 3) := by decide +kernel
theorem dX7_ofFact_14 : decode cX7_ofFact 14 = .ok (.ifCond .eq 10, 3) := by decide +kernel
theorem dX7_ofFact_17 : decode cX7_ofFact 17 = .ok (.iload_n 3, 1) := by decide +kernel
theorem dX7_ofFact_18 : decode cX7_ofFact 18 = .ok (.invokestatic 167, 3) := by decide +kernel
theorem dX7_ofFact_21 : decode cX7_ofFact 21 = .ok (.ifCond .ne 6, 3) := by decide +kernel
theorem dX7_ofFact_24 : decode cX7_ofFact 24 = .ok (.bipush (-2), 2) := by decide +kernel
theorem dX7_ofFact_26 : decode cX7_ofFact 26 = .ok (.ireturn, 1) := by decide +kernel
theorem dX7_ofFact_27 : decode cX7_ofFact 27 = .ok (.aload_n 0, 1) := by decide +kernel
theorem dX7_ofFact_28 : decode cX7_ofFact 28 = .ok (.getfield 21, 3) := by decide +kernel
theorem dX7_ofFact_31 : decode cX7_ofFact 31 = .ok (.invokevirtual 135, 3) := by decide +kernel
theorem dX7_ofFact_34 : decode cX7_ofFact 34 = .ok (.iload_n 1, 1) := by decide +kernel
theorem dX7_ofFact_35 : decode cX7_ofFact 35 = .ok (.iload_n 2, 1) := by decide +kernel
theorem dX7_ofFact_36 : decode cX7_ofFact 36 = .ok (.iload_n 3, 1) := by decide +kernel
theorem dX7_ofFact_37 : decode cX7_ofFact 37 = .ok (.invokestatic 174, 3) := by decide +kernel
theorem dX7_ofFact_40 : decode cX7_ofFact 40 = .ok (.istore 5, 2) := by decide +kernel
theorem dX7_ofFact_42 : decode cX7_ofFact 42 = .ok (.iload 4, 2) := by decide +kernel
theorem dX7_ofFact_44 : decode cX7_ofFact 44 = .ok (.tableswitch 135 0 5 #[40, 61, 82, 96, 109, 122], 40) := by decide +kernel
theorem dX7_ofFact_84 : decode cX7_ofFact 84 = .ok (.aload_n 0, 1) := by decide +kernel
theorem dX7_ofFact_85 : decode cX7_ofFact 85 = .ok (.getfield 21, 3) := by decide +kernel
theorem dX7_ofFact_88 : decode cX7_ofFact 88 = .ok (.getfield 141, 3) := by decide +kernel
theorem dX7_ofFact_91 : decode cX7_ofFact 91 = .ok (.iload 5, 2) := by decide +kernel
theorem dX7_ofFact_93 : decode cX7_ofFact 93 = .ok (.invokevirtual 178, 3) := by decide +kernel
theorem dX7_ofFact_96 : decode cX7_ofFact 96 = .ok (.ifCond .eq 7, 3) := by decide +kernel
theorem dX7_ofFact_99 : decode cX7_ofFact 99 = .ok (.iconst 1, 1) := by decide +kernel
theorem dX7_ofFact_100 : decode cX7_ofFact 100 = .ok (.goto 4, 3) := by decide +kernel
theorem dX7_ofFact_103 : decode cX7_ofFact 103 = .ok (.iconst 0, 1) := by decide +kernel
theorem dX7_ofFact_104 : decode cX7_ofFact 104 = .ok (.ireturn, 1) := by decide +kernel
theorem dX7_ofFact_105 : decode cX7_ofFact 105 = .ok (.aload_n 0, 1) := by decide +kernel
theorem dX7_ofFact_106 : decode cX7_ofFact 106 = .ok (.getfield 21, 3) := by decide +kernel
theorem dX7_ofFact_109 : decode cX7_ofFact 109 = .ok (.getfield 68, 3) := by decide +kernel
theorem dX7_ofFact_112 : decode cX7_ofFact 112 = .ok (.iload 5, 2) := by decide +kernel
theorem dX7_ofFact_114 : decode cX7_ofFact 114 = .ok (.invokevirtual 181, 3) := by decide +kernel
theorem dX7_ofFact_117 : decode cX7_ofFact 117 = .ok (.ifCond .eq 7, 3) := by decide +kernel
theorem dX7_ofFact_120 : decode cX7_ofFact 120 = .ok (.iconst 1, 1) := by decide +kernel
theorem dX7_ofFact_121 : decode cX7_ofFact 121 = .ok (.goto 4, 3) := by decide +kernel
theorem dX7_ofFact_124 : decode cX7_ofFact 124 = .ok (.iconst 0, 1) := by decide +kernel
theorem dX7_ofFact_125 : decode cX7_ofFact 125 = .ok (.ireturn, 1) := by decide +kernel
theorem dX7_ofFact_126 : decode cX7_ofFact 126 = .ok (.aload_n 0, 1) := by decide +kernel
theorem dX7_ofFact_127 : decode cX7_ofFact 127 = .ok (.getfield 21, 3) := by decide +kernel
theorem dX7_ofFact_130 : decode cX7_ofFact 130 = .ok (.getfield 141, 3) := by decide +kernel
theorem dX7_ofFact_133 : decode cX7_ofFact 133 = .ok (.getfield 184, 3) := by decide +kernel
theorem dX7_ofFact_136 : decode cX7_ofFact 136 = .ok (.iload 5, 2) := by decide +kernel
theorem dX7_ofFact_138 : decode cX7_ofFact 138 = .ok (.iaload, 1) := by decide +kernel
theorem dX7_ofFact_139 : decode cX7_ofFact 139 = .ok (.ireturn, 1) := by decide +kernel
theorem dX7_ofFact_140 : decode cX7_ofFact 140 = .ok (.aload_n 0, 1) := by decide +kernel
theorem dX7_ofFact_141 : decode cX7_ofFact 141 = .ok (.getfield 21, 3) := by decide +kernel
theorem dX7_ofFact_144 : decode cX7_ofFact 144 = .ok (.getfield 187, 3) := by decide +kernel
theorem dX7_ofFact_147 : decode cX7_ofFact 147 = .ok (.iload 5, 2) := by decide +kernel
theorem dX7_ofFact_149 : decode cX7_ofFact 149 = .ok (.invokevirtual 191, 3) := by decide +kernel
theorem dX7_ofFact_152 : decode cX7_ofFact 152 = .ok (.ireturn, 1) := by decide +kernel
theorem dX7_ofFact_153 : decode cX7_ofFact 153 = .ok (.aload_n 0, 1) := by decide +kernel
theorem dX7_ofFact_154 : decode cX7_ofFact 154 = .ok (.getfield 21, 3) := by decide +kernel
theorem dX7_ofFact_157 : decode cX7_ofFact 157 = .ok (.getfield 187, 3) := by decide +kernel
theorem dX7_ofFact_160 : decode cX7_ofFact 160 = .ok (.iload 5, 2) := by decide +kernel
theorem dX7_ofFact_162 : decode cX7_ofFact 162 = .ok (.invokevirtual 196, 3) := by decide +kernel
theorem dX7_ofFact_165 : decode cX7_ofFact 165 = .ok (.ireturn, 1) := by decide +kernel
theorem dX7_ofFact_166 : decode cX7_ofFact 166 = .ok (.aload_n 0, 1) := by decide +kernel
theorem dX7_ofFact_167 : decode cX7_ofFact 167 = .ok (.getfield 21, 3) := by decide +kernel
theorem dX7_ofFact_170 : decode cX7_ofFact 170 = .ok (.getfield 187, 3) := by decide +kernel
theorem dX7_ofFact_173 : decode cX7_ofFact 173 = .ok (.iload 5, 2) := by decide +kernel
theorem dX7_ofFact_175 : decode cX7_ofFact 175 = .ok (.invokevirtual 199, 3) := by decide +kernel
theorem dX7_ofFact_178 : decode cX7_ofFact 178 = .ok (.ireturn, 1) := by decide +kernel
theorem dX7_ofFact_179 : decode cX7_ofFact 179 = .ok (.bipush (-2), 2) := by decide +kernel
theorem dX7_ofFact_181 : decode cX7_ofFact 181 = .ok (.ireturn, 1) := by decide +kernel
set_option maxRecDepth 20000 in
theorem ggX7_day_X7_isSheet : GoodIn wsX7_day wsX7_isSheet := goodIn_r _ [9] rfl aw_wsX7_isSheet
set_option maxRecDepth 20000 in
theorem gX7_day_X7_isSheet : GoodIn wsX7_day (va_wsS RX7 46 yX7_isSheet wsX7_isSheet) := goodIn_app (goodIn_r _ [6, 7, 8] rfl (by decide +kernel)) ggX7_day_X7_isSheet
set_option maxRecDepth 20000 in
theorem ggX7_day_X7_isLane : GoodIn wsX7_day wsX7_isLane := goodIn_r _ [12] rfl aw_wsX7_isLane
set_option maxRecDepth 20000 in
theorem gX7_day_X7_isLane : GoodIn wsX7_day (va_wsS RX7 50 yX7_isLane wsX7_isLane) := goodIn_app (goodIn_r _ [10, 11, 8] rfl (by decide +kernel)) ggX7_day_X7_isLane
set_option maxRecDepth 20000 in
theorem aw_wsX7_isAskedOfDay : wsX7_isAskedOfDay.all goodWord = true := by decide +kernel
set_option maxRecDepth 20000 in
theorem ggX7_day_X7_isAskedOfDay : GoodIn wsX7_day wsX7_isAskedOfDay := goodIn_r _ [15] rfl aw_wsX7_isAskedOfDay
set_option maxRecDepth 20000 in
theorem gX7_day_X7_isAskedOfDay : GoodIn wsX7_day (va_wsS RX7 202 yX7_isAskedOfDay wsX7_isAskedOfDay) := goodIn_app (goodIn_r _ [13, 14, 8] rfl (by decide +kernel)) ggX7_day_X7_isAskedOfDay
set_option maxRecDepth 20000 in
theorem ggX7_day_X4_faultAs : GoodIn wsX7_day wsX4_faultAs := goodIn_r _ [20, 21, 22, 268, 269, 270, 271] rfl aw_wsX4_faultAs
set_option maxRecDepth 20000 in
theorem gX7_day_X4_faultAs : GoodIn wsX7_day (wsV RX7 53 RX4 yX4_faultAs wsX4_faultAs) := goodIn_app (goodIn_r _ [16, 17, 18, 19] rfl (by decide +kernel)) ggX7_day_X4_faultAs
set_option maxRecDepth 20000 in
theorem ggX7_day_X4_has : GoodIn wsX7_day wsX4_has := goodIn_r _ [26, 27, 268, 269, 270, 271] rfl aw_wsX4_has
set_option maxRecDepth 20000 in
theorem gX7_day_X4_has : GoodIn wsX7_day (wsV RX7 57 RX4 yX4_has wsX4_has) := goodIn_app (goodIn_r _ [23, 24, 25, 19] rfl (by decide +kernel)) ggX7_day_X4_has
set_option maxRecDepth 20000 in
theorem ggX7_day_X7_failed : GoodIn wsX7_day wsX7_failed := goodIn_r _ [31, 1, 254, 255, 256, 257, 258, 259, 260, 261, 262] rfl aw_wsX7_failed
set_option maxRecDepth 20000 in
theorem gX7_day_X7_failed : GoodIn wsX7_day (wsV RX7 65 RX7 yX7_failed wsX7_failed) := goodIn_app (goodIn_r _ [28, 29, 30, 8] rfl (by decide +kernel)) ggX7_day_X7_failed
set_option maxRecDepth 20000 in
theorem aw_wsX2_isThere : wsX2_isThere.all goodWord = true := by decide +kernel
set_option maxRecDepth 20000 in
theorem ggX7_day_X2_isThere : GoodIn wsX7_day wsX2_isThere := goodIn_r _ [36, 37, 272, 273, 274, 275, 276, 277, 278, 279, 280] rfl aw_wsX2_isThere
set_option maxRecDepth 20000 in
theorem gX7_day_X2_isThere : GoodIn wsX7_day (wsV RX7 205 RX2 yX2_isThere wsX2_isThere) := goodIn_app (goodIn_r _ [32, 33, 34, 35] rfl (by decide +kernel)) ggX7_day_X2_isThere
set_option maxRecDepth 20000 in
theorem aw_wsX7_areActs : wsX7_areActs.all goodWord = true := by decide +kernel
set_option maxRecDepth 20000 in
theorem ggX7_day_X7_areActs : GoodIn wsX7_day wsX7_areActs := goodIn_r _ [40, 41, 268, 269, 270, 271] rfl aw_wsX7_areActs
set_option maxRecDepth 20000 in
theorem gX7_day_X7_areActs : GoodIn wsX7_day (va_wsS RX7 208 yX7_areActs wsX7_areActs) := goodIn_app (goodIn_r _ [38, 39, 8] rfl (by decide +kernel)) ggX7_day_X7_areActs
set_option maxRecDepth 20000 in
theorem aw_wsX7_firstWrong : wsX7_firstWrong.all goodWord = true := by decide +kernel
set_option maxRecDepth 20000 in
theorem ggX7_day_X7_firstWrong : GoodIn wsX7_day wsX7_firstWrong := goodIn_r _ [45, 5, 3, 4, 41, 46, 47, 48, 49, 50, 51, 52, 53, 54, 55, 35, 56, 57, 58, 59, 60, 61, 62, 63, 64, 65, 66, 67, 37, 68, 69, 70, 71, 8, 72, 73, 74, 75, 76, 77, 78, 79, 80, 81, 82, 83, 84, 85, 86, 87, 88, 89, 90, 91, 92, 93, 94, 95, 96, 97, 98, 99, 100, 101, 102, 103, 104, 105, 106, 107, 108, 109, 110, 111, 112, 113, 114, 115, 116, 117, 118, 119, 120, 121, 122, 123, 124, 125, 254, 255, 256, 257, 258, 259, 260, 261, 262, 263, 264, 265, 266, 267, 268, 269, 270, 271, 272, 273, 274, 275, 276, 277, 278, 279, 280, 281, 282, 283] rfl aw_wsX7_firstWrong
set_option maxRecDepth 20000 in
theorem gX7_day_X7_firstWrong : GoodIn wsX7_day (wsV RX7 212 RX7 yX7_firstWrong wsX7_firstWrong) := goodIn_app (goodIn_r _ [42, 43, 44, 8] rfl (by decide +kernel)) ggX7_day_X7_firstWrong
set_option maxRecDepth 20000 in
theorem ggX7_day_X6_settle : GoodIn wsX7_day wsX6_settle := goodIn_r _ [129, 52, 88, 130, 131, 89, 90, 91, 92, 93, 94, 95, 96, 97, 98, 99, 100, 101, 102, 103, 104, 105, 106, 107, 108, 109, 110, 111, 112, 113, 114, 115, 116, 117, 80, 81, 35, 82, 63, 132, 133, 134, 135, 136, 137, 138, 139, 140, 141, 142, 143, 144, 145, 146, 147, 148, 149, 150, 151, 152, 153, 154, 155, 156, 157, 158, 159, 160, 161, 162, 163, 164, 165, 166, 167, 8, 168, 169, 170, 171, 172, 173, 174, 175, 176, 177, 178, 179, 180, 181, 182, 183, 184, 185, 186, 67, 187, 188, 189, 190, 191, 192, 193, 194, 195, 196, 197, 198, 199, 200, 201, 202, 203, 204, 205, 206, 207, 208, 209, 210, 211, 212, 213, 57, 62, 214, 215, 216, 217, 263, 264, 265, 266, 267, 281, 282, 283, 272, 273, 274, 275, 276, 277, 278, 279, 280, 284, 285, 286, 287, 288, 289, 290, 291, 292, 293, 294, 295, 296] rfl aw_wsX6_settle
set_option maxRecDepth 20000 in
theorem gX7_day_X6_settle : GoodIn wsX7_day (wsV RX7 135 RX6 yX6_settle wsX6_settle) := goodIn_app (goodIn_r _ [126, 127, 128, 49] rfl (by decide +kernel)) ggX7_day_X6_settle
set_option maxRecDepth 20000 in
theorem aw_wsX7_ofDraft : wsX7_ofDraft.all goodWord = true := by decide +kernel
set_option maxRecDepth 20000 in
theorem ggX7_day_X7_ofDraft : GoodIn wsX7_day wsX7_ofDraft := goodIn_r _ [221, 5, 222, 223, 224, 4, 225, 226, 227, 135, 228, 138, 229, 230, 231, 232, 233, 234, 235, 236, 237, 238, 177, 239, 193, 179, 240, 241, 115, 242, 214, 215, 216, 217, 243, 244, 245, 35, 246, 37, 67, 247, 248, 249, 250, 8, 251, 74, 252, 253, 254, 255, 256, 257, 258, 259, 260, 261, 262, 263, 264, 265, 266, 267, 284, 285, 286, 287, 288, 289, 290, 291, 292, 293, 294, 295, 296, 272, 273, 274, 275, 276, 277, 278, 279, 280] rfl aw_wsX7_ofDraft
set_option maxRecDepth 20000 in
theorem gX7_day_X7_ofDraft : GoodIn wsX7_day (wsV RX7 215 RX7 yX7_ofDraft wsX7_ofDraft) := goodIn_app (goodIn_r _ [218, 219, 220, 8] rfl (by decide +kernel)) ggX7_day_X7_ofDraft
theorem dX7_day_0 : decode cX7_day 0 = .ok (.aload_n 0, 1) := by decide +kernel
theorem dX7_day_1 : decode cX7_day 1 = .ok (.iconst 0, 1) := by decide +kernel
theorem dX7_day_2 : decode cX7_day 2 = .ok (.putfield 42, 3) := by decide +kernel
theorem dX7_day_5 : decode cX7_day 5 = .ok (.iload_n 1, 1) := by decide +kernel
theorem dX7_day_6 : decode cX7_day 6 = .ok (.invokestatic 46, 3) := by decide +kernel
theorem dX7_day_9 : decode cX7_day 9 = .ok (.ifCond .ne 5, 3) := by decide +kernel
theorem dX7_day_12 : decode cX7_day 12 = .ok (.iconst (-1), 1) := by decide +kernel
theorem dX7_day_13 : decode cX7_day 13 = .ok (.ireturn, 1) := by decide +kernel
theorem dX7_day_14 : decode cX7_day 14 = .ok (.iload_n 2, 1) := by decide +kernel
theorem dX7_day_15 : decode cX7_day 15 = .ok (.invokestatic 50, 3) := by decide +kernel
theorem dX7_day_18 : decode cX7_day 18 = .ok (.ifCond .eq 23, 3) := by decide +kernel
theorem dX7_day_21 : decode cX7_day 21 = .ok (.iload 4, 2) := by decide +kernel
theorem dX7_day_23 : decode cX7_day 23 = .ok (.ifCond .lt 18, 3) := by decide +kernel
theorem dX7_day_26 : decode cX7_day 26 = .ok (.iload 4, 2) := by decide +kernel
theorem dX7_day_28 : decode cX7_day 28 = .ok (.bipush 20, 2) := by decide +kernel
theorem dX7_day_30 : decode cX7_day 30 = .ok (.if_icmp .gt 11, 3) := by decide +kernel
theorem dX7_day_33 : decode cX7_day 33 = .ok (.iload 5, 2) := by decide +kernel
theorem dX7_day_35 : decode cX7_day 35 = .ok (.invokestatic 202, 3) := by decide +kernel
theorem dX7_day_38 : decode cX7_day 38 = .ok (.ifCond .ne 6, 3) := by decide +kernel
theorem dX7_day_41 : decode cX7_day 41 = .ok (.bipush (-2), 2) := by decide +kernel
theorem dX7_day_43 : decode cX7_day 43 = .ok (.ireturn, 1) := by decide +kernel
theorem dX7_day_44 : decode cX7_day 44 = .ok (.aload_n 0, 1) := by decide +kernel
theorem dX7_day_45 : decode cX7_day 45 = .ok (.getfield 13, 3) := by decide +kernel
theorem dX7_day_48 : decode cX7_day 48 = .ok (.iload_n 1, 1) := by decide +kernel
theorem dX7_day_49 : decode cX7_day 49 = .ok (.aaload, 1) := by decide +kernel
theorem dX7_day_50 : decode cX7_day 50 = .ok (.astore 6, 2) := by decide +kernel
theorem dX7_day_52 : decode cX7_day 52 = .ok (.aload 6, 2) := by decide +kernel
theorem dX7_day_54 : decode cX7_day 54 = .ok (.iload_n 2, 1) := by decide +kernel
theorem dX7_day_55 : decode cX7_day 55 = .ok (.invokevirtual 53, 3) := by decide +kernel
theorem dX7_day_58 : decode cX7_day 58 = .ok (.istore 7, 2) := by decide +kernel
theorem dX7_day_60 : decode cX7_day 60 = .ok (.iload 7, 2) := by decide +kernel
theorem dX7_day_62 : decode cX7_day 62 = .ok (.ifCond .ne 19, 3) := by decide +kernel
theorem dX7_day_65 : decode cX7_day 65 = .ok (.aload 6, 2) := by decide +kernel
theorem dX7_day_67 : decode cX7_day 67 = .ok (.iload_n 3, 1) := by decide +kernel
theorem dX7_day_68 : decode cX7_day 68 = .ok (.iconst 3, 1) := by decide +kernel
theorem dX7_day_69 : decode cX7_day 69 = .ok (.iload 4, 2) := by decide +kernel
theorem dX7_day_71 : decode cX7_day 71 = .ok (.imul, 1) := by decide +kernel
theorem dX7_day_72 : decode cX7_day 72 = .ok (.invokevirtual 57, 3) := by decide +kernel
theorem dX7_day_75 : decode cX7_day 75 = .ok (.ifCond .ne 6, 3) := by decide +kernel
theorem dX7_day_78 : decode cX7_day 78 = .ok (.iconst 3, 1) := by decide +kernel
theorem dX7_day_79 : decode cX7_day 79 = .ok (.istore 7, 2) := by decide +kernel
theorem dX7_day_81 : decode cX7_day 81 = .ok (.iload 7, 2) := by decide +kernel
theorem dX7_day_83 : decode cX7_day 83 = .ok (.ifCond .eq 10, 3) := by decide +kernel
theorem dX7_day_86 : decode cX7_day 86 = .ok (.aload_n 0, 1) := by decide +kernel
theorem dX7_day_87 : decode cX7_day 87 = .ok (.iload 7, 2) := by decide +kernel
theorem dX7_day_89 : decode cX7_day 89 = .ok (.invokevirtual 65, 3) := by decide +kernel
theorem dX7_day_92 : decode cX7_day 92 = .ok (.ireturn, 1) := by decide +kernel
theorem dX7_day_93 : decode cX7_day 93 = .ok (.aload_n 0, 1) := by decide +kernel
theorem dX7_day_94 : decode cX7_day 94 = .ok (.getfield 21, 3) := by decide +kernel
theorem dX7_day_97 : decode cX7_day 97 = .ok (.getfield 68, 3) := by decide +kernel
theorem dX7_day_100 : decode cX7_day 100 = .ok (.invokevirtual 205, 3) := by decide +kernel
theorem dX7_day_103 : decode cX7_day 103 = .ok (.ifCond .ne 6, 3) := by decide +kernel
theorem dX7_day_106 : decode cX7_day 106 = .ok (.bipush (-3), 2) := by decide +kernel
theorem dX7_day_108 : decode cX7_day 108 = .ok (.ireturn, 1) := by decide +kernel
theorem dX7_day_109 : decode cX7_day 109 = .ok (.aload 6, 2) := by decide +kernel
theorem dX7_day_111 : decode cX7_day 111 = .ok (.iload_n 3, 1) := by decide +kernel
theorem dX7_day_112 : decode cX7_day 112 = .ok (.iload 4, 2) := by decide +kernel
theorem dX7_day_114 : decode cX7_day 114 = .ok (.invokestatic 208, 3) := by decide +kernel
theorem dX7_day_117 : decode cX7_day 117 = .ok (.ifCond .ne 6, 3) := by decide +kernel
theorem dX7_day_120 : decode cX7_day 120 = .ok (.bipush (-2), 2) := by decide +kernel
theorem dX7_day_122 : decode cX7_day 122 = .ok (.ireturn, 1) := by decide +kernel
theorem dX7_day_123 : decode cX7_day 123 = .ok (.aload_n 0, 1) := by decide +kernel
theorem dX7_day_124 : decode cX7_day 124 = .ok (.aload 6, 2) := by decide +kernel
theorem dX7_day_126 : decode cX7_day 126 = .ok (.iload_n 3, 1) := by decide +kernel
theorem dX7_day_127 : decode cX7_day 127 = .ok (.iload 4, 2) := by decide +kernel
theorem dX7_day_129 : decode cX7_day 129 = .ok (.invokevirtual 212, 3) := by decide +kernel
theorem dX7_day_132 : decode cX7_day 132 = .ok (.istore 8, 2) := by decide +kernel
theorem dX7_day_134 : decode cX7_day 134 = .ok (.iload 5, 2) := by decide +kernel
theorem dX7_day_136 : decode cX7_day 136 = .ok (.iconst 1, 1) := by decide +kernel
theorem dX7_day_137 : decode cX7_day 137 = .ok (.if_icmp .ne 6, 3) := by decide +kernel
theorem dX7_day_140 : decode cX7_day 140 = .ok (.iload 8, 2) := by decide +kernel
theorem dX7_day_142 : decode cX7_day 142 = .ok (.ireturn, 1) := by decide +kernel
theorem dX7_day_143 : decode cX7_day 143 = .ok (.iload 8, 2) := by decide +kernel
theorem dX7_day_145 : decode cX7_day 145 = .ok (.bipush (-9), 2) := by decide +kernel
theorem dX7_day_147 : decode cX7_day 147 = .ok (.if_icmp .eq 9, 3) := by decide +kernel
theorem dX7_day_150 : decode cX7_day 150 = .ok (.bipush (-100), 2) := by decide +kernel
theorem dX7_day_152 : decode cX7_day 152 = .ok (.iload 8, 2) := by decide +kernel
theorem dX7_day_154 : decode cX7_day 154 = .ok (.isub, 1) := by decide +kernel
theorem dX7_day_155 : decode cX7_day 155 = .ok (.ireturn, 1) := by decide +kernel
theorem dX7_day_156 : decode cX7_day 156 = .ok (.aload_n 0, 1) := by decide +kernel
theorem dX7_day_157 : decode cX7_day 157 = .ok (.getfield 25, 3) := by decide +kernel
theorem dX7_day_160 : decode cX7_day 160 = .ok (.invokevirtual 135, 3) := by decide +kernel
theorem dX7_day_163 : decode cX7_day 163 = .ok (.aload_n 0, 1) := by decide +kernel
theorem dX7_day_164 : decode cX7_day 164 = .ok (.iload 5, 2) := by decide +kernel
theorem dX7_day_166 : decode cX7_day 166 = .ok (.invokevirtual 215, 3) := by decide +kernel
theorem dX7_day_169 : decode cX7_day 169 = .ok (.ireturn, 1) := by decide +kernel
theorem dX7_isAskedOfDay_0 : decode cX7_isAskedOfDay 0 = .ok (.iload_n 0, 1) := by decide +kernel
theorem dX7_isAskedOfDay_1 : decode cX7_isAskedOfDay 1 = .ok (.ifCond .lt 8, 3) := by decide +kernel
theorem dX7_isAskedOfDay_4 : decode cX7_isAskedOfDay 4 = .ok (.iload_n 0, 1) := by decide +kernel
theorem dX7_isAskedOfDay_5 : decode cX7_isAskedOfDay 5 = .ok (.iconst 4, 1) := by decide +kernel
theorem dX7_isAskedOfDay_6 : decode cX7_isAskedOfDay 6 = .ok (.if_icmp .le 15, 3) := by decide +kernel
theorem dX7_isAskedOfDay_9 : decode cX7_isAskedOfDay 9 = .ok (.iload_n 0, 1) := by decide +kernel
theorem dX7_isAskedOfDay_10 : decode cX7_isAskedOfDay 10 = .ok (.bipush 10, 2) := by decide +kernel
theorem dX7_isAskedOfDay_12 : decode cX7_isAskedOfDay 12 = .ok (.if_icmp .lt 13, 3) := by decide +kernel
theorem dX7_isAskedOfDay_15 : decode cX7_isAskedOfDay 15 = .ok (.iload_n 0, 1) := by decide +kernel
theorem dX7_isAskedOfDay_16 : decode cX7_isAskedOfDay 16 = .ok (.bipush 14, 2) := by decide +kernel
theorem dX7_isAskedOfDay_18 : decode cX7_isAskedOfDay 18 = .ok (.if_icmp .ge 7, 3) := by decide +kernel
theorem dX7_isAskedOfDay_21 : decode cX7_isAskedOfDay 21 = .ok (.iconst 1, 1) := by decide +kernel
theorem dX7_isAskedOfDay_22 : decode cX7_isAskedOfDay 22 = .ok (.goto 4, 3) := by decide +kernel
theorem dX7_isAskedOfDay_25 : decode cX7_isAskedOfDay 25 = .ok (.iconst 0, 1) := by decide +kernel
theorem dX7_isAskedOfDay_26 : decode cX7_isAskedOfDay 26 = .ok (.ireturn, 1) := by decide +kernel
theorem dX7_areActs_0 : decode cX7_areActs 0 = .ok (.iconst 0, 1) := by decide +kernel
theorem dX7_areActs_1 : decode cX7_areActs 1 = .ok (.istore_n 3, 1) := by decide +kernel
theorem dX7_areActs_2 : decode cX7_areActs 2 = .ok (.iload_n 3, 1) := by decide +kernel
theorem dX7_areActs_3 : decode cX7_areActs 3 = .ok (.iload_n 2, 1) := by decide +kernel
theorem dX7_areActs_4 : decode cX7_areActs 4 = .ok (.if_icmp .ge 72, 3) := by decide +kernel
theorem dX7_areActs_7 : decode cX7_areActs 7 = .ok (.aload_n 0, 1) := by decide +kernel
theorem dX7_areActs_8 : decode cX7_areActs 8 = .ok (.getfield 218, 3) := by decide +kernel
theorem dX7_areActs_11 : decode cX7_areActs 11 = .ok (.iload_n 1, 1) := by decide +kernel
theorem dX7_areActs_12 : decode cX7_areActs 12 = .ok (.iconst 3, 1) := by decide +kernel
theorem dX7_areActs_13 : decode cX7_areActs 13 = .ok (.iload_n 3, 1) := by decide +kernel
theorem dX7_areActs_14 : decode cX7_areActs 14 = .ok (.imul, 1) := by decide +kernel
theorem dX7_areActs_15 : decode cX7_areActs 15 = .ok (.iadd, 1) := by decide +kernel
theorem dX7_areActs_16 : decode cX7_areActs 16 = .ok (.iaload, 1) := by decide +kernel
theorem dX7_areActs_17 : decode cX7_areActs 17 = .ok (.istore 4, 2) := by decide +kernel
theorem dX7_areActs_19 : decode cX7_areActs 19 = .ok (.iload 4, 2) := by decide +kernel
theorem dX7_areActs_21 : decode cX7_areActs 21 = .ok (.ifCond .lt 13, 3) := by decide +kernel
theorem dX7_areActs_24 : decode cX7_areActs 24 = .ok (.iload 4, 2) := by decide +kernel
theorem dX7_areActs_26 : decode cX7_areActs 26 = .ok (.iconst 4, 1) := by decide +kernel
theorem dX7_areActs_27 : decode cX7_areActs 27 = .ok (.if_icmp .ge 7, 3) := by decide +kernel
theorem dX7_areActs_30 : decode cX7_areActs 30 = .ok (.iconst 1, 1) := by decide +kernel
theorem dX7_areActs_31 : decode cX7_areActs 31 = .ok (.goto 4, 3) := by decide +kernel
theorem dX7_areActs_34 : decode cX7_areActs 34 = .ok (.iconst 0, 1) := by decide +kernel
theorem dX7_areActs_35 : decode cX7_areActs 35 = .ok (.istore 5, 2) := by decide +kernel
theorem dX7_areActs_37 : decode cX7_areActs 37 = .ok (.iload 4, 2) := by decide +kernel
theorem dX7_areActs_39 : decode cX7_areActs 39 = .ok (.bipush 10, 2) := by decide +kernel
theorem dX7_areActs_41 : decode cX7_areActs 41 = .ok (.if_icmp .lt 14, 3) := by decide +kernel
theorem dX7_areActs_44 : decode cX7_areActs 44 = .ok (.iload 4, 2) := by decide +kernel
theorem dX7_areActs_46 : decode cX7_areActs 46 = .ok (.bipush 15, 2) := by decide +kernel
theorem dX7_areActs_48 : decode cX7_areActs 48 = .ok (.if_icmp .ge 7, 3) := by decide +kernel
theorem dX7_areActs_51 : decode cX7_areActs 51 = .ok (.iconst 1, 1) := by decide +kernel
theorem dX7_areActs_52 : decode cX7_areActs 52 = .ok (.goto 4, 3) := by decide +kernel
theorem dX7_areActs_55 : decode cX7_areActs 55 = .ok (.iconst 0, 1) := by decide +kernel
theorem dX7_areActs_56 : decode cX7_areActs 56 = .ok (.istore 6, 2) := by decide +kernel
theorem dX7_areActs_58 : decode cX7_areActs 58 = .ok (.iload 5, 2) := by decide +kernel
theorem dX7_areActs_60 : decode cX7_areActs 60 = .ok (.ifCond .ne 10, 3) := by decide +kernel
theorem dX7_areActs_63 : decode cX7_areActs 63 = .ok (.iload 6, 2) := by decide +kernel
theorem dX7_areActs_65 : decode cX7_areActs 65 = .ok (.ifCond .ne 5, 3) := by decide +kernel
theorem dX7_areActs_68 : decode cX7_areActs 68 = .ok (.iconst 0, 1) := by decide +kernel
theorem dX7_areActs_69 : decode cX7_areActs 69 = .ok (.ireturn, 1) := by decide +kernel
theorem dX7_areActs_70 : decode cX7_areActs 70 = .ok (.iinc 3 1, 3) := by decide +kernel
theorem dX7_areActs_73 : decode cX7_areActs 73 = .ok (.goto (-71), 3) := by decide +kernel
theorem dX7_areActs_76 : decode cX7_areActs 76 = .ok (.iconst 1, 1) := by decide +kernel
theorem dX7_areActs_77 : decode cX7_areActs 77 = .ok (.ireturn, 1) := by decide +kernel
set_option maxRecDepth 20000 in
theorem aw_wsX3_held : wsX3_held.all goodWord = true := by decide +kernel
set_option maxRecDepth 20000 in
theorem ggX7_ofDraft_X3_held : GoodIn wsX7_ofDraft wsX3_held := goodIn_r _ [10, 11, 12, 13, 14, 15, 16, 17, 18, 64, 65, 66, 67, 68, 69] rfl aw_wsX3_held
set_option maxRecDepth 20000 in
theorem gX7_ofDraft_X3_held : GoodIn wsX7_ofDraft (wsV RX7 221 RX3 yX3_held wsX3_held) := goodIn_app (goodIn_r _ [6, 7, 8, 9] rfl (by decide +kernel)) ggX7_ofDraft_X3_held
set_option maxRecDepth 20000 in
theorem aw_wsX0_greatest : wsX0_greatest.all goodWord = true := by decide +kernel
set_option maxRecDepth 20000 in
theorem ggX7_ofDraft_X0_greatest : GoodIn wsX7_ofDraft wsX0_greatest := goodIn_r _ [23, 24, 25, 26, 27, 28, 29, 30, 31, 32, 9, 33, 11, 70, 71, 72, 73, 74, 75, 76, 64, 65, 66, 67, 68, 69] rfl aw_wsX0_greatest
set_option maxRecDepth 20000 in
theorem gX7_ofDraft_X0_greatest : GoodIn wsX7_ofDraft (wsV RX7 227 RX0 yX0_greatest wsX0_greatest) := goodIn_app (goodIn_r _ [19, 20, 21, 22] rfl (by decide +kernel)) ggX7_ofDraft_X0_greatest
set_option maxRecDepth 20000 in
theorem aw_wsX2_toldCount : wsX2_toldCount.all goodWord = true := by decide +kernel
set_option maxRecDepth 20000 in
theorem ggX7_ofDraft_X2_toldCount : GoodIn wsX7_ofDraft wsX2_toldCount := goodIn_r _ [38, 39, 40, 41, 13, 14, 15, 16, 17, 18, 77, 78, 79, 80, 81, 82, 83, 84, 85] rfl aw_wsX2_toldCount
set_option maxRecDepth 20000 in
theorem gX7_ofDraft_X2_toldCount : GoodIn wsX7_ofDraft (wsV RX7 230 RX2 yX2_toldCount wsX2_toldCount) := goodIn_app (goodIn_r _ [34, 35, 36, 37] rfl (by decide +kernel)) ggX7_ofDraft_X2_toldCount
set_option maxRecDepth 20000 in
theorem aw_wsX7_heldInDraft : wsX7_heldInDraft.all goodWord = true := by decide +kernel
set_option maxRecDepth 20000 in
theorem ggX7_ofDraft_X7_heldInDraft : GoodIn wsX7_ofDraft wsX7_heldInDraft := goodIn_r _ [46, 1, 5, 47, 2, 48, 49, 13, 14, 15, 16, 17, 18, 50, 51, 52, 53, 54, 55, 56, 57, 58, 59, 60, 61, 62, 63, 77, 78, 79, 80, 81, 82, 83, 84, 85, 64, 65, 66, 67, 68, 69] rfl aw_wsX7_heldInDraft
set_option maxRecDepth 20000 in
theorem gX7_ofDraft_X7_heldInDraft : GoodIn wsX7_ofDraft (wsV RX7 233 RX7 yX7_heldInDraft wsX7_heldInDraft) := goodIn_app (goodIn_r _ [42, 43, 44, 45] rfl (by decide +kernel)) ggX7_ofDraft_X7_heldInDraft
theorem dX7_ofDraft_0 : decode cX7_ofDraft 0 = .ok (.iload_n 1, 1) := by decide +kernel
theorem dX7_ofDraft_1 : decode cX7_ofDraft 1 = .ok (.tableswitch 79 0 4 #[35, 79, 46, 57, 68], 35) := by decide +kernel
theorem dX7_ofDraft_36 : decode cX7_ofDraft 36 = .ok (.aload_n 0, 1) := by decide +kernel
theorem dX7_ofDraft_37 : decode cX7_ofDraft 37 = .ok (.getfield 25, 3) := by decide +kernel
theorem dX7_ofDraft_40 : decode cX7_ofDraft 40 = .ok (.getfield 141, 3) := by decide +kernel
theorem dX7_ofDraft_43 : decode cX7_ofDraft 43 = .ok (.invokevirtual 221, 3) := by decide +kernel
theorem dX7_ofDraft_46 : decode cX7_ofDraft 46 = .ok (.ireturn, 1) := by decide +kernel
theorem dX7_ofDraft_47 : decode cX7_ofDraft 47 = .ok (.aload_n 0, 1) := by decide +kernel
theorem dX7_ofDraft_48 : decode cX7_ofDraft 48 = .ok (.getfield 25, 3) := by decide +kernel
theorem dX7_ofDraft_51 : decode cX7_ofDraft 51 = .ok (.getfield 141, 3) := by decide +kernel
theorem dX7_ofDraft_54 : decode cX7_ofDraft 54 = .ok (.getfield 224, 3) := by decide +kernel
theorem dX7_ofDraft_57 : decode cX7_ofDraft 57 = .ok (.ireturn, 1) := by decide +kernel
theorem dX7_ofDraft_58 : decode cX7_ofDraft 58 = .ok (.aload_n 0, 1) := by decide +kernel
theorem dX7_ofDraft_59 : decode cX7_ofDraft 59 = .ok (.getfield 25, 3) := by decide +kernel
theorem dX7_ofDraft_62 : decode cX7_ofDraft 62 = .ok (.getfield 187, 3) := by decide +kernel
theorem dX7_ofDraft_65 : decode cX7_ofDraft 65 = .ok (.invokevirtual 227, 3) := by decide +kernel
theorem dX7_ofDraft_68 : decode cX7_ofDraft 68 = .ok (.ireturn, 1) := by decide +kernel
theorem dX7_ofDraft_69 : decode cX7_ofDraft 69 = .ok (.aload_n 0, 1) := by decide +kernel
theorem dX7_ofDraft_70 : decode cX7_ofDraft 70 = .ok (.getfield 25, 3) := by decide +kernel
theorem dX7_ofDraft_73 : decode cX7_ofDraft 73 = .ok (.getfield 68, 3) := by decide +kernel
theorem dX7_ofDraft_76 : decode cX7_ofDraft 76 = .ok (.invokevirtual 230, 3) := by decide +kernel
theorem dX7_ofDraft_79 : decode cX7_ofDraft 79 = .ok (.ireturn, 1) := by decide +kernel
theorem dX7_ofDraft_80 : decode cX7_ofDraft 80 = .ok (.aload_n 0, 1) := by decide +kernel
theorem dX7_ofDraft_81 : decode cX7_ofDraft 81 = .ok (.iload_n 1, 1) := by decide +kernel
theorem dX7_ofDraft_82 : decode cX7_ofDraft 82 = .ok (.bipush 10, 2) := by decide +kernel
theorem dX7_ofDraft_84 : decode cX7_ofDraft 84 = .ok (.isub, 1) := by decide +kernel
theorem dX7_ofDraft_85 : decode cX7_ofDraft 85 = .ok (.invokevirtual 233, 3) := by decide +kernel
theorem dX7_ofDraft_88 : decode cX7_ofDraft 88 = .ok (.ireturn, 1) := by decide +kernel
set_option maxRecDepth 20000 in
theorem ggX7_heldInDraft_J6_bitCount_0f7a4 : GoodIn wsX7_heldInDraft wsJ6_bitCount_0f7a4 := goodIn_r _ [9, 10, 11, 12] rfl aw_wsJ6_bitCount_0f7a4
set_option maxRecDepth 20000 in
theorem gX7_heldInDraft_J6_bitCount_0f7a4 : GoodIn wsX7_heldInDraft (va_wsS RX7 150 yJ6_bitCount_0f7a4 wsJ6_bitCount_0f7a4) := goodIn_app (goodIn_r _ [6, 7, 8] rfl (by decide +kernel)) ggX7_heldInDraft_J6_bitCount_0f7a4
theorem dX7_heldInDraft_0 : decode cX7_heldInDraft 0 = .ok (.iload_n 1, 1) := by decide +kernel
theorem dX7_heldInDraft_1 : decode cX7_heldInDraft 1 = .ok (.ifCond .lt 35, 3) := by decide +kernel
theorem dX7_heldInDraft_4 : decode cX7_heldInDraft 4 = .ok (.iload_n 1, 1) := by decide +kernel
theorem dX7_heldInDraft_5 : decode cX7_heldInDraft 5 = .ok (.aload_n 0, 1) := by decide +kernel
theorem dX7_heldInDraft_6 : decode cX7_heldInDraft 6 = .ok (.getfield 25, 3) := by decide +kernel
theorem dX7_heldInDraft_9 : decode cX7_heldInDraft 9 = .ok (.getfield 68, 3) := by decide +kernel
theorem dX7_heldInDraft_12 : decode cX7_heldInDraft 12 = .ok (.getfield 236, 3) := by decide +kernel
theorem dX7_heldInDraft_15 : decode cX7_heldInDraft 15 = .ok (.if_icmp .ge 21, 3) := by decide +kernel
theorem dX7_heldInDraft_18 : decode cX7_heldInDraft 18 = .ok (.aload_n 0, 1) := by decide +kernel
theorem dX7_heldInDraft_19 : decode cX7_heldInDraft 19 = .ok (.getfield 25, 3) := by decide +kernel
theorem dX7_heldInDraft_22 : decode cX7_heldInDraft 22 = .ok (.getfield 141, 3) := by decide +kernel
theorem dX7_heldInDraft_25 : decode cX7_heldInDraft 25 = .ok (.getfield 145, 3) := by decide +kernel
theorem dX7_heldInDraft_28 : decode cX7_heldInDraft 28 = .ok (.iload_n 1, 1) := by decide +kernel
theorem dX7_heldInDraft_29 : decode cX7_heldInDraft 29 = .ok (.iaload, 1) := by decide +kernel
theorem dX7_heldInDraft_30 : decode cX7_heldInDraft 30 = .ok (.invokestatic 150, 3) := by decide +kernel
theorem dX7_heldInDraft_33 : decode cX7_heldInDraft 33 = .ok (.goto 5, 3) := by decide +kernel
theorem dX7_heldInDraft_36 : decode cX7_heldInDraft 36 = .ok (.bipush (-9), 2) := by decide +kernel
theorem dX7_heldInDraft_38 : decode cX7_heldInDraft 38 = .ok (.ireturn, 1) := by decide +kernel
set_option maxRecDepth 20000 in
theorem ggX7_firstWrong_X6_take : GoodIn wsX7_firstWrong wsX6_take := goodIn_r _ [9, 10, 11, 12, 13, 14, 15, 16, 17, 18, 19, 20, 21, 22, 23, 24, 25, 26, 27, 28, 29, 97, 98, 99, 100, 101, 106, 107, 108, 109, 110, 111, 112, 113, 114] rfl aw_wsX6_take
set_option maxRecDepth 20000 in
theorem gX7_firstWrong_X6_take : GoodIn wsX7_firstWrong (wsV RX7 93 RX6 yX6_take wsX6_take) := goodIn_app (goodIn_r _ [5, 6, 7, 8] rfl (by decide +kernel)) ggX7_firstWrong_X6_take
set_option maxRecDepth 20000 in
theorem aw_wsX7_acts : wsX7_acts.all goodWord = true := by decide +kernel
set_option maxRecDepth 20000 in
theorem ggX7_firstWrong_X7_acts : GoodIn wsX7_firstWrong wsX7_acts := goodIn_r _ [34, 1, 3, 35, 36, 37, 38, 39, 15, 40, 41, 42, 43, 44, 23, 45, 46, 47, 8, 48, 10, 49, 11, 50, 51, 52, 53, 54, 55, 56, 57, 58, 59, 60, 61, 62, 63, 64, 65, 66, 67, 68, 69, 70, 71, 72, 73, 74, 75, 76, 77, 78, 79, 80, 81, 33, 82, 83, 84, 85, 86, 87, 88, 89, 90, 91, 92, 93, 94, 95, 96, 97, 98, 99, 100, 101, 106, 107, 108, 109, 110, 111, 112, 113, 114, 115, 116, 117] rfl aw_wsX7_acts
set_option maxRecDepth 20000 in
theorem gX7_firstWrong_X7_acts : GoodIn wsX7_firstWrong (wsV RX7 239 RX7 yX7_acts wsX7_acts) := goodIn_app (goodIn_r _ [30, 31, 32, 33] rfl (by decide +kernel)) ggX7_firstWrong_X7_acts
theorem dX7_firstWrong_0 : decode cX7_firstWrong 0 = .ok (.aload_n 0, 1) := by decide +kernel
theorem dX7_firstWrong_1 : decode cX7_firstWrong 1 = .ok (.getfield 25, 3) := by decide +kernel
theorem dX7_firstWrong_4 : decode cX7_firstWrong 4 = .ok (.aload_n 0, 1) := by decide +kernel
theorem dX7_firstWrong_5 : decode cX7_firstWrong 5 = .ok (.getfield 21, 3) := by decide +kernel
theorem dX7_firstWrong_8 : decode cX7_firstWrong 8 = .ok (.getfield 68, 3) := by decide +kernel
theorem dX7_firstWrong_11 : decode cX7_firstWrong 11 = .ok (.invokevirtual 93, 3) := by decide +kernel
theorem dX7_firstWrong_14 : decode cX7_firstWrong 14 = .ok (.iconst 0, 1) := by decide +kernel
theorem dX7_firstWrong_15 : decode cX7_firstWrong 15 = .ok (.istore 4, 2) := by decide +kernel
theorem dX7_firstWrong_17 : decode cX7_firstWrong 17 = .ok (.iload 4, 2) := by decide +kernel
theorem dX7_firstWrong_19 : decode cX7_firstWrong 19 = .ok (.iload_n 3, 1) := by decide +kernel
theorem dX7_firstWrong_20 : decode cX7_firstWrong 20 = .ok (.if_icmp .ge 52, 3) := by decide +kernel
theorem dX7_firstWrong_23 : decode cX7_firstWrong 23 = .ok (.iload_n 2, 1) := by decide +kernel
theorem dX7_firstWrong_24 : decode cX7_firstWrong 24 = .ok (.iconst 3, 1) := by decide +kernel
theorem dX7_firstWrong_25 : decode cX7_firstWrong 25 = .ok (.iload 4, 2) := by decide +kernel
theorem dX7_firstWrong_27 : decode cX7_firstWrong 27 = .ok (.imul, 1) := by decide +kernel
theorem dX7_firstWrong_28 : decode cX7_firstWrong 28 = .ok (.iadd, 1) := by decide +kernel
theorem dX7_firstWrong_29 : decode cX7_firstWrong 29 = .ok (.istore 5, 2) := by decide +kernel
theorem dX7_firstWrong_31 : decode cX7_firstWrong 31 = .ok (.aload_n 0, 1) := by decide +kernel
theorem dX7_firstWrong_32 : decode cX7_firstWrong 32 = .ok (.aload_n 1, 1) := by decide +kernel
theorem dX7_firstWrong_33 : decode cX7_firstWrong 33 = .ok (.getfield 218, 3) := by decide +kernel
theorem dX7_firstWrong_36 : decode cX7_firstWrong 36 = .ok (.iload 5, 2) := by decide +kernel
theorem dX7_firstWrong_38 : decode cX7_firstWrong 38 = .ok (.iaload, 1) := by decide +kernel
theorem dX7_firstWrong_39 : decode cX7_firstWrong 39 = .ok (.aload_n 1, 1) := by decide +kernel
theorem dX7_firstWrong_40 : decode cX7_firstWrong 40 = .ok (.getfield 218, 3) := by decide +kernel
theorem dX7_firstWrong_43 : decode cX7_firstWrong 43 = .ok (.iload 5, 2) := by decide +kernel
theorem dX7_firstWrong_45 : decode cX7_firstWrong 45 = .ok (.iconst 1, 1) := by decide +kernel
theorem dX7_firstWrong_46 : decode cX7_firstWrong 46 = .ok (.iadd, 1) := by decide +kernel
theorem dX7_firstWrong_47 : decode cX7_firstWrong 47 = .ok (.iaload, 1) := by decide +kernel
theorem dX7_firstWrong_48 : decode cX7_firstWrong 48 = .ok (.aload_n 1, 1) := by decide +kernel
theorem dX7_firstWrong_49 : decode cX7_firstWrong 49 = .ok (.getfield 218, 3) := by decide +kernel
theorem dX7_firstWrong_52 : decode cX7_firstWrong 52 = .ok (.iload 5, 2) := by decide +kernel
theorem dX7_firstWrong_54 : decode cX7_firstWrong 54 = .ok (.iconst 2, 1) := by decide +kernel
theorem dX7_firstWrong_55 : decode cX7_firstWrong 55 = .ok (.iadd, 1) := by decide +kernel
theorem dX7_firstWrong_56 : decode cX7_firstWrong 56 = .ok (.iaload, 1) := by decide +kernel
theorem dX7_firstWrong_57 : decode cX7_firstWrong 57 = .ok (.invokevirtual 239, 3) := by decide +kernel
theorem dX7_firstWrong_60 : decode cX7_firstWrong 60 = .ok (.ifCond .ne 6, 3) := by decide +kernel
theorem dX7_firstWrong_63 : decode cX7_firstWrong 63 = .ok (.iload 4, 2) := by decide +kernel
theorem dX7_firstWrong_65 : decode cX7_firstWrong 65 = .ok (.ireturn, 1) := by decide +kernel
theorem dX7_firstWrong_66 : decode cX7_firstWrong 66 = .ok (.iinc 4 1, 3) := by decide +kernel
theorem dX7_firstWrong_69 : decode cX7_firstWrong 69 = .ok (.goto (-52), 3) := by decide +kernel
theorem dX7_firstWrong_72 : decode cX7_firstWrong 72 = .ok (.bipush (-9), 2) := by decide +kernel
theorem dX7_firstWrong_74 : decode cX7_firstWrong 74 = .ok (.ireturn, 1) := by decide +kernel
set_option maxRecDepth 20000 in
theorem ggX7_acts_X2_fits : GoodIn wsX7_acts wsX2_fits := goodIn_r _ [9, 10, 11, 12, 8, 13, 14, 76, 77, 78, 79, 80, 81, 82, 83, 84] rfl aw_wsX2_fits
set_option maxRecDepth 20000 in
theorem gX7_acts_X2_fits : GoodIn wsX7_acts (wsV RX7 161 RX2 yX2_fits wsX2_fits) := goodIn_app (goodIn_r _ [5, 6, 7, 8] rfl (by decide +kernel)) ggX7_acts_X2_fits
set_option maxRecDepth 20000 in
theorem ggX7_acts_X6_reforms : GoodIn wsX7_acts wsX6_reforms := goodIn_r _ [19, 20, 21, 22, 23, 24, 25, 26, 27, 28, 29, 30, 31, 32, 33, 34, 35, 36, 37, 38, 39, 40, 41, 42, 43, 44, 45, 46, 47, 48, 49, 50, 51, 52, 11, 12, 8, 13, 14, 71, 72, 73, 74, 75, 76, 77, 78, 79, 80, 81, 82, 83, 84, 85, 86, 87] rfl aw_wsX6_reforms
set_option maxRecDepth 20000 in
theorem gX7_acts_X6_reforms : GoodIn wsX7_acts (wsV RX7 164 RX6 yX6_reforms wsX6_reforms) := goodIn_app (goodIn_r _ [15, 16, 17, 18] rfl (by decide +kernel)) ggX7_acts_X6_reforms
set_option maxRecDepth 20000 in
theorem ggX7_acts_X7_isThing : GoodIn wsX7_acts wsX7_isThing := goodIn_r _ [56] rfl aw_wsX7_isThing
set_option maxRecDepth 20000 in
theorem gX7_acts_X7_isThing : GoodIn wsX7_acts (va_wsS RX7 167 yX7_isThing wsX7_isThing) := goodIn_app (goodIn_r _ [53, 54, 55] rfl (by decide +kernel)) ggX7_acts_X7_isThing
set_option maxRecDepth 20000 in
theorem ggX7_acts_X6_toggle : GoodIn wsX7_acts wsX6_toggle := goodIn_r _ [60, 20, 61, 22, 71, 72, 73, 74, 75, 76, 77, 78, 79, 80, 81, 82, 83, 84] rfl aw_wsX6_toggle
set_option maxRecDepth 20000 in
theorem gX7_acts_X6_toggle : GoodIn wsX7_acts (wsV RX7 170 RX6 yX6_toggle wsX6_toggle) := goodIn_app (goodIn_r _ [57, 58, 59, 18] rfl (by decide +kernel)) ggX7_acts_X6_toggle
theorem dX7_acts_0 : decode cX7_acts 0 = .ok (.iload_n 1, 1) := by decide +kernel
theorem dX7_acts_1 : decode cX7_acts 1 = .ok (.bipush 10, 2) := by decide +kernel
theorem dX7_acts_3 : decode cX7_acts 3 = .ok (.if_icmp .lt 59, 3) := by decide +kernel
theorem dX7_acts_6 : decode cX7_acts 6 = .ok (.iload_n 1, 1) := by decide +kernel
theorem dX7_acts_7 : decode cX7_acts 7 = .ok (.bipush 10, 2) := by decide +kernel
theorem dX7_acts_9 : decode cX7_acts 9 = .ok (.isub, 1) := by decide +kernel
theorem dX7_acts_10 : decode cX7_acts 10 = .ok (.istore 4, 2) := by decide +kernel
theorem dX7_acts_12 : decode cX7_acts 12 = .ok (.iload 4, 2) := by decide +kernel
theorem dX7_acts_14 : decode cX7_acts 14 = .ok (.aload_n 0, 1) := by decide +kernel
theorem dX7_acts_15 : decode cX7_acts 15 = .ok (.getfield 25, 3) := by decide +kernel
theorem dX7_acts_18 : decode cX7_acts 18 = .ok (.getfield 68, 3) := by decide +kernel
theorem dX7_acts_21 : decode cX7_acts 21 = .ok (.getfield 100, 3) := by decide +kernel
theorem dX7_acts_24 : decode cX7_acts 24 = .ok (.if_icmp .ge 36, 3) := by decide +kernel
theorem dX7_acts_27 : decode cX7_acts 27 = .ok (.aload_n 0, 1) := by decide +kernel
theorem dX7_acts_28 : decode cX7_acts 28 = .ok (.getfield 25, 3) := by decide +kernel
theorem dX7_acts_31 : decode cX7_acts 31 = .ok (.getfield 68, 3) := by decide +kernel
theorem dX7_acts_34 : decode cX7_acts 34 = .ok (.iload 4, 2) := by decide +kernel
theorem dX7_acts_36 : decode cX7_acts 36 = .ok (.iload_n 2, 1) := by decide +kernel
theorem dX7_acts_37 : decode cX7_acts 37 = .ok (.invokevirtual 161, 3) := by decide +kernel
theorem dX7_acts_40 : decode cX7_acts 40 = .ok (.ifCond .eq 20, 3) := by decide +kernel
theorem dX7_acts_43 : decode cX7_acts 43 = .ok (.aload_n 0, 1) := by decide +kernel
theorem dX7_acts_44 : decode cX7_acts 44 = .ok (.getfield 25, 3) := by decide +kernel
theorem dX7_acts_47 : decode cX7_acts 47 = .ok (.iload 4, 2) := by decide +kernel
theorem dX7_acts_49 : decode cX7_acts 49 = .ok (.iload_n 2, 1) := by decide +kernel
theorem dX7_acts_50 : decode cX7_acts 50 = .ok (.invokevirtual 164, 3) := by decide +kernel
theorem dX7_acts_53 : decode cX7_acts 53 = .ok (.ifCond .eq 7, 3) := by decide +kernel
theorem dX7_acts_56 : decode cX7_acts 56 = .ok (.iconst 1, 1) := by decide +kernel
theorem dX7_acts_57 : decode cX7_acts 57 = .ok (.goto 4, 3) := by decide +kernel
theorem dX7_acts_60 : decode cX7_acts 60 = .ok (.iconst 0, 1) := by decide +kernel
theorem dX7_acts_61 : decode cX7_acts 61 = .ok (.ireturn, 1) := by decide +kernel
theorem dX7_acts_62 : decode cX7_acts 62 = .ok (.iload_n 1, 1) := by decide +kernel
theorem dX7_acts_63 : decode cX7_acts 63 = .ok (.ifCond .lt 31, 3) := by decide +kernel
theorem dX7_acts_66 : decode cX7_acts 66 = .ok (.iload_n 1, 1) := by decide +kernel
theorem dX7_acts_67 : decode cX7_acts 67 = .ok (.aload_n 0, 1) := by decide +kernel
theorem dX7_acts_68 : decode cX7_acts 68 = .ok (.getfield 25, 3) := by decide +kernel
theorem dX7_acts_71 : decode cX7_acts 71 = .ok (.getfield 68, 3) := by decide +kernel
theorem dX7_acts_74 : decode cX7_acts 74 = .ok (.getfield 236, 3) := by decide +kernel
theorem dX7_acts_77 : decode cX7_acts 77 = .ok (.if_icmp .ge 17, 3) := by decide +kernel
theorem dX7_acts_80 : decode cX7_acts 80 = .ok (.iload_n 2, 1) := by decide +kernel
theorem dX7_acts_81 : decode cX7_acts 81 = .ok (.invokestatic 167, 3) := by decide +kernel
theorem dX7_acts_84 : decode cX7_acts 84 = .ok (.ifCond .eq 10, 3) := by decide +kernel
theorem dX7_acts_87 : decode cX7_acts 87 = .ok (.iload_n 3, 1) := by decide +kernel
theorem dX7_acts_88 : decode cX7_acts 88 = .ok (.invokestatic 167, 3) := by decide +kernel
theorem dX7_acts_91 : decode cX7_acts 91 = .ok (.ifCond .ne 5, 3) := by decide +kernel
theorem dX7_acts_94 : decode cX7_acts 94 = .ok (.iconst 0, 1) := by decide +kernel
theorem dX7_acts_95 : decode cX7_acts 95 = .ok (.ireturn, 1) := by decide +kernel
theorem dX7_acts_96 : decode cX7_acts 96 = .ok (.aload_n 0, 1) := by decide +kernel
theorem dX7_acts_97 : decode cX7_acts 97 = .ok (.getfield 25, 3) := by decide +kernel
theorem dX7_acts_100 : decode cX7_acts 100 = .ok (.iload_n 1, 1) := by decide +kernel
theorem dX7_acts_101 : decode cX7_acts 101 = .ok (.iload_n 2, 1) := by decide +kernel
theorem dX7_acts_102 : decode cX7_acts 102 = .ok (.iload_n 3, 1) := by decide +kernel
theorem dX7_acts_103 : decode cX7_acts 103 = .ok (.invokevirtual 170, 3) := by decide +kernel
theorem dX7_acts_106 : decode cX7_acts 106 = .ok (.pop, 1) := by decide +kernel
theorem dX7_acts_107 : decode cX7_acts 107 = .ok (.iconst 1, 1) := by decide +kernel
theorem dX7_acts_108 : decode cX7_acts 108 = .ok (.ireturn, 1) := by decide +kernel
set_option maxRecDepth 20000 in
theorem ggX7_rounds_X2_isThere : GoodIn wsX7_rounds wsX2_isThere := goodIn_r _ [9, 10, 163, 164, 165, 166, 167, 168, 169, 170, 171] rfl aw_wsX2_isThere
set_option maxRecDepth 20000 in
theorem gX7_rounds_X2_isThere : GoodIn wsX7_rounds (wsV RX7 205 RX2 yX2_isThere wsX2_isThere) := goodIn_app (goodIn_r _ [5, 6, 7, 8] rfl (by decide +kernel)) ggX7_rounds_X2_isThere
set_option maxRecDepth 20000 in
theorem ggX7_rounds_X6_settle : GoodIn wsX7_rounds wsX6_settle := goodIn_r _ [15, 16, 17, 18, 19, 20, 21, 22, 23, 24, 25, 26, 27, 28, 29, 30, 31, 32, 33, 34, 35, 36, 37, 38, 39, 40, 41, 42, 43, 44, 45, 46, 47, 48, 49, 50, 8, 51, 52, 53, 54, 55, 56, 57, 58, 59, 60, 61, 62, 63, 64, 65, 66, 67, 68, 69, 70, 71, 72, 73, 74, 75, 76, 77, 78, 79, 80, 81, 82, 83, 84, 85, 86, 87, 88, 89, 90, 91, 92, 93, 94, 95, 96, 97, 98, 99, 100, 101, 102, 103, 104, 105, 106, 107, 108, 109, 110, 111, 112, 113, 114, 115, 116, 117, 118, 119, 120, 121, 122, 123, 124, 125, 126, 127, 128, 129, 130, 131, 132, 133, 134, 135, 136, 137, 138, 139, 140, 141, 142, 152, 153, 154, 155, 156, 172, 173, 174, 163, 164, 165, 166, 167, 168, 169, 170, 171, 157, 158, 159, 160, 161, 162, 175, 176, 177, 178, 179, 180, 181] rfl aw_wsX6_settle
set_option maxRecDepth 20000 in
theorem gX7_rounds_X6_settle : GoodIn wsX7_rounds (wsV RX7 135 RX6 yX6_settle wsX6_settle) := goodIn_app (goodIn_r _ [11, 12, 13, 14] rfl (by decide +kernel)) ggX7_rounds_X6_settle
theorem dX7_rounds_0 : decode cX7_rounds 0 = .ok (.aload_n 0, 1) := by decide +kernel
theorem dX7_rounds_1 : decode cX7_rounds 1 = .ok (.getfield 21, 3) := by decide +kernel
theorem dX7_rounds_4 : decode cX7_rounds 4 = .ok (.getfield 68, 3) := by decide +kernel
theorem dX7_rounds_7 : decode cX7_rounds 7 = .ok (.invokevirtual 205, 3) := by decide +kernel
theorem dX7_rounds_10 : decode cX7_rounds 10 = .ok (.ifCond .ne 6, 3) := by decide +kernel
theorem dX7_rounds_13 : decode cX7_rounds 13 = .ok (.bipush (-3), 2) := by decide +kernel
theorem dX7_rounds_15 : decode cX7_rounds 15 = .ok (.ireturn, 1) := by decide +kernel
theorem dX7_rounds_16 : decode cX7_rounds 16 = .ok (.aload_n 0, 1) := by decide +kernel
theorem dX7_rounds_17 : decode cX7_rounds 17 = .ok (.getfield 21, 3) := by decide +kernel
theorem dX7_rounds_20 : decode cX7_rounds 20 = .ok (.invokevirtual 135, 3) := by decide +kernel
theorem dX7_rounds_23 : decode cX7_rounds 23 = .ok (.aload_n 0, 1) := by decide +kernel
theorem dX7_rounds_24 : decode cX7_rounds 24 = .ok (.getfield 21, 3) := by decide +kernel
theorem dX7_rounds_27 : decode cX7_rounds 27 = .ok (.getfield 141, 3) := by decide +kernel
theorem dX7_rounds_30 : decode cX7_rounds 30 = .ok (.getfield 224, 3) := by decide +kernel
theorem dX7_rounds_33 : decode cX7_rounds 33 = .ok (.ireturn, 1) := by decide +kernel
set_option maxRecDepth 20000 in
theorem ggX7_born_X2_isThere : GoodIn wsX7_born wsX2_isThere := goodIn_r _ [8, 9, 160, 161, 162, 163, 164, 165, 166, 167, 168] rfl aw_wsX2_isThere
set_option maxRecDepth 20000 in
theorem gX7_born_X2_isThere : GoodIn wsX7_born (wsV RX7 205 RX2 yX2_isThere wsX2_isThere) := goodIn_app (goodIn_r _ [4, 5, 6, 7] rfl (by decide +kernel)) ggX7_born_X2_isThere
set_option maxRecDepth 20000 in
theorem ggX7_born_X6_settle : GoodIn wsX7_born wsX6_settle := goodIn_r _ [14, 15, 16, 17, 18, 19, 20, 21, 22, 23, 24, 25, 26, 27, 28, 29, 30, 31, 32, 33, 34, 35, 36, 37, 38, 39, 40, 41, 42, 43, 44, 45, 46, 47, 48, 49, 7, 50, 51, 52, 53, 54, 55, 56, 57, 58, 59, 60, 61, 62, 63, 64, 65, 66, 67, 68, 69, 70, 71, 72, 73, 74, 75, 76, 77, 78, 79, 80, 81, 82, 83, 84, 85, 86, 87, 88, 89, 90, 91, 92, 93, 94, 95, 96, 97, 98, 99, 100, 101, 102, 103, 104, 105, 106, 107, 108, 109, 110, 111, 112, 113, 114, 115, 116, 117, 118, 119, 120, 121, 122, 123, 124, 125, 126, 127, 128, 129, 130, 131, 132, 133, 134, 135, 136, 137, 138, 139, 140, 141, 155, 156, 157, 158, 159, 169, 170, 171, 160, 161, 162, 163, 164, 165, 166, 167, 168, 172, 173, 174, 175, 176, 177, 178, 179, 180, 181, 182, 183, 184] rfl aw_wsX6_settle
set_option maxRecDepth 20000 in
theorem gX7_born_X6_settle : GoodIn wsX7_born (wsV RX7 135 RX6 yX6_settle wsX6_settle) := goodIn_app (goodIn_r _ [10, 11, 12, 13] rfl (by decide +kernel)) ggX7_born_X6_settle
set_option maxRecDepth 20000 in
theorem aw_wsX3_bornAt : wsX3_bornAt.all goodWord = true := by decide +kernel
set_option maxRecDepth 20000 in
theorem ggX7_born_X3_bornAt : GoodIn wsX7_born wsX3_bornAt := goodIn_r _ [145, 57, 172, 173, 174, 175, 176, 177] rfl aw_wsX3_bornAt
set_option maxRecDepth 20000 in
theorem gX7_born_X3_bornAt : GoodIn wsX7_born (wsV RX7 242 RX3 yX3_bornAt wsX3_bornAt) := goodIn_app (goodIn_r _ [142, 143, 144, 55] rfl (by decide +kernel)) ggX7_born_X3_bornAt
theorem dX7_born_0 : decode cX7_born 0 = .ok (.iload_n 1, 1) := by decide +kernel
theorem dX7_born_1 : decode cX7_born 1 = .ok (.ifCond .ge 6, 3) := by decide +kernel
theorem dX7_born_4 : decode cX7_born 4 = .ok (.bipush (-2), 2) := by decide +kernel
theorem dX7_born_6 : decode cX7_born 6 = .ok (.ireturn, 1) := by decide +kernel
theorem dX7_born_7 : decode cX7_born 7 = .ok (.aload_n 0, 1) := by decide +kernel
theorem dX7_born_8 : decode cX7_born 8 = .ok (.getfield 21, 3) := by decide +kernel
theorem dX7_born_11 : decode cX7_born 11 = .ok (.getfield 68, 3) := by decide +kernel
theorem dX7_born_14 : decode cX7_born 14 = .ok (.invokevirtual 205, 3) := by decide +kernel
theorem dX7_born_17 : decode cX7_born 17 = .ok (.ifCond .ne 6, 3) := by decide +kernel
theorem dX7_born_20 : decode cX7_born 20 = .ok (.bipush (-3), 2) := by decide +kernel
theorem dX7_born_22 : decode cX7_born 22 = .ok (.ireturn, 1) := by decide +kernel
theorem dX7_born_23 : decode cX7_born 23 = .ok (.aload_n 0, 1) := by decide +kernel
theorem dX7_born_24 : decode cX7_born 24 = .ok (.getfield 21, 3) := by decide +kernel
theorem dX7_born_27 : decode cX7_born 27 = .ok (.invokevirtual 135, 3) := by decide +kernel
theorem dX7_born_30 : decode cX7_born 30 = .ok (.aload_n 0, 1) := by decide +kernel
theorem dX7_born_31 : decode cX7_born 31 = .ok (.getfield 21, 3) := by decide +kernel
theorem dX7_born_34 : decode cX7_born 34 = .ok (.getfield 141, 3) := by decide +kernel
theorem dX7_born_37 : decode cX7_born 37 = .ok (.iload_n 1, 1) := by decide +kernel
theorem dX7_born_38 : decode cX7_born 38 = .ok (.invokevirtual 242, 3) := by decide +kernel
theorem dX7_born_41 : decode cX7_born 41 = .ok (.ireturn, 1) := by decide +kernel
set_option maxRecDepth 20000 in
theorem ggX7_ranked_X7_isRelation : GoodIn wsX7_ranked wsX7_isRelation := goodIn_r _ [7, 1, 8, 9, 158, 159, 160, 161, 162, 163, 164, 165, 166, 167, 168, 169, 170, 171, 172, 173, 174, 175, 176, 177, 178, 179, 180] rfl aw_wsX7_isRelation
set_option maxRecDepth 20000 in
theorem gX7_ranked_X7_isRelation : GoodIn wsX7_ranked (wsV RX7 132 RX7 yX7_isRelation wsX7_isRelation) := goodIn_app (goodIn_r _ [3, 4, 5, 6] rfl (by decide +kernel)) ggX7_ranked_X7_isRelation
set_option maxRecDepth 20000 in
theorem ggX7_ranked_X6_settle : GoodIn wsX7_ranked wsX6_settle := goodIn_r _ [14, 15, 16, 17, 18, 19, 20, 21, 22, 23, 24, 25, 26, 27, 28, 29, 30, 31, 32, 33, 34, 35, 36, 37, 38, 39, 40, 41, 42, 43, 44, 45, 46, 47, 48, 49, 50, 51, 52, 53, 54, 55, 56, 57, 58, 59, 60, 61, 62, 63, 64, 65, 66, 67, 68, 69, 70, 71, 72, 73, 74, 75, 76, 77, 78, 79, 80, 81, 82, 83, 84, 85, 86, 87, 88, 6, 89, 90, 91, 92, 93, 94, 95, 96, 97, 98, 99, 100, 101, 102, 103, 104, 105, 106, 107, 108, 109, 110, 111, 112, 113, 114, 115, 116, 117, 118, 119, 120, 121, 122, 123, 124, 125, 126, 127, 128, 129, 130, 131, 132, 133, 134, 135, 136, 137, 138, 139, 140, 141, 167, 168, 169, 170, 171, 181, 182, 183, 172, 173, 174, 175, 176, 177, 178, 179, 180, 184, 185, 186, 187, 188, 189, 190, 191, 192, 193, 194, 195, 196] rfl aw_wsX6_settle
set_option maxRecDepth 20000 in
theorem gX7_ranked_X6_settle : GoodIn wsX7_ranked (wsV RX7 135 RX6 yX6_settle wsX6_settle) := goodIn_app (goodIn_r _ [10, 11, 12, 13] rfl (by decide +kernel)) ggX7_ranked_X6_settle
set_option maxRecDepth 20000 in
theorem aw_wsX0_rankedFact : wsX0_rankedFact.all goodWord = true := by decide +kernel
set_option maxRecDepth 20000 in
theorem ggX7_ranked_X0_rankedFact : GoodIn wsX7_ranked wsX0_rankedFact := goodIn_r _ [145, 146, 147, 148, 149, 150, 98, 151, 103, 115, 138, 139, 140, 56, 141, 59, 152, 153, 154, 155, 156, 157, 100, 190, 191, 192, 193, 194, 195, 196, 184, 185, 186, 187, 188, 189, 181, 182, 183] rfl aw_wsX0_rankedFact
set_option maxRecDepth 20000 in
theorem gX7_ranked_X0_rankedFact : GoodIn wsX7_ranked (wsV RX7 245 RX0 yX0_rankedFact wsX0_rankedFact) := goodIn_app (goodIn_r _ [142, 143, 144, 98] rfl (by decide +kernel)) ggX7_ranked_X0_rankedFact
theorem dX7_ranked_0 : decode cX7_ranked 0 = .ok (.aload_n 0, 1) := by decide +kernel
theorem dX7_ranked_1 : decode cX7_ranked 1 = .ok (.iload_n 1, 1) := by decide +kernel
theorem dX7_ranked_2 : decode cX7_ranked 2 = .ok (.invokevirtual 132, 3) := by decide +kernel
theorem dX7_ranked_5 : decode cX7_ranked 5 = .ok (.ifCond .ne 5, 3) := by decide +kernel
theorem dX7_ranked_8 : decode cX7_ranked 8 = .ok (.iconst (-1), 1) := by decide +kernel
theorem dX7_ranked_9 : decode cX7_ranked 9 = .ok (.ireturn, 1) := by decide +kernel
theorem dX7_ranked_10 : decode cX7_ranked 10 = .ok (.iload_n 2, 1) := by decide +kernel
theorem dX7_ranked_11 : decode cX7_ranked 11 = .ok (.ifCond .ge 6, 3) := by decide +kernel
theorem dX7_ranked_14 : decode cX7_ranked 14 = .ok (.bipush (-2), 2) := by decide +kernel
theorem dX7_ranked_16 : decode cX7_ranked 16 = .ok (.ireturn, 1) := by decide +kernel
theorem dX7_ranked_17 : decode cX7_ranked 17 = .ok (.aload_n 0, 1) := by decide +kernel
theorem dX7_ranked_18 : decode cX7_ranked 18 = .ok (.getfield 21, 3) := by decide +kernel
theorem dX7_ranked_21 : decode cX7_ranked 21 = .ok (.invokevirtual 135, 3) := by decide +kernel
theorem dX7_ranked_24 : decode cX7_ranked 24 = .ok (.aload_n 0, 1) := by decide +kernel
theorem dX7_ranked_25 : decode cX7_ranked 25 = .ok (.getfield 21, 3) := by decide +kernel
theorem dX7_ranked_28 : decode cX7_ranked 28 = .ok (.getfield 187, 3) := by decide +kernel
theorem dX7_ranked_31 : decode cX7_ranked 31 = .ok (.iload_n 1, 1) := by decide +kernel
theorem dX7_ranked_32 : decode cX7_ranked 32 = .ok (.iload_n 2, 1) := by decide +kernel
theorem dX7_ranked_33 : decode cX7_ranked 33 = .ok (.invokevirtual 245, 3) := by decide +kernel
theorem dX7_ranked_36 : decode cX7_ranked 36 = .ok (.ireturn, 1) := by decide +kernel
set_option maxRecDepth 20000 in
theorem ggX7_settled_X2_isThere : GoodIn wsX7_settled wsX2_isThere := goodIn_r _ [8, 9, 172, 173, 174, 175, 176, 177, 178, 179, 180] rfl aw_wsX2_isThere
set_option maxRecDepth 20000 in
theorem gX7_settled_X2_isThere : GoodIn wsX7_settled (wsV RX7 205 RX2 yX2_isThere wsX2_isThere) := goodIn_app (goodIn_r _ [4, 5, 6, 7] rfl (by decide +kernel)) ggX7_settled_X2_isThere
set_option maxRecDepth 20000 in
theorem ggX7_settled_X6_settle : GoodIn wsX7_settled wsX6_settle := goodIn_r _ [14, 15, 16, 17, 18, 19, 20, 21, 22, 23, 24, 25, 26, 27, 28, 29, 30, 31, 32, 33, 34, 35, 36, 37, 38, 39, 40, 41, 42, 43, 44, 45, 46, 47, 48, 49, 7, 50, 51, 52, 53, 54, 55, 56, 57, 58, 59, 60, 61, 62, 63, 64, 65, 66, 67, 68, 69, 70, 71, 72, 73, 74, 75, 76, 77, 78, 79, 80, 81, 82, 83, 84, 85, 86, 87, 88, 89, 90, 91, 92, 93, 94, 95, 96, 97, 98, 99, 100, 101, 102, 103, 104, 105, 106, 107, 108, 109, 110, 111, 112, 113, 114, 115, 116, 117, 118, 119, 120, 121, 122, 123, 124, 125, 126, 127, 128, 129, 130, 131, 132, 133, 134, 135, 136, 137, 138, 139, 140, 141, 167, 168, 169, 170, 171, 181, 182, 183, 172, 173, 174, 175, 176, 177, 178, 179, 180, 184, 185, 186, 187, 188, 189, 190, 191, 192, 193, 194, 195, 196] rfl aw_wsX6_settle
set_option maxRecDepth 20000 in
theorem gX7_settled_X6_settle : GoodIn wsX7_settled (wsV RX7 135 RX6 yX6_settle wsX6_settle) := goodIn_app (goodIn_r _ [10, 11, 12, 13] rfl (by decide +kernel)) ggX7_settled_X6_settle
set_option maxRecDepth 20000 in
theorem aw_wsX0_settledFact : wsX0_settledFact.all goodWord = true := by decide +kernel
set_option maxRecDepth 20000 in
theorem ggX7_settled_X0_settledFact : GoodIn wsX7_settled wsX0_settledFact := goodIn_r _ [145, 146, 147, 148, 149, 150, 98, 151, 103, 115, 138, 139, 140, 55, 141, 58, 152, 153, 154, 155, 156, 157, 100, 190, 191, 192, 193, 194, 195, 196, 184, 185, 186, 187, 188, 189, 181, 182, 183] rfl aw_wsX0_settledFact
set_option maxRecDepth 20000 in
theorem gX7_settled_X0_settledFact : GoodIn wsX7_settled (wsV RX7 249 RX0 yX0_settledFact wsX0_settledFact) := goodIn_app (goodIn_r _ [142, 143, 144, 98] rfl (by decide +kernel)) ggX7_settled_X0_settledFact
theorem dX7_settled_0 : decode cX7_settled 0 = .ok (.iload_n 1, 1) := by decide +kernel
theorem dX7_settled_1 : decode cX7_settled 1 = .ok (.ifCond .ge 6, 3) := by decide +kernel
theorem dX7_settled_4 : decode cX7_settled 4 = .ok (.bipush (-2), 2) := by decide +kernel
theorem dX7_settled_6 : decode cX7_settled 6 = .ok (.ireturn, 1) := by decide +kernel
theorem dX7_settled_7 : decode cX7_settled 7 = .ok (.aload_n 0, 1) := by decide +kernel
theorem dX7_settled_8 : decode cX7_settled 8 = .ok (.getfield 21, 3) := by decide +kernel
theorem dX7_settled_11 : decode cX7_settled 11 = .ok (.getfield 68, 3) := by decide +kernel
theorem dX7_settled_14 : decode cX7_settled 14 = .ok (.invokevirtual 205, 3) := by decide +kernel
theorem dX7_settled_17 : decode cX7_settled 17 = .ok (.ifCond .ne 6, 3) := by decide +kernel
theorem dX7_settled_20 : decode cX7_settled 20 = .ok (.bipush (-3), 2) := by decide +kernel
theorem dX7_settled_22 : decode cX7_settled 22 = .ok (.ireturn, 1) := by decide +kernel
theorem dX7_settled_23 : decode cX7_settled 23 = .ok (.aload_n 0, 1) := by decide +kernel
theorem dX7_settled_24 : decode cX7_settled 24 = .ok (.getfield 21, 3) := by decide +kernel
theorem dX7_settled_27 : decode cX7_settled 27 = .ok (.invokevirtual 135, 3) := by decide +kernel
theorem dX7_settled_30 : decode cX7_settled 30 = .ok (.aload_n 0, 1) := by decide +kernel
theorem dX7_settled_31 : decode cX7_settled 31 = .ok (.getfield 21, 3) := by decide +kernel
theorem dX7_settled_34 : decode cX7_settled 34 = .ok (.getfield 187, 3) := by decide +kernel
theorem dX7_settled_37 : decode cX7_settled 37 = .ok (.iload_n 1, 1) := by decide +kernel
theorem dX7_settled_38 : decode cX7_settled 38 = .ok (.invokevirtual 249, 3) := by decide +kernel
theorem dX7_settled_41 : decode cX7_settled 41 = .ok (.ireturn, 1) := by decide +kernel
set_option maxRecDepth 20000 in
theorem ggX7_demands_X7_isRelation : GoodIn wsX7_demands wsX7_isRelation := goodIn_r _ [6, 1, 7, 8, 163, 164, 165, 166, 167, 168, 169, 170, 171, 172, 173, 174, 175, 176, 177, 178, 179, 180, 181, 182, 183, 184, 185] rfl aw_wsX7_isRelation
set_option maxRecDepth 20000 in
theorem gX7_demands_X7_isRelation : GoodIn wsX7_demands (wsV RX7 132 RX7 yX7_isRelation wsX7_isRelation) := goodIn_app (goodIn_r _ [2, 3, 4, 5] rfl (by decide +kernel)) ggX7_demands_X7_isRelation
set_option maxRecDepth 20000 in
theorem ggX7_demands_X7_isThing : GoodIn wsX7_demands wsX7_isThing := goodIn_r _ [11] rfl aw_wsX7_isThing
set_option maxRecDepth 20000 in
theorem gX7_demands_X7_isThing : GoodIn wsX7_demands (va_wsS RX7 167 yX7_isThing wsX7_isThing) := goodIn_app (goodIn_r _ [9, 10, 5] rfl (by decide +kernel)) ggX7_demands_X7_isThing
set_option maxRecDepth 20000 in
theorem ggX7_demands_X6_settle : GoodIn wsX7_demands wsX6_settle := goodIn_r _ [16, 17, 18, 19, 20, 21, 22, 23, 24, 25, 26, 27, 28, 29, 30, 31, 32, 33, 34, 35, 36, 37, 38, 39, 40, 41, 42, 43, 44, 45, 46, 47, 48, 49, 50, 51, 52, 53, 54, 55, 56, 57, 58, 59, 60, 61, 62, 63, 64, 65, 66, 67, 68, 69, 70, 71, 72, 73, 74, 75, 76, 77, 78, 79, 80, 81, 82, 83, 84, 85, 86, 87, 88, 89, 90, 5, 91, 92, 93, 94, 95, 96, 97, 98, 99, 100, 101, 102, 103, 104, 105, 106, 107, 108, 109, 110, 111, 112, 113, 114, 115, 116, 117, 118, 119, 120, 121, 122, 123, 124, 125, 126, 127, 128, 129, 130, 131, 132, 133, 134, 135, 136, 137, 138, 139, 140, 141, 142, 143, 172, 173, 174, 175, 176, 186, 187, 188, 177, 178, 179, 180, 181, 182, 183, 184, 185, 189, 190, 191, 192, 193, 194, 195, 196, 197, 198, 199, 200, 201] rfl aw_wsX6_settle
set_option maxRecDepth 20000 in
theorem gX7_demands_X6_settle : GoodIn wsX7_demands (wsV RX7 135 RX6 yX6_settle wsX6_settle) := goodIn_app (goodIn_r _ [12, 13, 14, 15] rfl (by decide +kernel)) ggX7_demands_X6_settle
set_option maxRecDepth 20000 in
theorem aw_wsX6_demandsOf : wsX6_demandsOf.all goodWord = true := by decide +kernel
set_option maxRecDepth 20000 in
theorem ggX7_demands_X6_demandsOf : GoodIn wsX7_demands wsX6_demandsOf := goodIn_r _ [147, 148, 149, 150, 151, 152, 15, 153, 154, 155, 156, 157, 95, 5, 96, 158, 159, 160, 161, 19, 162, 172, 173, 174, 175, 176, 177, 178, 179, 180, 181, 182, 183, 184, 185, 189, 190, 191, 192, 193, 194] rfl aw_wsX6_demandsOf
set_option maxRecDepth 20000 in
theorem gX7_demands_X6_demandsOf : GoodIn wsX7_demands (wsV RX7 252 RX6 yX6_demandsOf wsX6_demandsOf) := goodIn_app (goodIn_r _ [144, 145, 146, 15] rfl (by decide +kernel)) ggX7_demands_X6_demandsOf
theorem dX7_demands_0 : decode cX7_demands 0 = .ok (.aload_n 0, 1) := by decide +kernel
theorem dX7_demands_1 : decode cX7_demands 1 = .ok (.iload_n 1, 1) := by decide +kernel
theorem dX7_demands_2 : decode cX7_demands 2 = .ok (.invokevirtual 132, 3) := by decide +kernel
theorem dX7_demands_5 : decode cX7_demands 5 = .ok (.ifCond .ne 5, 3) := by decide +kernel
theorem dX7_demands_8 : decode cX7_demands 8 = .ok (.iconst (-1), 1) := by decide +kernel
theorem dX7_demands_9 : decode cX7_demands 9 = .ok (.ireturn, 1) := by decide +kernel
theorem dX7_demands_10 : decode cX7_demands 10 = .ok (.iload_n 2, 1) := by decide +kernel
theorem dX7_demands_11 : decode cX7_demands 11 = .ok (.invokestatic 167, 3) := by decide +kernel
theorem dX7_demands_14 : decode cX7_demands 14 = .ok (.ifCond .ne 6, 3) := by decide +kernel
theorem dX7_demands_17 : decode cX7_demands 17 = .ok (.bipush (-2), 2) := by decide +kernel
theorem dX7_demands_19 : decode cX7_demands 19 = .ok (.ireturn, 1) := by decide +kernel
theorem dX7_demands_20 : decode cX7_demands 20 = .ok (.aload_n 0, 1) := by decide +kernel
theorem dX7_demands_21 : decode cX7_demands 21 = .ok (.getfield 21, 3) := by decide +kernel
theorem dX7_demands_24 : decode cX7_demands 24 = .ok (.invokevirtual 135, 3) := by decide +kernel
theorem dX7_demands_27 : decode cX7_demands 27 = .ok (.aload_n 0, 1) := by decide +kernel
theorem dX7_demands_28 : decode cX7_demands 28 = .ok (.getfield 21, 3) := by decide +kernel
theorem dX7_demands_31 : decode cX7_demands 31 = .ok (.iload_n 1, 1) := by decide +kernel
theorem dX7_demands_32 : decode cX7_demands 32 = .ok (.iload_n 2, 1) := by decide +kernel
theorem dX7_demands_33 : decode cX7_demands 33 = .ok (.invokevirtual 252, 3) := by decide +kernel
theorem dX7_demands_36 : decode cX7_demands 36 = .ok (.ireturn, 1) := by decide +kernel
set_option maxRecDepth 20000 in
theorem ggX7_reading_X7_isRelation : GoodIn wsX7_reading wsX7_isRelation := goodIn_r _ [8, 9, 10, 11, 18, 19, 20, 21, 22, 23, 24, 25, 26, 27, 28, 29, 30, 31, 32, 33, 34, 35, 36, 37, 38, 39, 40] rfl aw_wsX7_isRelation
set_option maxRecDepth 20000 in
theorem gX7_reading_X7_isRelation : GoodIn wsX7_reading (wsV RX7 132 RX7 yX7_isRelation wsX7_isRelation) := goodIn_app (goodIn_r _ [4, 5, 6, 7] rfl (by decide +kernel)) ggX7_reading_X7_isRelation
set_option maxRecDepth 20000 in
theorem ggX7_reading_X7_isThing : GoodIn wsX7_reading wsX7_isThing := goodIn_r _ [14] rfl aw_wsX7_isThing
set_option maxRecDepth 20000 in
theorem gX7_reading_X7_isThing : GoodIn wsX7_reading (va_wsS RX7 167 yX7_isThing wsX7_isThing) := goodIn_app (goodIn_r _ [12, 13, 7] rfl (by decide +kernel)) ggX7_reading_X7_isThing
set_option maxRecDepth 20000 in
theorem ggX7_reading_X7_factOf : GoodIn wsX7_reading wsX7_factOf := goodIn_r _ [17] rfl aw_wsX7_factOf
set_option maxRecDepth 20000 in
theorem gX7_reading_X7_factOf : GoodIn wsX7_reading (va_wsS RX7 174 yX7_factOf wsX7_factOf) := goodIn_app (goodIn_r _ [15, 16, 7] rfl (by decide +kernel)) ggX7_reading_X7_factOf
theorem dX7_reading_0 : decode cX7_reading 0 = .ok (.aload_n 0, 1) := by decide +kernel
theorem dX7_reading_1 : decode cX7_reading 1 = .ok (.iload_n 1, 1) := by decide +kernel
theorem dX7_reading_2 : decode cX7_reading 2 = .ok (.invokevirtual 132, 3) := by decide +kernel
theorem dX7_reading_5 : decode cX7_reading 5 = .ok (.ifCond .ne 5, 3) := by decide +kernel
theorem dX7_reading_8 : decode cX7_reading 8 = .ok (.iconst (-1), 1) := by decide +kernel
theorem dX7_reading_9 : decode cX7_reading 9 = .ok (.ireturn, 1) := by decide +kernel
theorem dX7_reading_10 : decode cX7_reading 10 = .ok (.iload 4, 2) := by decide +kernel
theorem dX7_reading_12 : decode cX7_reading 12 = .ok (.ifCond .lt 11, 3) := by decide +kernel
theorem dX7_reading_15 : decode cX7_reading 15 = .ok (.iload 4, 2) := by decide +kernel
theorem dX7_reading_17 : decode cX7_reading 17 = .ok (.sipush 1000, 3) := by decide +kernel
theorem dX7_reading_20 : decode cX7_reading 20 = .ok (.if_icmp .le 10, 3) := by decide +kernel
theorem dX7_reading_23 : decode cX7_reading 23 = .ok (.iload 4, 2) := by decide +kernel
theorem dX7_reading_25 : decode cX7_reading 25 = .ok (.bipush (-9), 2) := by decide +kernel
theorem dX7_reading_27 : decode cX7_reading 27 = .ok (.if_icmp .ne 7, 3) := by decide +kernel
theorem dX7_reading_30 : decode cX7_reading 30 = .ok (.iconst 1, 1) := by decide +kernel
theorem dX7_reading_31 : decode cX7_reading 31 = .ok (.goto 4, 3) := by decide +kernel
theorem dX7_reading_34 : decode cX7_reading 34 = .ok (.iconst 0, 1) := by decide +kernel
theorem dX7_reading_35 : decode cX7_reading 35 = .ok (.istore 5, 2) := by decide +kernel
theorem dX7_reading_37 : decode cX7_reading 37 = .ok (.iload_n 2, 1) := by decide +kernel
theorem dX7_reading_38 : decode cX7_reading 38 = .ok (.invokestatic 167, 3) := by decide +kernel
theorem dX7_reading_41 : decode cX7_reading 41 = .ok (.ifCond .eq 15, 3) := by decide +kernel
theorem dX7_reading_44 : decode cX7_reading 44 = .ok (.iload_n 3, 1) := by decide +kernel
theorem dX7_reading_45 : decode cX7_reading 45 = .ok (.invokestatic 167, 3) := by decide +kernel
theorem dX7_reading_48 : decode cX7_reading 48 = .ok (.ifCond .eq 8, 3) := by decide +kernel
theorem dX7_reading_51 : decode cX7_reading 51 = .ok (.iload 5, 2) := by decide +kernel
theorem dX7_reading_53 : decode cX7_reading 53 = .ok (.ifCond .ne 6, 3) := by decide +kernel
theorem dX7_reading_56 : decode cX7_reading 56 = .ok (.bipush (-2), 2) := by decide +kernel
theorem dX7_reading_58 : decode cX7_reading 58 = .ok (.ireturn, 1) := by decide +kernel
theorem dX7_reading_59 : decode cX7_reading 59 = .ok (.aload_n 0, 1) := by decide +kernel
theorem dX7_reading_60 : decode cX7_reading 60 = .ok (.getfield 97, 3) := by decide +kernel
theorem dX7_reading_63 : decode cX7_reading 63 = .ok (.bipush 8, 2) := by decide +kernel
theorem dX7_reading_65 : decode cX7_reading 65 = .ok (.if_icmp .lt 6, 3) := by decide +kernel
theorem dX7_reading_68 : decode cX7_reading 68 = .ok (.bipush (-4), 2) := by decide +kernel
theorem dX7_reading_70 : decode cX7_reading 70 = .ok (.ireturn, 1) := by decide +kernel
theorem dX7_reading_71 : decode cX7_reading 71 = .ok (.aload_n 0, 1) := by decide +kernel
theorem dX7_reading_72 : decode cX7_reading 72 = .ok (.getfield 97, 3) := by decide +kernel
theorem dX7_reading_75 : decode cX7_reading 75 = .ok (.istore 6, 2) := by decide +kernel
theorem dX7_reading_77 : decode cX7_reading 77 = .ok (.aload_n 0, 1) := by decide +kernel
theorem dX7_reading_78 : decode cX7_reading 78 = .ok (.getfield 35, 3) := by decide +kernel
theorem dX7_reading_81 : decode cX7_reading 81 = .ok (.iload 6, 2) := by decide +kernel
theorem dX7_reading_83 : decode cX7_reading 83 = .ok (.iload_n 1, 1) := by decide +kernel
theorem dX7_reading_84 : decode cX7_reading 84 = .ok (.iload_n 2, 1) := by decide +kernel
theorem dX7_reading_85 : decode cX7_reading 85 = .ok (.iload_n 3, 1) := by decide +kernel
theorem dX7_reading_86 : decode cX7_reading 86 = .ok (.invokestatic 174, 3) := by decide +kernel
theorem dX7_reading_89 : decode cX7_reading 89 = .ok (.iastore, 1) := by decide +kernel
theorem dX7_reading_90 : decode cX7_reading 90 = .ok (.aload_n 0, 1) := by decide +kernel
theorem dX7_reading_91 : decode cX7_reading 91 = .ok (.getfield 39, 3) := by decide +kernel
theorem dX7_reading_94 : decode cX7_reading 94 = .ok (.iload 6, 2) := by decide +kernel
theorem dX7_reading_96 : decode cX7_reading 96 = .ok (.iload 4, 2) := by decide +kernel
theorem dX7_reading_98 : decode cX7_reading 98 = .ok (.iastore, 1) := by decide +kernel
theorem dX7_reading_99 : decode cX7_reading 99 = .ok (.aload_n 0, 1) := by decide +kernel
theorem dX7_reading_100 : decode cX7_reading 100 = .ok (.iload 6, 2) := by decide +kernel
theorem dX7_reading_102 : decode cX7_reading 102 = .ok (.iconst 1, 1) := by decide +kernel
theorem dX7_reading_103 : decode cX7_reading 103 = .ok (.iadd, 1) := by decide +kernel
theorem dX7_reading_104 : decode cX7_reading 104 = .ok (.putfield 97, 3) := by decide +kernel
theorem dX7_reading_107 : decode cX7_reading 107 = .ok (.iload 6, 2) := by decide +kernel
theorem dX7_reading_109 : decode cX7_reading 109 = .ok (.ireturn, 1) := by decide +kernel
theorem dX7_back_0 : decode cX7_back 0 = .ok (.iload_n 1, 1) := by decide +kernel
theorem dX7_back_1 : decode cX7_back 1 = .ok (.ifCond .lt 11, 3) := by decide +kernel
theorem dX7_back_4 : decode cX7_back 4 = .ok (.iload_n 1, 1) := by decide +kernel
theorem dX7_back_5 : decode cX7_back 5 = .ok (.aload_n 0, 1) := by decide +kernel
theorem dX7_back_6 : decode cX7_back 6 = .ok (.getfield 97, 3) := by decide +kernel
theorem dX7_back_9 : decode cX7_back 9 = .ok (.if_icmp .le 6, 3) := by decide +kernel
theorem dX7_back_12 : decode cX7_back 12 = .ok (.bipush (-2), 2) := by decide +kernel
theorem dX7_back_14 : decode cX7_back 14 = .ok (.ireturn, 1) := by decide +kernel
theorem dX7_back_15 : decode cX7_back 15 = .ok (.aload_n 0, 1) := by decide +kernel
theorem dX7_back_16 : decode cX7_back 16 = .ok (.dup, 1) := by decide +kernel
theorem dX7_back_17 : decode cX7_back 17 = .ok (.getfield 97, 3) := by decide +kernel
theorem dX7_back_20 : decode cX7_back 20 = .ok (.iload_n 1, 1) := by decide +kernel
theorem dX7_back_21 : decode cX7_back 21 = .ok (.isub, 1) := by decide +kernel
theorem dX7_back_22 : decode cX7_back 22 = .ok (.putfield 97, 3) := by decide +kernel
theorem dX7_back_25 : decode cX7_back 25 = .ok (.aload_n 0, 1) := by decide +kernel
theorem dX7_back_26 : decode cX7_back 26 = .ok (.getfield 97, 3) := by decide +kernel
theorem dX7_back_29 : decode cX7_back 29 = .ok (.ireturn, 1) := by decide +kernel
set_option maxRecDepth 20000 in
theorem ggX7_kinds_X7_isRule : GoodIn wsX7_kinds wsX7_isRule := goodIn_r _ [10, 2, 3, 11, 173, 174, 175, 176, 177, 178, 179, 180, 181, 182, 183, 184, 185, 186, 187, 188, 189, 190, 191, 192, 193, 194, 195] rfl aw_wsX7_isRule
set_option maxRecDepth 20000 in
theorem gX7_kinds_X7_isRule : GoodIn wsX7_kinds (wsV RX7 105 RX7 yX7_isRule wsX7_isRule) := goodIn_app (goodIn_r _ [6, 7, 8, 9] rfl (by decide +kernel)) ggX7_kinds_X7_isRule
set_option maxRecDepth 20000 in
theorem ggX7_kinds_X6_take : GoodIn wsX7_kinds wsX6_take := goodIn_r _ [16, 17, 18, 19, 20, 21, 22, 23, 24, 25, 26, 27, 28, 29, 30, 31, 32, 33, 34, 35, 36, 182, 183, 184, 185, 186, 187, 188, 189, 190, 191, 192, 193, 194, 195] rfl aw_wsX6_take
set_option maxRecDepth 20000 in
theorem gX7_kinds_X6_take : GoodIn wsX7_kinds (wsV RX7 93 RX6 yX6_take wsX6_take) := goodIn_app (goodIn_r _ [12, 13, 14, 15] rfl (by decide +kernel)) ggX7_kinds_X6_take
set_option maxRecDepth 20000 in
theorem ggX7_kinds_X6_settle : GoodIn wsX7_kinds wsX6_settle := goodIn_r _ [40, 18, 41, 42, 43, 44, 45, 46, 47, 48, 49, 50, 51, 52, 53, 54, 55, 56, 57, 58, 59, 60, 61, 62, 63, 64, 65, 66, 67, 68, 69, 70, 71, 72, 73, 74, 22, 75, 30, 76, 77, 78, 79, 80, 81, 82, 83, 84, 85, 86, 87, 88, 89, 90, 91, 92, 93, 94, 95, 96, 97, 98, 99, 100, 101, 102, 103, 104, 105, 106, 107, 108, 109, 110, 111, 9, 112, 113, 114, 115, 116, 117, 118, 119, 120, 121, 122, 123, 124, 125, 126, 127, 128, 129, 130, 34, 131, 132, 133, 134, 135, 136, 137, 138, 139, 140, 141, 142, 143, 144, 145, 146, 147, 148, 149, 150, 151, 152, 153, 154, 155, 156, 157, 24, 29, 158, 159, 160, 161, 182, 183, 184, 185, 186, 196, 197, 198, 187, 188, 189, 190, 191, 192, 193, 194, 195, 199, 200, 201, 202, 203, 204, 205, 206, 207, 208, 209, 210, 211] rfl aw_wsX6_settle
set_option maxRecDepth 20000 in
theorem gX7_kinds_X6_settle : GoodIn wsX7_kinds (wsV RX7 135 RX6 yX6_settle wsX6_settle) := goodIn_app (goodIn_r _ [37, 38, 39, 15] rfl (by decide +kernel)) ggX7_kinds_X6_settle
set_option maxRecDepth 20000 in
theorem aw_wsX7_areReadingsSo : wsX7_areReadingsSo.all goodWord = true := by decide +kernel
set_option maxRecDepth 20000 in
theorem ggX7_kinds_X7_areReadingsSo : GoodIn wsX7_kinds wsX7_areReadingsSo := goodIn_r _ [165, 5, 1, 166, 167, 168, 169, 170, 171, 121, 172, 137, 123, 158, 159, 160, 79, 161, 82, 173, 174, 175, 176, 177, 178, 179, 180, 181, 182, 183, 184, 185, 186, 205, 206, 207, 208, 209, 210, 211, 199, 200, 201, 202, 203, 204] rfl aw_wsX7_areReadingsSo
set_option maxRecDepth 20000 in
theorem gX7_kinds_X7_areReadingsSo : GoodIn wsX7_kinds (wsV RX7 255 RX7 yX7_areReadingsSo wsX7_areReadingsSo) := goodIn_app (goodIn_r _ [162, 163, 164, 9] rfl (by decide +kernel)) ggX7_kinds_X7_areReadingsSo
theorem dX7_kinds_0 : decode cX7_kinds 0 = .ok (.aload_n 0, 1) := by decide +kernel
theorem dX7_kinds_1 : decode cX7_kinds 1 = .ok (.iload_n 1, 1) := by decide +kernel
theorem dX7_kinds_2 : decode cX7_kinds 2 = .ok (.invokevirtual 105, 3) := by decide +kernel
theorem dX7_kinds_5 : decode cX7_kinds 5 = .ok (.ifCond .ne 5, 3) := by decide +kernel
theorem dX7_kinds_8 : decode cX7_kinds 8 = .ok (.iconst (-1), 1) := by decide +kernel
theorem dX7_kinds_9 : decode cX7_kinds 9 = .ok (.ireturn, 1) := by decide +kernel
theorem dX7_kinds_10 : decode cX7_kinds 10 = .ok (.iconst 0, 1) := by decide +kernel
theorem dX7_kinds_11 : decode cX7_kinds 11 = .ok (.istore_n 2, 1) := by decide +kernel
theorem dX7_kinds_12 : decode cX7_kinds 12 = .ok (.iconst 0, 1) := by decide +kernel
theorem dX7_kinds_13 : decode cX7_kinds 13 = .ok (.istore_n 3, 1) := by decide +kernel
theorem dX7_kinds_14 : decode cX7_kinds 14 = .ok (.iload_n 3, 1) := by decide +kernel
theorem dX7_kinds_15 : decode cX7_kinds 15 = .ok (.iconst 3, 1) := by decide +kernel
theorem dX7_kinds_16 : decode cX7_kinds 16 = .ok (.if_icmp .ge 63, 3) := by decide +kernel
theorem dX7_kinds_19 : decode cX7_kinds 19 = .ok (.aload_n 0, 1) := by decide +kernel
theorem dX7_kinds_20 : decode cX7_kinds 20 = .ok (.getfield 25, 3) := by decide +kernel
theorem dX7_kinds_23 : decode cX7_kinds 23 = .ok (.aload_n 0, 1) := by decide +kernel
theorem dX7_kinds_24 : decode cX7_kinds 24 = .ok (.getfield 21, 3) := by decide +kernel
theorem dX7_kinds_27 : decode cX7_kinds 27 = .ok (.getfield 68, 3) := by decide +kernel
theorem dX7_kinds_30 : decode cX7_kinds 30 = .ok (.invokevirtual 93, 3) := by decide +kernel
theorem dX7_kinds_33 : decode cX7_kinds 33 = .ok (.aload_n 0, 1) := by decide +kernel
theorem dX7_kinds_34 : decode cX7_kinds 34 = .ok (.getfield 25, 3) := by decide +kernel
theorem dX7_kinds_37 : decode cX7_kinds 37 = .ok (.getfield 68, 3) := by decide +kernel
theorem dX7_kinds_40 : decode cX7_kinds 40 = .ok (.getfield 108, 3) := by decide +kernel
theorem dX7_kinds_43 : decode cX7_kinds 43 = .ok (.iload_n 1, 1) := by decide +kernel
theorem dX7_kinds_44 : decode cX7_kinds 44 = .ok (.iload_n 3, 1) := by decide +kernel
theorem dX7_kinds_45 : decode cX7_kinds 45 = .ok (.iastore, 1) := by decide +kernel
theorem dX7_kinds_46 : decode cX7_kinds 46 = .ok (.aload_n 0, 1) := by decide +kernel
theorem dX7_kinds_47 : decode cX7_kinds 47 = .ok (.getfield 97, 3) := by decide +kernel
theorem dX7_kinds_50 : decode cX7_kinds 50 = .ok (.ifCond .le 10, 3) := by decide +kernel
theorem dX7_kinds_53 : decode cX7_kinds 53 = .ok (.aload_n 0, 1) := by decide +kernel
theorem dX7_kinds_54 : decode cX7_kinds 54 = .ok (.getfield 25, 3) := by decide +kernel
theorem dX7_kinds_57 : decode cX7_kinds 57 = .ok (.invokevirtual 135, 3) := by decide +kernel
theorem dX7_kinds_60 : decode cX7_kinds 60 = .ok (.aload_n 0, 1) := by decide +kernel
theorem dX7_kinds_61 : decode cX7_kinds 61 = .ok (.invokevirtual 255, 3) := by decide +kernel
theorem dX7_kinds_64 : decode cX7_kinds 64 = .ok (.ifCond .eq 9, 3) := by decide +kernel
theorem dX7_kinds_67 : decode cX7_kinds 67 = .ok (.iload_n 2, 1) := by decide +kernel
theorem dX7_kinds_68 : decode cX7_kinds 68 = .ok (.iconst 1, 1) := by decide +kernel
