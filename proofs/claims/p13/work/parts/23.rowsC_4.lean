theorem dX7_kinds_69 : decode cX7_kinds 69 = .ok (.iload_n 3, 1) := by decide +kernel
theorem dX7_kinds_70 : decode cX7_kinds 70 = .ok (.ishl, 1) := by decide +kernel
theorem dX7_kinds_71 : decode cX7_kinds 71 = .ok (.ior, 1) := by decide +kernel
theorem dX7_kinds_72 : decode cX7_kinds 72 = .ok (.istore_n 2, 1) := by decide +kernel
theorem dX7_kinds_73 : decode cX7_kinds 73 = .ok (.iinc 3 1, 3) := by decide +kernel
theorem dX7_kinds_76 : decode cX7_kinds 76 = .ok (.goto (-62), 3) := by decide +kernel
theorem dX7_kinds_79 : decode cX7_kinds 79 = .ok (.iload_n 2, 1) := by decide +kernel
theorem dX7_kinds_80 : decode cX7_kinds 80 = .ok (.ireturn, 1) := by decide +kernel
set_option maxRecDepth 20000 in
theorem ggX7_forms_X7_isRule : GoodIn wsX7_forms wsX7_isRule := goodIn_r _ [9, 2, 3, 10, 182, 183, 184, 185, 186, 187, 188, 189, 190, 191, 192, 193, 194, 195, 196, 197, 198, 199, 200, 201, 202, 203, 204] rfl aw_wsX7_isRule
set_option maxRecDepth 20000 in
theorem gX7_forms_X7_isRule : GoodIn wsX7_forms (wsV RX7 105 RX7 yX7_isRule wsX7_isRule) := goodIn_app (goodIn_r _ [5, 6, 7, 8] rfl (by decide +kernel)) ggX7_forms_X7_isRule
set_option maxRecDepth 20000 in
theorem ggX7_forms_X6_take : GoodIn wsX7_forms wsX6_take := goodIn_r _ [15, 16, 17, 18, 19, 20, 21, 22, 23, 24, 25, 26, 27, 28, 29, 30, 31, 32, 33, 34, 35, 191, 192, 193, 194, 195, 196, 197, 198, 199, 200, 201, 202, 203, 204] rfl aw_wsX6_take
set_option maxRecDepth 20000 in
theorem gX7_forms_X6_take : GoodIn wsX7_forms (wsV RX7 93 RX6 yX6_take wsX6_take) := goodIn_app (goodIn_r _ [11, 12, 13, 14] rfl (by decide +kernel)) ggX7_forms_X6_take
set_option maxRecDepth 20000 in
theorem ggX7_forms_X2_fits : GoodIn wsX7_forms wsX2_fits := goodIn_r _ [39, 40, 41, 42, 21, 43, 29, 196, 197, 198, 199, 200, 201, 202, 203, 204] rfl aw_wsX2_fits
set_option maxRecDepth 20000 in
theorem gX7_forms_X2_fits : GoodIn wsX7_forms (wsV RX7 161 RX2 yX2_fits wsX2_fits) := goodIn_app (goodIn_r _ [36, 37, 38, 21] rfl (by decide +kernel)) ggX7_forms_X2_fits
set_option maxRecDepth 20000 in
theorem ggX7_forms_X6_reforms : GoodIn wsX7_forms wsX6_reforms := goodIn_r _ [47, 16, 48, 17, 49, 50, 51, 52, 53, 54, 55, 56, 57, 58, 59, 60, 61, 62, 63, 64, 65, 66, 67, 68, 69, 70, 71, 72, 73, 74, 75, 76, 77, 78, 41, 42, 21, 43, 29, 191, 192, 193, 194, 195, 196, 197, 198, 199, 200, 201, 202, 203, 204, 205, 206, 207] rfl aw_wsX6_reforms
set_option maxRecDepth 20000 in
theorem gX7_forms_X6_reforms : GoodIn wsX7_forms (wsV RX7 164 RX6 yX6_reforms wsX6_reforms) := goodIn_app (goodIn_r _ [44, 45, 46, 14] rfl (by decide +kernel)) ggX7_forms_X6_reforms
set_option maxRecDepth 20000 in
theorem ggX7_forms_X6_settle : GoodIn wsX7_forms wsX6_settle := goodIn_r _ [82, 17, 49, 83, 84, 50, 51, 52, 53, 54, 55, 56, 57, 58, 59, 60, 61, 62, 63, 64, 65, 66, 67, 68, 69, 70, 71, 72, 73, 74, 75, 76, 77, 78, 41, 42, 21, 43, 29, 85, 86, 87, 88, 89, 90, 91, 92, 93, 94, 95, 96, 97, 98, 99, 100, 101, 102, 103, 104, 105, 106, 107, 108, 109, 110, 111, 112, 113, 114, 115, 116, 117, 118, 119, 120, 8, 121, 122, 123, 124, 125, 126, 127, 128, 129, 130, 131, 132, 133, 134, 135, 136, 137, 138, 139, 33, 140, 141, 142, 143, 144, 145, 146, 147, 148, 149, 150, 151, 152, 153, 154, 155, 156, 157, 158, 159, 160, 161, 162, 163, 164, 165, 166, 23, 28, 167, 168, 169, 170, 191, 192, 193, 194, 195, 205, 206, 207, 196, 197, 198, 199, 200, 201, 202, 203, 204, 208, 209, 210, 211, 212, 213, 214, 215, 216, 217, 218, 219, 220] rfl aw_wsX6_settle
set_option maxRecDepth 20000 in
theorem gX7_forms_X6_settle : GoodIn wsX7_forms (wsV RX7 135 RX6 yX6_settle wsX6_settle) := goodIn_app (goodIn_r _ [79, 80, 81, 14] rfl (by decide +kernel)) ggX7_forms_X6_settle
set_option maxRecDepth 20000 in
theorem ggX7_forms_X7_areReadingsSo : GoodIn wsX7_forms wsX7_areReadingsSo := goodIn_r _ [174, 4, 1, 175, 176, 177, 178, 179, 180, 130, 181, 146, 132, 167, 168, 169, 88, 170, 91, 182, 183, 184, 185, 186, 187, 188, 189, 190, 191, 192, 193, 194, 195, 214, 215, 216, 217, 218, 219, 220, 208, 209, 210, 211, 212, 213] rfl aw_wsX7_areReadingsSo
set_option maxRecDepth 20000 in
theorem gX7_forms_X7_areReadingsSo : GoodIn wsX7_forms (wsV RX7 255 RX7 yX7_areReadingsSo wsX7_areReadingsSo) := goodIn_app (goodIn_r _ [171, 172, 173, 8] rfl (by decide +kernel)) ggX7_forms_X7_areReadingsSo
theorem dX7_forms_0 : decode cX7_forms 0 = .ok (.aload_n 0, 1) := by decide +kernel
theorem dX7_forms_1 : decode cX7_forms 1 = .ok (.iload_n 1, 1) := by decide +kernel
theorem dX7_forms_2 : decode cX7_forms 2 = .ok (.invokevirtual 105, 3) := by decide +kernel
theorem dX7_forms_5 : decode cX7_forms 5 = .ok (.ifCond .ne 5, 3) := by decide +kernel
theorem dX7_forms_8 : decode cX7_forms 8 = .ok (.iconst (-1), 1) := by decide +kernel
theorem dX7_forms_9 : decode cX7_forms 9 = .ok (.ireturn, 1) := by decide +kernel
theorem dX7_forms_10 : decode cX7_forms 10 = .ok (.iconst 0, 1) := by decide +kernel
theorem dX7_forms_11 : decode cX7_forms 11 = .ok (.istore_n 2, 1) := by decide +kernel
theorem dX7_forms_12 : decode cX7_forms 12 = .ok (.iconst 0, 1) := by decide +kernel
theorem dX7_forms_13 : decode cX7_forms 13 = .ok (.istore_n 3, 1) := by decide +kernel
theorem dX7_forms_14 : decode cX7_forms 14 = .ok (.iload_n 3, 1) := by decide +kernel
theorem dX7_forms_15 : decode cX7_forms 15 = .ok (.iconst 4, 1) := by decide +kernel
theorem dX7_forms_16 : decode cX7_forms 16 = .ok (.if_icmp .ge 80, 3) := by decide +kernel
theorem dX7_forms_19 : decode cX7_forms 19 = .ok (.aload_n 0, 1) := by decide +kernel
theorem dX7_forms_20 : decode cX7_forms 20 = .ok (.getfield 25, 3) := by decide +kernel
theorem dX7_forms_23 : decode cX7_forms 23 = .ok (.aload_n 0, 1) := by decide +kernel
theorem dX7_forms_24 : decode cX7_forms 24 = .ok (.getfield 21, 3) := by decide +kernel
theorem dX7_forms_27 : decode cX7_forms 27 = .ok (.getfield 68, 3) := by decide +kernel
theorem dX7_forms_30 : decode cX7_forms 30 = .ok (.invokevirtual 93, 3) := by decide +kernel
theorem dX7_forms_33 : decode cX7_forms 33 = .ok (.aload_n 0, 1) := by decide +kernel
theorem dX7_forms_34 : decode cX7_forms 34 = .ok (.getfield 25, 3) := by decide +kernel
theorem dX7_forms_37 : decode cX7_forms 37 = .ok (.getfield 68, 3) := by decide +kernel
theorem dX7_forms_40 : decode cX7_forms 40 = .ok (.iload_n 1, 1) := by decide +kernel
theorem dX7_forms_41 : decode cX7_forms 41 = .ok (.iload_n 3, 1) := by decide +kernel
theorem dX7_forms_42 : decode cX7_forms 42 = .ok (.invokevirtual 161, 3) := by decide +kernel
theorem dX7_forms_45 : decode cX7_forms 45 = .ok (.ifCond .eq 45, 3) := by decide +kernel
theorem dX7_forms_48 : decode cX7_forms 48 = .ok (.aload_n 0, 1) := by decide +kernel
theorem dX7_forms_49 : decode cX7_forms 49 = .ok (.getfield 25, 3) := by decide +kernel
theorem dX7_forms_52 : decode cX7_forms 52 = .ok (.iload_n 1, 1) := by decide +kernel
theorem dX7_forms_53 : decode cX7_forms 53 = .ok (.iload_n 3, 1) := by decide +kernel
theorem dX7_forms_54 : decode cX7_forms 54 = .ok (.invokevirtual 164, 3) := by decide +kernel
theorem dX7_forms_57 : decode cX7_forms 57 = .ok (.ifCond .ne 6, 3) := by decide +kernel
theorem dX7_forms_60 : decode cX7_forms 60 = .ok (.goto 30, 3) := by decide +kernel
theorem dX7_forms_63 : decode cX7_forms 63 = .ok (.aload_n 0, 1) := by decide +kernel
theorem dX7_forms_64 : decode cX7_forms 64 = .ok (.getfield 97, 3) := by decide +kernel
theorem dX7_forms_67 : decode cX7_forms 67 = .ok (.ifCond .le 10, 3) := by decide +kernel
theorem dX7_forms_70 : decode cX7_forms 70 = .ok (.aload_n 0, 1) := by decide +kernel
theorem dX7_forms_71 : decode cX7_forms 71 = .ok (.getfield 25, 3) := by decide +kernel
theorem dX7_forms_74 : decode cX7_forms 74 = .ok (.invokevirtual 135, 3) := by decide +kernel
theorem dX7_forms_77 : decode cX7_forms 77 = .ok (.aload_n 0, 1) := by decide +kernel
theorem dX7_forms_78 : decode cX7_forms 78 = .ok (.invokevirtual 255, 3) := by decide +kernel
theorem dX7_forms_81 : decode cX7_forms 81 = .ok (.ifCond .eq 9, 3) := by decide +kernel
theorem dX7_forms_84 : decode cX7_forms 84 = .ok (.iload_n 2, 1) := by decide +kernel
theorem dX7_forms_85 : decode cX7_forms 85 = .ok (.iconst 1, 1) := by decide +kernel
theorem dX7_forms_86 : decode cX7_forms 86 = .ok (.iload_n 3, 1) := by decide +kernel
theorem dX7_forms_87 : decode cX7_forms 87 = .ok (.ishl, 1) := by decide +kernel
theorem dX7_forms_88 : decode cX7_forms 88 = .ok (.ior, 1) := by decide +kernel
theorem dX7_forms_89 : decode cX7_forms 89 = .ok (.istore_n 2, 1) := by decide +kernel
theorem dX7_forms_90 : decode cX7_forms 90 = .ok (.iinc 3 1, 3) := by decide +kernel
theorem dX7_forms_93 : decode cX7_forms 93 = .ok (.goto (-79), 3) := by decide +kernel
theorem dX7_forms_96 : decode cX7_forms 96 = .ok (.iload_n 2, 1) := by decide +kernel
theorem dX7_forms_97 : decode cX7_forms 97 = .ok (.ireturn, 1) := by decide +kernel
set_option maxRecDepth 20000 in
theorem ggX7_areReadingsSo_X0_cheapOf : GoodIn wsX7_areReadingsSo wsX0_cheapOf := goodIn_r _ [10, 11, 12, 13, 14, 15, 16, 17, 18, 33, 34, 35, 36, 37, 38, 39, 40, 41, 42, 43, 44, 45] rfl aw_wsX0_cheapOf
set_option maxRecDepth 20000 in
theorem gX7_areReadingsSo_X0_cheapOf : GoodIn wsX7_areReadingsSo (wsV RX7 191 RX0 yX0_cheapOf wsX0_cheapOf) := goodIn_app (goodIn_r _ [6, 7, 8, 9] rfl (by decide +kernel)) ggX7_areReadingsSo_X0_cheapOf
theorem dX7_areReadingsSo_0 : decode cX7_areReadingsSo 0 = .ok (.iconst 0, 1) := by decide +kernel
theorem dX7_areReadingsSo_1 : decode cX7_areReadingsSo 1 = .ok (.istore_n 1, 1) := by decide +kernel
theorem dX7_areReadingsSo_2 : decode cX7_areReadingsSo 2 = .ok (.iload_n 1, 1) := by decide +kernel
theorem dX7_areReadingsSo_3 : decode cX7_areReadingsSo 3 = .ok (.aload_n 0, 1) := by decide +kernel
theorem dX7_areReadingsSo_4 : decode cX7_areReadingsSo 4 = .ok (.getfield 97, 3) := by decide +kernel
theorem dX7_areReadingsSo_7 : decode cX7_areReadingsSo 7 = .ok (.if_icmp .ge 36, 3) := by decide +kernel
theorem dX7_areReadingsSo_10 : decode cX7_areReadingsSo 10 = .ok (.aload_n 0, 1) := by decide +kernel
theorem dX7_areReadingsSo_11 : decode cX7_areReadingsSo 11 = .ok (.getfield 25, 3) := by decide +kernel
theorem dX7_areReadingsSo_14 : decode cX7_areReadingsSo 14 = .ok (.getfield 187, 3) := by decide +kernel
theorem dX7_areReadingsSo_17 : decode cX7_areReadingsSo 17 = .ok (.aload_n 0, 1) := by decide +kernel
theorem dX7_areReadingsSo_18 : decode cX7_areReadingsSo 18 = .ok (.getfield 35, 3) := by decide +kernel
theorem dX7_areReadingsSo_21 : decode cX7_areReadingsSo 21 = .ok (.iload_n 1, 1) := by decide +kernel
theorem dX7_areReadingsSo_22 : decode cX7_areReadingsSo 22 = .ok (.iaload, 1) := by decide +kernel
theorem dX7_areReadingsSo_23 : decode cX7_areReadingsSo 23 = .ok (.invokevirtual 191, 3) := by decide +kernel
theorem dX7_areReadingsSo_26 : decode cX7_areReadingsSo 26 = .ok (.aload_n 0, 1) := by decide +kernel
theorem dX7_areReadingsSo_27 : decode cX7_areReadingsSo 27 = .ok (.getfield 39, 3) := by decide +kernel
theorem dX7_areReadingsSo_30 : decode cX7_areReadingsSo 30 = .ok (.iload_n 1, 1) := by decide +kernel
theorem dX7_areReadingsSo_31 : decode cX7_areReadingsSo 31 = .ok (.iaload, 1) := by decide +kernel
theorem dX7_areReadingsSo_32 : decode cX7_areReadingsSo 32 = .ok (.if_icmp .eq 5, 3) := by decide +kernel
theorem dX7_areReadingsSo_35 : decode cX7_areReadingsSo 35 = .ok (.iconst 0, 1) := by decide +kernel
theorem dX7_areReadingsSo_36 : decode cX7_areReadingsSo 36 = .ok (.ireturn, 1) := by decide +kernel
theorem dX7_areReadingsSo_37 : decode cX7_areReadingsSo 37 = .ok (.iinc 1 1, 3) := by decide +kernel
theorem dX7_areReadingsSo_40 : decode cX7_areReadingsSo 40 = .ok (.goto (-38), 3) := by decide +kernel
theorem dX7_areReadingsSo_43 : decode cX7_areReadingsSo 43 = .ok (.iconst 1, 1) := by decide +kernel
theorem dX7_areReadingsSo_44 : decode cX7_areReadingsSo 44 = .ok (.ireturn, 1) := by decide +kernel
set_option maxRecDepth 20000 in
theorem ggX7_odds_X7_isRelation : GoodIn wsX7_odds wsX7_isRelation := goodIn_r _ [9, 2, 10, 11, 151, 152, 153, 154, 155, 156, 157, 158, 159, 160, 161, 162, 163, 164, 171, 172, 173, 174, 175, 176, 177, 178, 179] rfl aw_wsX7_isRelation
set_option maxRecDepth 20000 in
theorem gX7_odds_X7_isRelation : GoodIn wsX7_odds (wsV RX7 132 RX7 yX7_isRelation wsX7_isRelation) := goodIn_app (goodIn_r _ [5, 6, 7, 8] rfl (by decide +kernel)) ggX7_odds_X7_isRelation
set_option maxRecDepth 20000 in
theorem ggX7_odds_X6_settle : GoodIn wsX7_odds wsX6_settle := goodIn_r _ [16, 17, 18, 19, 20, 21, 22, 23, 24, 25, 26, 27, 28, 29, 30, 31, 32, 33, 34, 35, 36, 37, 38, 39, 40, 41, 42, 43, 44, 45, 46, 47, 48, 49, 50, 51, 52, 53, 54, 55, 56, 57, 58, 59, 60, 61, 62, 63, 64, 65, 66, 67, 68, 69, 70, 71, 72, 73, 74, 75, 76, 77, 78, 79, 80, 81, 82, 83, 84, 85, 86, 87, 88, 89, 90, 8, 91, 92, 93, 94, 95, 96, 97, 98, 99, 100, 101, 102, 103, 104, 105, 106, 107, 108, 109, 110, 111, 112, 113, 114, 115, 116, 117, 118, 119, 120, 121, 122, 123, 124, 125, 126, 127, 128, 129, 130, 131, 132, 133, 134, 135, 136, 137, 138, 139, 140, 141, 142, 143, 160, 161, 162, 163, 164, 180, 181, 182, 171, 172, 173, 174, 175, 176, 177, 178, 179, 165, 166, 167, 168, 169, 170, 183, 184, 185, 186, 187, 188, 189] rfl aw_wsX6_settle
set_option maxRecDepth 20000 in
theorem gX7_odds_X6_settle : GoodIn wsX7_odds (wsV RX7 135 RX6 yX6_settle wsX6_settle) := goodIn_app (goodIn_r _ [12, 13, 14, 15] rfl (by decide +kernel)) ggX7_odds_X6_settle
set_option maxRecDepth 20000 in
theorem ggX7_odds_J6_bitCount_0f7a4 : GoodIn wsX7_odds wsJ6_bitCount_0f7a4 := goodIn_r _ [147, 148, 149, 150] rfl aw_wsJ6_bitCount_0f7a4
set_option maxRecDepth 20000 in
theorem gX7_odds_J6_bitCount_0f7a4 : GoodIn wsX7_odds (va_wsS RX7 150 yJ6_bitCount_0f7a4 wsJ6_bitCount_0f7a4) := goodIn_app (goodIn_r _ [144, 145, 146] rfl (by decide +kernel)) ggX7_odds_J6_bitCount_0f7a4
theorem dX7_odds_0 : decode cX7_odds 0 = .ok (.aload_n 0, 1) := by decide +kernel
theorem dX7_odds_1 : decode cX7_odds 1 = .ok (.iload_n 1, 1) := by decide +kernel
theorem dX7_odds_2 : decode cX7_odds 2 = .ok (.invokevirtual 132, 3) := by decide +kernel
theorem dX7_odds_5 : decode cX7_odds 5 = .ok (.ifCond .eq 12, 3) := by decide +kernel
theorem dX7_odds_8 : decode cX7_odds 8 = .ok (.iload_n 2, 1) := by decide +kernel
theorem dX7_odds_9 : decode cX7_odds 9 = .ok (.ifCond .lt 8, 3) := by decide +kernel
theorem dX7_odds_12 : decode cX7_odds 12 = .ok (.iload_n 2, 1) := by decide +kernel
theorem dX7_odds_13 : decode cX7_odds 13 = .ok (.iconst 1, 1) := by decide +kernel
theorem dX7_odds_14 : decode cX7_odds 14 = .ok (.if_icmp .le 7, 3) := by decide +kernel
theorem dX7_odds_17 : decode cX7_odds 17 = .ok (.ldc2_w 258, 3) := by decide +kernel
theorem dX7_odds_20 : decode cX7_odds 20 = .ok (.lreturn, 1) := by decide +kernel
theorem dX7_odds_21 : decode cX7_odds 21 = .ok (.aload_n 0, 1) := by decide +kernel
theorem dX7_odds_22 : decode cX7_odds 22 = .ok (.getfield 21, 3) := by decide +kernel
theorem dX7_odds_25 : decode cX7_odds 25 = .ok (.invokevirtual 135, 3) := by decide +kernel
theorem dX7_odds_28 : decode cX7_odds 28 = .ok (.aload_n 0, 1) := by decide +kernel
theorem dX7_odds_29 : decode cX7_odds 29 = .ok (.getfield 21, 3) := by decide +kernel
theorem dX7_odds_32 : decode cX7_odds 32 = .ok (.getfield 141, 3) := by decide +kernel
theorem dX7_odds_35 : decode cX7_odds 35 = .ok (.getfield 145, 3) := by decide +kernel
theorem dX7_odds_38 : decode cX7_odds 38 = .ok (.iload_n 1, 1) := by decide +kernel
theorem dX7_odds_39 : decode cX7_odds 39 = .ok (.iaload, 1) := by decide +kernel
theorem dX7_odds_40 : decode cX7_odds 40 = .ok (.invokestatic 150, 3) := by decide +kernel
theorem dX7_odds_43 : decode cX7_odds 43 = .ok (.istore_n 3, 1) := by decide +kernel
theorem dX7_odds_44 : decode cX7_odds 44 = .ok (.bipush 16, 2) := by decide +kernel
theorem dX7_odds_46 : decode cX7_odds 46 = .ok (.istore 4, 2) := by decide +kernel
theorem dX7_odds_48 : decode cX7_odds 48 = .ok (.iconst 0, 1) := by decide +kernel
theorem dX7_odds_49 : decode cX7_odds 49 = .ok (.istore 5, 2) := by decide +kernel
theorem dX7_odds_51 : decode cX7_odds 51 = .ok (.iload 5, 2) := by decide +kernel
theorem dX7_odds_53 : decode cX7_odds 53 = .ok (.iconst 4, 1) := by decide +kernel
theorem dX7_odds_54 : decode cX7_odds 54 = .ok (.if_icmp .ge 25, 3) := by decide +kernel
theorem dX7_odds_57 : decode cX7_odds 57 = .ok (.iload_n 3, 1) := by decide +kernel
theorem dX7_odds_58 : decode cX7_odds 58 = .ok (.iconst 1, 1) := by decide +kernel
theorem dX7_odds_59 : decode cX7_odds 59 = .ok (.iand, 1) := by decide +kernel
theorem dX7_odds_60 : decode cX7_odds 60 = .ok (.ifCond .ne 19, 3) := by decide +kernel
theorem dX7_odds_63 : decode cX7_odds 63 = .ok (.iload_n 3, 1) := by decide +kernel
theorem dX7_odds_64 : decode cX7_odds 64 = .ok (.iconst 1, 1) := by decide +kernel
theorem dX7_odds_65 : decode cX7_odds 65 = .ok (.ishr, 1) := by decide +kernel
theorem dX7_odds_66 : decode cX7_odds 66 = .ok (.istore_n 3, 1) := by decide +kernel
theorem dX7_odds_67 : decode cX7_odds 67 = .ok (.iload 4, 2) := by decide +kernel
theorem dX7_odds_69 : decode cX7_odds 69 = .ok (.iconst 1, 1) := by decide +kernel
theorem dX7_odds_70 : decode cX7_odds 70 = .ok (.ishr, 1) := by decide +kernel
theorem dX7_odds_71 : decode cX7_odds 71 = .ok (.istore 4, 2) := by decide +kernel
theorem dX7_odds_73 : decode cX7_odds 73 = .ok (.iinc 5 1, 3) := by decide +kernel
theorem dX7_odds_76 : decode cX7_odds 76 = .ok (.goto (-25), 3) := by decide +kernel
theorem dX7_odds_79 : decode cX7_odds 79 = .ok (.iload_n 2, 1) := by decide +kernel
theorem dX7_odds_80 : decode cX7_odds 80 = .ok (.ifCond .ne 8, 3) := by decide +kernel
theorem dX7_odds_83 : decode cX7_odds 83 = .ok (.iload_n 3, 1) := by decide +kernel
theorem dX7_odds_84 : decode cX7_odds 84 = .ok (.i2l, 1) := by decide +kernel
theorem dX7_odds_85 : decode cX7_odds 85 = .ok (.goto 6, 3) := by decide +kernel
theorem dX7_odds_88 : decode cX7_odds 88 = .ok (.iload 4, 2) := by decide +kernel
theorem dX7_odds_90 : decode cX7_odds 90 = .ok (.i2l, 1) := by decide +kernel
theorem dX7_odds_91 : decode cX7_odds 91 = .ok (.lreturn, 1) := by decide +kernel
set_option maxRecDepth 20000 in
theorem ggX7_sheet_X7_isSheet : GoodIn wsX7_sheet wsX7_isSheet := goodIn_r _ [6] rfl aw_wsX7_isSheet
set_option maxRecDepth 20000 in
theorem gX7_sheet_X7_isSheet : GoodIn wsX7_sheet (va_wsS RX7 46 yX7_isSheet wsX7_isSheet) := goodIn_app (goodIn_r _ [3, 4, 5] rfl (by decide +kernel)) ggX7_sheet_X7_isSheet
set_option maxRecDepth 20000 in
theorem ggX7_sheet_X7_isLane : GoodIn wsX7_sheet wsX7_isLane := goodIn_r _ [9] rfl aw_wsX7_isLane
set_option maxRecDepth 20000 in
theorem gX7_sheet_X7_isLane : GoodIn wsX7_sheet (va_wsS RX7 50 yX7_isLane wsX7_isLane) := goodIn_app (goodIn_r _ [7, 8, 5] rfl (by decide +kernel)) ggX7_sheet_X7_isLane
set_option maxRecDepth 20000 in
theorem ggX7_sheet_X7_failed : GoodIn wsX7_sheet wsX7_failed := goodIn_r _ [13, 1, 27, 28, 29, 30, 31, 32, 33, 34, 35] rfl aw_wsX7_failed
set_option maxRecDepth 20000 in
theorem gX7_sheet_X7_failed : GoodIn wsX7_sheet (wsV RX7 65 RX7 yX7_failed wsX7_failed) := goodIn_app (goodIn_r _ [10, 11, 12, 5] rfl (by decide +kernel)) ggX7_sheet_X7_failed
set_option maxRecDepth 20000 in
theorem aw_wsX4_renew : wsX4_renew.all goodWord = true := by decide +kernel
set_option maxRecDepth 20000 in
theorem ggX7_sheet_X4_renew : GoodIn wsX7_sheet wsX4_renew := goodIn_r _ [18, 19, 20, 21, 22, 23, 24, 25, 26, 36, 37, 38, 39] rfl aw_wsX4_renew
set_option maxRecDepth 20000 in
theorem gX7_sheet_X4_renew : GoodIn wsX7_sheet (wsV RX7 260 RX4 yX4_renew wsX4_renew) := goodIn_app (goodIn_r _ [14, 15, 16, 17] rfl (by decide +kernel)) ggX7_sheet_X4_renew
theorem dX7_sheet_0 : decode cX7_sheet 0 = .ok (.aload_n 0, 1) := by decide +kernel
theorem dX7_sheet_1 : decode cX7_sheet 1 = .ok (.iconst 0, 1) := by decide +kernel
theorem dX7_sheet_2 : decode cX7_sheet 2 = .ok (.putfield 42, 3) := by decide +kernel
theorem dX7_sheet_5 : decode cX7_sheet 5 = .ok (.iload_n 1, 1) := by decide +kernel
theorem dX7_sheet_6 : decode cX7_sheet 6 = .ok (.invokestatic 46, 3) := by decide +kernel
theorem dX7_sheet_9 : decode cX7_sheet 9 = .ok (.ifCond .ne 5, 3) := by decide +kernel
theorem dX7_sheet_12 : decode cX7_sheet 12 = .ok (.iconst (-1), 1) := by decide +kernel
theorem dX7_sheet_13 : decode cX7_sheet 13 = .ok (.ireturn, 1) := by decide +kernel
theorem dX7_sheet_14 : decode cX7_sheet 14 = .ok (.iload_n 2, 1) := by decide +kernel
theorem dX7_sheet_15 : decode cX7_sheet 15 = .ok (.invokestatic 50, 3) := by decide +kernel
theorem dX7_sheet_18 : decode cX7_sheet 18 = .ok (.ifCond .eq 9, 3) := by decide +kernel
theorem dX7_sheet_21 : decode cX7_sheet 21 = .ok (.iload_n 3, 1) := by decide +kernel
theorem dX7_sheet_22 : decode cX7_sheet 22 = .ok (.bipush 60, 2) := by decide +kernel
theorem dX7_sheet_24 : decode cX7_sheet 24 = .ok (.if_icmp .le 6, 3) := by decide +kernel
theorem dX7_sheet_27 : decode cX7_sheet 27 = .ok (.bipush (-2), 2) := by decide +kernel
theorem dX7_sheet_29 : decode cX7_sheet 29 = .ok (.ireturn, 1) := by decide +kernel
theorem dX7_sheet_30 : decode cX7_sheet 30 = .ok (.iload_n 3, 1) := by decide +kernel
theorem dX7_sheet_31 : decode cX7_sheet 31 = .ok (.ifCond .ge 9, 3) := by decide +kernel
theorem dX7_sheet_34 : decode cX7_sheet 34 = .ok (.aload_n 0, 1) := by decide +kernel
theorem dX7_sheet_35 : decode cX7_sheet 35 = .ok (.iconst 4, 1) := by decide +kernel
theorem dX7_sheet_36 : decode cX7_sheet 36 = .ok (.invokevirtual 65, 3) := by decide +kernel
theorem dX7_sheet_39 : decode cX7_sheet 39 = .ok (.ireturn, 1) := by decide +kernel
theorem dX7_sheet_40 : decode cX7_sheet 40 = .ok (.aload_n 0, 1) := by decide +kernel
theorem dX7_sheet_41 : decode cX7_sheet 41 = .ok (.getfield 13, 3) := by decide +kernel
theorem dX7_sheet_44 : decode cX7_sheet 44 = .ok (.iload_n 1, 1) := by decide +kernel
theorem dX7_sheet_45 : decode cX7_sheet 45 = .ok (.aaload, 1) := by decide +kernel
theorem dX7_sheet_46 : decode cX7_sheet 46 = .ok (.iload_n 2, 1) := by decide +kernel
theorem dX7_sheet_47 : decode cX7_sheet 47 = .ok (.iload_n 3, 1) := by decide +kernel
theorem dX7_sheet_48 : decode cX7_sheet 48 = .ok (.invokevirtual 260, 3) := by decide +kernel
theorem dX7_sheet_51 : decode cX7_sheet 51 = .ok (.iconst 1, 1) := by decide +kernel
theorem dX7_sheet_52 : decode cX7_sheet 52 = .ok (.ireturn, 1) := by decide +kernel
set_option maxRecDepth 20000 in
theorem ggX7_lose_X7_isSheet : GoodIn wsX7_lose wsX7_isSheet := goodIn_r _ [5] rfl aw_wsX7_isSheet
set_option maxRecDepth 20000 in
theorem gX7_lose_X7_isSheet : GoodIn wsX7_lose (va_wsS RX7 46 yX7_isSheet wsX7_isSheet) := goodIn_app (goodIn_r _ [2, 3, 4] rfl (by decide +kernel)) ggX7_lose_X7_isSheet
set_option maxRecDepth 20000 in
theorem aw_wsX4_clear : wsX4_clear.all goodWord = true := by decide +kernel
set_option maxRecDepth 20000 in
theorem ggX7_lose_X4_clear : GoodIn wsX7_lose wsX4_clear := goodIn_r _ [10, 11, 12, 22, 23, 24, 25] rfl aw_wsX4_clear
set_option maxRecDepth 20000 in
theorem gX7_lose_X4_clear : GoodIn wsX7_lose (wsV RX7 264 RX4 yX4_clear wsX4_clear) := goodIn_app (goodIn_r _ [6, 7, 8, 9] rfl (by decide +kernel)) ggX7_lose_X4_clear
theorem dX7_lose_0 : decode cX7_lose 0 = .ok (.iload_n 1, 1) := by decide +kernel
theorem dX7_lose_1 : decode cX7_lose 1 = .ok (.invokestatic 46, 3) := by decide +kernel
theorem dX7_lose_4 : decode cX7_lose 4 = .ok (.ifCond .ne 5, 3) := by decide +kernel
theorem dX7_lose_7 : decode cX7_lose 7 = .ok (.iconst (-1), 1) := by decide +kernel
theorem dX7_lose_8 : decode cX7_lose 8 = .ok (.ireturn, 1) := by decide +kernel
theorem dX7_lose_9 : decode cX7_lose 9 = .ok (.aload_n 0, 1) := by decide +kernel
theorem dX7_lose_10 : decode cX7_lose 10 = .ok (.getfield 13, 3) := by decide +kernel
theorem dX7_lose_13 : decode cX7_lose 13 = .ok (.iload_n 1, 1) := by decide +kernel
theorem dX7_lose_14 : decode cX7_lose 14 = .ok (.aaload, 1) := by decide +kernel
theorem dX7_lose_15 : decode cX7_lose 15 = .ok (.invokevirtual 264, 3) := by decide +kernel
theorem dX7_lose_18 : decode cX7_lose 18 = .ok (.ifCond .eq 7, 3) := by decide +kernel
theorem dX7_lose_21 : decode cX7_lose 21 = .ok (.iconst 1, 1) := by decide +kernel
theorem dX7_lose_22 : decode cX7_lose 22 = .ok (.goto 4, 3) := by decide +kernel
theorem dX7_lose_25 : decode cX7_lose 25 = .ok (.iconst 0, 1) := by decide +kernel
theorem dX7_lose_26 : decode cX7_lose 26 = .ok (.ireturn, 1) := by decide +kernel
set_option maxRecDepth 20000 in
theorem ggX7_put_X7_isSheet : GoodIn wsX7_put wsX7_isSheet := goodIn_r _ [8] rfl aw_wsX7_isSheet
set_option maxRecDepth 20000 in
theorem gX7_put_X7_isSheet : GoodIn wsX7_put (va_wsS RX7 46 yX7_isSheet wsX7_isSheet) := goodIn_app (goodIn_r _ [5, 6, 7] rfl (by decide +kernel)) ggX7_put_X7_isSheet
set_option maxRecDepth 20000 in
theorem ggX7_put_X7_failed : GoodIn wsX7_put wsX7_failed := goodIn_r _ [12, 1, 24, 25, 26, 27, 28, 29, 30, 31, 32] rfl aw_wsX7_failed
set_option maxRecDepth 20000 in
theorem gX7_put_X7_failed : GoodIn wsX7_put (wsV RX7 65 RX7 yX7_failed wsX7_failed) := goodIn_app (goodIn_r _ [9, 10, 11, 7] rfl (by decide +kernel)) ggX7_put_X7_failed
set_option maxRecDepth 20000 in
theorem aw_wsX4_hasCell : wsX4_hasCell.all goodWord = true := by decide +kernel
set_option maxRecDepth 20000 in
theorem ggX7_put_X4_hasCell : GoodIn wsX7_put wsX4_hasCell := goodIn_r _ [17, 18, 33, 34, 35, 36] rfl aw_wsX4_hasCell
set_option maxRecDepth 20000 in
theorem gX7_put_X4_hasCell : GoodIn wsX7_put (wsV RX7 270 RX4 yX4_hasCell wsX4_hasCell) := goodIn_app (goodIn_r _ [13, 14, 15, 16] rfl (by decide +kernel)) ggX7_put_X4_hasCell
set_option maxRecDepth 20000 in
theorem aw_wsX4_cut : wsX4_cut.all goodWord = true := by decide +kernel
set_option maxRecDepth 20000 in
theorem ggX7_put_X4_cut : GoodIn wsX7_put wsX4_cut := goodIn_r _ [22, 23, 33, 34, 35, 36] rfl aw_wsX4_cut
set_option maxRecDepth 20000 in
theorem gX7_put_X4_cut : GoodIn wsX7_put (wsV RX7 273 RX4 yX4_cut wsX4_cut) := goodIn_app (goodIn_r _ [19, 20, 21, 16] rfl (by decide +kernel)) ggX7_put_X4_cut
theorem dX7_put_0 : decode cX7_put 0 = .ok (.aload_n 0, 1) := by decide +kernel
theorem dX7_put_1 : decode cX7_put 1 = .ok (.iconst 0, 1) := by decide +kernel
theorem dX7_put_2 : decode cX7_put 2 = .ok (.putfield 42, 3) := by decide +kernel
theorem dX7_put_5 : decode cX7_put 5 = .ok (.iload_n 1, 1) := by decide +kernel
theorem dX7_put_6 : decode cX7_put 6 = .ok (.invokestatic 46, 3) := by decide +kernel
theorem dX7_put_9 : decode cX7_put 9 = .ok (.ifCond .ne 5, 3) := by decide +kernel
theorem dX7_put_12 : decode cX7_put 12 = .ok (.iconst (-1), 1) := by decide +kernel
theorem dX7_put_13 : decode cX7_put 13 = .ok (.ireturn, 1) := by decide +kernel
theorem dX7_put_14 : decode cX7_put 14 = .ok (.aload_n 0, 1) := by decide +kernel
theorem dX7_put_15 : decode cX7_put 15 = .ok (.getfield 13, 3) := by decide +kernel
theorem dX7_put_18 : decode cX7_put 18 = .ok (.iload_n 1, 1) := by decide +kernel
theorem dX7_put_19 : decode cX7_put 19 = .ok (.aaload, 1) := by decide +kernel
theorem dX7_put_20 : decode cX7_put 20 = .ok (.astore 4, 2) := by decide +kernel
theorem dX7_put_22 : decode cX7_put 22 = .ok (.aload 4, 2) := by decide +kernel
theorem dX7_put_24 : decode cX7_put 24 = .ok (.getfield 267, 3) := by decide +kernel
theorem dX7_put_27 : decode cX7_put 27 = .ok (.ifCond .ne 9, 3) := by decide +kernel
theorem dX7_put_30 : decode cX7_put 30 = .ok (.aload_n 0, 1) := by decide +kernel
theorem dX7_put_31 : decode cX7_put 31 = .ok (.iconst 1, 1) := by decide +kernel
theorem dX7_put_32 : decode cX7_put 32 = .ok (.invokevirtual 65, 3) := by decide +kernel
theorem dX7_put_35 : decode cX7_put 35 = .ok (.ireturn, 1) := by decide +kernel
theorem dX7_put_36 : decode cX7_put 36 = .ok (.aload 4, 2) := by decide +kernel
theorem dX7_put_38 : decode cX7_put 38 = .ok (.iload_n 2, 1) := by decide +kernel
theorem dX7_put_39 : decode cX7_put 39 = .ok (.invokevirtual 270, 3) := by decide +kernel
theorem dX7_put_42 : decode cX7_put 42 = .ok (.ifCond .ne 9, 3) := by decide +kernel
theorem dX7_put_45 : decode cX7_put 45 = .ok (.aload_n 0, 1) := by decide +kernel
theorem dX7_put_46 : decode cX7_put 46 = .ok (.iconst 3, 1) := by decide +kernel
theorem dX7_put_47 : decode cX7_put 47 = .ok (.invokevirtual 65, 3) := by decide +kernel
theorem dX7_put_50 : decode cX7_put 50 = .ok (.ireturn, 1) := by decide +kernel
theorem dX7_put_51 : decode cX7_put 51 = .ok (.aload 4, 2) := by decide +kernel
theorem dX7_put_53 : decode cX7_put 53 = .ok (.getfield 218, 3) := by decide +kernel
theorem dX7_put_56 : decode cX7_put 56 = .ok (.iload_n 2, 1) := by decide +kernel
theorem dX7_put_57 : decode cX7_put 57 = .ok (.aload 4, 2) := by decide +kernel
theorem dX7_put_59 : decode cX7_put 59 = .ok (.iload_n 3, 1) := by decide +kernel
theorem dX7_put_60 : decode cX7_put 60 = .ok (.invokevirtual 273, 3) := by decide +kernel
theorem dX7_put_63 : decode cX7_put 63 = .ok (.iastore, 1) := by decide +kernel
theorem dX7_put_64 : decode cX7_put 64 = .ok (.iconst 1, 1) := by decide +kernel
theorem dX7_put_65 : decode cX7_put 65 = .ok (.ireturn, 1) := by decide +kernel
set_option maxRecDepth 20000 in
theorem ggX7_cell_X7_isSheet : GoodIn wsX7_cell wsX7_isSheet := goodIn_r _ [8] rfl aw_wsX7_isSheet
set_option maxRecDepth 20000 in
theorem gX7_cell_X7_isSheet : GoodIn wsX7_cell (va_wsS RX7 46 yX7_isSheet wsX7_isSheet) := goodIn_app (goodIn_r _ [5, 6, 7] rfl (by decide +kernel)) ggX7_cell_X7_isSheet
set_option maxRecDepth 20000 in
theorem ggX7_cell_X7_isLane : GoodIn wsX7_cell wsX7_isLane := goodIn_r _ [11] rfl aw_wsX7_isLane
set_option maxRecDepth 20000 in
theorem gX7_cell_X7_isLane : GoodIn wsX7_cell (va_wsS RX7 50 yX7_isLane wsX7_isLane) := goodIn_app (goodIn_r _ [9, 10, 7] rfl (by decide +kernel)) ggX7_cell_X7_isLane
set_option maxRecDepth 20000 in
theorem ggX7_cell_X4_faultAs : GoodIn wsX7_cell wsX4_faultAs := goodIn_r _ [16, 17, 18, 33, 34, 35, 36] rfl aw_wsX4_faultAs
set_option maxRecDepth 20000 in
theorem gX7_cell_X4_faultAs : GoodIn wsX7_cell (wsV RX7 53 RX4 yX4_faultAs wsX4_faultAs) := goodIn_app (goodIn_r _ [12, 13, 14, 15] rfl (by decide +kernel)) ggX7_cell_X4_faultAs
set_option maxRecDepth 20000 in
theorem ggX7_cell_X4_hasCell : GoodIn wsX7_cell wsX4_hasCell := goodIn_r _ [22, 23, 33, 34, 35, 36] rfl aw_wsX4_hasCell
set_option maxRecDepth 20000 in
theorem gX7_cell_X4_hasCell : GoodIn wsX7_cell (wsV RX7 270 RX4 yX4_hasCell wsX4_hasCell) := goodIn_app (goodIn_r _ [19, 20, 21, 15] rfl (by decide +kernel)) ggX7_cell_X4_hasCell
theorem dX7_cell_0 : decode cX7_cell 0 = .ok (.aload_n 0, 1) := by decide +kernel
theorem dX7_cell_1 : decode cX7_cell 1 = .ok (.iconst 0, 1) := by decide +kernel
theorem dX7_cell_2 : decode cX7_cell 2 = .ok (.putfield 42, 3) := by decide +kernel
theorem dX7_cell_5 : decode cX7_cell 5 = .ok (.iload_n 1, 1) := by decide +kernel
theorem dX7_cell_6 : decode cX7_cell 6 = .ok (.invokestatic 46, 3) := by decide +kernel
theorem dX7_cell_9 : decode cX7_cell 9 = .ok (.ifCond .eq 10, 3) := by decide +kernel
theorem dX7_cell_12 : decode cX7_cell 12 = .ok (.iload_n 3, 1) := by decide +kernel
theorem dX7_cell_13 : decode cX7_cell 13 = .ok (.invokestatic 50, 3) := by decide +kernel
theorem dX7_cell_16 : decode cX7_cell 16 = .ok (.ifCond .ne 7, 3) := by decide +kernel
theorem dX7_cell_19 : decode cX7_cell 19 = .ok (.ldc2_w 258, 3) := by decide +kernel
theorem dX7_cell_22 : decode cX7_cell 22 = .ok (.lreturn, 1) := by decide +kernel
theorem dX7_cell_23 : decode cX7_cell 23 = .ok (.aload_n 0, 1) := by decide +kernel
theorem dX7_cell_24 : decode cX7_cell 24 = .ok (.getfield 13, 3) := by decide +kernel
theorem dX7_cell_27 : decode cX7_cell 27 = .ok (.iload_n 1, 1) := by decide +kernel
theorem dX7_cell_28 : decode cX7_cell 28 = .ok (.aaload, 1) := by decide +kernel
theorem dX7_cell_29 : decode cX7_cell 29 = .ok (.astore 4, 2) := by decide +kernel
theorem dX7_cell_31 : decode cX7_cell 31 = .ok (.aload 4, 2) := by decide +kernel
theorem dX7_cell_33 : decode cX7_cell 33 = .ok (.iload_n 3, 1) := by decide +kernel
theorem dX7_cell_34 : decode cX7_cell 34 = .ok (.invokevirtual 53, 3) := by decide +kernel
theorem dX7_cell_37 : decode cX7_cell 37 = .ok (.istore 5, 2) := by decide +kernel
theorem dX7_cell_39 : decode cX7_cell 39 = .ok (.iload 5, 2) := by decide +kernel
theorem dX7_cell_41 : decode cX7_cell 41 = .ok (.ifCond .ne 15, 3) := by decide +kernel
theorem dX7_cell_44 : decode cX7_cell 44 = .ok (.aload 4, 2) := by decide +kernel
theorem dX7_cell_46 : decode cX7_cell 46 = .ok (.iload_n 2, 1) := by decide +kernel
theorem dX7_cell_47 : decode cX7_cell 47 = .ok (.invokevirtual 270, 3) := by decide +kernel
theorem dX7_cell_50 : decode cX7_cell 50 = .ok (.ifCond .ne 6, 3) := by decide +kernel
theorem dX7_cell_53 : decode cX7_cell 53 = .ok (.iconst 3, 1) := by decide +kernel
theorem dX7_cell_54 : decode cX7_cell 54 = .ok (.istore 5, 2) := by decide +kernel
theorem dX7_cell_56 : decode cX7_cell 56 = .ok (.iload 5, 2) := by decide +kernel
theorem dX7_cell_58 : decode cX7_cell 58 = .ok (.ifCond .eq 13, 3) := by decide +kernel
theorem dX7_cell_61 : decode cX7_cell 61 = .ok (.aload_n 0, 1) := by decide +kernel
theorem dX7_cell_62 : decode cX7_cell 62 = .ok (.iload 5, 2) := by decide +kernel
theorem dX7_cell_64 : decode cX7_cell 64 = .ok (.putfield 42, 3) := by decide +kernel
theorem dX7_cell_67 : decode cX7_cell 67 = .ok (.ldc2_w 258, 3) := by decide +kernel
theorem dX7_cell_70 : decode cX7_cell 70 = .ok (.lreturn, 1) := by decide +kernel
theorem dX7_cell_71 : decode cX7_cell 71 = .ok (.aload 4, 2) := by decide +kernel
theorem dX7_cell_73 : decode cX7_cell 73 = .ok (.getfield 218, 3) := by decide +kernel
theorem dX7_cell_76 : decode cX7_cell 76 = .ok (.iload_n 2, 1) := by decide +kernel
theorem dX7_cell_77 : decode cX7_cell 77 = .ok (.iaload, 1) := by decide +kernel
theorem dX7_cell_78 : decode cX7_cell 78 = .ok (.i2l, 1) := by decide +kernel
theorem dX7_cell_79 : decode cX7_cell 79 = .ok (.lreturn, 1) := by decide +kernel
set_option maxRecDepth 20000 in
theorem ggX7_copy_X7_isSheet : GoodIn wsX7_copy wsX7_isSheet := goodIn_r _ [13] rfl aw_wsX7_isSheet
set_option maxRecDepth 20000 in
theorem gX7_copy_X7_isSheet : GoodIn wsX7_copy (va_wsS RX7 46 yX7_isSheet wsX7_isSheet) := goodIn_app (goodIn_r _ [10, 11, 12] rfl (by decide +kernel)) ggX7_copy_X7_isSheet
set_option maxRecDepth 20000 in
theorem ggX7_copy_X7_failed : GoodIn wsX7_copy wsX7_failed := goodIn_r _ [17, 1, 24, 25, 26, 27, 28, 29, 30, 31, 32] rfl aw_wsX7_failed
set_option maxRecDepth 20000 in
theorem gX7_copy_X7_failed : GoodIn wsX7_copy (wsV RX7 65 RX7 yX7_failed wsX7_failed) := goodIn_app (goodIn_r _ [14, 15, 16, 12] rfl (by decide +kernel)) ggX7_copy_X7_failed
set_option maxRecDepth 20000 in
theorem ggX7_copy_X4_has : GoodIn wsX7_copy wsX4_has := goodIn_r _ [22, 23, 33, 34, 35, 36] rfl aw_wsX4_has
set_option maxRecDepth 20000 in
theorem gX7_copy_X4_has : GoodIn wsX7_copy (wsV RX7 57 RX4 yX4_has wsX4_has) := goodIn_app (goodIn_r _ [18, 19, 20, 21] rfl (by decide +kernel)) ggX7_copy_X4_has
theorem dX7_copy_0 : decode cX7_copy 0 = .ok (.aload_n 0, 1) := by decide +kernel
theorem dX7_copy_1 : decode cX7_copy 1 = .ok (.iconst 0, 1) := by decide +kernel
theorem dX7_copy_2 : decode cX7_copy 2 = .ok (.putfield 42, 3) := by decide +kernel
theorem dX7_copy_5 : decode cX7_copy 5 = .ok (.iload_n 1, 1) := by decide +kernel
theorem dX7_copy_6 : decode cX7_copy 6 = .ok (.invokestatic 46, 3) := by decide +kernel
theorem dX7_copy_9 : decode cX7_copy 9 = .ok (.ifCond .eq 10, 3) := by decide +kernel
theorem dX7_copy_12 : decode cX7_copy 12 = .ok (.iload_n 3, 1) := by decide +kernel
theorem dX7_copy_13 : decode cX7_copy 13 = .ok (.invokestatic 46, 3) := by decide +kernel
theorem dX7_copy_16 : decode cX7_copy 16 = .ok (.ifCond .ne 5, 3) := by decide +kernel
theorem dX7_copy_19 : decode cX7_copy 19 = .ok (.iconst (-1), 1) := by decide +kernel
theorem dX7_copy_20 : decode cX7_copy 20 = .ok (.ireturn, 1) := by decide +kernel
theorem dX7_copy_21 : decode cX7_copy 21 = .ok (.aload_n 0, 1) := by decide +kernel
theorem dX7_copy_22 : decode cX7_copy 22 = .ok (.getfield 13, 3) := by decide +kernel
theorem dX7_copy_25 : decode cX7_copy 25 = .ok (.iload_n 1, 1) := by decide +kernel
theorem dX7_copy_26 : decode cX7_copy 26 = .ok (.aaload, 1) := by decide +kernel
theorem dX7_copy_27 : decode cX7_copy 27 = .ok (.astore 6, 2) := by decide +kernel
theorem dX7_copy_29 : decode cX7_copy 29 = .ok (.aload_n 0, 1) := by decide +kernel
theorem dX7_copy_30 : decode cX7_copy 30 = .ok (.getfield 13, 3) := by decide +kernel
theorem dX7_copy_33 : decode cX7_copy 33 = .ok (.iload_n 3, 1) := by decide +kernel
theorem dX7_copy_34 : decode cX7_copy 34 = .ok (.aaload, 1) := by decide +kernel
theorem dX7_copy_35 : decode cX7_copy 35 = .ok (.astore 7, 2) := by decide +kernel
theorem dX7_copy_37 : decode cX7_copy 37 = .ok (.aload 6, 2) := by decide +kernel
theorem dX7_copy_39 : decode cX7_copy 39 = .ok (.getfield 267, 3) := by decide +kernel
theorem dX7_copy_42 : decode cX7_copy 42 = .ok (.ifCond .eq 11, 3) := by decide +kernel
theorem dX7_copy_45 : decode cX7_copy 45 = .ok (.aload 7, 2) := by decide +kernel
theorem dX7_copy_47 : decode cX7_copy 47 = .ok (.getfield 267, 3) := by decide +kernel
theorem dX7_copy_50 : decode cX7_copy 50 = .ok (.ifCond .ne 9, 3) := by decide +kernel
theorem dX7_copy_53 : decode cX7_copy 53 = .ok (.aload_n 0, 1) := by decide +kernel
theorem dX7_copy_54 : decode cX7_copy 54 = .ok (.iconst 1, 1) := by decide +kernel
theorem dX7_copy_55 : decode cX7_copy 55 = .ok (.invokevirtual 65, 3) := by decide +kernel
theorem dX7_copy_58 : decode cX7_copy 58 = .ok (.ireturn, 1) := by decide +kernel
theorem dX7_copy_59 : decode cX7_copy 59 = .ok (.aload 6, 2) := by decide +kernel
theorem dX7_copy_61 : decode cX7_copy 61 = .ok (.getfield 276, 3) := by decide +kernel
theorem dX7_copy_64 : decode cX7_copy 64 = .ok (.aload 7, 2) := by decide +kernel
theorem dX7_copy_66 : decode cX7_copy 66 = .ok (.getfield 276, 3) := by decide +kernel
theorem dX7_copy_69 : decode cX7_copy 69 = .ok (.if_icmp .eq 9, 3) := by decide +kernel
theorem dX7_copy_72 : decode cX7_copy 72 = .ok (.aload_n 0, 1) := by decide +kernel
theorem dX7_copy_73 : decode cX7_copy 73 = .ok (.iconst 2, 1) := by decide +kernel
theorem dX7_copy_74 : decode cX7_copy 74 = .ok (.invokevirtual 65, 3) := by decide +kernel
theorem dX7_copy_77 : decode cX7_copy 77 = .ok (.ireturn, 1) := by decide +kernel
theorem dX7_copy_78 : decode cX7_copy 78 = .ok (.aload 6, 2) := by decide +kernel
theorem dX7_copy_80 : decode cX7_copy 80 = .ok (.iload_n 2, 1) := by decide +kernel
theorem dX7_copy_81 : decode cX7_copy 81 = .ok (.iload 5, 2) := by decide +kernel
theorem dX7_copy_83 : decode cX7_copy 83 = .ok (.invokevirtual 57, 3) := by decide +kernel
theorem dX7_copy_86 : decode cX7_copy 86 = .ok (.ifCond .eq 15, 3) := by decide +kernel
theorem dX7_copy_89 : decode cX7_copy 89 = .ok (.aload 7, 2) := by decide +kernel
theorem dX7_copy_91 : decode cX7_copy 91 = .ok (.iload 4, 2) := by decide +kernel
theorem dX7_copy_93 : decode cX7_copy 93 = .ok (.iload 5, 2) := by decide +kernel
theorem dX7_copy_95 : decode cX7_copy 95 = .ok (.invokevirtual 57, 3) := by decide +kernel
theorem dX7_copy_98 : decode cX7_copy 98 = .ok (.ifCond .ne 9, 3) := by decide +kernel
theorem dX7_copy_101 : decode cX7_copy 101 = .ok (.aload_n 0, 1) := by decide +kernel
theorem dX7_copy_102 : decode cX7_copy 102 = .ok (.iconst 3, 1) := by decide +kernel
theorem dX7_copy_103 : decode cX7_copy 103 = .ok (.invokevirtual 65, 3) := by decide +kernel
theorem dX7_copy_106 : decode cX7_copy 106 = .ok (.ireturn, 1) := by decide +kernel
theorem dX7_copy_107 : decode cX7_copy 107 = .ok (.aload 6, 2) := by decide +kernel
theorem dX7_copy_109 : decode cX7_copy 109 = .ok (.getfield 218, 3) := by decide +kernel
theorem dX7_copy_112 : decode cX7_copy 112 = .ok (.iload_n 2, 1) := by decide +kernel
theorem dX7_copy_113 : decode cX7_copy 113 = .ok (.aload 7, 2) := by decide +kernel
theorem dX7_copy_115 : decode cX7_copy 115 = .ok (.getfield 218, 3) := by decide +kernel
theorem dX7_copy_118 : decode cX7_copy 118 = .ok (.iload 4, 2) := by decide +kernel
theorem dX7_copy_120 : decode cX7_copy 120 = .ok (.iload 5, 2) := by decide +kernel
theorem dX7_copy_122 : decode cX7_copy 122 = .ok (.invokestatic 279, 3) := by decide +kernel
theorem dX7_copy_125 : decode cX7_copy 125 = .ok (.iload 5, 2) := by decide +kernel
theorem dX7_copy_127 : decode cX7_copy 127 = .ok (.ireturn, 1) := by decide +kernel
set_option maxRecDepth 20000 in
theorem ggX7_speak_X7_isRule : GoodIn wsX7_speak wsX7_isRule := goodIn_r _ [8, 1, 2, 9, 28, 29, 30, 31, 32, 33, 34, 35, 36, 37, 38, 39, 40, 41, 42, 43, 44, 45, 46, 47, 48, 49, 50] rfl aw_wsX7_isRule
set_option maxRecDepth 20000 in
theorem gX7_speak_X7_isRule : GoodIn wsX7_speak (wsV RX7 105 RX7 yX7_isRule wsX7_isRule) := goodIn_app (goodIn_r _ [4, 5, 6, 7] rfl (by decide +kernel)) ggX7_speak_X7_isRule
set_option maxRecDepth 20000 in
theorem aw_wsX7_doubleTelling : wsX7_doubleTelling.all goodWord = true := by decide +kernel
set_option maxRecDepth 20000 in
theorem ggX7_speak_X7_doubleTelling : GoodIn wsX7_speak wsX7_doubleTelling := goodIn_r _ [13, 14, 15, 16, 7, 17, 18, 19, 20, 21, 22, 23, 24, 25, 26, 1, 2, 27, 28, 29, 30, 31, 32, 33, 34, 35, 36, 37, 38, 39, 40, 41, 42, 43, 44, 45, 46, 47, 48, 49, 50] rfl aw_wsX7_doubleTelling
set_option maxRecDepth 20000 in
theorem gX7_speak_X7_doubleTelling : GoodIn wsX7_speak (wsV RX7 285 RX7 yX7_doubleTelling wsX7_doubleTelling) := goodIn_app (goodIn_r _ [10, 11, 12, 7] rfl (by decide +kernel)) ggX7_speak_X7_doubleTelling
set_option maxRecDepth 20000 in
theorem aw_wsX7_bulkyTelling : wsX7_bulkyTelling.all goodWord = true := by decide +kernel
set_option maxRecDepth 20000 in
theorem ggX7_speak_X7_bulkyTelling : GoodIn wsX7_speak wsX7_bulkyTelling := goodIn_r _ [22, 14, 15, 16, 7, 17, 18, 23, 24, 25, 26, 1, 2, 27, 28, 29, 30, 31, 32, 33, 34, 35, 36, 37, 38, 39, 40, 41, 42, 43, 44, 45, 46, 47, 48, 49, 50] rfl aw_wsX7_bulkyTelling
set_option maxRecDepth 20000 in
theorem gX7_speak_X7_bulkyTelling : GoodIn wsX7_speak (wsV RX7 288 RX7 yX7_bulkyTelling wsX7_bulkyTelling) := goodIn_app (goodIn_r _ [19, 20, 21, 7] rfl (by decide +kernel)) ggX7_speak_X7_bulkyTelling
set_option maxRecDepth 20000 in
theorem aw_wsX7_plainTelling : wsX7_plainTelling.all goodWord = true := by decide +kernel
set_option maxRecDepth 20000 in
theorem ggX7_speak_X7_plainTelling : GoodIn wsX7_speak wsX7_plainTelling := goodIn_r _ [26, 1, 2, 27, 14, 15, 16, 7, 17, 18, 28, 29, 30, 31, 32, 33, 34, 35, 36, 37, 38, 39, 40, 41, 42, 43, 44, 45, 46, 47, 48, 49, 50] rfl aw_wsX7_plainTelling
set_option maxRecDepth 20000 in
theorem gX7_speak_X7_plainTelling : GoodIn wsX7_speak (wsV RX7 291 RX7 yX7_plainTelling wsX7_plainTelling) := goodIn_app (goodIn_r _ [23, 24, 25, 7] rfl (by decide +kernel)) ggX7_speak_X7_plainTelling
theorem dX7_speak_0 : decode cX7_speak 0 = .ok (.aload_n 0, 1) := by decide +kernel
theorem dX7_speak_1 : decode cX7_speak 1 = .ok (.iload_n 1, 1) := by decide +kernel
theorem dX7_speak_2 : decode cX7_speak 2 = .ok (.invokevirtual 105, 3) := by decide +kernel
theorem dX7_speak_5 : decode cX7_speak 5 = .ok (.ifCond .ne 5, 3) := by decide +kernel
theorem dX7_speak_8 : decode cX7_speak 8 = .ok (.iconst (-1), 1) := by decide +kernel
theorem dX7_speak_9 : decode cX7_speak 9 = .ok (.ireturn, 1) := by decide +kernel
theorem dX7_speak_10 : decode cX7_speak 10 = .ok (.aload_n 0, 1) := by decide +kernel
theorem dX7_speak_11 : decode cX7_speak 11 = .ok (.getfield 21, 3) := by decide +kernel
theorem dX7_speak_14 : decode cX7_speak 14 = .ok (.getfield 68, 3) := by decide +kernel
theorem dX7_speak_17 : decode cX7_speak 17 = .ok (.getfield 108, 3) := by decide +kernel
theorem dX7_speak_20 : decode cX7_speak 20 = .ok (.iload_n 1, 1) := by decide +kernel
theorem dX7_speak_21 : decode cX7_speak 21 = .ok (.iaload, 1) := by decide +kernel
theorem dX7_speak_22 : decode cX7_speak 22 = .ok (.lookupswitch 38 #[(1, 32), (2, 26)], 26) := by decide +kernel
theorem dX7_speak_48 : decode cX7_speak 48 = .ok (.aload_n 0, 1) := by decide +kernel
theorem dX7_speak_49 : decode cX7_speak 49 = .ok (.iload_n 1, 1) := by decide +kernel
theorem dX7_speak_50 : decode cX7_speak 50 = .ok (.invokevirtual 285, 3) := by decide +kernel
theorem dX7_speak_53 : decode cX7_speak 53 = .ok (.ireturn, 1) := by decide +kernel
theorem dX7_speak_54 : decode cX7_speak 54 = .ok (.aload_n 0, 1) := by decide +kernel
theorem dX7_speak_55 : decode cX7_speak 55 = .ok (.iload_n 1, 1) := by decide +kernel
theorem dX7_speak_56 : decode cX7_speak 56 = .ok (.invokevirtual 288, 3) := by decide +kernel
theorem dX7_speak_59 : decode cX7_speak 59 = .ok (.ireturn, 1) := by decide +kernel
theorem dX7_speak_60 : decode cX7_speak 60 = .ok (.aload_n 0, 1) := by decide +kernel
theorem dX7_speak_61 : decode cX7_speak 61 = .ok (.iload_n 1, 1) := by decide +kernel
theorem dX7_speak_62 : decode cX7_speak 62 = .ok (.invokevirtual 291, 3) := by decide +kernel
theorem dX7_speak_65 : decode cX7_speak 65 = .ok (.ireturn, 1) := by decide +kernel
set_option maxRecDepth 20000 in
theorem aw_wsX7_leave : wsX7_leave.all goodWord = true := by decide +kernel
set_option maxRecDepth 20000 in
theorem ggX7_plainTelling_X7_leave : GoodIn wsX7_plainTelling wsX7_leave := goodIn_r _ [8, 9, 10, 11, 12, 13, 14, 15, 16, 17, 18] rfl aw_wsX7_leave
set_option maxRecDepth 20000 in
theorem gX7_plainTelling_X7_leave : GoodIn wsX7_plainTelling (wsV RX7 294 RX7 yX7_leave wsX7_leave) := goodIn_app (goodIn_r _ [4, 5, 6, 7] rfl (by decide +kernel)) ggX7_plainTelling_X7_leave
theorem dX7_plainTelling_0 : decode cX7_plainTelling 0 = .ok (.aload_n 0, 1) := by decide +kernel
theorem dX7_plainTelling_1 : decode cX7_plainTelling 1 = .ok (.iconst 1, 1) := by decide +kernel
theorem dX7_plainTelling_2 : decode cX7_plainTelling 2 = .ok (.invokevirtual 294, 3) := by decide +kernel
theorem dX7_plainTelling_5 : decode cX7_plainTelling 5 = .ok (.aload_n 0, 1) := by decide +kernel
theorem dX7_plainTelling_6 : decode cX7_plainTelling 6 = .ok (.getfield 21, 3) := by decide +kernel
theorem dX7_plainTelling_9 : decode cX7_plainTelling 9 = .ok (.getfield 68, 3) := by decide +kernel
theorem dX7_plainTelling_12 : decode cX7_plainTelling 12 = .ok (.getfield 111, 3) := by decide +kernel
theorem dX7_plainTelling_15 : decode cX7_plainTelling 15 = .ok (.iload_n 1, 1) := by decide +kernel
theorem dX7_plainTelling_16 : decode cX7_plainTelling 16 = .ok (.iaload, 1) := by decide +kernel
theorem dX7_plainTelling_17 : decode cX7_plainTelling 17 = .ok (.ireturn, 1) := by decide +kernel
set_option maxRecDepth 20000 in
theorem ggX7_bulkyTelling_X7_leave : GoodIn wsX7_bulkyTelling wsX7_leave := goodIn_r _ [5, 6, 14, 15, 16, 17, 18, 19, 20, 21, 22] rfl aw_wsX7_leave
set_option maxRecDepth 20000 in
theorem gX7_bulkyTelling_X7_leave : GoodIn wsX7_bulkyTelling (wsV RX7 294 RX7 yX7_leave wsX7_leave) := goodIn_app (goodIn_r _ [1, 2, 3, 4] rfl (by decide +kernel)) ggX7_bulkyTelling_X7_leave
set_option maxRecDepth 20000 in
theorem ggX7_bulkyTelling_X7_plainTelling : GoodIn wsX7_bulkyTelling wsX7_plainTelling := goodIn_r _ [10, 11, 12, 13, 1, 2, 3, 4, 5, 6, 14, 15, 16, 17, 18, 19, 20, 21, 22, 23, 24, 25, 26, 27, 28, 29, 30, 31, 32, 33, 34, 35, 36] rfl aw_wsX7_plainTelling
set_option maxRecDepth 20000 in
theorem gX7_bulkyTelling_X7_plainTelling : GoodIn wsX7_bulkyTelling (wsV RX7 291 RX7 yX7_plainTelling wsX7_plainTelling) := goodIn_app (goodIn_r _ [7, 8, 9, 4] rfl (by decide +kernel)) ggX7_bulkyTelling_X7_plainTelling
theorem dX7_bulkyTelling_0 : decode cX7_bulkyTelling 0 = .ok (.aload_n 0, 1) := by decide +kernel
theorem dX7_bulkyTelling_1 : decode cX7_bulkyTelling 1 = .ok (.iconst 2, 1) := by decide +kernel
theorem dX7_bulkyTelling_2 : decode cX7_bulkyTelling 2 = .ok (.invokevirtual 294, 3) := by decide +kernel
theorem dX7_bulkyTelling_5 : decode cX7_bulkyTelling 5 = .ok (.aload_n 0, 1) := by decide +kernel
theorem dX7_bulkyTelling_6 : decode cX7_bulkyTelling 6 = .ok (.iload_n 1, 1) := by decide +kernel
theorem dX7_bulkyTelling_7 : decode cX7_bulkyTelling 7 = .ok (.invokevirtual 291, 3) := by decide +kernel
theorem dX7_bulkyTelling_10 : decode cX7_bulkyTelling 10 = .ok (.bipush 100, 2) := by decide +kernel
theorem dX7_bulkyTelling_12 : decode cX7_bulkyTelling 12 = .ok (.iadd, 1) := by decide +kernel
theorem dX7_bulkyTelling_13 : decode cX7_bulkyTelling 13 = .ok (.ireturn, 1) := by decide +kernel
set_option maxRecDepth 20000 in
theorem ggX7_doubleTelling_X7_leave : GoodIn wsX7_doubleTelling wsX7_leave := goodIn_r _ [5, 6, 18, 19, 20, 21, 22, 23, 24, 25, 26] rfl aw_wsX7_leave
set_option maxRecDepth 20000 in
theorem gX7_doubleTelling_X7_leave : GoodIn wsX7_doubleTelling (wsV RX7 294 RX7 yX7_leave wsX7_leave) := goodIn_app (goodIn_r _ [1, 2, 3, 4] rfl (by decide +kernel)) ggX7_doubleTelling_X7_leave
set_option maxRecDepth 20000 in
theorem ggX7_doubleTelling_X7_bulkyTelling : GoodIn wsX7_doubleTelling wsX7_bulkyTelling := goodIn_r _ [10, 1, 2, 3, 4, 5, 6, 11, 12, 13, 14, 15, 16, 17, 18, 19, 20, 21, 22, 23, 24, 25, 26, 27, 28, 29, 30, 31, 32, 33, 34, 35, 36, 37, 38, 39, 40] rfl aw_wsX7_bulkyTelling
set_option maxRecDepth 20000 in
theorem gX7_doubleTelling_X7_bulkyTelling : GoodIn wsX7_doubleTelling (wsV RX7 288 RX7 yX7_bulkyTelling wsX7_bulkyTelling) := goodIn_app (goodIn_r _ [7, 8, 9, 4] rfl (by decide +kernel)) ggX7_doubleTelling_X7_bulkyTelling
set_option maxRecDepth 20000 in
theorem ggX7_doubleTelling_X7_plainTelling : GoodIn wsX7_doubleTelling wsX7_plainTelling := goodIn_r _ [14, 15, 16, 17, 1, 2, 3, 4, 5, 6, 18, 19, 20, 21, 22, 23, 24, 25, 26, 27, 28, 29, 30, 31, 32, 33, 34, 35, 36, 37, 38, 39, 40] rfl aw_wsX7_plainTelling
set_option maxRecDepth 20000 in
theorem gX7_doubleTelling_X7_plainTelling : GoodIn wsX7_doubleTelling (wsV RX7 291 RX7 yX7_plainTelling wsX7_plainTelling) := goodIn_app (goodIn_r _ [11, 12, 13, 4] rfl (by decide +kernel)) ggX7_doubleTelling_X7_plainTelling
theorem dX7_doubleTelling_0 : decode cX7_doubleTelling 0 = .ok (.aload_n 0, 1) := by decide +kernel
theorem dX7_doubleTelling_1 : decode cX7_doubleTelling 1 = .ok (.iconst 3, 1) := by decide +kernel
theorem dX7_doubleTelling_2 : decode cX7_doubleTelling 2 = .ok (.invokevirtual 294, 3) := by decide +kernel
theorem dX7_doubleTelling_5 : decode cX7_doubleTelling 5 = .ok (.aload_n 0, 1) := by decide +kernel
theorem dX7_doubleTelling_6 : decode cX7_doubleTelling 6 = .ok (.iload_n 1, 1) := by decide +kernel
theorem dX7_doubleTelling_7 : decode cX7_doubleTelling 7 = .ok (.invokevirtual 288, 3) := by decide +kernel
theorem dX7_doubleTelling_10 : decode cX7_doubleTelling 10 = .ok (.istore_n 2, 1) := by decide +kernel
theorem dX7_doubleTelling_11 : decode cX7_doubleTelling 11 = .ok (.iload_n 2, 1) := by decide +kernel
theorem dX7_doubleTelling_12 : decode cX7_doubleTelling 12 = .ok (.aload_n 0, 1) := by decide +kernel
theorem dX7_doubleTelling_13 : decode cX7_doubleTelling 13 = .ok (.iload_n 1, 1) := by decide +kernel
theorem dX7_doubleTelling_14 : decode cX7_doubleTelling 14 = .ok (.invokevirtual 291, 3) := by decide +kernel
theorem dX7_doubleTelling_17 : decode cX7_doubleTelling 17 = .ok (.iadd, 1) := by decide +kernel
theorem dX7_doubleTelling_18 : decode cX7_doubleTelling 18 = .ok (.ireturn, 1) := by decide +kernel
set_option maxRecDepth 20000 in
theorem ggX7_quote_X7_isRule : GoodIn wsX7_quote wsX7_isRule := goodIn_r _ [9, 1, 2, 10, 16, 17, 18, 19, 20, 21, 22, 23, 24, 25, 26, 27, 28, 29, 30, 31, 32, 33, 34, 35, 36, 37, 38] rfl aw_wsX7_isRule
set_option maxRecDepth 20000 in
theorem gX7_quote_X7_isRule : GoodIn wsX7_quote (wsV RX7 105 RX7 yX7_isRule wsX7_isRule) := goodIn_app (goodIn_r _ [5, 6, 7, 8] rfl (by decide +kernel)) ggX7_quote_X7_isRule
set_option maxRecDepth 20000 in
theorem ggX7_quote_X7_leave : GoodIn wsX7_quote wsX7_leave := goodIn_r _ [14, 15, 16, 17, 18, 19, 20, 21, 22, 23, 24] rfl aw_wsX7_leave
set_option maxRecDepth 20000 in
theorem gX7_quote_X7_leave : GoodIn wsX7_quote (wsV RX7 294 RX7 yX7_leave wsX7_leave) := goodIn_app (goodIn_r _ [11, 12, 13, 8] rfl (by decide +kernel)) ggX7_quote_X7_leave
theorem dX7_quote_0 : decode cX7_quote 0 = .ok (.aload_n 0, 1) := by decide +kernel
theorem dX7_quote_1 : decode cX7_quote 1 = .ok (.iload_n 1, 1) := by decide +kernel
theorem dX7_quote_2 : decode cX7_quote 2 = .ok (.invokevirtual 105, 3) := by decide +kernel
theorem dX7_quote_5 : decode cX7_quote 5 = .ok (.ifCond .ne 5, 3) := by decide +kernel
theorem dX7_quote_8 : decode cX7_quote 8 = .ok (.iconst (-1), 1) := by decide +kernel
theorem dX7_quote_9 : decode cX7_quote 9 = .ok (.ireturn, 1) := by decide +kernel
theorem dX7_quote_10 : decode cX7_quote 10 = .ok (.aload_n 0, 1) := by decide +kernel
theorem dX7_quote_11 : decode cX7_quote 11 = .ok (.getfield 21, 3) := by decide +kernel
theorem dX7_quote_14 : decode cX7_quote 14 = .ok (.getfield 68, 3) := by decide +kernel
theorem dX7_quote_17 : decode cX7_quote 17 = .ok (.getfield 108, 3) := by decide +kernel
theorem dX7_quote_20 : decode cX7_quote 20 = .ok (.iload_n 1, 1) := by decide +kernel
theorem dX7_quote_21 : decode cX7_quote 21 = .ok (.iaload, 1) := by decide +kernel
theorem dX7_quote_22 : decode cX7_quote 22 = .ok (.iconst 2, 1) := by decide +kernel
theorem dX7_quote_23 : decode cX7_quote 23 = .ok (.if_icmp .ne 11, 3) := by decide +kernel
theorem dX7_quote_26 : decode cX7_quote 26 = .ok (.aload_n 0, 1) := by decide +kernel
theorem dX7_quote_27 : decode cX7_quote 27 = .ok (.iconst 5, 1) := by decide +kernel
theorem dX7_quote_28 : decode cX7_quote 28 = .ok (.invokevirtual 294, 3) := by decide +kernel
theorem dX7_quote_31 : decode cX7_quote 31 = .ok (.bipush 40, 2) := by decide +kernel
theorem dX7_quote_33 : decode cX7_quote 33 = .ok (.ireturn, 1) := by decide +kernel
theorem dX7_quote_34 : decode cX7_quote 34 = .ok (.aload_n 0, 1) := by decide +kernel
theorem dX7_quote_35 : decode cX7_quote 35 = .ok (.iconst 4, 1) := by decide +kernel
theorem dX7_quote_36 : decode cX7_quote 36 = .ok (.invokevirtual 294, 3) := by decide +kernel
theorem dX7_quote_39 : decode cX7_quote 39 = .ok (.aload_n 0, 1) := by decide +kernel
theorem dX7_quote_40 : decode cX7_quote 40 = .ok (.getfield 21, 3) := by decide +kernel
theorem dX7_quote_43 : decode cX7_quote 43 = .ok (.getfield 68, 3) := by decide +kernel
theorem dX7_quote_46 : decode cX7_quote 46 = .ok (.getfield 120, 3) := by decide +kernel
theorem dX7_quote_49 : decode cX7_quote 49 = .ok (.iload_n 1, 1) := by decide +kernel
theorem dX7_quote_50 : decode cX7_quote 50 = .ok (.iaload, 1) := by decide +kernel
theorem dX7_quote_51 : decode cX7_quote 51 = .ok (.ireturn, 1) := by decide +kernel
theorem dX7_leave_0 : decode cX7_leave 0 = .ok (.aload_n 0, 1) := by decide +kernel
theorem dX7_leave_1 : decode cX7_leave 1 = .ok (.bipush 31, 2) := by decide +kernel
theorem dX7_leave_3 : decode cX7_leave 3 = .ok (.aload_n 0, 1) := by decide +kernel
theorem dX7_leave_4 : decode cX7_leave 4 = .ok (.getfield 298, 3) := by decide +kernel
theorem dX7_leave_7 : decode cX7_leave 7 = .ok (.imul, 1) := by decide +kernel
theorem dX7_leave_8 : decode cX7_leave 8 = .ok (.iload_n 1, 1) := by decide +kernel
theorem dX7_leave_9 : decode cX7_leave 9 = .ok (.iadd, 1) := by decide +kernel
theorem dX7_leave_10 : decode cX7_leave 10 = .ok (.putfield 298, 3) := by decide +kernel
theorem dX7_leave_13 : decode cX7_leave 13 = .ok (.return_, 1) := by decide +kernel
set_option maxRecDepth 20000 in
theorem ggX7_as_X7_isRule : GoodIn wsX7_as wsX7_isRule := goodIn_r _ [9, 2, 3, 10, 15, 16, 17, 18, 19, 20, 21, 22, 23, 24, 25, 26, 27, 28, 29, 30, 31, 32, 33, 34, 35, 36, 37] rfl aw_wsX7_isRule
set_option maxRecDepth 20000 in
theorem gX7_as_X7_isRule : GoodIn wsX7_as (wsV RX7 105 RX7 yX7_isRule wsX7_isRule) := goodIn_app (goodIn_r _ [5, 6, 7, 8] rfl (by decide +kernel)) ggX7_as_X7_isRule
set_option maxRecDepth 20000 in
theorem ggX7_as_X7_failed : GoodIn wsX7_as wsX7_failed := goodIn_r _ [14, 1, 15, 16, 17, 18, 19, 20, 21, 22, 23] rfl aw_wsX7_failed
set_option maxRecDepth 20000 in
theorem gX7_as_X7_failed : GoodIn wsX7_as (wsV RX7 65 RX7 yX7_failed wsX7_failed) := goodIn_app (goodIn_r _ [11, 12, 13, 8] rfl (by decide +kernel)) ggX7_as_X7_failed
theorem dX7_as_0 : decode cX7_as 0 = .ok (.aload_n 0, 1) := by decide +kernel
theorem dX7_as_1 : decode cX7_as 1 = .ok (.iconst 0, 1) := by decide +kernel
theorem dX7_as_2 : decode cX7_as 2 = .ok (.putfield 42, 3) := by decide +kernel
theorem dX7_as_5 : decode cX7_as 5 = .ok (.aload_n 0, 1) := by decide +kernel
theorem dX7_as_6 : decode cX7_as 6 = .ok (.iload_n 1, 1) := by decide +kernel
theorem dX7_as_7 : decode cX7_as 7 = .ok (.invokevirtual 105, 3) := by decide +kernel
theorem dX7_as_10 : decode cX7_as 10 = .ok (.ifCond .ne 5, 3) := by decide +kernel
theorem dX7_as_13 : decode cX7_as 13 = .ok (.iconst (-1), 1) := by decide +kernel
theorem dX7_as_14 : decode cX7_as 14 = .ok (.ireturn, 1) := by decide +kernel
theorem dX7_as_15 : decode cX7_as 15 = .ok (.iload_n 2, 1) := by decide +kernel
theorem dX7_as_16 : decode cX7_as 16 = .ok (.ifCond .lt 8, 3) := by decide +kernel
theorem dX7_as_19 : decode cX7_as 19 = .ok (.iload_n 2, 1) := by decide +kernel
theorem dX7_as_20 : decode cX7_as 20 = .ok (.iconst 3, 1) := by decide +kernel
theorem dX7_as_21 : decode cX7_as 21 = .ok (.if_icmp .lt 6, 3) := by decide +kernel
theorem dX7_as_24 : decode cX7_as 24 = .ok (.bipush (-2), 2) := by decide +kernel
theorem dX7_as_26 : decode cX7_as 26 = .ok (.ireturn, 1) := by decide +kernel
theorem dX7_as_27 : decode cX7_as 27 = .ok (.aload_n 0, 1) := by decide +kernel
theorem dX7_as_28 : decode cX7_as 28 = .ok (.getfield 21, 3) := by decide +kernel
theorem dX7_as_31 : decode cX7_as 31 = .ok (.getfield 68, 3) := by decide +kernel
theorem dX7_as_34 : decode cX7_as 34 = .ok (.getfield 108, 3) := by decide +kernel
theorem dX7_as_37 : decode cX7_as 37 = .ok (.iload_n 1, 1) := by decide +kernel
theorem dX7_as_38 : decode cX7_as 38 = .ok (.iaload, 1) := by decide +kernel
theorem dX7_as_39 : decode cX7_as 39 = .ok (.iload_n 2, 1) := by decide +kernel
theorem dX7_as_40 : decode cX7_as 40 = .ok (.if_icmp .lt 7, 3) := by decide +kernel
theorem dX7_as_43 : decode cX7_as 43 = .ok (.iconst 1, 1) := by decide +kernel
theorem dX7_as_44 : decode cX7_as 44 = .ok (.goto 8, 3) := by decide +kernel
theorem dX7_as_47 : decode cX7_as 47 = .ok (.aload_n 0, 1) := by decide +kernel
theorem dX7_as_48 : decode cX7_as 48 = .ok (.iconst 2, 1) := by decide +kernel
theorem dX7_as_49 : decode cX7_as 49 = .ok (.invokevirtual 65, 3) := by decide +kernel
theorem dX7_as_52 : decode cX7_as 52 = .ok (.ireturn, 1) := by decide +kernel
theorem dX7_trace_0 : decode cX7_trace 0 = .ok (.aload_n 0, 1) := by decide +kernel
theorem dX7_trace_1 : decode cX7_trace 1 = .ok (.getfield 298, 3) := by decide +kernel
theorem dX7_trace_4 : decode cX7_trace 4 = .ok (.ireturn, 1) := by decide +kernel
theorem dX7_fault_0 : decode cX7_fault 0 = .ok (.aload_n 0, 1) := by decide +kernel
theorem dX7_fault_1 : decode cX7_fault 1 = .ok (.getfield 42, 3) := by decide +kernel
theorem dX7_fault_4 : decode cX7_fault 4 = .ok (.ireturn, 1) := by decide +kernel
set_option maxRecDepth 20000 in
theorem ggX7_many_X6_settle : GoodIn wsX7_many wsX6_settle := goodIn_r _ [11, 12, 13, 14, 15, 16, 17, 18, 19, 20, 21, 22, 23, 24, 25, 26, 27, 28, 29, 30, 31, 32, 33, 34, 35, 36, 37, 38, 39, 40, 41, 42, 43, 44, 45, 46, 47, 48, 49, 50, 51, 52, 53, 54, 55, 56, 57, 58, 59, 60, 61, 62, 63, 64, 65, 66, 67, 68, 69, 70, 71, 72, 73, 74, 75, 76, 77, 78, 79, 80, 81, 82, 83, 84, 85, 86, 87, 88, 89, 90, 91, 92, 93, 94, 95, 96, 97, 98, 99, 100, 101, 102, 103, 104, 105, 106, 107, 108, 109, 110, 111, 112, 113, 114, 115, 116, 117, 118, 119, 120, 121, 122, 123, 124, 125, 126, 127, 128, 129, 130, 131, 132, 133, 134, 135, 136, 137, 138, 139, 166, 167, 168, 169, 170, 180, 181, 182, 171, 172, 173, 174, 175, 176, 177, 178, 179, 183, 184, 185, 186, 187, 188, 189, 190, 191, 192, 193, 194, 195] rfl aw_wsX6_settle
set_option maxRecDepth 20000 in
theorem gX7_many_X6_settle : GoodIn wsX7_many (wsV RX7 135 RX6 yX6_settle wsX6_settle) := goodIn_app (goodIn_r _ [7, 8, 9, 10] rfl (by decide +kernel)) ggX7_many_X6_settle
set_option maxRecDepth 20000 in
theorem ggX7_many_X3_held : GoodIn wsX7_many wsX3_held := goodIn_r _ [143, 56, 144, 145, 146, 147, 148, 149, 150, 183, 184, 185, 186, 187, 188] rfl aw_wsX3_held
set_option maxRecDepth 20000 in
theorem gX7_many_X3_held : GoodIn wsX7_many (wsV RX7 221 RX3 yX3_held wsX3_held) := goodIn_app (goodIn_r _ [140, 141, 142, 53] rfl (by decide +kernel)) ggX7_many_X3_held
set_option maxRecDepth 20000 in
theorem ggX7_many_X2_toldCount : GoodIn wsX7_many wsX2_toldCount := goodIn_r _ [154, 155, 106, 156, 145, 146, 147, 148, 149, 150, 171, 172, 173, 174, 175, 176, 177, 178, 179] rfl aw_wsX2_toldCount
set_option maxRecDepth 20000 in
theorem gX7_many_X2_toldCount : GoodIn wsX7_many (wsV RX7 230 RX2 yX2_toldCount wsX2_toldCount) := goodIn_app (goodIn_r _ [151, 152, 153, 47] rfl (by decide +kernel)) ggX7_many_X2_toldCount
theorem dX7_many_0 : decode cX7_many 0 = .ok (.iload_n 1, 1) := by decide +kernel
theorem dX7_many_1 : decode cX7_many 1 = .ok (.tableswitch 91 0 4 #[35, 46, 57, 75, 86], 35) := by decide +kernel
theorem dX7_many_36 : decode cX7_many 36 = .ok (.aload_n 0, 1) := by decide +kernel
theorem dX7_many_37 : decode cX7_many 37 = .ok (.getfield 21, 3) := by decide +kernel
theorem dX7_many_40 : decode cX7_many 40 = .ok (.getfield 68, 3) := by decide +kernel
theorem dX7_many_43 : decode cX7_many 43 = .ok (.getfield 236, 3) := by decide +kernel
theorem dX7_many_46 : decode cX7_many 46 = .ok (.ireturn, 1) := by decide +kernel
theorem dX7_many_47 : decode cX7_many 47 = .ok (.aload_n 0, 1) := by decide +kernel
theorem dX7_many_48 : decode cX7_many 48 = .ok (.getfield 21, 3) := by decide +kernel
theorem dX7_many_51 : decode cX7_many 51 = .ok (.getfield 68, 3) := by decide +kernel
theorem dX7_many_54 : decode cX7_many 54 = .ok (.getfield 100, 3) := by decide +kernel
theorem dX7_many_57 : decode cX7_many 57 = .ok (.ireturn, 1) := by decide +kernel
theorem dX7_many_58 : decode cX7_many 58 = .ok (.aload_n 0, 1) := by decide +kernel
theorem dX7_many_59 : decode cX7_many 59 = .ok (.getfield 21, 3) := by decide +kernel
theorem dX7_many_62 : decode cX7_many 62 = .ok (.invokevirtual 135, 3) := by decide +kernel
theorem dX7_many_65 : decode cX7_many 65 = .ok (.aload_n 0, 1) := by decide +kernel
theorem dX7_many_66 : decode cX7_many 66 = .ok (.getfield 21, 3) := by decide +kernel
theorem dX7_many_69 : decode cX7_many 69 = .ok (.getfield 141, 3) := by decide +kernel
theorem dX7_many_72 : decode cX7_many 72 = .ok (.invokevirtual 221, 3) := by decide +kernel
theorem dX7_many_75 : decode cX7_many 75 = .ok (.ireturn, 1) := by decide +kernel
theorem dX7_many_76 : decode cX7_many 76 = .ok (.aload_n 0, 1) := by decide +kernel
theorem dX7_many_77 : decode cX7_many 77 = .ok (.getfield 21, 3) := by decide +kernel
theorem dX7_many_80 : decode cX7_many 80 = .ok (.getfield 68, 3) := by decide +kernel
theorem dX7_many_83 : decode cX7_many 83 = .ok (.invokevirtual 230, 3) := by decide +kernel
theorem dX7_many_86 : decode cX7_many 86 = .ok (.ireturn, 1) := by decide +kernel
theorem dX7_many_87 : decode cX7_many 87 = .ok (.aload_n 0, 1) := by decide +kernel
theorem dX7_many_88 : decode cX7_many 88 = .ok (.getfield 97, 3) := by decide +kernel
theorem dX7_many_91 : decode cX7_many 91 = .ok (.ireturn, 1) := by decide +kernel
theorem dX7_many_92 : decode cX7_many 92 = .ok (.bipush (-2), 2) := by decide +kernel
theorem dX7_many_94 : decode cX7_many 94 = .ok (.ireturn, 1) := by decide +kernel
theorem dX7_failed_0 : decode cX7_failed 0 = .ok (.aload_n 0, 1) := by decide +kernel
theorem dX7_failed_1 : decode cX7_failed 1 = .ok (.iload_n 1, 1) := by decide +kernel
theorem dX7_failed_2 : decode cX7_failed 2 = .ok (.putfield 42, 3) := by decide +kernel
theorem dX7_failed_5 : decode cX7_failed 5 = .ok (.bipush (-10), 2) := by decide +kernel
theorem dX7_failed_7 : decode cX7_failed 7 = .ok (.iload_n 1, 1) := by decide +kernel
theorem dX7_failed_8 : decode cX7_failed 8 = .ok (.isub, 1) := by decide +kernel
theorem dX7_failed_9 : decode cX7_failed 9 = .ok (.ireturn, 1) := by decide +kernel
theorem dX7_isRelation_0 : decode cX7_isRelation 0 = .ok (.iload_n 1, 1) := by decide +kernel
theorem dX7_isRelation_1 : decode cX7_isRelation 1 = .ok (.ifCond .lt 21, 3) := by decide +kernel
theorem dX7_isRelation_4 : decode cX7_isRelation 4 = .ok (.iload_n 1, 1) := by decide +kernel
theorem dX7_isRelation_5 : decode cX7_isRelation 5 = .ok (.aload_n 0, 1) := by decide +kernel
theorem dX7_isRelation_6 : decode cX7_isRelation 6 = .ok (.getfield 21, 3) := by decide +kernel
theorem dX7_isRelation_9 : decode cX7_isRelation 9 = .ok (.getfield 68, 3) := by decide +kernel
theorem dX7_isRelation_12 : decode cX7_isRelation 12 = .ok (.getfield 236, 3) := by decide +kernel
theorem dX7_isRelation_15 : decode cX7_isRelation 15 = .ok (.if_icmp .ge 7, 3) := by decide +kernel
theorem dX7_isRelation_18 : decode cX7_isRelation 18 = .ok (.iconst 1, 1) := by decide +kernel
theorem dX7_isRelation_19 : decode cX7_isRelation 19 = .ok (.goto 4, 3) := by decide +kernel
theorem dX7_isRelation_22 : decode cX7_isRelation 22 = .ok (.iconst 0, 1) := by decide +kernel
theorem dX7_isRelation_23 : decode cX7_isRelation 23 = .ok (.ireturn, 1) := by decide +kernel
theorem dX7_isRule_0 : decode cX7_isRule 0 = .ok (.iload_n 1, 1) := by decide +kernel
theorem dX7_isRule_1 : decode cX7_isRule 1 = .ok (.ifCond .lt 21, 3) := by decide +kernel
theorem dX7_isRule_4 : decode cX7_isRule 4 = .ok (.iload_n 1, 1) := by decide +kernel
theorem dX7_isRule_5 : decode cX7_isRule 5 = .ok (.aload_n 0, 1) := by decide +kernel
theorem dX7_isRule_6 : decode cX7_isRule 6 = .ok (.getfield 21, 3) := by decide +kernel
theorem dX7_isRule_9 : decode cX7_isRule 9 = .ok (.getfield 68, 3) := by decide +kernel
theorem dX7_isRule_12 : decode cX7_isRule 12 = .ok (.getfield 100, 3) := by decide +kernel
theorem dX7_isRule_15 : decode cX7_isRule 15 = .ok (.if_icmp .ge 7, 3) := by decide +kernel
theorem dX7_isRule_18 : decode cX7_isRule 18 = .ok (.iconst 1, 1) := by decide +kernel
theorem dX7_isRule_19 : decode cX7_isRule 19 = .ok (.goto 4, 3) := by decide +kernel
theorem dX7_isRule_22 : decode cX7_isRule 22 = .ok (.iconst 0, 1) := by decide +kernel
theorem dX7_isRule_23 : decode cX7_isRule 23 = .ok (.ireturn, 1) := by decide +kernel
theorem dX7_isSheet_0 : decode cX7_isSheet 0 = .ok (.iload_n 0, 1) := by decide +kernel
theorem dX7_isSheet_1 : decode cX7_isSheet 1 = .ok (.ifCond .lt 12, 3) := by decide +kernel
theorem dX7_isSheet_4 : decode cX7_isSheet 4 = .ok (.iload_n 0, 1) := by decide +kernel
theorem dX7_isSheet_5 : decode cX7_isSheet 5 = .ok (.iconst 4, 1) := by decide +kernel
theorem dX7_isSheet_6 : decode cX7_isSheet 6 = .ok (.if_icmp .ge 7, 3) := by decide +kernel
theorem dX7_isSheet_9 : decode cX7_isSheet 9 = .ok (.iconst 1, 1) := by decide +kernel
theorem dX7_isSheet_10 : decode cX7_isSheet 10 = .ok (.goto 4, 3) := by decide +kernel
theorem dX7_isSheet_13 : decode cX7_isSheet 13 = .ok (.iconst 0, 1) := by decide +kernel
theorem dX7_isSheet_14 : decode cX7_isSheet 14 = .ok (.ireturn, 1) := by decide +kernel
theorem dX7_isLane_0 : decode cX7_isLane 0 = .ok (.iload_n 0, 1) := by decide +kernel
theorem dX7_isLane_1 : decode cX7_isLane 1 = .ok (.ifCond .lt 12, 3) := by decide +kernel
theorem dX7_isLane_4 : decode cX7_isLane 4 = .ok (.iload_n 0, 1) := by decide +kernel
theorem dX7_isLane_5 : decode cX7_isLane 5 = .ok (.iconst 3, 1) := by decide +kernel
theorem dX7_isLane_6 : decode cX7_isLane 6 = .ok (.if_icmp .ge 7, 3) := by decide +kernel
theorem dX7_isLane_9 : decode cX7_isLane 9 = .ok (.iconst 1, 1) := by decide +kernel
theorem dX7_isLane_10 : decode cX7_isLane 10 = .ok (.goto 4, 3) := by decide +kernel
theorem dX7_isLane_13 : decode cX7_isLane 13 = .ok (.iconst 0, 1) := by decide +kernel
theorem dX7_isLane_14 : decode cX7_isLane 14 = .ok (.ireturn, 1) := by decide +kernel
theorem dX7_isThing_0 : decode cX7_isThing 0 = .ok (.iload_n 0, 1) := by decide +kernel
theorem dX7_isThing_1 : decode cX7_isThing 1 = .ok (.ifCond .lt 12, 3) := by decide +kernel
theorem dX7_isThing_4 : decode cX7_isThing 4 = .ok (.iload_n 0, 1) := by decide +kernel
theorem dX7_isThing_5 : decode cX7_isThing 5 = .ok (.iconst 4, 1) := by decide +kernel
theorem dX7_isThing_6 : decode cX7_isThing 6 = .ok (.if_icmp .ge 7, 3) := by decide +kernel
theorem dX7_isThing_9 : decode cX7_isThing 9 = .ok (.iconst 1, 1) := by decide +kernel
theorem dX7_isThing_10 : decode cX7_isThing 10 = .ok (.goto 4, 3) := by decide +kernel
theorem dX7_isThing_13 : decode cX7_isThing 13 = .ok (.iconst 0, 1) := by decide +kernel
theorem dX7_isThing_14 : decode cX7_isThing 14 = .ok (.ireturn, 1) := by decide +kernel
theorem dX7_factOf_0 : decode cX7_factOf 0 = .ok (.bipush 16, 2) := by decide +kernel
theorem dX7_factOf_2 : decode cX7_factOf 2 = .ok (.iload_n 0, 1) := by decide +kernel
theorem dX7_factOf_3 : decode cX7_factOf 3 = .ok (.imul, 1) := by decide +kernel
theorem dX7_factOf_4 : decode cX7_factOf 4 = .ok (.iconst 4, 1) := by decide +kernel
theorem dX7_factOf_5 : decode cX7_factOf 5 = .ok (.iload_n 1, 1) := by decide +kernel
theorem dX7_factOf_6 : decode cX7_factOf 6 = .ok (.imul, 1) := by decide +kernel
theorem dX7_factOf_7 : decode cX7_factOf 7 = .ok (.iadd, 1) := by decide +kernel
theorem dX7_factOf_8 : decode cX7_factOf 8 = .ok (.iload_n 2, 1) := by decide +kernel
theorem dX7_factOf_9 : decode cX7_factOf 9 = .ok (.iadd, 1) := by decide +kernel
theorem dX7_factOf_10 : decode cX7_factOf 10 = .ok (.ireturn, 1) := by decide +kernel
theorem dX7_turnedAbout_0 : decode cX7_turnedAbout 0 = .ok (.iload_n 0, 1) := by decide +kernel
theorem dX7_turnedAbout_1 : decode cX7_turnedAbout 1 = .ok (.iconst 4, 1) := by decide +kernel
theorem dX7_turnedAbout_2 : decode cX7_turnedAbout 2 = .ok (.irem, 1) := by decide +kernel
theorem dX7_turnedAbout_3 : decode cX7_turnedAbout 3 = .ok (.iconst 4, 1) := by decide +kernel
theorem dX7_turnedAbout_4 : decode cX7_turnedAbout 4 = .ok (.imul, 1) := by decide +kernel
theorem dX7_turnedAbout_5 : decode cX7_turnedAbout 5 = .ok (.iload_n 0, 1) := by decide +kernel
theorem dX7_turnedAbout_6 : decode cX7_turnedAbout 6 = .ok (.iconst 4, 1) := by decide +kernel
theorem dX7_turnedAbout_7 : decode cX7_turnedAbout 7 = .ok (.idiv, 1) := by decide +kernel
theorem dX7_turnedAbout_8 : decode cX7_turnedAbout 8 = .ok (.iadd, 1) := by decide +kernel
theorem dX7_turnedAbout_9 : decode cX7_turnedAbout 9 = .ok (.ireturn, 1) := by decide +kernel
theorem dX7_rowOf_0 : decode cX7_rowOf 0 = .ok (.iload_n 0, 1) := by decide +kernel
theorem dX7_rowOf_1 : decode cX7_rowOf 1 = .ok (.iconst 4, 1) := by decide +kernel
theorem dX7_rowOf_2 : decode cX7_rowOf 2 = .ok (.iload_n 1, 1) := by decide +kernel
theorem dX7_rowOf_3 : decode cX7_rowOf 3 = .ok (.imul, 1) := by decide +kernel
theorem dX7_rowOf_4 : decode cX7_rowOf 4 = .ok (.ishr, 1) := by decide +kernel
theorem dX7_rowOf_5 : decode cX7_rowOf 5 = .ok (.bipush 15, 2) := by decide +kernel
theorem dX7_rowOf_7 : decode cX7_rowOf 7 = .ok (.iand, 1) := by decide +kernel
theorem dX7_rowOf_8 : decode cX7_rowOf 8 = .ok (.ireturn, 1) := by decide +kernel
set_option maxRecDepth 20000 in
theorem aw_wsJ0_coder_7d493 : wsJ0_coder_7d493.all goodWord = true := by decide +kernel
set_option maxRecDepth 20000 in
theorem ggJ0_length_8abf5_J0_coder_7d493 : GoodIn wsJ0_length_8abf5 wsJ0_coder_7d493 := goodIn_r _ [6, 7, 8] rfl aw_wsJ0_coder_7d493
set_option maxRecDepth 20000 in
theorem gJ0_length_8abf5_J0_coder_7d493 : GoodIn wsJ0_length_8abf5 (wsV RJ0 335 RJ0 yJ0_coder_7d493 wsJ0_coder_7d493) := goodIn_app (goodIn_r _ [2, 3, 4, 5] rfl (by decide +kernel)) ggJ0_length_8abf5_J0_coder_7d493
theorem dJ0_length_8abf5_0 : decode cJ0_length_8abf5 0 = .ok (.aload_n 0, 1) := by decide +kernel
theorem dJ0_length_8abf5_1 : decode cJ0_length_8abf5 1 = .ok (.getfield 9, 3) := by decide +kernel
theorem dJ0_length_8abf5_4 : decode cJ0_length_8abf5 4 = .ok (.arraylength, 1) := by decide +kernel
theorem dJ0_length_8abf5_5 : decode cJ0_length_8abf5 5 = .ok (.aload_n 0, 1) := by decide +kernel
theorem dJ0_length_8abf5_6 : decode cJ0_length_8abf5 6 = .ok (.invokevirtual 335, 3) := by decide +kernel
theorem dJ0_length_8abf5_9 : decode cJ0_length_8abf5 9 = .ok (.ishr, 1) := by decide +kernel
theorem dJ0_length_8abf5_10 : decode cJ0_length_8abf5 10 = .ok (.ireturn, 1) := by decide +kernel
set_option maxRecDepth 20000 in
theorem aw_wsJ0_isLatin1_aae02 : wsJ0_isLatin1_aae02.all goodWord = true := by decide +kernel
set_option maxRecDepth 20000 in
theorem ggJ0_charAt_5068e_J0_isLatin1_aae02 : GoodIn wsJ0_charAt_5068e wsJ0_isLatin1_aae02 := goodIn_r _ [6, 7, 8] rfl aw_wsJ0_isLatin1_aae02
set_option maxRecDepth 20000 in
theorem gJ0_charAt_5068e_J0_isLatin1_aae02 : GoodIn wsJ0_charAt_5068e (wsV RJ0 492 RJ0 yJ0_isLatin1_aae02 wsJ0_isLatin1_aae02) := goodIn_app (goodIn_r _ [2, 3, 4, 5] rfl (by decide +kernel)) ggJ0_charAt_5068e_J0_isLatin1_aae02
set_option maxRecDepth 20000 in
theorem aw_wsJ1_charAt_3b067 : wsJ1_charAt_3b067.all goodWord = true := by decide +kernel
set_option maxRecDepth 20000 in
theorem ggJ0_charAt_5068e_J1_charAt_3b067 : GoodIn wsJ0_charAt_5068e wsJ1_charAt_3b067 := goodIn_r _ [12, 13, 14, 5, 15, 16, 17, 18, 19, 20] rfl aw_wsJ1_charAt_3b067
set_option maxRecDepth 20000 in
theorem gJ0_charAt_5068e_J1_charAt_3b067 : GoodIn wsJ0_charAt_5068e (va_wsS RJ0 495 yJ1_charAt_3b067 wsJ1_charAt_3b067) := goodIn_app (goodIn_r _ [9, 10, 11] rfl (by decide +kernel)) ggJ0_charAt_5068e_J1_charAt_3b067
set_option maxRecDepth 20000 in
theorem aw_wsJ2_charAt_3b067 : wsJ2_charAt_3b067.all goodWord = true := by decide +kernel
set_option maxRecDepth 20000 in
theorem ggJ0_charAt_5068e_J2_charAt_3b067 : GoodIn wsJ0_charAt_5068e wsJ2_charAt_3b067 := goodIn_r _ [24, 25, 26, 23, 27, 28, 29, 30, 31, 14, 5, 15, 16, 17, 18, 19, 20, 32, 33, 34, 35, 36, 37] rfl aw_wsJ2_charAt_3b067
set_option maxRecDepth 20000 in
theorem gJ0_charAt_5068e_J2_charAt_3b067 : GoodIn wsJ0_charAt_5068e (va_wsS RJ0 498 yJ2_charAt_3b067 wsJ2_charAt_3b067) := goodIn_app (goodIn_r _ [21, 22, 23] rfl (by decide +kernel)) ggJ0_charAt_5068e_J2_charAt_3b067
theorem dJ0_charAt_5068e_0 : decode cJ0_charAt_5068e 0 = .ok (.aload_n 0, 1) := by decide +kernel
theorem dJ0_charAt_5068e_1 : decode cJ0_charAt_5068e 1 = .ok (.invokevirtual 492, 3) := by decide +kernel
theorem dJ0_charAt_5068e_4 : decode cJ0_charAt_5068e 4 = .ok (.ifCond .eq 12, 3) := by decide +kernel
theorem dJ0_charAt_5068e_7 : decode cJ0_charAt_5068e 7 = .ok (.aload_n 0, 1) := by decide +kernel
theorem dJ0_charAt_5068e_8 : decode cJ0_charAt_5068e 8 = .ok (.getfield 9, 3) := by decide +kernel
theorem dJ0_charAt_5068e_11 : decode cJ0_charAt_5068e 11 = .ok (.iload_n 1, 1) := by decide +kernel
theorem dJ0_charAt_5068e_12 : decode cJ0_charAt_5068e 12 = .ok (.invokestatic 495, 3) := by decide +kernel
theorem dJ0_charAt_5068e_15 : decode cJ0_charAt_5068e 15 = .ok (.ireturn, 1) := by decide +kernel
theorem dJ0_charAt_5068e_16 : decode cJ0_charAt_5068e 16 = .ok (.aload_n 0, 1) := by decide +kernel
theorem dJ0_charAt_5068e_17 : decode cJ0_charAt_5068e 17 = .ok (.getfield 9, 3) := by decide +kernel
theorem dJ0_charAt_5068e_20 : decode cJ0_charAt_5068e 20 = .ok (.iload_n 1, 1) := by decide +kernel
theorem dJ0_charAt_5068e_21 : decode cJ0_charAt_5068e 21 = .ok (.invokestatic 498, 3) := by decide +kernel
theorem dJ0_charAt_5068e_24 : decode cJ0_charAt_5068e 24 = .ok (.ireturn, 1) := by decide +kernel
theorem dJ0_coder_7d493_0 : decode cJ0_coder_7d493 0 = .ok (.getstatic 38, 3) := by decide +kernel
theorem dJ0_coder_7d493_3 : decode cJ0_coder_7d493 3 = .ok (.ifCond .eq 10, 3) := by decide +kernel
theorem dJ0_coder_7d493_6 : decode cJ0_coder_7d493 6 = .ok (.aload_n 0, 1) := by decide +kernel
theorem dJ0_coder_7d493_7 : decode cJ0_coder_7d493 7 = .ok (.getfield 15, 3) := by decide +kernel
theorem dJ0_coder_7d493_10 : decode cJ0_coder_7d493 10 = .ok (.goto 4, 3) := by decide +kernel
theorem dJ0_coder_7d493_13 : decode cJ0_coder_7d493 13 = .ok (.iconst 1, 1) := by decide +kernel
theorem dJ0_coder_7d493_14 : decode cJ0_coder_7d493 14 = .ok (.ireturn, 1) := by decide +kernel
theorem dJ0_isLatin1_aae02_0 : decode cJ0_isLatin1_aae02 0 = .ok (.getstatic 38, 3) := by decide +kernel
theorem dJ0_isLatin1_aae02_3 : decode cJ0_isLatin1_aae02 3 = .ok (.ifCond .eq 14, 3) := by decide +kernel
theorem dJ0_isLatin1_aae02_6 : decode cJ0_isLatin1_aae02 6 = .ok (.aload_n 0, 1) := by decide +kernel
theorem dJ0_isLatin1_aae02_7 : decode cJ0_isLatin1_aae02 7 = .ok (.getfield 15, 3) := by decide +kernel
theorem dJ0_isLatin1_aae02_10 : decode cJ0_isLatin1_aae02 10 = .ok (.ifCond .ne 7, 3) := by decide +kernel
theorem dJ0_isLatin1_aae02_13 : decode cJ0_isLatin1_aae02 13 = .ok (.iconst 1, 1) := by decide +kernel
theorem dJ0_isLatin1_aae02_14 : decode cJ0_isLatin1_aae02 14 = .ok (.goto 4, 3) := by decide +kernel
theorem dJ0_isLatin1_aae02_17 : decode cJ0_isLatin1_aae02 17 = .ok (.iconst 0, 1) := by decide +kernel
theorem dJ0_isLatin1_aae02_18 : decode cJ0_isLatin1_aae02 18 = .ok (.ireturn, 1) := by decide +kernel
set_option maxRecDepth 20000 in
theorem aw_wsJ3_checkIndex_8e157 : wsJ3_checkIndex_8e157.all goodWord = true := by decide +kernel
set_option maxRecDepth 20000 in
theorem ggJ0_checkIndex_df160_J3_checkIndex_8e157 : GoodIn wsJ0_checkIndex_df160 wsJ3_checkIndex_8e157 := goodIn_r _ [5] rfl aw_wsJ3_checkIndex_8e157
set_option maxRecDepth 20000 in
theorem gJ0_checkIndex_df160_J3_checkIndex_8e157 : GoodIn wsJ0_checkIndex_df160 (va_wsS RJ0 1059 yJ3_checkIndex_8e157 wsJ3_checkIndex_8e157) := goodIn_app (goodIn_r _ [2, 3, 4] rfl (by decide +kernel)) ggJ0_checkIndex_df160_J3_checkIndex_8e157
theorem dJ0_checkIndex_df160_0 : decode cJ0_checkIndex_df160 0 = .ok (.iload_n 0, 1) := by decide +kernel
theorem dJ0_checkIndex_df160_1 : decode cJ0_checkIndex_df160 1 = .ok (.iload_n 1, 1) := by decide +kernel
theorem dJ0_checkIndex_df160_2 : decode cJ0_checkIndex_df160 2 = .ok (.getstatic 1053, 3) := by decide +kernel
theorem dJ0_checkIndex_df160_5 : decode cJ0_checkIndex_df160 5 = .ok (.invokestatic 1059, 3) := by decide +kernel
theorem dJ0_checkIndex_df160_8 : decode cJ0_checkIndex_df160 8 = .ok (.pop, 1) := by decide +kernel
theorem dJ0_checkIndex_df160_9 : decode cJ0_checkIndex_df160 9 = .ok (.return_, 1) := by decide +kernel
set_option maxRecDepth 20000 in
theorem aw_wsJ0_checkIndex_df160 : wsJ0_checkIndex_df160.all goodWord = true := by decide +kernel
set_option maxRecDepth 20000 in
theorem ggJ1_charAt_3b067_J0_checkIndex_df160 : GoodIn wsJ1_charAt_3b067 wsJ0_checkIndex_df160 := goodIn_r _ [4, 5, 6, 7, 8, 9] rfl aw_wsJ0_checkIndex_df160
set_option maxRecDepth 20000 in
theorem gJ1_charAt_3b067_J0_checkIndex_df160 : GoodIn wsJ1_charAt_3b067 (va_wsS RJ1 9 yJ0_checkIndex_df160 wsJ0_checkIndex_df160) := goodIn_app (goodIn_r _ [1, 2, 3] rfl (by decide +kernel)) ggJ1_charAt_3b067_J0_checkIndex_df160
theorem dJ1_charAt_3b067_0 : decode cJ1_charAt_3b067 0 = .ok (.iload_n 1, 1) := by decide +kernel
theorem dJ1_charAt_3b067_1 : decode cJ1_charAt_3b067 1 = .ok (.aload_n 0, 1) := by decide +kernel
theorem dJ1_charAt_3b067_2 : decode cJ1_charAt_3b067 2 = .ok (.arraylength, 1) := by decide +kernel
theorem dJ1_charAt_3b067_3 : decode cJ1_charAt_3b067 3 = .ok (.invokestatic 9, 3) := by decide +kernel
theorem dJ1_charAt_3b067_6 : decode cJ1_charAt_3b067 6 = .ok (.aload_n 0, 1) := by decide +kernel
theorem dJ1_charAt_3b067_7 : decode cJ1_charAt_3b067 7 = .ok (.iload_n 1, 1) := by decide +kernel
theorem dJ1_charAt_3b067_8 : decode cJ1_charAt_3b067 8 = .ok (.baload, 1) := by decide +kernel
theorem dJ1_charAt_3b067_9 : decode cJ1_charAt_3b067 9 = .ok (.sipush 255, 3) := by decide +kernel
theorem dJ1_charAt_3b067_12 : decode cJ1_charAt_3b067 12 = .ok (.iand, 1) := by decide +kernel
theorem dJ1_charAt_3b067_13 : decode cJ1_charAt_3b067 13 = .ok (.i2c, 1) := by decide +kernel
theorem dJ1_charAt_3b067_14 : decode cJ1_charAt_3b067 14 = .ok (.ireturn, 1) := by decide +kernel
set_option maxRecDepth 20000 in
theorem aw_wsJ2_length_9d52b : wsJ2_length_9d52b.all goodWord = true := by decide +kernel
set_option maxRecDepth 20000 in
theorem ggJ2_getChar_3b067_J2_length_9d52b : GoodIn wsJ2_getChar_3b067 wsJ2_length_9d52b := goodIn_r _ [7] rfl aw_wsJ2_length_9d52b
set_option maxRecDepth 20000 in
theorem gJ2_getChar_3b067_J2_length_9d52b : GoodIn wsJ2_getChar_3b067 (va_wsS RJ2 48 yJ2_length_9d52b wsJ2_length_9d52b) := goodIn_app (goodIn_r _ [4, 5, 6] rfl (by decide +kernel)) ggJ2_getChar_3b067_J2_length_9d52b
theorem dJ2_getChar_3b067_0 : decode cJ2_getChar_3b067 0 = .ok (.getstatic 44, 3) := by decide +kernel
theorem dJ2_getChar_3b067_3 : decode cJ2_getChar_3b067 3 = .ok (.ifCond .ne 25, 3) := by decide +kernel
theorem dJ2_getChar_3b067_6 : decode cJ2_getChar_3b067 6 = .ok (.iload_n 1, 1) := by decide +kernel
theorem dJ2_getChar_3b067_7 : decode cJ2_getChar_3b067 7 = .ok (.ifCond .lt 11, 3) := by decide +kernel
theorem dJ2_getChar_3b067_10 : decode cJ2_getChar_3b067 10 = .ok (.iload_n 1, 1) := by decide +kernel
theorem dJ2_getChar_3b067_11 : decode cJ2_getChar_3b067 11 = .ok (.aload_n 0, 1) := by decide +kernel
theorem dJ2_getChar_3b067_12 : decode cJ2_getChar_3b067 12 = .ok (.invokestatic 48, 3) := by decide +kernel
theorem dJ2_getChar_3b067_15 : decode cJ2_getChar_3b067 15 = .ok (.if_icmp .lt 13, 3) := by decide +kernel
theorem dJ2_getChar_3b067_18 : decode cJ2_getChar_3b067 18 = .ok (.new 52, 3) := by decide +kernel
theorem dJ2_getChar_3b067_21 : decode cJ2_getChar_3b067 21 = .ok (.dup, 1) := by decide +kernel
theorem dJ2_getChar_3b067_22 : decode cJ2_getChar_3b067 22 = .ok (.ldc 54, 2) := by decide +kernel
theorem dJ2_getChar_3b067_24 : decode cJ2_getChar_3b067 24 = .ok (.invokespecial 56, 3) := by decide +kernel
theorem dJ2_getChar_3b067_27 : decode cJ2_getChar_3b067 27 = .ok (.athrow, 1) := by decide +kernel
theorem dJ2_getChar_3b067_28 : decode cJ2_getChar_3b067 28 = .ok (.iload_n 1, 1) := by decide +kernel
theorem dJ2_getChar_3b067_29 : decode cJ2_getChar_3b067 29 = .ok (.iconst 1, 1) := by decide +kernel
theorem dJ2_getChar_3b067_30 : decode cJ2_getChar_3b067 30 = .ok (.ishl, 1) := by decide +kernel
theorem dJ2_getChar_3b067_31 : decode cJ2_getChar_3b067 31 = .ok (.istore_n 1, 1) := by decide +kernel
theorem dJ2_getChar_3b067_32 : decode cJ2_getChar_3b067 32 = .ok (.aload_n 0, 1) := by decide +kernel
theorem dJ2_getChar_3b067_33 : decode cJ2_getChar_3b067 33 = .ok (.iload_n 1, 1) := by decide +kernel
theorem dJ2_getChar_3b067_34 : decode cJ2_getChar_3b067 34 = .ok (.iinc 1 1, 3) := by decide +kernel
theorem dJ2_getChar_3b067_37 : decode cJ2_getChar_3b067 37 = .ok (.baload, 1) := by decide +kernel
theorem dJ2_getChar_3b067_38 : decode cJ2_getChar_3b067 38 = .ok (.sipush 255, 3) := by decide +kernel
theorem dJ2_getChar_3b067_41 : decode cJ2_getChar_3b067 41 = .ok (.iand, 1) := by decide +kernel
theorem dJ2_getChar_3b067_42 : decode cJ2_getChar_3b067 42 = .ok (.getstatic 59, 3) := by decide +kernel
theorem dJ2_getChar_3b067_45 : decode cJ2_getChar_3b067 45 = .ok (.ishl, 1) := by decide +kernel
theorem dJ2_getChar_3b067_46 : decode cJ2_getChar_3b067 46 = .ok (.aload_n 0, 1) := by decide +kernel
theorem dJ2_getChar_3b067_47 : decode cJ2_getChar_3b067 47 = .ok (.iload_n 1, 1) := by decide +kernel
theorem dJ2_getChar_3b067_48 : decode cJ2_getChar_3b067 48 = .ok (.baload, 1) := by decide +kernel
theorem dJ2_getChar_3b067_49 : decode cJ2_getChar_3b067 49 = .ok (.sipush 255, 3) := by decide +kernel
theorem dJ2_getChar_3b067_52 : decode cJ2_getChar_3b067 52 = .ok (.iand, 1) := by decide +kernel
theorem dJ2_getChar_3b067_53 : decode cJ2_getChar_3b067 53 = .ok (.getstatic 63, 3) := by decide +kernel
theorem dJ2_getChar_3b067_56 : decode cJ2_getChar_3b067 56 = .ok (.ishl, 1) := by decide +kernel
theorem dJ2_getChar_3b067_57 : decode cJ2_getChar_3b067 57 = .ok (.ior, 1) := by decide +kernel
theorem dJ2_getChar_3b067_58 : decode cJ2_getChar_3b067 58 = .ok (.i2c, 1) := by decide +kernel
theorem dJ2_getChar_3b067_59 : decode cJ2_getChar_3b067 59 = .ok (.ireturn, 1) := by decide +kernel
theorem dJ2_length_9d52b_0 : decode cJ2_length_9d52b 0 = .ok (.aload_n 0, 1) := by decide +kernel
theorem dJ2_length_9d52b_1 : decode cJ2_length_9d52b 1 = .ok (.arraylength, 1) := by decide +kernel
theorem dJ2_length_9d52b_2 : decode cJ2_length_9d52b 2 = .ok (.iconst 1, 1) := by decide +kernel
theorem dJ2_length_9d52b_3 : decode cJ2_length_9d52b 3 = .ok (.ishr, 1) := by decide +kernel
theorem dJ2_length_9d52b_4 : decode cJ2_length_9d52b 4 = .ok (.ireturn, 1) := by decide +kernel
set_option maxRecDepth 20000 in
theorem aw_wsJ2_checkIndex_2214a : wsJ2_checkIndex_2214a.all goodWord = true := by decide +kernel
set_option maxRecDepth 20000 in
theorem ggJ2_charAt_3b067_J2_checkIndex_2214a : GoodIn wsJ2_charAt_3b067 wsJ2_checkIndex_2214a := goodIn_r _ [4, 5, 6, 3, 7, 8, 9, 10, 11, 12, 13, 14, 15, 16] rfl aw_wsJ2_checkIndex_2214a
set_option maxRecDepth 20000 in
theorem gJ2_charAt_3b067_J2_checkIndex_2214a : GoodIn wsJ2_charAt_3b067 (va_wsS RJ2 67 yJ2_checkIndex_2214a wsJ2_checkIndex_2214a) := goodIn_app (goodIn_r _ [1, 2, 3] rfl (by decide +kernel)) ggJ2_charAt_3b067_J2_checkIndex_2214a
set_option maxRecDepth 20000 in
theorem aw_wsJ2_getChar_3b067 : wsJ2_getChar_3b067.all goodWord = true := by decide +kernel
set_option maxRecDepth 20000 in
theorem ggJ2_charAt_3b067_J2_getChar_3b067 : GoodIn wsJ2_charAt_3b067 wsJ2_getChar_3b067 := goodIn_r _ [19, 20, 21, 22, 5, 6, 3, 7] rfl aw_wsJ2_getChar_3b067
set_option maxRecDepth 20000 in
theorem gJ2_charAt_3b067_J2_getChar_3b067 : GoodIn wsJ2_charAt_3b067 (va_wsS RJ2 71 yJ2_getChar_3b067 wsJ2_getChar_3b067) := goodIn_app (goodIn_r _ [17, 18, 3] rfl (by decide +kernel)) ggJ2_charAt_3b067_J2_getChar_3b067
theorem dJ2_charAt_3b067_0 : decode cJ2_charAt_3b067 0 = .ok (.iload_n 1, 1) := by decide +kernel
theorem dJ2_charAt_3b067_1 : decode cJ2_charAt_3b067 1 = .ok (.aload_n 0, 1) := by decide +kernel
theorem dJ2_charAt_3b067_2 : decode cJ2_charAt_3b067 2 = .ok (.invokestatic 67, 3) := by decide +kernel
theorem dJ2_charAt_3b067_5 : decode cJ2_charAt_3b067 5 = .ok (.aload_n 0, 1) := by decide +kernel
theorem dJ2_charAt_3b067_6 : decode cJ2_charAt_3b067 6 = .ok (.iload_n 1, 1) := by decide +kernel
theorem dJ2_charAt_3b067_7 : decode cJ2_charAt_3b067 7 = .ok (.invokestatic 71, 3) := by decide +kernel
theorem dJ2_charAt_3b067_10 : decode cJ2_charAt_3b067 10 = .ok (.ireturn, 1) := by decide +kernel
set_option maxRecDepth 20000 in
theorem ggJ2_checkIndex_2214a_J2_length_9d52b : GoodIn wsJ2_checkIndex_2214a wsJ2_length_9d52b := goodIn_r _ [4] rfl aw_wsJ2_length_9d52b
set_option maxRecDepth 20000 in
theorem gJ2_checkIndex_2214a_J2_length_9d52b : GoodIn wsJ2_checkIndex_2214a (va_wsS RJ2 48 yJ2_length_9d52b wsJ2_length_9d52b) := goodIn_app (goodIn_r _ [1, 2, 3] rfl (by decide +kernel)) ggJ2_checkIndex_2214a_J2_length_9d52b
set_option maxRecDepth 20000 in
theorem ggJ2_checkIndex_2214a_J0_checkIndex_df160 : GoodIn wsJ2_checkIndex_2214a wsJ0_checkIndex_df160 := goodIn_r _ [8, 9, 10, 11, 12, 13] rfl aw_wsJ0_checkIndex_df160
set_option maxRecDepth 20000 in
theorem gJ2_checkIndex_2214a_J0_checkIndex_df160 : GoodIn wsJ2_checkIndex_2214a (va_wsS RJ2 414 yJ0_checkIndex_df160 wsJ0_checkIndex_df160) := goodIn_app (goodIn_r _ [5, 6, 7] rfl (by decide +kernel)) ggJ2_checkIndex_2214a_J0_checkIndex_df160
theorem dJ2_checkIndex_2214a_0 : decode cJ2_checkIndex_2214a 0 = .ok (.iload_n 0, 1) := by decide +kernel
theorem dJ2_checkIndex_2214a_1 : decode cJ2_checkIndex_2214a 1 = .ok (.aload_n 1, 1) := by decide +kernel
theorem dJ2_checkIndex_2214a_2 : decode cJ2_checkIndex_2214a 2 = .ok (.invokestatic 48, 3) := by decide +kernel
theorem dJ2_checkIndex_2214a_5 : decode cJ2_checkIndex_2214a 5 = .ok (.invokestatic 414, 3) := by decide +kernel
theorem dJ2_checkIndex_2214a_8 : decode cJ2_checkIndex_2214a 8 = .ok (.return_, 1) := by decide +kernel
theorem dJ3_checkIndex_8e157_0 : decode cJ3_checkIndex_8e157 0 = .ok (.iload_n 0, 1) := by decide +kernel
theorem dJ3_checkIndex_8e157_1 : decode cJ3_checkIndex_8e157 1 = .ok (.ifCond .lt 8, 3) := by decide +kernel
theorem dJ3_checkIndex_8e157_4 : decode cJ3_checkIndex_8e157 4 = .ok (.iload_n 0, 1) := by decide +kernel
theorem dJ3_checkIndex_8e157_5 : decode cJ3_checkIndex_8e157 5 = .ok (.iload_n 1, 1) := by decide +kernel
theorem dJ3_checkIndex_8e157_6 : decode cJ3_checkIndex_8e157 6 = .ok (.if_icmp .lt 10, 3) := by decide +kernel
theorem dJ3_checkIndex_8e157_9 : decode cJ3_checkIndex_8e157 9 = .ok (.aload_n 2, 1) := by decide +kernel
theorem dJ3_checkIndex_8e157_10 : decode cJ3_checkIndex_8e157 10 = .ok (.iload_n 0, 1) := by decide +kernel
theorem dJ3_checkIndex_8e157_11 : decode cJ3_checkIndex_8e157 11 = .ok (.iload_n 1, 1) := by decide +kernel
theorem dJ3_checkIndex_8e157_12 : decode cJ3_checkIndex_8e157 12 = .ok (.invokestatic 95, 3) := by decide +kernel
theorem dJ3_checkIndex_8e157_15 : decode cJ3_checkIndex_8e157 15 = .ok (.athrow, 1) := by decide +kernel
theorem dJ3_checkIndex_8e157_16 : decode cJ3_checkIndex_8e157 16 = .ok (.iload_n 0, 1) := by decide +kernel
theorem dJ3_checkIndex_8e157_17 : decode cJ3_checkIndex_8e157 17 = .ok (.ireturn, 1) := by decide +kernel
