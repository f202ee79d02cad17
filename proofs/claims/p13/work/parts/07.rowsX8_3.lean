theorem dX8_settled_131 : decode cX8_settled 131 = .ok (.bipush (-9), 2) := by decide +kernel
theorem dX8_settled_133 : decode cX8_settled 133 = .ok (.ireturn, 1) := by decide +kernel
set_option maxRecDepth 20000 in
theorem ggX8_demandsOf_X8_factOf : GoodIn wsX8_demandsOf wsX8_factOf := goodIn_r _ [8] rfl aw_wsX8_factOf
set_option maxRecDepth 20000 in
theorem gX8_demandsOf_X8_factOf : GoodIn wsX8_demandsOf (va_wsS RX8 164 yX8_factOf wsX8_factOf) := goodIn_app (goodIn_r _ [5, 6, 7] rfl (by decide +kernel)) ggX8_demandsOf_X8_factOf
theorem dX8_demandsOf_0 : decode cX8_demandsOf 0 = .ok (.iconst 1, 1) := by decide +kernel
theorem dX8_demandsOf_1 : decode cX8_demandsOf 1 = .ok (.iconst 4, 1) := by decide +kernel
theorem dX8_demandsOf_2 : decode cX8_demandsOf 2 = .ok (.aload_n 0, 1) := by decide +kernel
theorem dX8_demandsOf_3 : decode cX8_demandsOf 3 = .ok (.getfield 31, 3) := by decide +kernel
theorem dX8_demandsOf_6 : decode cX8_demandsOf 6 = .ok (.iload_n 1, 1) := by decide +kernel
theorem dX8_demandsOf_7 : decode cX8_demandsOf 7 = .ok (.iaload, 1) := by decide +kernel
theorem dX8_demandsOf_8 : decode cX8_demandsOf 8 = .ok (.imul, 1) := by decide +kernel
theorem dX8_demandsOf_9 : decode cX8_demandsOf 9 = .ok (.iload_n 2, 1) := by decide +kernel
theorem dX8_demandsOf_10 : decode cX8_demandsOf 10 = .ok (.iadd, 1) := by decide +kernel
theorem dX8_demandsOf_11 : decode cX8_demandsOf 11 = .ok (.ishl, 1) := by decide +kernel
theorem dX8_demandsOf_12 : decode cX8_demandsOf 12 = .ok (.istore_n 3, 1) := by decide +kernel
theorem dX8_demandsOf_13 : decode cX8_demandsOf 13 = .ok (.aload_n 0, 1) := by decide +kernel
theorem dX8_demandsOf_14 : decode cX8_demandsOf 14 = .ok (.getfield 25, 3) := by decide +kernel
theorem dX8_demandsOf_17 : decode cX8_demandsOf 17 = .ok (.iload_n 1, 1) := by decide +kernel
theorem dX8_demandsOf_18 : decode cX8_demandsOf 18 = .ok (.iaload, 1) := by decide +kernel
theorem dX8_demandsOf_19 : decode cX8_demandsOf 19 = .ok (.iconst 1, 1) := by decide +kernel
theorem dX8_demandsOf_20 : decode cX8_demandsOf 20 = .ok (.if_icmp .ne 15, 3) := by decide +kernel
theorem dX8_demandsOf_23 : decode cX8_demandsOf 23 = .ok (.bipush 15, 2) := by decide +kernel
theorem dX8_demandsOf_25 : decode cX8_demandsOf 25 = .ok (.iconst 4, 1) := by decide +kernel
theorem dX8_demandsOf_26 : decode cX8_demandsOf 26 = .ok (.aload_n 0, 1) := by decide +kernel
theorem dX8_demandsOf_27 : decode cX8_demandsOf 27 = .ok (.getfield 31, 3) := by decide +kernel
theorem dX8_demandsOf_30 : decode cX8_demandsOf 30 = .ok (.iload_n 1, 1) := by decide +kernel
theorem dX8_demandsOf_31 : decode cX8_demandsOf 31 = .ok (.iaload, 1) := by decide +kernel
theorem dX8_demandsOf_32 : decode cX8_demandsOf 32 = .ok (.imul, 1) := by decide +kernel
theorem dX8_demandsOf_33 : decode cX8_demandsOf 33 = .ok (.ishl, 1) := by decide +kernel
theorem dX8_demandsOf_34 : decode cX8_demandsOf 34 = .ok (.istore_n 3, 1) := by decide +kernel
theorem dX8_demandsOf_35 : decode cX8_demandsOf 35 = .ok (.aload_n 0, 1) := by decide +kernel
theorem dX8_demandsOf_36 : decode cX8_demandsOf 36 = .ok (.getfield 25, 3) := by decide +kernel
theorem dX8_demandsOf_39 : decode cX8_demandsOf 39 = .ok (.iload_n 1, 1) := by decide +kernel
theorem dX8_demandsOf_40 : decode cX8_demandsOf 40 = .ok (.iaload, 1) := by decide +kernel
theorem dX8_demandsOf_41 : decode cX8_demandsOf 41 = .ok (.iconst 3, 1) := by decide +kernel
theorem dX8_demandsOf_42 : decode cX8_demandsOf 42 = .ok (.if_icmp .ne 18, 3) := by decide +kernel
theorem dX8_demandsOf_45 : decode cX8_demandsOf 45 = .ok (.iload_n 3, 1) := by decide +kernel
theorem dX8_demandsOf_46 : decode cX8_demandsOf 46 = .ok (.iconst 1, 1) := by decide +kernel
theorem dX8_demandsOf_47 : decode cX8_demandsOf 47 = .ok (.iconst 4, 1) := by decide +kernel
theorem dX8_demandsOf_48 : decode cX8_demandsOf 48 = .ok (.aload_n 0, 1) := by decide +kernel
theorem dX8_demandsOf_49 : decode cX8_demandsOf 49 = .ok (.getfield 34, 3) := by decide +kernel
theorem dX8_demandsOf_52 : decode cX8_demandsOf 52 = .ok (.iload_n 1, 1) := by decide +kernel
theorem dX8_demandsOf_53 : decode cX8_demandsOf 53 = .ok (.iaload, 1) := by decide +kernel
theorem dX8_demandsOf_54 : decode cX8_demandsOf 54 = .ok (.imul, 1) := by decide +kernel
theorem dX8_demandsOf_55 : decode cX8_demandsOf 55 = .ok (.iload_n 2, 1) := by decide +kernel
theorem dX8_demandsOf_56 : decode cX8_demandsOf 56 = .ok (.iadd, 1) := by decide +kernel
theorem dX8_demandsOf_57 : decode cX8_demandsOf 57 = .ok (.ishl, 1) := by decide +kernel
theorem dX8_demandsOf_58 : decode cX8_demandsOf 58 = .ok (.ior, 1) := by decide +kernel
theorem dX8_demandsOf_59 : decode cX8_demandsOf 59 = .ok (.istore_n 3, 1) := by decide +kernel
theorem dX8_demandsOf_60 : decode cX8_demandsOf 60 = .ok (.iconst 0, 1) := by decide +kernel
theorem dX8_demandsOf_61 : decode cX8_demandsOf 61 = .ok (.istore 4, 2) := by decide +kernel
theorem dX8_demandsOf_63 : decode cX8_demandsOf 63 = .ok (.iload 4, 2) := by decide +kernel
theorem dX8_demandsOf_65 : decode cX8_demandsOf 65 = .ok (.iconst 4, 1) := by decide +kernel
theorem dX8_demandsOf_66 : decode cX8_demandsOf 66 = .ok (.if_icmp .ge 60, 3) := by decide +kernel
theorem dX8_demandsOf_69 : decode cX8_demandsOf 69 = .ok (.aload_n 0, 1) := by decide +kernel
theorem dX8_demandsOf_70 : decode cX8_demandsOf 70 = .ok (.getfield 25, 3) := by decide +kernel
theorem dX8_demandsOf_73 : decode cX8_demandsOf 73 = .ok (.iload_n 1, 1) := by decide +kernel
theorem dX8_demandsOf_74 : decode cX8_demandsOf 74 = .ok (.iaload, 1) := by decide +kernel
theorem dX8_demandsOf_75 : decode cX8_demandsOf 75 = .ok (.iconst 2, 1) := by decide +kernel
theorem dX8_demandsOf_76 : decode cX8_demandsOf 76 = .ok (.if_icmp .ne 50, 3) := by decide +kernel
theorem dX8_demandsOf_79 : decode cX8_demandsOf 79 = .ok (.iload_n 3, 1) := by decide +kernel
theorem dX8_demandsOf_80 : decode cX8_demandsOf 80 = .ok (.aload_n 0, 1) := by decide +kernel
theorem dX8_demandsOf_81 : decode cX8_demandsOf 81 = .ok (.getfield 52, 3) := by decide +kernel
theorem dX8_demandsOf_84 : decode cX8_demandsOf 84 = .ok (.aload_n 0, 1) := by decide +kernel
theorem dX8_demandsOf_85 : decode cX8_demandsOf 85 = .ok (.getfield 31, 3) := by decide +kernel
theorem dX8_demandsOf_88 : decode cX8_demandsOf 88 = .ok (.iload_n 1, 1) := by decide +kernel
theorem dX8_demandsOf_89 : decode cX8_demandsOf 89 = .ok (.iaload, 1) := by decide +kernel
theorem dX8_demandsOf_90 : decode cX8_demandsOf 90 = .ok (.iload_n 2, 1) := by decide +kernel
theorem dX8_demandsOf_91 : decode cX8_demandsOf 91 = .ok (.iload 4, 2) := by decide +kernel
theorem dX8_demandsOf_93 : decode cX8_demandsOf 93 = .ok (.invokestatic 164, 3) := by decide +kernel
theorem dX8_demandsOf_96 : decode cX8_demandsOf 96 = .ok (.iaload, 1) := by decide +kernel
theorem dX8_demandsOf_97 : decode cX8_demandsOf 97 = .ok (.iconst 1, 1) := by decide +kernel
theorem dX8_demandsOf_98 : decode cX8_demandsOf 98 = .ok (.if_icmp .ne 19, 3) := by decide +kernel
theorem dX8_demandsOf_101 : decode cX8_demandsOf 101 = .ok (.iconst 1, 1) := by decide +kernel
theorem dX8_demandsOf_102 : decode cX8_demandsOf 102 = .ok (.iconst 4, 1) := by decide +kernel
theorem dX8_demandsOf_103 : decode cX8_demandsOf 103 = .ok (.aload_n 0, 1) := by decide +kernel
theorem dX8_demandsOf_104 : decode cX8_demandsOf 104 = .ok (.getfield 34, 3) := by decide +kernel
theorem dX8_demandsOf_107 : decode cX8_demandsOf 107 = .ok (.iload_n 1, 1) := by decide +kernel
theorem dX8_demandsOf_108 : decode cX8_demandsOf 108 = .ok (.iaload, 1) := by decide +kernel
theorem dX8_demandsOf_109 : decode cX8_demandsOf 109 = .ok (.imul, 1) := by decide +kernel
theorem dX8_demandsOf_110 : decode cX8_demandsOf 110 = .ok (.iload 4, 2) := by decide +kernel
theorem dX8_demandsOf_112 : decode cX8_demandsOf 112 = .ok (.iadd, 1) := by decide +kernel
theorem dX8_demandsOf_113 : decode cX8_demandsOf 113 = .ok (.ishl, 1) := by decide +kernel
theorem dX8_demandsOf_114 : decode cX8_demandsOf 114 = .ok (.goto 4, 3) := by decide +kernel
theorem dX8_demandsOf_117 : decode cX8_demandsOf 117 = .ok (.iconst 0, 1) := by decide +kernel
theorem dX8_demandsOf_118 : decode cX8_demandsOf 118 = .ok (.ior, 1) := by decide +kernel
theorem dX8_demandsOf_119 : decode cX8_demandsOf 119 = .ok (.istore_n 3, 1) := by decide +kernel
theorem dX8_demandsOf_120 : decode cX8_demandsOf 120 = .ok (.iinc 4 1, 3) := by decide +kernel
theorem dX8_demandsOf_123 : decode cX8_demandsOf 123 = .ok (.goto (-60), 3) := by decide +kernel
theorem dX8_demandsOf_126 : decode cX8_demandsOf 126 = .ok (.iload_n 3, 1) := by decide +kernel
theorem dX8_demandsOf_127 : decode cX8_demandsOf 127 = .ok (.ireturn, 1) := by decide +kernel
set_option maxRecDepth 20000 in
theorem ggX8_demands_X8_isRelation : GoodIn wsX8_demands wsX8_isRelation := goodIn_r _ [7, 8, 50, 51, 52, 53, 54, 55, 56, 57, 58, 59, 60, 61, 62, 63, 64, 65, 66, 67, 68, 69, 70, 71, 72, 73, 74, 75, 76, 77, 78, 79, 80, 81, 82, 83] rfl aw_wsX8_isRelation
set_option maxRecDepth 20000 in
theorem gX8_demands_X8_isRelation : GoodIn wsX8_demands (wsV RX8 198 RX8 yX8_isRelation wsX8_isRelation) := goodIn_app (goodIn_r _ [3, 4, 5, 6] rfl (by decide +kernel)) ggX8_demands_X8_isRelation
set_option maxRecDepth 20000 in
theorem ggX8_demands_X8_isThing : GoodIn wsX8_demands wsX8_isThing := goodIn_r _ [11, 12, 13, 6, 14] rfl aw_wsX8_isThing
set_option maxRecDepth 20000 in
theorem gX8_demands_X8_isThing : GoodIn wsX8_demands (va_wsS RX8 213 yX8_isThing wsX8_isThing) := goodIn_app (goodIn_r _ [9, 10, 6] rfl (by decide +kernel)) ggX8_demands_X8_isThing
set_option maxRecDepth 20000 in
theorem ggX8_demands_X8_findHolds : GoodIn wsX8_demands wsX8_findHolds := goodIn_r _ [18, 19, 20, 21, 22, 23, 24, 25, 6, 26, 27, 1, 28, 29, 30, 2, 31, 32, 33, 34, 35, 36, 37, 38, 39, 40, 41, 42, 50, 51, 52, 53, 54, 55, 56, 57, 58, 59, 60, 61, 62, 63, 64, 65, 66, 67, 68, 69, 70, 71, 72, 73, 74, 75, 76, 77, 78, 79, 80, 81, 82, 83] rfl aw_wsX8_findHolds
set_option maxRecDepth 20000 in
theorem gX8_demands_X8_findHolds : GoodIn wsX8_demands (wsV RX8 185 RX8 yX8_findHolds wsX8_findHolds) := goodIn_app (goodIn_r _ [15, 16, 17, 6] rfl (by decide +kernel)) ggX8_demands_X8_findHolds
set_option maxRecDepth 20000 in
theorem ggX8_demands_X8_isOf : GoodIn wsX8_demands wsX8_isOf := goodIn_r _ [45] rfl aw_wsX8_isOf
set_option maxRecDepth 20000 in
theorem gX8_demands_X8_isOf : GoodIn wsX8_demands (va_wsS RX8 158 yX8_isOf wsX8_isOf) := goodIn_app (goodIn_r _ [43, 44, 6] rfl (by decide +kernel)) ggX8_demands_X8_isOf
set_option maxRecDepth 20000 in
theorem aw_wsX8_demandsOf : wsX8_demandsOf.all goodWord = true := by decide +kernel
set_option maxRecDepth 20000 in
theorem ggX8_demands_X8_demandsOf : GoodIn wsX8_demands wsX8_demandsOf := goodIn_r _ [49, 28, 29, 30, 20, 40, 41, 6, 42, 50, 51, 52, 53, 54, 55, 56, 57, 58, 59, 60, 61, 62, 63, 64, 65, 66, 67, 68, 69, 70, 71, 72, 73, 74, 75, 76, 77, 78, 79, 80, 81, 82, 83] rfl aw_wsX8_demandsOf
set_option maxRecDepth 20000 in
theorem gX8_demands_X8_demandsOf : GoodIn wsX8_demands (wsV RX8 238 RX8 yX8_demandsOf wsX8_demandsOf) := goodIn_app (goodIn_r _ [46, 47, 48, 6] rfl (by decide +kernel)) ggX8_demands_X8_demandsOf
theorem dX8_demands_0 : decode cX8_demands 0 = .ok (.aload_n 0, 1) := by decide +kernel
theorem dX8_demands_1 : decode cX8_demands 1 = .ok (.iload_n 1, 1) := by decide +kernel
theorem dX8_demands_2 : decode cX8_demands 2 = .ok (.invokevirtual 198, 3) := by decide +kernel
theorem dX8_demands_5 : decode cX8_demands 5 = .ok (.ifCond .ne 5, 3) := by decide +kernel
theorem dX8_demands_8 : decode cX8_demands 8 = .ok (.iconst (-1), 1) := by decide +kernel
theorem dX8_demands_9 : decode cX8_demands 9 = .ok (.ireturn, 1) := by decide +kernel
theorem dX8_demands_10 : decode cX8_demands 10 = .ok (.iload_n 2, 1) := by decide +kernel
theorem dX8_demands_11 : decode cX8_demands 11 = .ok (.invokestatic 213, 3) := by decide +kernel
theorem dX8_demands_14 : decode cX8_demands 14 = .ok (.ifCond .ne 6, 3) := by decide +kernel
theorem dX8_demands_17 : decode cX8_demands 17 = .ok (.bipush (-2), 2) := by decide +kernel
theorem dX8_demands_19 : decode cX8_demands 19 = .ok (.ireturn, 1) := by decide +kernel
theorem dX8_demands_20 : decode cX8_demands 20 = .ok (.aload_n 0, 1) := by decide +kernel
theorem dX8_demands_21 : decode cX8_demands 21 = .ok (.invokevirtual 185, 3) := by decide +kernel
theorem dX8_demands_24 : decode cX8_demands 24 = .ok (.iconst 1, 1) := by decide +kernel
theorem dX8_demands_25 : decode cX8_demands 25 = .ok (.iconst 4, 1) := by decide +kernel
theorem dX8_demands_26 : decode cX8_demands 26 = .ok (.iload_n 1, 1) := by decide +kernel
theorem dX8_demands_27 : decode cX8_demands 27 = .ok (.imul, 1) := by decide +kernel
theorem dX8_demands_28 : decode cX8_demands 28 = .ok (.iload_n 2, 1) := by decide +kernel
theorem dX8_demands_29 : decode cX8_demands 29 = .ok (.iadd, 1) := by decide +kernel
theorem dX8_demands_30 : decode cX8_demands 30 = .ok (.ishl, 1) := by decide +kernel
theorem dX8_demands_31 : decode cX8_demands 31 = .ok (.istore_n 3, 1) := by decide +kernel
theorem dX8_demands_32 : decode cX8_demands 32 = .ok (.iconst 0, 1) := by decide +kernel
theorem dX8_demands_33 : decode cX8_demands 33 = .ok (.istore 4, 2) := by decide +kernel
theorem dX8_demands_35 : decode cX8_demands 35 = .ok (.iload_n 3, 1) := by decide +kernel
theorem dX8_demands_36 : decode cX8_demands 36 = .ok (.iload 4, 2) := by decide +kernel
theorem dX8_demands_38 : decode cX8_demands 38 = .ok (.if_icmp .eq 77, 3) := by decide +kernel
theorem dX8_demands_41 : decode cX8_demands 41 = .ok (.iload_n 3, 1) := by decide +kernel
theorem dX8_demands_42 : decode cX8_demands 42 = .ok (.istore 4, 2) := by decide +kernel
theorem dX8_demands_44 : decode cX8_demands 44 = .ok (.iconst 0, 1) := by decide +kernel
theorem dX8_demands_45 : decode cX8_demands 45 = .ok (.istore 5, 2) := by decide +kernel
theorem dX8_demands_47 : decode cX8_demands 47 = .ok (.iload 5, 2) := by decide +kernel
theorem dX8_demands_49 : decode cX8_demands 49 = .ok (.aload_n 0, 1) := by decide +kernel
theorem dX8_demands_50 : decode cX8_demands 50 = .ok (.getfield 95, 3) := by decide +kernel
theorem dX8_demands_53 : decode cX8_demands 53 = .ok (.if_icmp .ge 59, 3) := by decide +kernel
theorem dX8_demands_56 : decode cX8_demands 56 = .ok (.iconst 0, 1) := by decide +kernel
theorem dX8_demands_57 : decode cX8_demands 57 = .ok (.istore 6, 2) := by decide +kernel
theorem dX8_demands_59 : decode cX8_demands 59 = .ok (.iload 6, 2) := by decide +kernel
theorem dX8_demands_61 : decode cX8_demands 61 = .ok (.iconst 4, 1) := by decide +kernel
theorem dX8_demands_62 : decode cX8_demands 62 = .ok (.if_icmp .ge 44, 3) := by decide +kernel
theorem dX8_demands_65 : decode cX8_demands 65 = .ok (.iload_n 3, 1) := by decide +kernel
theorem dX8_demands_66 : decode cX8_demands 66 = .ok (.iload 4, 2) := by decide +kernel
theorem dX8_demands_68 : decode cX8_demands 68 = .ok (.iconst 4, 1) := by decide +kernel
theorem dX8_demands_69 : decode cX8_demands 69 = .ok (.aload_n 0, 1) := by decide +kernel
theorem dX8_demands_70 : decode cX8_demands 70 = .ok (.getfield 28, 3) := by decide +kernel
theorem dX8_demands_73 : decode cX8_demands 73 = .ok (.iload 5, 2) := by decide +kernel
theorem dX8_demands_75 : decode cX8_demands 75 = .ok (.iaload, 1) := by decide +kernel
theorem dX8_demands_76 : decode cX8_demands 76 = .ok (.imul, 1) := by decide +kernel
theorem dX8_demands_77 : decode cX8_demands 77 = .ok (.iload 6, 2) := by decide +kernel
theorem dX8_demands_79 : decode cX8_demands 79 = .ok (.iadd, 1) := by decide +kernel
theorem dX8_demands_80 : decode cX8_demands 80 = .ok (.invokestatic 158, 3) := by decide +kernel
theorem dX8_demands_83 : decode cX8_demands 83 = .ok (.ifCond .eq 14, 3) := by decide +kernel
theorem dX8_demands_86 : decode cX8_demands 86 = .ok (.aload_n 0, 1) := by decide +kernel
theorem dX8_demands_87 : decode cX8_demands 87 = .ok (.iload 5, 2) := by decide +kernel
theorem dX8_demands_89 : decode cX8_demands 89 = .ok (.iload 6, 2) := by decide +kernel
theorem dX8_demands_91 : decode cX8_demands 91 = .ok (.invokevirtual 238, 3) := by decide +kernel
theorem dX8_demands_94 : decode cX8_demands 94 = .ok (.goto 4, 3) := by decide +kernel
theorem dX8_demands_97 : decode cX8_demands 97 = .ok (.iconst 0, 1) := by decide +kernel
theorem dX8_demands_98 : decode cX8_demands 98 = .ok (.ior, 1) := by decide +kernel
theorem dX8_demands_99 : decode cX8_demands 99 = .ok (.istore_n 3, 1) := by decide +kernel
theorem dX8_demands_100 : decode cX8_demands 100 = .ok (.iinc 6 1, 3) := by decide +kernel
theorem dX8_demands_103 : decode cX8_demands 103 = .ok (.goto (-44), 3) := by decide +kernel
theorem dX8_demands_106 : decode cX8_demands 106 = .ok (.iinc 5 1, 3) := by decide +kernel
theorem dX8_demands_109 : decode cX8_demands 109 = .ok (.goto (-62), 3) := by decide +kernel
theorem dX8_demands_112 : decode cX8_demands 112 = .ok (.goto (-77), 3) := by decide +kernel
theorem dX8_demands_115 : decode cX8_demands 115 = .ok (.iload_n 3, 1) := by decide +kernel
theorem dX8_demands_116 : decode cX8_demands 116 = .ok (.ireturn, 1) := by decide +kernel
set_option maxRecDepth 20000 in
theorem ggX8_reading_X8_isRelation : GoodIn wsX8_reading wsX8_isRelation := goodIn_r _ [8, 9, 19, 20, 21, 22, 23, 24, 25, 26, 27, 28, 29, 30, 31, 32, 33, 34, 35, 36, 37, 38, 39, 40, 41, 42, 43, 44, 45, 46, 47, 48, 49, 50, 51, 52] rfl aw_wsX8_isRelation
set_option maxRecDepth 20000 in
theorem gX8_reading_X8_isRelation : GoodIn wsX8_reading (wsV RX8 198 RX8 yX8_isRelation wsX8_isRelation) := goodIn_app (goodIn_r _ [4, 5, 6, 7] rfl (by decide +kernel)) ggX8_reading_X8_isRelation
set_option maxRecDepth 20000 in
theorem ggX8_reading_X8_isThing : GoodIn wsX8_reading wsX8_isThing := goodIn_r _ [12, 13, 14, 7, 15] rfl aw_wsX8_isThing
set_option maxRecDepth 20000 in
theorem gX8_reading_X8_isThing : GoodIn wsX8_reading (va_wsS RX8 213 yX8_isThing wsX8_isThing) := goodIn_app (goodIn_r _ [10, 11, 7] rfl (by decide +kernel)) ggX8_reading_X8_isThing
set_option maxRecDepth 20000 in
theorem ggX8_reading_X8_within : GoodIn wsX8_reading wsX8_within := goodIn_r _ [15] rfl aw_wsX8_within
set_option maxRecDepth 20000 in
theorem gX8_reading_X8_within : GoodIn wsX8_reading (va_wsS RX8 88 yX8_within wsX8_within) := goodIn_app (goodIn_r _ [13, 14, 7] rfl (by decide +kernel)) ggX8_reading_X8_within
set_option maxRecDepth 20000 in
theorem ggX8_reading_X8_factOf : GoodIn wsX8_reading wsX8_factOf := goodIn_r _ [18] rfl aw_wsX8_factOf
set_option maxRecDepth 20000 in
theorem gX8_reading_X8_factOf : GoodIn wsX8_reading (va_wsS RX8 164 yX8_factOf wsX8_factOf) := goodIn_app (goodIn_r _ [16, 17, 7] rfl (by decide +kernel)) ggX8_reading_X8_factOf
theorem dX8_reading_0 : decode cX8_reading 0 = .ok (.aload_n 0, 1) := by decide +kernel
theorem dX8_reading_1 : decode cX8_reading 1 = .ok (.iload_n 1, 1) := by decide +kernel
theorem dX8_reading_2 : decode cX8_reading 2 = .ok (.invokevirtual 198, 3) := by decide +kernel
theorem dX8_reading_5 : decode cX8_reading 5 = .ok (.ifCond .ne 5, 3) := by decide +kernel
theorem dX8_reading_8 : decode cX8_reading 8 = .ok (.iconst (-1), 1) := by decide +kernel
theorem dX8_reading_9 : decode cX8_reading 9 = .ok (.ireturn, 1) := by decide +kernel
theorem dX8_reading_10 : decode cX8_reading 10 = .ok (.iload_n 2, 1) := by decide +kernel
theorem dX8_reading_11 : decode cX8_reading 11 = .ok (.invokestatic 213, 3) := by decide +kernel
theorem dX8_reading_14 : decode cX8_reading 14 = .ok (.ifCond .eq 29, 3) := by decide +kernel
theorem dX8_reading_17 : decode cX8_reading 17 = .ok (.iload_n 3, 1) := by decide +kernel
theorem dX8_reading_18 : decode cX8_reading 18 = .ok (.invokestatic 213, 3) := by decide +kernel
theorem dX8_reading_21 : decode cX8_reading 21 = .ok (.ifCond .eq 22, 3) := by decide +kernel
theorem dX8_reading_24 : decode cX8_reading 24 = .ok (.iload 4, 2) := by decide +kernel
theorem dX8_reading_26 : decode cX8_reading 26 = .ok (.bipush (-9), 2) := by decide +kernel
theorem dX8_reading_28 : decode cX8_reading 28 = .ok (.if_icmp .eq 18, 3) := by decide +kernel
theorem dX8_reading_31 : decode cX8_reading 31 = .ok (.iload 4, 2) := by decide +kernel
theorem dX8_reading_33 : decode cX8_reading 33 = .ok (.iconst 0, 1) := by decide +kernel
theorem dX8_reading_34 : decode cX8_reading 34 = .ok (.sipush 1000, 3) := by decide +kernel
theorem dX8_reading_37 : decode cX8_reading 37 = .ok (.invokestatic 88, 3) := by decide +kernel
theorem dX8_reading_40 : decode cX8_reading 40 = .ok (.ifCond .ne 6, 3) := by decide +kernel
theorem dX8_reading_43 : decode cX8_reading 43 = .ok (.bipush (-2), 2) := by decide +kernel
theorem dX8_reading_45 : decode cX8_reading 45 = .ok (.ireturn, 1) := by decide +kernel
theorem dX8_reading_46 : decode cX8_reading 46 = .ok (.aload_n 0, 1) := by decide +kernel
theorem dX8_reading_47 : decode cX8_reading 47 = .ok (.getfield 135, 3) := by decide +kernel
theorem dX8_reading_50 : decode cX8_reading 50 = .ok (.bipush 8, 2) := by decide +kernel
theorem dX8_reading_52 : decode cX8_reading 52 = .ok (.if_icmp .ne 6, 3) := by decide +kernel
theorem dX8_reading_55 : decode cX8_reading 55 = .ok (.bipush (-4), 2) := by decide +kernel
theorem dX8_reading_57 : decode cX8_reading 57 = .ok (.ireturn, 1) := by decide +kernel
theorem dX8_reading_58 : decode cX8_reading 58 = .ok (.aload_n 0, 1) := by decide +kernel
theorem dX8_reading_59 : decode cX8_reading 59 = .ok (.getfield 76, 3) := by decide +kernel
theorem dX8_reading_62 : decode cX8_reading 62 = .ok (.aload_n 0, 1) := by decide +kernel
theorem dX8_reading_63 : decode cX8_reading 63 = .ok (.getfield 135, 3) := by decide +kernel
theorem dX8_reading_66 : decode cX8_reading 66 = .ok (.iload_n 1, 1) := by decide +kernel
theorem dX8_reading_67 : decode cX8_reading 67 = .ok (.iload_n 2, 1) := by decide +kernel
theorem dX8_reading_68 : decode cX8_reading 68 = .ok (.iload_n 3, 1) := by decide +kernel
theorem dX8_reading_69 : decode cX8_reading 69 = .ok (.invokestatic 164, 3) := by decide +kernel
theorem dX8_reading_72 : decode cX8_reading 72 = .ok (.iastore, 1) := by decide +kernel
theorem dX8_reading_73 : decode cX8_reading 73 = .ok (.aload_n 0, 1) := by decide +kernel
theorem dX8_reading_74 : decode cX8_reading 74 = .ok (.getfield 79, 3) := by decide +kernel
theorem dX8_reading_77 : decode cX8_reading 77 = .ok (.aload_n 0, 1) := by decide +kernel
theorem dX8_reading_78 : decode cX8_reading 78 = .ok (.getfield 135, 3) := by decide +kernel
theorem dX8_reading_81 : decode cX8_reading 81 = .ok (.iload 4, 2) := by decide +kernel
theorem dX8_reading_83 : decode cX8_reading 83 = .ok (.iastore, 1) := by decide +kernel
theorem dX8_reading_84 : decode cX8_reading 84 = .ok (.aload_n 0, 1) := by decide +kernel
theorem dX8_reading_85 : decode cX8_reading 85 = .ok (.dup, 1) := by decide +kernel
theorem dX8_reading_86 : decode cX8_reading 86 = .ok (.getfield 135, 3) := by decide +kernel
theorem dX8_reading_89 : decode cX8_reading 89 = .ok (.iconst 1, 1) := by decide +kernel
theorem dX8_reading_90 : decode cX8_reading 90 = .ok (.iadd, 1) := by decide +kernel
theorem dX8_reading_91 : decode cX8_reading 91 = .ok (.putfield 135, 3) := by decide +kernel
theorem dX8_reading_94 : decode cX8_reading 94 = .ok (.aload_n 0, 1) := by decide +kernel
theorem dX8_reading_95 : decode cX8_reading 95 = .ok (.getfield 135, 3) := by decide +kernel
theorem dX8_reading_98 : decode cX8_reading 98 = .ok (.iconst 1, 1) := by decide +kernel
theorem dX8_reading_99 : decode cX8_reading 99 = .ok (.isub, 1) := by decide +kernel
theorem dX8_reading_100 : decode cX8_reading 100 = .ok (.ireturn, 1) := by decide +kernel
set_option maxRecDepth 20000 in
theorem ggX8_back_X8_within : GoodIn wsX8_back wsX8_within := goodIn_r _ [5] rfl aw_wsX8_within
set_option maxRecDepth 20000 in
theorem gX8_back_X8_within : GoodIn wsX8_back (va_wsS RX8 88 yX8_within wsX8_within) := goodIn_app (goodIn_r _ [2, 3, 4] rfl (by decide +kernel)) ggX8_back_X8_within
theorem dX8_back_0 : decode cX8_back 0 = .ok (.iload_n 1, 1) := by decide +kernel
theorem dX8_back_1 : decode cX8_back 1 = .ok (.iconst 0, 1) := by decide +kernel
theorem dX8_back_2 : decode cX8_back 2 = .ok (.aload_n 0, 1) := by decide +kernel
theorem dX8_back_3 : decode cX8_back 3 = .ok (.getfield 135, 3) := by decide +kernel
theorem dX8_back_6 : decode cX8_back 6 = .ok (.invokestatic 88, 3) := by decide +kernel
theorem dX8_back_9 : decode cX8_back 9 = .ok (.ifCond .ne 6, 3) := by decide +kernel
theorem dX8_back_12 : decode cX8_back 12 = .ok (.bipush (-2), 2) := by decide +kernel
theorem dX8_back_14 : decode cX8_back 14 = .ok (.ireturn, 1) := by decide +kernel
theorem dX8_back_15 : decode cX8_back 15 = .ok (.aload_n 0, 1) := by decide +kernel
theorem dX8_back_16 : decode cX8_back 16 = .ok (.dup, 1) := by decide +kernel
theorem dX8_back_17 : decode cX8_back 17 = .ok (.getfield 135, 3) := by decide +kernel
theorem dX8_back_20 : decode cX8_back 20 = .ok (.iload_n 1, 1) := by decide +kernel
theorem dX8_back_21 : decode cX8_back 21 = .ok (.isub, 1) := by decide +kernel
theorem dX8_back_22 : decode cX8_back 22 = .ok (.putfield 135, 3) := by decide +kernel
theorem dX8_back_25 : decode cX8_back 25 = .ok (.aload_n 0, 1) := by decide +kernel
theorem dX8_back_26 : decode cX8_back 26 = .ok (.getfield 135, 3) := by decide +kernel
theorem dX8_back_29 : decode cX8_back 29 = .ok (.ireturn, 1) := by decide +kernel
set_option maxRecDepth 20000 in
theorem ggX8_areSo_X8_goesRoundBy : GoodIn wsX8_areSo wsX8_goesRoundBy := goodIn_r _ [9, 10, 11, 12, 13, 8, 14, 15, 16, 17, 18, 19, 20, 21, 22, 72, 73, 74, 75, 76, 77, 78, 79, 80, 81, 82, 83, 84, 85, 86, 87, 88, 89, 90, 91, 92, 93, 94, 95, 96, 97, 98, 99, 100, 101, 102, 103, 104, 105] rfl aw_wsX8_goesRoundBy
set_option maxRecDepth 20000 in
theorem gX8_areSo_X8_goesRoundBy : GoodIn wsX8_areSo (wsV RX8 125 RX8 yX8_goesRoundBy wsX8_goesRoundBy) := goodIn_app (goodIn_r _ [5, 6, 7, 8] rfl (by decide +kernel)) ggX8_areSo_X8_goesRoundBy
set_option maxRecDepth 20000 in
theorem ggX8_areSo_X8_findCheap : GoodIn wsX8_areSo wsX8_findCheap := goodIn_r _ [26, 2, 27, 28, 29, 30, 8, 31, 32, 33, 34, 35, 36, 37, 38, 39, 15, 17, 18, 19, 16, 40, 41, 42, 43, 44, 45, 46, 47, 48, 49, 50, 51, 52, 53, 54, 55, 56, 57, 58, 59, 60, 61, 62, 63, 64, 65, 66, 67, 68, 69, 70, 71, 72, 73, 74, 75, 76, 77, 78, 79, 80, 81, 82, 83, 84, 85, 86, 87, 88, 89, 90, 91, 92, 93, 94, 95, 96, 97, 98, 99, 100, 101, 102, 103, 104, 105] rfl aw_wsX8_findCheap
set_option maxRecDepth 20000 in
theorem gX8_areSo_X8_findCheap : GoodIn wsX8_areSo (wsV RX8 216 RX8 yX8_findCheap wsX8_findCheap) := goodIn_app (goodIn_r _ [23, 24, 25, 8] rfl (by decide +kernel)) ggX8_areSo_X8_findCheap
theorem dX8_areSo_0 : decode cX8_areSo 0 = .ok (.aload_n 0, 1) := by decide +kernel
theorem dX8_areSo_1 : decode cX8_areSo 1 = .ok (.invokevirtual 125, 3) := by decide +kernel
theorem dX8_areSo_4 : decode cX8_areSo 4 = .ok (.bipush (-9), 2) := by decide +kernel
theorem dX8_areSo_6 : decode cX8_areSo 6 = .ok (.if_icmp .eq 5, 3) := by decide +kernel
theorem dX8_areSo_9 : decode cX8_areSo 9 = .ok (.iconst 0, 1) := by decide +kernel
theorem dX8_areSo_10 : decode cX8_areSo 10 = .ok (.ireturn, 1) := by decide +kernel
theorem dX8_areSo_11 : decode cX8_areSo 11 = .ok (.aload_n 0, 1) := by decide +kernel
theorem dX8_areSo_12 : decode cX8_areSo 12 = .ok (.invokevirtual 216, 3) := by decide +kernel
theorem dX8_areSo_15 : decode cX8_areSo 15 = .ok (.iconst 0, 1) := by decide +kernel
theorem dX8_areSo_16 : decode cX8_areSo 16 = .ok (.istore_n 1, 1) := by decide +kernel
theorem dX8_areSo_17 : decode cX8_areSo 17 = .ok (.iload_n 1, 1) := by decide +kernel
theorem dX8_areSo_18 : decode cX8_areSo 18 = .ok (.aload_n 0, 1) := by decide +kernel
theorem dX8_areSo_19 : decode cX8_areSo 19 = .ok (.getfield 135, 3) := by decide +kernel
theorem dX8_areSo_22 : decode cX8_areSo 22 = .ok (.if_icmp .ge 31, 3) := by decide +kernel
theorem dX8_areSo_25 : decode cX8_areSo 25 = .ok (.aload_n 0, 1) := by decide +kernel
theorem dX8_areSo_26 : decode cX8_areSo 26 = .ok (.getfield 61, 3) := by decide +kernel
theorem dX8_areSo_29 : decode cX8_areSo 29 = .ok (.aload_n 0, 1) := by decide +kernel
theorem dX8_areSo_30 : decode cX8_areSo 30 = .ok (.getfield 76, 3) := by decide +kernel
theorem dX8_areSo_33 : decode cX8_areSo 33 = .ok (.iload_n 1, 1) := by decide +kernel
theorem dX8_areSo_34 : decode cX8_areSo 34 = .ok (.iaload, 1) := by decide +kernel
theorem dX8_areSo_35 : decode cX8_areSo 35 = .ok (.iaload, 1) := by decide +kernel
theorem dX8_areSo_36 : decode cX8_areSo 36 = .ok (.aload_n 0, 1) := by decide +kernel
theorem dX8_areSo_37 : decode cX8_areSo 37 = .ok (.getfield 79, 3) := by decide +kernel
theorem dX8_areSo_40 : decode cX8_areSo 40 = .ok (.iload_n 1, 1) := by decide +kernel
theorem dX8_areSo_41 : decode cX8_areSo 41 = .ok (.iaload, 1) := by decide +kernel
theorem dX8_areSo_42 : decode cX8_areSo 42 = .ok (.if_icmp .eq 5, 3) := by decide +kernel
theorem dX8_areSo_45 : decode cX8_areSo 45 = .ok (.iconst 0, 1) := by decide +kernel
theorem dX8_areSo_46 : decode cX8_areSo 46 = .ok (.ireturn, 1) := by decide +kernel
theorem dX8_areSo_47 : decode cX8_areSo 47 = .ok (.iinc 1 1, 3) := by decide +kernel
theorem dX8_areSo_50 : decode cX8_areSo 50 = .ok (.goto (-33), 3) := by decide +kernel
theorem dX8_areSo_53 : decode cX8_areSo 53 = .ok (.iconst 1, 1) := by decide +kernel
theorem dX8_areSo_54 : decode cX8_areSo 54 = .ok (.ireturn, 1) := by decide +kernel
set_option maxRecDepth 20000 in
theorem ggX8_kinds_X8_isRule : GoodIn wsX8_kinds wsX8_isRule := goodIn_r _ [6, 7, 80, 81, 82, 83, 84, 85, 86, 87, 88, 89, 90, 91, 92, 93, 94, 95, 96, 97, 98, 99, 100, 101, 102, 103, 104, 105, 106, 107, 108, 109, 110, 111, 112, 113] rfl aw_wsX8_isRule
set_option maxRecDepth 20000 in
theorem gX8_kinds_X8_isRule : GoodIn wsX8_kinds (wsV RX8 195 RX8 yX8_isRule wsX8_isRule) := goodIn_app (goodIn_r _ [2, 3, 4, 5] rfl (by decide +kernel)) ggX8_kinds_X8_isRule
set_option maxRecDepth 20000 in
theorem aw_wsX8_areSo : wsX8_areSo.all goodWord = true := by decide +kernel
set_option maxRecDepth 20000 in
theorem ggX8_kinds_X8_areSo : GoodIn wsX8_kinds wsX8_areSo := goodIn_r _ [11, 12, 13, 14, 15, 16, 17, 18, 5, 19, 20, 21, 22, 23, 24, 7, 25, 26, 27, 28, 29, 30, 31, 32, 33, 34, 35, 36, 37, 38, 39, 40, 41, 42, 43, 44, 45, 46, 47, 48, 49, 50, 51, 52, 53, 54, 55, 56, 57, 58, 59, 60, 61, 62, 63, 64, 65, 66, 67, 68, 69, 70, 71, 72, 1, 73, 74, 75, 76, 77, 78, 79, 80, 81, 82, 83, 84, 85, 86, 87, 88, 89, 90, 91, 92, 93, 94, 95, 96, 97, 98, 99, 100, 101, 102, 103, 104, 105, 106, 107, 108, 109, 110, 111, 112, 113] rfl aw_wsX8_areSo
set_option maxRecDepth 20000 in
theorem gX8_kinds_X8_areSo : GoodIn wsX8_kinds (wsV RX8 241 RX8 yX8_areSo wsX8_areSo) := goodIn_app (goodIn_r _ [8, 9, 10, 5] rfl (by decide +kernel)) ggX8_kinds_X8_areSo
theorem dX8_kinds_0 : decode cX8_kinds 0 = .ok (.aload_n 0, 1) := by decide +kernel
theorem dX8_kinds_1 : decode cX8_kinds 1 = .ok (.iload_n 1, 1) := by decide +kernel
theorem dX8_kinds_2 : decode cX8_kinds 2 = .ok (.invokevirtual 195, 3) := by decide +kernel
theorem dX8_kinds_5 : decode cX8_kinds 5 = .ok (.ifCond .ne 5, 3) := by decide +kernel
theorem dX8_kinds_8 : decode cX8_kinds 8 = .ok (.iconst (-1), 1) := by decide +kernel
theorem dX8_kinds_9 : decode cX8_kinds 9 = .ok (.ireturn, 1) := by decide +kernel
theorem dX8_kinds_10 : decode cX8_kinds 10 = .ok (.aload_n 0, 1) := by decide +kernel
theorem dX8_kinds_11 : decode cX8_kinds 11 = .ok (.getfield 19, 3) := by decide +kernel
theorem dX8_kinds_14 : decode cX8_kinds 14 = .ok (.iload_n 1, 1) := by decide +kernel
theorem dX8_kinds_15 : decode cX8_kinds 15 = .ok (.iaload, 1) := by decide +kernel
theorem dX8_kinds_16 : decode cX8_kinds 16 = .ok (.istore_n 2, 1) := by decide +kernel
theorem dX8_kinds_17 : decode cX8_kinds 17 = .ok (.iconst 0, 1) := by decide +kernel
theorem dX8_kinds_18 : decode cX8_kinds 18 = .ok (.istore_n 3, 1) := by decide +kernel
theorem dX8_kinds_19 : decode cX8_kinds 19 = .ok (.iconst 0, 1) := by decide +kernel
theorem dX8_kinds_20 : decode cX8_kinds 20 = .ok (.istore 4, 2) := by decide +kernel
theorem dX8_kinds_22 : decode cX8_kinds 22 = .ok (.iload 4, 2) := by decide +kernel
theorem dX8_kinds_24 : decode cX8_kinds 24 = .ok (.iconst 3, 1) := by decide +kernel
theorem dX8_kinds_25 : decode cX8_kinds 25 = .ok (.if_icmp .ge 35, 3) := by decide +kernel
theorem dX8_kinds_28 : decode cX8_kinds 28 = .ok (.aload_n 0, 1) := by decide +kernel
theorem dX8_kinds_29 : decode cX8_kinds 29 = .ok (.getfield 19, 3) := by decide +kernel
theorem dX8_kinds_32 : decode cX8_kinds 32 = .ok (.iload_n 1, 1) := by decide +kernel
theorem dX8_kinds_33 : decode cX8_kinds 33 = .ok (.iload 4, 2) := by decide +kernel
theorem dX8_kinds_35 : decode cX8_kinds 35 = .ok (.iastore, 1) := by decide +kernel
theorem dX8_kinds_36 : decode cX8_kinds 36 = .ok (.iload_n 3, 1) := by decide +kernel
theorem dX8_kinds_37 : decode cX8_kinds 37 = .ok (.aload_n 0, 1) := by decide +kernel
theorem dX8_kinds_38 : decode cX8_kinds 38 = .ok (.invokevirtual 241, 3) := by decide +kernel
theorem dX8_kinds_41 : decode cX8_kinds 41 = .ok (.ifCond .eq 10, 3) := by decide +kernel
theorem dX8_kinds_44 : decode cX8_kinds 44 = .ok (.iconst 1, 1) := by decide +kernel
theorem dX8_kinds_45 : decode cX8_kinds 45 = .ok (.iload 4, 2) := by decide +kernel
theorem dX8_kinds_47 : decode cX8_kinds 47 = .ok (.ishl, 1) := by decide +kernel
theorem dX8_kinds_48 : decode cX8_kinds 48 = .ok (.goto 4, 3) := by decide +kernel
theorem dX8_kinds_51 : decode cX8_kinds 51 = .ok (.iconst 0, 1) := by decide +kernel
theorem dX8_kinds_52 : decode cX8_kinds 52 = .ok (.ior, 1) := by decide +kernel
theorem dX8_kinds_53 : decode cX8_kinds 53 = .ok (.istore_n 3, 1) := by decide +kernel
theorem dX8_kinds_54 : decode cX8_kinds 54 = .ok (.iinc 4 1, 3) := by decide +kernel
theorem dX8_kinds_57 : decode cX8_kinds 57 = .ok (.goto (-35), 3) := by decide +kernel
theorem dX8_kinds_60 : decode cX8_kinds 60 = .ok (.aload_n 0, 1) := by decide +kernel
theorem dX8_kinds_61 : decode cX8_kinds 61 = .ok (.getfield 19, 3) := by decide +kernel
theorem dX8_kinds_64 : decode cX8_kinds 64 = .ok (.iload_n 1, 1) := by decide +kernel
theorem dX8_kinds_65 : decode cX8_kinds 65 = .ok (.iload_n 2, 1) := by decide +kernel
theorem dX8_kinds_66 : decode cX8_kinds 66 = .ok (.iastore, 1) := by decide +kernel
theorem dX8_kinds_67 : decode cX8_kinds 67 = .ok (.iload_n 3, 1) := by decide +kernel
theorem dX8_kinds_68 : decode cX8_kinds 68 = .ok (.ireturn, 1) := by decide +kernel
set_option maxRecDepth 20000 in
theorem ggX8_forms_X8_isRule : GoodIn wsX8_forms wsX8_isRule := goodIn_r _ [6, 7, 80, 81, 82, 83, 84, 85, 86, 87, 88, 89, 90, 91, 92, 93, 94, 95, 96, 97, 98, 99, 100, 101, 102, 103, 104, 105, 106, 107, 108, 109, 110, 111, 112, 113] rfl aw_wsX8_isRule
set_option maxRecDepth 20000 in
theorem gX8_forms_X8_isRule : GoodIn wsX8_forms (wsV RX8 195 RX8 yX8_isRule wsX8_isRule) := goodIn_app (goodIn_r _ [2, 3, 4, 5] rfl (by decide +kernel)) ggX8_forms_X8_isRule
set_option maxRecDepth 20000 in
theorem ggX8_forms_X8_areSo : GoodIn wsX8_forms wsX8_areSo := goodIn_r _ [11, 12, 13, 14, 15, 16, 17, 18, 5, 19, 20, 21, 22, 23, 24, 7, 25, 26, 1, 27, 28, 29, 30, 31, 32, 33, 34, 35, 36, 37, 38, 39, 40, 41, 42, 43, 44, 45, 46, 47, 48, 49, 50, 51, 52, 53, 54, 55, 56, 57, 58, 59, 60, 61, 62, 63, 64, 65, 66, 67, 68, 69, 70, 71, 72, 73, 74, 75, 76, 77, 78, 79, 80, 81, 82, 83, 84, 85, 86, 87, 88, 89, 90, 91, 92, 93, 94, 95, 96, 97, 98, 99, 100, 101, 102, 103, 104, 105, 106, 107, 108, 109, 110, 111, 112, 113] rfl aw_wsX8_areSo
set_option maxRecDepth 20000 in
theorem gX8_forms_X8_areSo : GoodIn wsX8_forms (wsV RX8 241 RX8 yX8_areSo wsX8_areSo) := goodIn_app (goodIn_r _ [8, 9, 10, 5] rfl (by decide +kernel)) ggX8_forms_X8_areSo
theorem dX8_forms_0 : decode cX8_forms 0 = .ok (.aload_n 0, 1) := by decide +kernel
theorem dX8_forms_1 : decode cX8_forms 1 = .ok (.iload_n 1, 1) := by decide +kernel
theorem dX8_forms_2 : decode cX8_forms 2 = .ok (.invokevirtual 195, 3) := by decide +kernel
theorem dX8_forms_5 : decode cX8_forms 5 = .ok (.ifCond .ne 5, 3) := by decide +kernel
theorem dX8_forms_8 : decode cX8_forms 8 = .ok (.iconst (-1), 1) := by decide +kernel
theorem dX8_forms_9 : decode cX8_forms 9 = .ok (.ireturn, 1) := by decide +kernel
theorem dX8_forms_10 : decode cX8_forms 10 = .ok (.aload_n 0, 1) := by decide +kernel
theorem dX8_forms_11 : decode cX8_forms 11 = .ok (.getfield 25, 3) := by decide +kernel
theorem dX8_forms_14 : decode cX8_forms 14 = .ok (.iload_n 1, 1) := by decide +kernel
theorem dX8_forms_15 : decode cX8_forms 15 = .ok (.iaload, 1) := by decide +kernel
theorem dX8_forms_16 : decode cX8_forms 16 = .ok (.istore_n 2, 1) := by decide +kernel
theorem dX8_forms_17 : decode cX8_forms 17 = .ok (.iload_n 2, 1) := by decide +kernel
theorem dX8_forms_18 : decode cX8_forms 18 = .ok (.iconst 2, 1) := by decide +kernel
theorem dX8_forms_19 : decode cX8_forms 19 = .ok (.if_icmp .ge 7, 3) := by decide +kernel
theorem dX8_forms_22 : decode cX8_forms 22 = .ok (.iconst 0, 1) := by decide +kernel
theorem dX8_forms_23 : decode cX8_forms 23 = .ok (.goto 4, 3) := by decide +kernel
theorem dX8_forms_26 : decode cX8_forms 26 = .ok (.iconst 2, 1) := by decide +kernel
theorem dX8_forms_27 : decode cX8_forms 27 = .ok (.istore_n 3, 1) := by decide +kernel
theorem dX8_forms_28 : decode cX8_forms 28 = .ok (.iconst 0, 1) := by decide +kernel
theorem dX8_forms_29 : decode cX8_forms 29 = .ok (.istore 4, 2) := by decide +kernel
theorem dX8_forms_31 : decode cX8_forms 31 = .ok (.iload_n 3, 1) := by decide +kernel
theorem dX8_forms_32 : decode cX8_forms 32 = .ok (.istore 5, 2) := by decide +kernel
theorem dX8_forms_34 : decode cX8_forms 34 = .ok (.iload 5, 2) := by decide +kernel
theorem dX8_forms_36 : decode cX8_forms 36 = .ok (.iload_n 3, 1) := by decide +kernel
theorem dX8_forms_37 : decode cX8_forms 37 = .ok (.iconst 2, 1) := by decide +kernel
theorem dX8_forms_38 : decode cX8_forms 38 = .ok (.iadd, 1) := by decide +kernel
theorem dX8_forms_39 : decode cX8_forms 39 = .ok (.if_icmp .ge 37, 3) := by decide +kernel
theorem dX8_forms_42 : decode cX8_forms 42 = .ok (.aload_n 0, 1) := by decide +kernel
theorem dX8_forms_43 : decode cX8_forms 43 = .ok (.getfield 25, 3) := by decide +kernel
theorem dX8_forms_46 : decode cX8_forms 46 = .ok (.iload_n 1, 1) := by decide +kernel
theorem dX8_forms_47 : decode cX8_forms 47 = .ok (.iload 5, 2) := by decide +kernel
theorem dX8_forms_49 : decode cX8_forms 49 = .ok (.iastore, 1) := by decide +kernel
theorem dX8_forms_50 : decode cX8_forms 50 = .ok (.iload 4, 2) := by decide +kernel
theorem dX8_forms_52 : decode cX8_forms 52 = .ok (.aload_n 0, 1) := by decide +kernel
theorem dX8_forms_53 : decode cX8_forms 53 = .ok (.invokevirtual 241, 3) := by decide +kernel
theorem dX8_forms_56 : decode cX8_forms 56 = .ok (.ifCond .eq 10, 3) := by decide +kernel
theorem dX8_forms_59 : decode cX8_forms 59 = .ok (.iconst 1, 1) := by decide +kernel
theorem dX8_forms_60 : decode cX8_forms 60 = .ok (.iload 5, 2) := by decide +kernel
theorem dX8_forms_62 : decode cX8_forms 62 = .ok (.ishl, 1) := by decide +kernel
theorem dX8_forms_63 : decode cX8_forms 63 = .ok (.goto 4, 3) := by decide +kernel
theorem dX8_forms_66 : decode cX8_forms 66 = .ok (.iconst 0, 1) := by decide +kernel
theorem dX8_forms_67 : decode cX8_forms 67 = .ok (.ior, 1) := by decide +kernel
theorem dX8_forms_68 : decode cX8_forms 68 = .ok (.istore 4, 2) := by decide +kernel
theorem dX8_forms_70 : decode cX8_forms 70 = .ok (.iinc 5 1, 3) := by decide +kernel
theorem dX8_forms_73 : decode cX8_forms 73 = .ok (.goto (-39), 3) := by decide +kernel
theorem dX8_forms_76 : decode cX8_forms 76 = .ok (.aload_n 0, 1) := by decide +kernel
theorem dX8_forms_77 : decode cX8_forms 77 = .ok (.getfield 25, 3) := by decide +kernel
theorem dX8_forms_80 : decode cX8_forms 80 = .ok (.iload_n 1, 1) := by decide +kernel
theorem dX8_forms_81 : decode cX8_forms 81 = .ok (.iload_n 2, 1) := by decide +kernel
theorem dX8_forms_82 : decode cX8_forms 82 = .ok (.iastore, 1) := by decide +kernel
theorem dX8_forms_83 : decode cX8_forms 83 = .ok (.iload 4, 2) := by decide +kernel
theorem dX8_forms_85 : decode cX8_forms 85 = .ok (.ireturn, 1) := by decide +kernel
theorem dX8_inLeastTerms_0 : decode cX8_inLeastTerms 0 = .ok (.lload_n 0, 1) := by decide +kernel
theorem dX8_inLeastTerms_1 : decode cX8_inLeastTerms 1 = .ok (.lstore 5, 2) := by decide +kernel
theorem dX8_inLeastTerms_3 : decode cX8_inLeastTerms 3 = .ok (.lload_n 2, 1) := by decide +kernel
theorem dX8_inLeastTerms_4 : decode cX8_inLeastTerms 4 = .ok (.lstore 7, 2) := by decide +kernel
theorem dX8_inLeastTerms_6 : decode cX8_inLeastTerms 6 = .ok (.lload 7, 2) := by decide +kernel
theorem dX8_inLeastTerms_8 : decode cX8_inLeastTerms 8 = .ok (.lconst 0, 1) := by decide +kernel
theorem dX8_inLeastTerms_9 : decode cX8_inLeastTerms 9 = .ok (.lcmp, 1) := by decide +kernel
theorem dX8_inLeastTerms_10 : decode cX8_inLeastTerms 10 = .ok (.ifCond .eq 21, 3) := by decide +kernel
theorem dX8_inLeastTerms_13 : decode cX8_inLeastTerms 13 = .ok (.lload 5, 2) := by decide +kernel
theorem dX8_inLeastTerms_15 : decode cX8_inLeastTerms 15 = .ok (.lload 7, 2) := by decide +kernel
theorem dX8_inLeastTerms_17 : decode cX8_inLeastTerms 17 = .ok (.lrem, 1) := by decide +kernel
theorem dX8_inLeastTerms_18 : decode cX8_inLeastTerms 18 = .ok (.lstore 9, 2) := by decide +kernel
theorem dX8_inLeastTerms_20 : decode cX8_inLeastTerms 20 = .ok (.lload 7, 2) := by decide +kernel
theorem dX8_inLeastTerms_22 : decode cX8_inLeastTerms 22 = .ok (.lstore 5, 2) := by decide +kernel
theorem dX8_inLeastTerms_24 : decode cX8_inLeastTerms 24 = .ok (.lload 9, 2) := by decide +kernel
theorem dX8_inLeastTerms_26 : decode cX8_inLeastTerms 26 = .ok (.lstore 7, 2) := by decide +kernel
theorem dX8_inLeastTerms_28 : decode cX8_inLeastTerms 28 = .ok (.goto (-22), 3) := by decide +kernel
theorem dX8_inLeastTerms_31 : decode cX8_inLeastTerms 31 = .ok (.iload 4, 2) := by decide +kernel
theorem dX8_inLeastTerms_33 : decode cX8_inLeastTerms 33 = .ok (.ifCond .ne 10, 3) := by decide +kernel
theorem dX8_inLeastTerms_36 : decode cX8_inLeastTerms 36 = .ok (.lload_n 0, 1) := by decide +kernel
theorem dX8_inLeastTerms_37 : decode cX8_inLeastTerms 37 = .ok (.lload 5, 2) := by decide +kernel
theorem dX8_inLeastTerms_39 : decode cX8_inLeastTerms 39 = .ok (.ldiv, 1) := by decide +kernel
theorem dX8_inLeastTerms_40 : decode cX8_inLeastTerms 40 = .ok (.goto 7, 3) := by decide +kernel
theorem dX8_inLeastTerms_43 : decode cX8_inLeastTerms 43 = .ok (.lload_n 2, 1) := by decide +kernel
theorem dX8_inLeastTerms_44 : decode cX8_inLeastTerms 44 = .ok (.lload 5, 2) := by decide +kernel
theorem dX8_inLeastTerms_46 : decode cX8_inLeastTerms 46 = .ok (.ldiv, 1) := by decide +kernel
theorem dX8_inLeastTerms_47 : decode cX8_inLeastTerms 47 = .ok (.lreturn, 1) := by decide +kernel
set_option maxRecDepth 20000 in
theorem ggX8_odds_X8_isRelation : GoodIn wsX8_odds wsX8_isRelation := goodIn_r _ [7, 8, 49, 50, 51, 52, 53, 54, 55, 56, 57, 58, 59, 60, 61, 62, 63, 64, 65, 66, 67, 68, 69, 70, 71, 72, 73, 74, 75, 76, 77, 78, 79, 80, 81, 82] rfl aw_wsX8_isRelation
set_option maxRecDepth 20000 in
theorem gX8_odds_X8_isRelation : GoodIn wsX8_odds (wsV RX8 198 RX8 yX8_isRelation wsX8_isRelation) := goodIn_app (goodIn_r _ [3, 4, 5, 6] rfl (by decide +kernel)) ggX8_odds_X8_isRelation
set_option maxRecDepth 20000 in
theorem ggX8_odds_X8_within : GoodIn wsX8_odds wsX8_within := goodIn_r _ [11] rfl aw_wsX8_within
set_option maxRecDepth 20000 in
theorem gX8_odds_X8_within : GoodIn wsX8_odds (va_wsS RX8 88 yX8_within wsX8_within) := goodIn_app (goodIn_r _ [9, 10, 6] rfl (by decide +kernel)) ggX8_odds_X8_within
set_option maxRecDepth 20000 in
theorem ggX8_odds_X8_findHolds : GoodIn wsX8_odds wsX8_findHolds := goodIn_r _ [15, 16, 17, 18, 19, 20, 21, 22, 6, 23, 24, 25, 26, 27, 28, 29, 30, 31, 32, 33, 34, 35, 36, 37, 38, 39, 40, 41, 49, 50, 51, 52, 53, 54, 55, 56, 57, 58, 59, 60, 61, 62, 63, 64, 65, 66, 67, 68, 69, 70, 71, 72, 73, 74, 75, 76, 77, 78, 79, 80, 81, 82] rfl aw_wsX8_findHolds
set_option maxRecDepth 20000 in
theorem gX8_odds_X8_findHolds : GoodIn wsX8_odds (wsV RX8 185 RX8 yX8_findHolds wsX8_findHolds) := goodIn_app (goodIn_r _ [12, 13, 14, 6] rfl (by decide +kernel)) ggX8_odds_X8_findHolds
set_option maxRecDepth 20000 in
theorem ggX8_odds_X8_countHeld : GoodIn wsX8_odds wsX8_countHeld := goodIn_r _ [45, 17, 49, 50, 51, 52, 53, 54, 55, 56, 57, 58, 59, 60, 61, 62, 63, 64, 65, 66, 67, 68, 69, 70, 71, 72, 73, 74, 75, 76, 77, 78, 79, 80, 81, 82] rfl aw_wsX8_countHeld
set_option maxRecDepth 20000 in
theorem gX8_odds_X8_countHeld : GoodIn wsX8_odds (wsV RX8 201 RX8 yX8_countHeld wsX8_countHeld) := goodIn_app (goodIn_r _ [42, 43, 44, 6] rfl (by decide +kernel)) ggX8_odds_X8_countHeld
set_option maxRecDepth 20000 in
theorem aw_wsX8_inLeastTerms : wsX8_inLeastTerms.all goodWord = true := by decide +kernel
set_option maxRecDepth 20000 in
theorem ggX8_odds_X8_inLeastTerms : GoodIn wsX8_odds wsX8_inLeastTerms := goodIn_r _ [48] rfl aw_wsX8_inLeastTerms
set_option maxRecDepth 20000 in
theorem gX8_odds_X8_inLeastTerms : GoodIn wsX8_odds (va_wsS RX8 247 yX8_inLeastTerms wsX8_inLeastTerms) := goodIn_app (goodIn_r _ [46, 47, 6] rfl (by decide +kernel)) ggX8_odds_X8_inLeastTerms
theorem dX8_odds_0 : decode cX8_odds 0 = .ok (.aload_n 0, 1) := by decide +kernel
theorem dX8_odds_1 : decode cX8_odds 1 = .ok (.iload_n 1, 1) := by decide +kernel
theorem dX8_odds_2 : decode cX8_odds 2 = .ok (.invokevirtual 198, 3) := by decide +kernel
theorem dX8_odds_5 : decode cX8_odds 5 = .ok (.ifCond .eq 12, 3) := by decide +kernel
theorem dX8_odds_8 : decode cX8_odds 8 = .ok (.iload_n 2, 1) := by decide +kernel
theorem dX8_odds_9 : decode cX8_odds 9 = .ok (.iconst 0, 1) := by decide +kernel
theorem dX8_odds_10 : decode cX8_odds 10 = .ok (.iconst 1, 1) := by decide +kernel
theorem dX8_odds_11 : decode cX8_odds 11 = .ok (.invokestatic 88, 3) := by decide +kernel
theorem dX8_odds_14 : decode cX8_odds 14 = .ok (.ifCond .ne 7, 3) := by decide +kernel
theorem dX8_odds_17 : decode cX8_odds 17 = .ok (.ldc2_w 86, 3) := by decide +kernel
theorem dX8_odds_20 : decode cX8_odds 20 = .ok (.lreturn, 1) := by decide +kernel
theorem dX8_odds_21 : decode cX8_odds 21 = .ok (.aload_n 0, 1) := by decide +kernel
theorem dX8_odds_22 : decode cX8_odds 22 = .ok (.invokevirtual 185, 3) := by decide +kernel
theorem dX8_odds_25 : decode cX8_odds 25 = .ok (.aload_n 0, 1) := by decide +kernel
theorem dX8_odds_26 : decode cX8_odds 26 = .ok (.iload_n 1, 1) := by decide +kernel
theorem dX8_odds_27 : decode cX8_odds 27 = .ok (.invokevirtual 201, 3) := by decide +kernel
theorem dX8_odds_30 : decode cX8_odds 30 = .ok (.i2l, 1) := by decide +kernel
theorem dX8_odds_31 : decode cX8_odds 31 = .ok (.ldc2_w 245, 3) := by decide +kernel
theorem dX8_odds_34 : decode cX8_odds 34 = .ok (.iload_n 2, 1) := by decide +kernel
theorem dX8_odds_35 : decode cX8_odds 35 = .ok (.invokestatic 247, 3) := by decide +kernel
theorem dX8_odds_38 : decode cX8_odds 38 = .ok (.lreturn, 1) := by decide +kernel
set_option maxRecDepth 20000 in
theorem ggX8_sheet_X8_isSheet : GoodIn wsX8_sheet wsX8_isSheet := goodIn_r _ [8, 9, 10, 7, 11] rfl aw_wsX8_isSheet
set_option maxRecDepth 20000 in
theorem gX8_sheet_X8_isSheet : GoodIn wsX8_sheet (va_wsS RX8 101 yX8_isSheet wsX8_isSheet) := goodIn_app (goodIn_r _ [5, 6, 7] rfl (by decide +kernel)) ggX8_sheet_X8_isSheet
set_option maxRecDepth 20000 in
theorem ggX8_sheet_X8_isSort : GoodIn wsX8_sheet wsX8_isSort := goodIn_r _ [14, 9, 10, 7, 11] rfl aw_wsX8_isSort
set_option maxRecDepth 20000 in
theorem gX8_sheet_X8_isSort : GoodIn wsX8_sheet (va_wsS RX8 105 yX8_isSort wsX8_isSort) := goodIn_app (goodIn_r _ [12, 13, 7] rfl (by decide +kernel)) ggX8_sheet_X8_isSort
set_option maxRecDepth 20000 in
theorem ggX8_sheet_X8_fails : GoodIn wsX8_sheet wsX8_fails := goodIn_r _ [18, 1, 19, 20, 21, 22, 23, 24, 25, 26, 27, 28, 29, 30, 31, 32, 33, 34, 35, 36, 37, 38, 39, 40, 41, 42, 43, 44, 45, 46, 47, 48, 49, 50, 51, 52] rfl aw_wsX8_fails
set_option maxRecDepth 20000 in
theorem gX8_sheet_X8_fails : GoodIn wsX8_sheet (wsV RX8 112 RX8 yX8_fails wsX8_fails) := goodIn_app (goodIn_r _ [15, 16, 17, 7] rfl (by decide +kernel)) ggX8_sheet_X8_fails
theorem dX8_sheet_0 : decode cX8_sheet 0 = .ok (.aload_n 0, 1) := by decide +kernel
theorem dX8_sheet_1 : decode cX8_sheet 1 = .ok (.iconst 0, 1) := by decide +kernel
theorem dX8_sheet_2 : decode cX8_sheet 2 = .ok (.putfield 82, 3) := by decide +kernel
theorem dX8_sheet_5 : decode cX8_sheet 5 = .ok (.iload_n 1, 1) := by decide +kernel
theorem dX8_sheet_6 : decode cX8_sheet 6 = .ok (.invokestatic 101, 3) := by decide +kernel
theorem dX8_sheet_9 : decode cX8_sheet 9 = .ok (.ifCond .ne 5, 3) := by decide +kernel
theorem dX8_sheet_12 : decode cX8_sheet 12 = .ok (.iconst (-1), 1) := by decide +kernel
theorem dX8_sheet_13 : decode cX8_sheet 13 = .ok (.ireturn, 1) := by decide +kernel
theorem dX8_sheet_14 : decode cX8_sheet 14 = .ok (.iload_n 2, 1) := by decide +kernel
theorem dX8_sheet_15 : decode cX8_sheet 15 = .ok (.invokestatic 105, 3) := by decide +kernel
theorem dX8_sheet_18 : decode cX8_sheet 18 = .ok (.ifCond .eq 9, 3) := by decide +kernel
theorem dX8_sheet_21 : decode cX8_sheet 21 = .ok (.iload_n 3, 1) := by decide +kernel
theorem dX8_sheet_22 : decode cX8_sheet 22 = .ok (.bipush 60, 2) := by decide +kernel
theorem dX8_sheet_24 : decode cX8_sheet 24 = .ok (.if_icmp .le 6, 3) := by decide +kernel
theorem dX8_sheet_27 : decode cX8_sheet 27 = .ok (.bipush (-2), 2) := by decide +kernel
theorem dX8_sheet_29 : decode cX8_sheet 29 = .ok (.ireturn, 1) := by decide +kernel
theorem dX8_sheet_30 : decode cX8_sheet 30 = .ok (.iload_n 3, 1) := by decide +kernel
theorem dX8_sheet_31 : decode cX8_sheet 31 = .ok (.ifCond .ge 9, 3) := by decide +kernel
theorem dX8_sheet_34 : decode cX8_sheet 34 = .ok (.aload_n 0, 1) := by decide +kernel
theorem dX8_sheet_35 : decode cX8_sheet 35 = .ok (.iconst 4, 1) := by decide +kernel
theorem dX8_sheet_36 : decode cX8_sheet 36 = .ok (.invokevirtual 112, 3) := by decide +kernel
theorem dX8_sheet_39 : decode cX8_sheet 39 = .ok (.ireturn, 1) := by decide +kernel
theorem dX8_sheet_40 : decode cX8_sheet 40 = .ok (.aload_n 0, 1) := by decide +kernel
theorem dX8_sheet_41 : decode cX8_sheet 41 = .ok (.getfield 9, 3) := by decide +kernel
theorem dX8_sheet_44 : decode cX8_sheet 44 = .ok (.iload_n 1, 1) := by decide +kernel
theorem dX8_sheet_45 : decode cX8_sheet 45 = .ok (.iload_n 2, 1) := by decide +kernel
theorem dX8_sheet_46 : decode cX8_sheet 46 = .ok (.iastore, 1) := by decide +kernel
theorem dX8_sheet_47 : decode cX8_sheet 47 = .ok (.aload_n 0, 1) := by decide +kernel
theorem dX8_sheet_48 : decode cX8_sheet 48 = .ok (.getfield 13, 3) := by decide +kernel
theorem dX8_sheet_51 : decode cX8_sheet 51 = .ok (.iload_n 1, 1) := by decide +kernel
theorem dX8_sheet_52 : decode cX8_sheet 52 = .ok (.iload_n 3, 1) := by decide +kernel
theorem dX8_sheet_53 : decode cX8_sheet 53 = .ok (.iastore, 1) := by decide +kernel
theorem dX8_sheet_54 : decode cX8_sheet 54 = .ok (.iconst 0, 1) := by decide +kernel
theorem dX8_sheet_55 : decode cX8_sheet 55 = .ok (.istore 4, 2) := by decide +kernel
theorem dX8_sheet_57 : decode cX8_sheet 57 = .ok (.iload 4, 2) := by decide +kernel
theorem dX8_sheet_59 : decode cX8_sheet 59 = .ok (.bipush 60, 2) := by decide +kernel
theorem dX8_sheet_61 : decode cX8_sheet 61 = .ok (.if_icmp .ge 22, 3) := by decide +kernel
theorem dX8_sheet_64 : decode cX8_sheet 64 = .ok (.aload_n 0, 1) := by decide +kernel
theorem dX8_sheet_65 : decode cX8_sheet 65 = .ok (.getfield 16, 3) := by decide +kernel
theorem dX8_sheet_68 : decode cX8_sheet 68 = .ok (.bipush 60, 2) := by decide +kernel
theorem dX8_sheet_70 : decode cX8_sheet 70 = .ok (.iload_n 1, 1) := by decide +kernel
theorem dX8_sheet_71 : decode cX8_sheet 71 = .ok (.imul, 1) := by decide +kernel
theorem dX8_sheet_72 : decode cX8_sheet 72 = .ok (.iload 4, 2) := by decide +kernel
theorem dX8_sheet_74 : decode cX8_sheet 74 = .ok (.iadd, 1) := by decide +kernel
theorem dX8_sheet_75 : decode cX8_sheet 75 = .ok (.iconst 0, 1) := by decide +kernel
theorem dX8_sheet_76 : decode cX8_sheet 76 = .ok (.iastore, 1) := by decide +kernel
theorem dX8_sheet_77 : decode cX8_sheet 77 = .ok (.iinc 4 1, 3) := by decide +kernel
theorem dX8_sheet_80 : decode cX8_sheet 80 = .ok (.goto (-23), 3) := by decide +kernel
theorem dX8_sheet_83 : decode cX8_sheet 83 = .ok (.iconst 1, 1) := by decide +kernel
theorem dX8_sheet_84 : decode cX8_sheet 84 = .ok (.ireturn, 1) := by decide +kernel
set_option maxRecDepth 20000 in
theorem ggX8_lose_X8_isSheet : GoodIn wsX8_lose wsX8_isSheet := goodIn_r _ [5, 6, 7, 4, 8] rfl aw_wsX8_isSheet
set_option maxRecDepth 20000 in
theorem gX8_lose_X8_isSheet : GoodIn wsX8_lose (va_wsS RX8 101 yX8_isSheet wsX8_isSheet) := goodIn_app (goodIn_r _ [2, 3, 4] rfl (by decide +kernel)) ggX8_lose_X8_isSheet
theorem dX8_lose_0 : decode cX8_lose 0 = .ok (.iload_n 1, 1) := by decide +kernel
theorem dX8_lose_1 : decode cX8_lose 1 = .ok (.invokestatic 101, 3) := by decide +kernel
theorem dX8_lose_4 : decode cX8_lose 4 = .ok (.ifCond .ne 5, 3) := by decide +kernel
theorem dX8_lose_7 : decode cX8_lose 7 = .ok (.iconst (-1), 1) := by decide +kernel
theorem dX8_lose_8 : decode cX8_lose 8 = .ok (.ireturn, 1) := by decide +kernel
theorem dX8_lose_9 : decode cX8_lose 9 = .ok (.aload_n 0, 1) := by decide +kernel
theorem dX8_lose_10 : decode cX8_lose 10 = .ok (.getfield 9, 3) := by decide +kernel
theorem dX8_lose_13 : decode cX8_lose 13 = .ok (.iload_n 1, 1) := by decide +kernel
theorem dX8_lose_14 : decode cX8_lose 14 = .ok (.iaload, 1) := by decide +kernel
theorem dX8_lose_15 : decode cX8_lose 15 = .ok (.bipush (-9), 2) := by decide +kernel
theorem dX8_lose_17 : decode cX8_lose 17 = .ok (.if_icmp .ne 7, 3) := by decide +kernel
theorem dX8_lose_20 : decode cX8_lose 20 = .ok (.iconst 0, 1) := by decide +kernel
theorem dX8_lose_21 : decode cX8_lose 21 = .ok (.goto 4, 3) := by decide +kernel
theorem dX8_lose_24 : decode cX8_lose 24 = .ok (.iconst 1, 1) := by decide +kernel
theorem dX8_lose_25 : decode cX8_lose 25 = .ok (.istore_n 2, 1) := by decide +kernel
theorem dX8_lose_26 : decode cX8_lose 26 = .ok (.aload_n 0, 1) := by decide +kernel
theorem dX8_lose_27 : decode cX8_lose 27 = .ok (.getfield 9, 3) := by decide +kernel
theorem dX8_lose_30 : decode cX8_lose 30 = .ok (.iload_n 1, 1) := by decide +kernel
theorem dX8_lose_31 : decode cX8_lose 31 = .ok (.bipush (-9), 2) := by decide +kernel
theorem dX8_lose_33 : decode cX8_lose 33 = .ok (.iastore, 1) := by decide +kernel
theorem dX8_lose_34 : decode cX8_lose 34 = .ok (.iload_n 2, 1) := by decide +kernel
theorem dX8_lose_35 : decode cX8_lose 35 = .ok (.ireturn, 1) := by decide +kernel
set_option maxRecDepth 20000 in
theorem ggX8_put_X8_isSheet : GoodIn wsX8_put wsX8_isSheet := goodIn_r _ [8, 9, 10, 7, 11] rfl aw_wsX8_isSheet
set_option maxRecDepth 20000 in
theorem gX8_put_X8_isSheet : GoodIn wsX8_put (va_wsS RX8 101 yX8_isSheet wsX8_isSheet) := goodIn_app (goodIn_r _ [5, 6, 7] rfl (by decide +kernel)) ggX8_put_X8_isSheet
set_option maxRecDepth 20000 in
theorem ggX8_put_X8_fails : GoodIn wsX8_put wsX8_fails := goodIn_r _ [15, 1, 16, 17, 18, 19, 20, 21, 22, 23, 24, 25, 26, 27, 28, 29, 30, 31, 32, 33, 34, 35, 36, 37, 38, 39, 40, 41, 42, 43, 44, 45, 46, 47, 48, 49] rfl aw_wsX8_fails
set_option maxRecDepth 20000 in
theorem gX8_put_X8_fails : GoodIn wsX8_put (wsV RX8 112 RX8 yX8_fails wsX8_fails) := goodIn_app (goodIn_r _ [12, 13, 14, 7] rfl (by decide +kernel)) ggX8_put_X8_fails
set_option maxRecDepth 20000 in
theorem ggX8_put_X8_within : GoodIn wsX8_put wsX8_within := goodIn_r _ [11] rfl aw_wsX8_within
set_option maxRecDepth 20000 in
theorem gX8_put_X8_within : GoodIn wsX8_put (va_wsS RX8 88 yX8_within wsX8_within) := goodIn_app (goodIn_r _ [9, 10, 7] rfl (by decide +kernel)) ggX8_put_X8_within
theorem dX8_put_0 : decode cX8_put 0 = .ok (.aload_n 0, 1) := by decide +kernel
theorem dX8_put_1 : decode cX8_put 1 = .ok (.iconst 0, 1) := by decide +kernel
theorem dX8_put_2 : decode cX8_put 2 = .ok (.putfield 82, 3) := by decide +kernel
theorem dX8_put_5 : decode cX8_put 5 = .ok (.iload_n 1, 1) := by decide +kernel
theorem dX8_put_6 : decode cX8_put 6 = .ok (.invokestatic 101, 3) := by decide +kernel
theorem dX8_put_9 : decode cX8_put 9 = .ok (.ifCond .ne 5, 3) := by decide +kernel
theorem dX8_put_12 : decode cX8_put 12 = .ok (.iconst (-1), 1) := by decide +kernel
theorem dX8_put_13 : decode cX8_put 13 = .ok (.ireturn, 1) := by decide +kernel
theorem dX8_put_14 : decode cX8_put 14 = .ok (.aload_n 0, 1) := by decide +kernel
theorem dX8_put_15 : decode cX8_put 15 = .ok (.getfield 9, 3) := by decide +kernel
theorem dX8_put_18 : decode cX8_put 18 = .ok (.iload_n 1, 1) := by decide +kernel
theorem dX8_put_19 : decode cX8_put 19 = .ok (.iaload, 1) := by decide +kernel
theorem dX8_put_20 : decode cX8_put 20 = .ok (.bipush (-9), 2) := by decide +kernel
theorem dX8_put_22 : decode cX8_put 22 = .ok (.if_icmp .ne 9, 3) := by decide +kernel
theorem dX8_put_25 : decode cX8_put 25 = .ok (.aload_n 0, 1) := by decide +kernel
theorem dX8_put_26 : decode cX8_put 26 = .ok (.iconst 1, 1) := by decide +kernel
theorem dX8_put_27 : decode cX8_put 27 = .ok (.invokevirtual 112, 3) := by decide +kernel
theorem dX8_put_30 : decode cX8_put 30 = .ok (.ireturn, 1) := by decide +kernel
theorem dX8_put_31 : decode cX8_put 31 = .ok (.iload_n 2, 1) := by decide +kernel
theorem dX8_put_32 : decode cX8_put 32 = .ok (.iconst 0, 1) := by decide +kernel
theorem dX8_put_33 : decode cX8_put 33 = .ok (.aload_n 0, 1) := by decide +kernel
theorem dX8_put_34 : decode cX8_put 34 = .ok (.getfield 13, 3) := by decide +kernel
theorem dX8_put_37 : decode cX8_put 37 = .ok (.iload_n 1, 1) := by decide +kernel
theorem dX8_put_38 : decode cX8_put 38 = .ok (.iaload, 1) := by decide +kernel
theorem dX8_put_39 : decode cX8_put 39 = .ok (.iconst 1, 1) := by decide +kernel
theorem dX8_put_40 : decode cX8_put 40 = .ok (.isub, 1) := by decide +kernel
theorem dX8_put_41 : decode cX8_put 41 = .ok (.invokestatic 88, 3) := by decide +kernel
theorem dX8_put_44 : decode cX8_put 44 = .ok (.ifCond .ne 9, 3) := by decide +kernel
theorem dX8_put_47 : decode cX8_put 47 = .ok (.aload_n 0, 1) := by decide +kernel
theorem dX8_put_48 : decode cX8_put 48 = .ok (.iconst 3, 1) := by decide +kernel
theorem dX8_put_49 : decode cX8_put 49 = .ok (.invokevirtual 112, 3) := by decide +kernel
theorem dX8_put_52 : decode cX8_put 52 = .ok (.ireturn, 1) := by decide +kernel
theorem dX8_put_53 : decode cX8_put 53 = .ok (.aload_n 0, 1) := by decide +kernel
theorem dX8_put_54 : decode cX8_put 54 = .ok (.getfield 16, 3) := by decide +kernel
theorem dX8_put_57 : decode cX8_put 57 = .ok (.bipush 60, 2) := by decide +kernel
theorem dX8_put_59 : decode cX8_put 59 = .ok (.iload_n 1, 1) := by decide +kernel
theorem dX8_put_60 : decode cX8_put 60 = .ok (.imul, 1) := by decide +kernel
theorem dX8_put_61 : decode cX8_put 61 = .ok (.iload_n 2, 1) := by decide +kernel
theorem dX8_put_62 : decode cX8_put 62 = .ok (.iadd, 1) := by decide +kernel
theorem dX8_put_63 : decode cX8_put 63 = .ok (.aload_n 0, 1) := by decide +kernel
theorem dX8_put_64 : decode cX8_put 64 = .ok (.getfield 9, 3) := by decide +kernel
theorem dX8_put_67 : decode cX8_put 67 = .ok (.iload_n 1, 1) := by decide +kernel
theorem dX8_put_68 : decode cX8_put 68 = .ok (.iaload, 1) := by decide +kernel
theorem dX8_put_69 : decode cX8_put 69 = .ok (.ifCond .ne 8, 3) := by decide +kernel
theorem dX8_put_72 : decode cX8_put 72 = .ok (.iload_n 3, 1) := by decide +kernel
theorem dX8_put_73 : decode cX8_put 73 = .ok (.i2b, 1) := by decide +kernel
theorem dX8_put_74 : decode cX8_put 74 = .ok (.goto 19, 3) := by decide +kernel
theorem dX8_put_77 : decode cX8_put 77 = .ok (.aload_n 0, 1) := by decide +kernel
theorem dX8_put_78 : decode cX8_put 78 = .ok (.getfield 9, 3) := by decide +kernel
theorem dX8_put_81 : decode cX8_put 81 = .ok (.iload_n 1, 1) := by decide +kernel
theorem dX8_put_82 : decode cX8_put 82 = .ok (.iaload, 1) := by decide +kernel
theorem dX8_put_83 : decode cX8_put 83 = .ok (.iconst 1, 1) := by decide +kernel
theorem dX8_put_84 : decode cX8_put 84 = .ok (.if_icmp .ne 8, 3) := by decide +kernel
theorem dX8_put_87 : decode cX8_put 87 = .ok (.iload_n 3, 1) := by decide +kernel
theorem dX8_put_88 : decode cX8_put 88 = .ok (.i2s, 1) := by decide +kernel
theorem dX8_put_89 : decode cX8_put 89 = .ok (.goto 4, 3) := by decide +kernel
theorem dX8_put_92 : decode cX8_put 92 = .ok (.iload_n 3, 1) := by decide +kernel
theorem dX8_put_93 : decode cX8_put 93 = .ok (.iastore, 1) := by decide +kernel
theorem dX8_put_94 : decode cX8_put 94 = .ok (.iconst 1, 1) := by decide +kernel
theorem dX8_put_95 : decode cX8_put 95 = .ok (.ireturn, 1) := by decide +kernel
set_option maxRecDepth 20000 in
theorem ggX8_cell_X8_isSheet : GoodIn wsX8_cell wsX8_isSheet := goodIn_r _ [9, 10, 11, 8, 12] rfl aw_wsX8_isSheet
set_option maxRecDepth 20000 in
theorem gX8_cell_X8_isSheet : GoodIn wsX8_cell (va_wsS RX8 101 yX8_isSheet wsX8_isSheet) := goodIn_app (goodIn_r _ [6, 7, 8] rfl (by decide +kernel)) ggX8_cell_X8_isSheet
set_option maxRecDepth 20000 in
theorem ggX8_cell_X8_isSort : GoodIn wsX8_cell wsX8_isSort := goodIn_r _ [15, 10, 11, 8, 12] rfl aw_wsX8_isSort
set_option maxRecDepth 20000 in
theorem gX8_cell_X8_isSort : GoodIn wsX8_cell (va_wsS RX8 105 yX8_isSort wsX8_isSort) := goodIn_app (goodIn_r _ [13, 14, 8] rfl (by decide +kernel)) ggX8_cell_X8_isSort
set_option maxRecDepth 20000 in
theorem aw_wsX8_lost : wsX8_lost.all goodWord = true := by decide +kernel
set_option maxRecDepth 20000 in
theorem ggX8_cell_X8_lost : GoodIn wsX8_cell wsX8_lost := goodIn_r _ [19, 1, 2, 20, 21, 22, 23, 24, 25, 26, 27, 28, 29, 30, 31, 32, 33, 34, 35, 36, 37, 38, 39, 40, 41, 42, 43, 44, 45, 46, 47, 48, 49, 50, 51, 52, 53] rfl aw_wsX8_lost
set_option maxRecDepth 20000 in
theorem gX8_cell_X8_lost : GoodIn wsX8_cell (wsV RX8 251 RX8 yX8_lost wsX8_lost) := goodIn_app (goodIn_r _ [16, 17, 18, 8] rfl (by decide +kernel)) ggX8_cell_X8_lost
set_option maxRecDepth 20000 in
theorem ggX8_cell_X8_within : GoodIn wsX8_cell wsX8_within := goodIn_r _ [12] rfl aw_wsX8_within
set_option maxRecDepth 20000 in
theorem gX8_cell_X8_within : GoodIn wsX8_cell (va_wsS RX8 88 yX8_within wsX8_within) := goodIn_app (goodIn_r _ [10, 11, 8] rfl (by decide +kernel)) ggX8_cell_X8_within
theorem dX8_cell_0 : decode cX8_cell 0 = .ok (.aload_n 0, 1) := by decide +kernel
theorem dX8_cell_1 : decode cX8_cell 1 = .ok (.iconst 0, 1) := by decide +kernel
theorem dX8_cell_2 : decode cX8_cell 2 = .ok (.putfield 82, 3) := by decide +kernel
theorem dX8_cell_5 : decode cX8_cell 5 = .ok (.iload_n 1, 1) := by decide +kernel
theorem dX8_cell_6 : decode cX8_cell 6 = .ok (.invokestatic 101, 3) := by decide +kernel
theorem dX8_cell_9 : decode cX8_cell 9 = .ok (.ifCond .eq 10, 3) := by decide +kernel
theorem dX8_cell_12 : decode cX8_cell 12 = .ok (.iload_n 3, 1) := by decide +kernel
theorem dX8_cell_13 : decode cX8_cell 13 = .ok (.invokestatic 105, 3) := by decide +kernel
theorem dX8_cell_16 : decode cX8_cell 16 = .ok (.ifCond .ne 7, 3) := by decide +kernel
theorem dX8_cell_19 : decode cX8_cell 19 = .ok (.ldc2_w 86, 3) := by decide +kernel
theorem dX8_cell_22 : decode cX8_cell 22 = .ok (.lreturn, 1) := by decide +kernel
theorem dX8_cell_23 : decode cX8_cell 23 = .ok (.aload_n 0, 1) := by decide +kernel
theorem dX8_cell_24 : decode cX8_cell 24 = .ok (.getfield 9, 3) := by decide +kernel
theorem dX8_cell_27 : decode cX8_cell 27 = .ok (.iload_n 1, 1) := by decide +kernel
theorem dX8_cell_28 : decode cX8_cell 28 = .ok (.iaload, 1) := by decide +kernel
theorem dX8_cell_29 : decode cX8_cell 29 = .ok (.bipush (-9), 2) := by decide +kernel
theorem dX8_cell_31 : decode cX8_cell 31 = .ok (.if_icmp .eq 19, 3) := by decide +kernel
theorem dX8_cell_34 : decode cX8_cell 34 = .ok (.aload_n 0, 1) := by decide +kernel
theorem dX8_cell_35 : decode cX8_cell 35 = .ok (.getfield 9, 3) := by decide +kernel
theorem dX8_cell_38 : decode cX8_cell 38 = .ok (.iload_n 1, 1) := by decide +kernel
theorem dX8_cell_39 : decode cX8_cell 39 = .ok (.iaload, 1) := by decide +kernel
theorem dX8_cell_40 : decode cX8_cell 40 = .ok (.iload_n 3, 1) := by decide +kernel
theorem dX8_cell_41 : decode cX8_cell 41 = .ok (.if_icmp .eq 9, 3) := by decide +kernel
theorem dX8_cell_44 : decode cX8_cell 44 = .ok (.aload_n 0, 1) := by decide +kernel
theorem dX8_cell_45 : decode cX8_cell 45 = .ok (.iconst 2, 1) := by decide +kernel
theorem dX8_cell_46 : decode cX8_cell 46 = .ok (.invokevirtual 251, 3) := by decide +kernel
theorem dX8_cell_49 : decode cX8_cell 49 = .ok (.lreturn, 1) := by decide +kernel
theorem dX8_cell_50 : decode cX8_cell 50 = .ok (.aload_n 0, 1) := by decide +kernel
theorem dX8_cell_51 : decode cX8_cell 51 = .ok (.getfield 9, 3) := by decide +kernel
theorem dX8_cell_54 : decode cX8_cell 54 = .ok (.iload_n 1, 1) := by decide +kernel
theorem dX8_cell_55 : decode cX8_cell 55 = .ok (.iaload, 1) := by decide +kernel
theorem dX8_cell_56 : decode cX8_cell 56 = .ok (.bipush (-9), 2) := by decide +kernel
theorem dX8_cell_58 : decode cX8_cell 58 = .ok (.if_icmp .ne 9, 3) := by decide +kernel
theorem dX8_cell_61 : decode cX8_cell 61 = .ok (.aload_n 0, 1) := by decide +kernel
theorem dX8_cell_62 : decode cX8_cell 62 = .ok (.iconst 1, 1) := by decide +kernel
theorem dX8_cell_63 : decode cX8_cell 63 = .ok (.invokevirtual 251, 3) := by decide +kernel
theorem dX8_cell_66 : decode cX8_cell 66 = .ok (.lreturn, 1) := by decide +kernel
theorem dX8_cell_67 : decode cX8_cell 67 = .ok (.iload_n 2, 1) := by decide +kernel
theorem dX8_cell_68 : decode cX8_cell 68 = .ok (.iconst 0, 1) := by decide +kernel
theorem dX8_cell_69 : decode cX8_cell 69 = .ok (.aload_n 0, 1) := by decide +kernel
theorem dX8_cell_70 : decode cX8_cell 70 = .ok (.getfield 13, 3) := by decide +kernel
theorem dX8_cell_73 : decode cX8_cell 73 = .ok (.iload_n 1, 1) := by decide +kernel
theorem dX8_cell_74 : decode cX8_cell 74 = .ok (.iaload, 1) := by decide +kernel
theorem dX8_cell_75 : decode cX8_cell 75 = .ok (.iconst 1, 1) := by decide +kernel
theorem dX8_cell_76 : decode cX8_cell 76 = .ok (.isub, 1) := by decide +kernel
theorem dX8_cell_77 : decode cX8_cell 77 = .ok (.invokestatic 88, 3) := by decide +kernel
theorem dX8_cell_80 : decode cX8_cell 80 = .ok (.ifCond .ne 9, 3) := by decide +kernel
theorem dX8_cell_83 : decode cX8_cell 83 = .ok (.aload_n 0, 1) := by decide +kernel
theorem dX8_cell_84 : decode cX8_cell 84 = .ok (.iconst 3, 1) := by decide +kernel
theorem dX8_cell_85 : decode cX8_cell 85 = .ok (.invokevirtual 251, 3) := by decide +kernel
theorem dX8_cell_88 : decode cX8_cell 88 = .ok (.lreturn, 1) := by decide +kernel
theorem dX8_cell_89 : decode cX8_cell 89 = .ok (.aload_n 0, 1) := by decide +kernel
theorem dX8_cell_90 : decode cX8_cell 90 = .ok (.getfield 16, 3) := by decide +kernel
theorem dX8_cell_93 : decode cX8_cell 93 = .ok (.bipush 60, 2) := by decide +kernel
theorem dX8_cell_95 : decode cX8_cell 95 = .ok (.iload_n 1, 1) := by decide +kernel
theorem dX8_cell_96 : decode cX8_cell 96 = .ok (.imul, 1) := by decide +kernel
theorem dX8_cell_97 : decode cX8_cell 97 = .ok (.iload_n 2, 1) := by decide +kernel
theorem dX8_cell_98 : decode cX8_cell 98 = .ok (.iadd, 1) := by decide +kernel
theorem dX8_cell_99 : decode cX8_cell 99 = .ok (.iaload, 1) := by decide +kernel
theorem dX8_cell_100 : decode cX8_cell 100 = .ok (.i2l, 1) := by decide +kernel
theorem dX8_cell_101 : decode cX8_cell 101 = .ok (.lreturn, 1) := by decide +kernel
set_option maxRecDepth 20000 in
theorem ggX8_copy_X8_isSheet : GoodIn wsX8_copy wsX8_isSheet := goodIn_r _ [8, 9, 10, 7, 11] rfl aw_wsX8_isSheet
set_option maxRecDepth 20000 in
theorem gX8_copy_X8_isSheet : GoodIn wsX8_copy (va_wsS RX8 101 yX8_isSheet wsX8_isSheet) := goodIn_app (goodIn_r _ [5, 6, 7] rfl (by decide +kernel)) ggX8_copy_X8_isSheet
set_option maxRecDepth 20000 in
theorem ggX8_copy_X8_fails : GoodIn wsX8_copy wsX8_fails := goodIn_r _ [15, 1, 16, 17, 18, 19, 20, 21, 22, 23, 24, 25, 26, 27, 28, 29, 30, 31, 32, 33, 34, 35, 36, 37, 38, 39, 40, 41, 42, 43, 44, 45, 46, 47, 48, 49] rfl aw_wsX8_fails
set_option maxRecDepth 20000 in
theorem gX8_copy_X8_fails : GoodIn wsX8_copy (wsV RX8 112 RX8 yX8_fails wsX8_fails) := goodIn_app (goodIn_r _ [12, 13, 14, 7] rfl (by decide +kernel)) ggX8_copy_X8_fails
theorem dX8_copy_0 : decode cX8_copy 0 = .ok (.aload_n 0, 1) := by decide +kernel
theorem dX8_copy_1 : decode cX8_copy 1 = .ok (.iconst 0, 1) := by decide +kernel
theorem dX8_copy_2 : decode cX8_copy 2 = .ok (.putfield 82, 3) := by decide +kernel
theorem dX8_copy_5 : decode cX8_copy 5 = .ok (.iload_n 1, 1) := by decide +kernel
theorem dX8_copy_6 : decode cX8_copy 6 = .ok (.invokestatic 101, 3) := by decide +kernel
theorem dX8_copy_9 : decode cX8_copy 9 = .ok (.ifCond .eq 10, 3) := by decide +kernel
theorem dX8_copy_12 : decode cX8_copy 12 = .ok (.iload_n 3, 1) := by decide +kernel
theorem dX8_copy_13 : decode cX8_copy 13 = .ok (.invokestatic 101, 3) := by decide +kernel
theorem dX8_copy_16 : decode cX8_copy 16 = .ok (.ifCond .ne 5, 3) := by decide +kernel
theorem dX8_copy_19 : decode cX8_copy 19 = .ok (.iconst (-1), 1) := by decide +kernel
theorem dX8_copy_20 : decode cX8_copy 20 = .ok (.ireturn, 1) := by decide +kernel
theorem dX8_copy_21 : decode cX8_copy 21 = .ok (.aload_n 0, 1) := by decide +kernel
theorem dX8_copy_22 : decode cX8_copy 22 = .ok (.getfield 9, 3) := by decide +kernel
theorem dX8_copy_25 : decode cX8_copy 25 = .ok (.iload_n 1, 1) := by decide +kernel
theorem dX8_copy_26 : decode cX8_copy 26 = .ok (.iaload, 1) := by decide +kernel
theorem dX8_copy_27 : decode cX8_copy 27 = .ok (.bipush (-9), 2) := by decide +kernel
theorem dX8_copy_29 : decode cX8_copy 29 = .ok (.if_icmp .eq 14, 3) := by decide +kernel
theorem dX8_copy_32 : decode cX8_copy 32 = .ok (.aload_n 0, 1) := by decide +kernel
theorem dX8_copy_33 : decode cX8_copy 33 = .ok (.getfield 9, 3) := by decide +kernel
theorem dX8_copy_36 : decode cX8_copy 36 = .ok (.iload_n 3, 1) := by decide +kernel
theorem dX8_copy_37 : decode cX8_copy 37 = .ok (.iaload, 1) := by decide +kernel
theorem dX8_copy_38 : decode cX8_copy 38 = .ok (.bipush (-9), 2) := by decide +kernel
theorem dX8_copy_40 : decode cX8_copy 40 = .ok (.if_icmp .ne 9, 3) := by decide +kernel
theorem dX8_copy_43 : decode cX8_copy 43 = .ok (.aload_n 0, 1) := by decide +kernel
theorem dX8_copy_44 : decode cX8_copy 44 = .ok (.iconst 1, 1) := by decide +kernel
theorem dX8_copy_45 : decode cX8_copy 45 = .ok (.invokevirtual 112, 3) := by decide +kernel
theorem dX8_copy_48 : decode cX8_copy 48 = .ok (.ireturn, 1) := by decide +kernel
theorem dX8_copy_49 : decode cX8_copy 49 = .ok (.aload_n 0, 1) := by decide +kernel
theorem dX8_copy_50 : decode cX8_copy 50 = .ok (.getfield 9, 3) := by decide +kernel
theorem dX8_copy_53 : decode cX8_copy 53 = .ok (.iload_n 1, 1) := by decide +kernel
theorem dX8_copy_54 : decode cX8_copy 54 = .ok (.iaload, 1) := by decide +kernel
theorem dX8_copy_55 : decode cX8_copy 55 = .ok (.aload_n 0, 1) := by decide +kernel
theorem dX8_copy_56 : decode cX8_copy 56 = .ok (.getfield 9, 3) := by decide +kernel
theorem dX8_copy_59 : decode cX8_copy 59 = .ok (.iload_n 3, 1) := by decide +kernel
theorem dX8_copy_60 : decode cX8_copy 60 = .ok (.iaload, 1) := by decide +kernel
theorem dX8_copy_61 : decode cX8_copy 61 = .ok (.if_icmp .eq 9, 3) := by decide +kernel
theorem dX8_copy_64 : decode cX8_copy 64 = .ok (.aload_n 0, 1) := by decide +kernel
theorem dX8_copy_65 : decode cX8_copy 65 = .ok (.iconst 2, 1) := by decide +kernel
theorem dX8_copy_66 : decode cX8_copy 66 = .ok (.invokevirtual 112, 3) := by decide +kernel
theorem dX8_copy_69 : decode cX8_copy 69 = .ok (.ireturn, 1) := by decide +kernel
theorem dX8_copy_70 : decode cX8_copy 70 = .ok (.iload_n 2, 1) := by decide +kernel
theorem dX8_copy_71 : decode cX8_copy 71 = .ok (.ifCond .lt 38, 3) := by decide +kernel
theorem dX8_copy_74 : decode cX8_copy 74 = .ok (.iload 4, 2) := by decide +kernel
theorem dX8_copy_76 : decode cX8_copy 76 = .ok (.ifCond .lt 33, 3) := by decide +kernel
theorem dX8_copy_79 : decode cX8_copy 79 = .ok (.iload 5, 2) := by decide +kernel
theorem dX8_copy_81 : decode cX8_copy 81 = .ok (.ifCond .lt 28, 3) := by decide +kernel
theorem dX8_copy_84 : decode cX8_copy 84 = .ok (.iload_n 2, 1) := by decide +kernel
theorem dX8_copy_85 : decode cX8_copy 85 = .ok (.aload_n 0, 1) := by decide +kernel
theorem dX8_copy_86 : decode cX8_copy 86 = .ok (.getfield 13, 3) := by decide +kernel
theorem dX8_copy_89 : decode cX8_copy 89 = .ok (.iload_n 1, 1) := by decide +kernel
theorem dX8_copy_90 : decode cX8_copy 90 = .ok (.iaload, 1) := by decide +kernel
theorem dX8_copy_91 : decode cX8_copy 91 = .ok (.if_icmp .gt 18, 3) := by decide +kernel
theorem dX8_copy_94 : decode cX8_copy 94 = .ok (.iload 4, 2) := by decide +kernel
theorem dX8_copy_96 : decode cX8_copy 96 = .ok (.aload_n 0, 1) := by decide +kernel
theorem dX8_copy_97 : decode cX8_copy 97 = .ok (.getfield 13, 3) := by decide +kernel
theorem dX8_copy_100 : decode cX8_copy 100 = .ok (.iload_n 3, 1) := by decide +kernel
theorem dX8_copy_101 : decode cX8_copy 101 = .ok (.iaload, 1) := by decide +kernel
theorem dX8_copy_102 : decode cX8_copy 102 = .ok (.if_icmp .gt 7, 3) := by decide +kernel
theorem dX8_copy_105 : decode cX8_copy 105 = .ok (.iconst 1, 1) := by decide +kernel
theorem dX8_copy_106 : decode cX8_copy 106 = .ok (.goto 4, 3) := by decide +kernel
theorem dX8_copy_109 : decode cX8_copy 109 = .ok (.iconst 0, 1) := by decide +kernel
theorem dX8_copy_110 : decode cX8_copy 110 = .ok (.istore 6, 2) := by decide +kernel
theorem dX8_copy_112 : decode cX8_copy 112 = .ok (.iload 6, 2) := by decide +kernel
theorem dX8_copy_114 : decode cX8_copy 114 = .ok (.ifCond .eq 30, 3) := by decide +kernel
theorem dX8_copy_117 : decode cX8_copy 117 = .ok (.iload 5, 2) := by decide +kernel
theorem dX8_copy_119 : decode cX8_copy 119 = .ok (.aload_n 0, 1) := by decide +kernel
theorem dX8_copy_120 : decode cX8_copy 120 = .ok (.getfield 13, 3) := by decide +kernel
theorem dX8_copy_123 : decode cX8_copy 123 = .ok (.iload_n 1, 1) := by decide +kernel
theorem dX8_copy_124 : decode cX8_copy 124 = .ok (.iaload, 1) := by decide +kernel
theorem dX8_copy_125 : decode cX8_copy 125 = .ok (.iload_n 2, 1) := by decide +kernel
theorem dX8_copy_126 : decode cX8_copy 126 = .ok (.isub, 1) := by decide +kernel
theorem dX8_copy_127 : decode cX8_copy 127 = .ok (.if_icmp .gt 17, 3) := by decide +kernel
theorem dX8_copy_130 : decode cX8_copy 130 = .ok (.iload 5, 2) := by decide +kernel
theorem dX8_copy_132 : decode cX8_copy 132 = .ok (.aload_n 0, 1) := by decide +kernel
theorem dX8_copy_133 : decode cX8_copy 133 = .ok (.getfield 13, 3) := by decide +kernel
theorem dX8_copy_136 : decode cX8_copy 136 = .ok (.iload_n 3, 1) := by decide +kernel
theorem dX8_copy_137 : decode cX8_copy 137 = .ok (.iaload, 1) := by decide +kernel
theorem dX8_copy_138 : decode cX8_copy 138 = .ok (.iload 4, 2) := by decide +kernel
theorem dX8_copy_140 : decode cX8_copy 140 = .ok (.isub, 1) := by decide +kernel
theorem dX8_copy_141 : decode cX8_copy 141 = .ok (.if_icmp .le 9, 3) := by decide +kernel
theorem dX8_copy_144 : decode cX8_copy 144 = .ok (.aload_n 0, 1) := by decide +kernel
theorem dX8_copy_145 : decode cX8_copy 145 = .ok (.iconst 3, 1) := by decide +kernel
theorem dX8_copy_146 : decode cX8_copy 146 = .ok (.invokevirtual 112, 3) := by decide +kernel
theorem dX8_copy_149 : decode cX8_copy 149 = .ok (.ireturn, 1) := by decide +kernel
theorem dX8_copy_150 : decode cX8_copy 150 = .ok (.iload_n 2, 1) := by decide +kernel
theorem dX8_copy_151 : decode cX8_copy 151 = .ok (.iload 4, 2) := by decide +kernel
theorem dX8_copy_153 : decode cX8_copy 153 = .ok (.if_icmp .ge 7, 3) := by decide +kernel
theorem dX8_copy_156 : decode cX8_copy 156 = .ok (.iconst 1, 1) := by decide +kernel
theorem dX8_copy_157 : decode cX8_copy 157 = .ok (.goto 4, 3) := by decide +kernel
theorem dX8_copy_160 : decode cX8_copy 160 = .ok (.iconst 0, 1) := by decide +kernel
theorem dX8_copy_161 : decode cX8_copy 161 = .ok (.istore 7, 2) := by decide +kernel
theorem dX8_copy_163 : decode cX8_copy 163 = .ok (.iconst 0, 1) := by decide +kernel
theorem dX8_copy_164 : decode cX8_copy 164 = .ok (.istore 8, 2) := by decide +kernel
theorem dX8_copy_166 : decode cX8_copy 166 = .ok (.iload 8, 2) := by decide +kernel
theorem dX8_copy_168 : decode cX8_copy 168 = .ok (.iload 5, 2) := by decide +kernel
theorem dX8_copy_170 : decode cX8_copy 170 = .ok (.if_icmp .ge 57, 3) := by decide +kernel
theorem dX8_copy_173 : decode cX8_copy 173 = .ok (.iload 7, 2) := by decide +kernel
theorem dX8_copy_175 : decode cX8_copy 175 = .ok (.ifCond .eq 13, 3) := by decide +kernel
theorem dX8_copy_178 : decode cX8_copy 178 = .ok (.iload 5, 2) := by decide +kernel
theorem dX8_copy_180 : decode cX8_copy 180 = .ok (.iconst 1, 1) := by decide +kernel
theorem dX8_copy_181 : decode cX8_copy 181 = .ok (.isub, 1) := by decide +kernel
theorem dX8_copy_182 : decode cX8_copy 182 = .ok (.iload 8, 2) := by decide +kernel
theorem dX8_copy_184 : decode cX8_copy 184 = .ok (.isub, 1) := by decide +kernel
theorem dX8_copy_185 : decode cX8_copy 185 = .ok (.goto 5, 3) := by decide +kernel
theorem dX8_copy_188 : decode cX8_copy 188 = .ok (.iload 8, 2) := by decide +kernel
theorem dX8_copy_190 : decode cX8_copy 190 = .ok (.istore 9, 2) := by decide +kernel
theorem dX8_copy_192 : decode cX8_copy 192 = .ok (.aload_n 0, 1) := by decide +kernel
theorem dX8_copy_193 : decode cX8_copy 193 = .ok (.getfield 16, 3) := by decide +kernel
theorem dX8_copy_196 : decode cX8_copy 196 = .ok (.bipush 60, 2) := by decide +kernel
theorem dX8_copy_198 : decode cX8_copy 198 = .ok (.iload_n 3, 1) := by decide +kernel
theorem dX8_copy_199 : decode cX8_copy 199 = .ok (.imul, 1) := by decide +kernel
theorem dX8_copy_200 : decode cX8_copy 200 = .ok (.iload 4, 2) := by decide +kernel
theorem dX8_copy_202 : decode cX8_copy 202 = .ok (.iadd, 1) := by decide +kernel
theorem dX8_copy_203 : decode cX8_copy 203 = .ok (.iload 9, 2) := by decide +kernel
theorem dX8_copy_205 : decode cX8_copy 205 = .ok (.iadd, 1) := by decide +kernel
theorem dX8_copy_206 : decode cX8_copy 206 = .ok (.aload_n 0, 1) := by decide +kernel
theorem dX8_copy_207 : decode cX8_copy 207 = .ok (.getfield 16, 3) := by decide +kernel
theorem dX8_copy_210 : decode cX8_copy 210 = .ok (.bipush 60, 2) := by decide +kernel
theorem dX8_copy_212 : decode cX8_copy 212 = .ok (.iload_n 1, 1) := by decide +kernel
theorem dX8_copy_213 : decode cX8_copy 213 = .ok (.imul, 1) := by decide +kernel
theorem dX8_copy_214 : decode cX8_copy 214 = .ok (.iload_n 2, 1) := by decide +kernel
theorem dX8_copy_215 : decode cX8_copy 215 = .ok (.iadd, 1) := by decide +kernel
theorem dX8_copy_216 : decode cX8_copy 216 = .ok (.iload 9, 2) := by decide +kernel
theorem dX8_copy_218 : decode cX8_copy 218 = .ok (.iadd, 1) := by decide +kernel
theorem dX8_copy_219 : decode cX8_copy 219 = .ok (.iaload, 1) := by decide +kernel
theorem dX8_copy_220 : decode cX8_copy 220 = .ok (.iastore, 1) := by decide +kernel
theorem dX8_copy_221 : decode cX8_copy 221 = .ok (.iinc 8 1, 3) := by decide +kernel
theorem dX8_copy_224 : decode cX8_copy 224 = .ok (.goto (-58), 3) := by decide +kernel
theorem dX8_copy_227 : decode cX8_copy 227 = .ok (.iload 5, 2) := by decide +kernel
theorem dX8_copy_229 : decode cX8_copy 229 = .ok (.ireturn, 1) := by decide +kernel
theorem dX8_begins_0 : decode cX8_begins 0 = .ok (.aload_n 0, 1) := by decide +kernel
theorem dX8_begins_1 : decode cX8_begins 1 = .ok (.bipush 31, 2) := by decide +kernel
theorem dX8_begins_3 : decode cX8_begins 3 = .ok (.aload_n 0, 1) := by decide +kernel
theorem dX8_begins_4 : decode cX8_begins 4 = .ok (.getfield 255, 3) := by decide +kernel
theorem dX8_begins_7 : decode cX8_begins 7 = .ok (.imul, 1) := by decide +kernel
theorem dX8_begins_8 : decode cX8_begins 8 = .ok (.iload_n 1, 1) := by decide +kernel
theorem dX8_begins_9 : decode cX8_begins 9 = .ok (.iadd, 1) := by decide +kernel
theorem dX8_begins_10 : decode cX8_begins 10 = .ok (.putfield 255, 3) := by decide +kernel
theorem dX8_begins_13 : decode cX8_begins 13 = .ok (.return_, 1) := by decide +kernel
set_option maxRecDepth 20000 in
theorem ggX8_speak_X8_isRule : GoodIn wsX8_speak wsX8_isRule := goodIn_r _ [7, 8, 14, 15, 16, 17, 18, 19, 20, 21, 22, 23, 24, 25, 26, 27, 28, 29, 30, 31, 32, 33, 34, 35, 36, 37, 38, 39, 40, 41, 42, 43, 44, 45, 46, 47] rfl aw_wsX8_isRule
set_option maxRecDepth 20000 in
theorem gX8_speak_X8_isRule : GoodIn wsX8_speak (wsV RX8 195 RX8 yX8_isRule wsX8_isRule) := goodIn_app (goodIn_r _ [3, 4, 5, 6] rfl (by decide +kernel)) ggX8_speak_X8_isRule
set_option maxRecDepth 20000 in
theorem aw_wsX8_begins : wsX8_begins.all goodWord = true := by decide +kernel
set_option maxRecDepth 20000 in
theorem ggX8_speak_X8_begins : GoodIn wsX8_speak wsX8_begins := goodIn_r _ [12, 13, 14, 15, 16, 17, 18, 19, 20, 21, 22, 23, 24, 25, 26, 27, 28, 29, 30, 31, 32, 33, 34, 35, 36, 37, 38, 39, 40, 41, 42, 43, 44, 45, 46, 47] rfl aw_wsX8_begins
set_option maxRecDepth 20000 in
theorem gX8_speak_X8_begins : GoodIn wsX8_speak (wsV RX8 258 RX8 yX8_begins wsX8_begins) := goodIn_app (goodIn_r _ [9, 10, 11, 6] rfl (by decide +kernel)) ggX8_speak_X8_begins
theorem dX8_speak_0 : decode cX8_speak 0 = .ok (.aload_n 0, 1) := by decide +kernel
theorem dX8_speak_1 : decode cX8_speak 1 = .ok (.iload_n 1, 1) := by decide +kernel
theorem dX8_speak_2 : decode cX8_speak 2 = .ok (.invokevirtual 195, 3) := by decide +kernel
theorem dX8_speak_5 : decode cX8_speak 5 = .ok (.ifCond .ne 5, 3) := by decide +kernel
theorem dX8_speak_8 : decode cX8_speak 8 = .ok (.iconst (-1), 1) := by decide +kernel
theorem dX8_speak_9 : decode cX8_speak 9 = .ok (.ireturn, 1) := by decide +kernel
theorem dX8_speak_10 : decode cX8_speak 10 = .ok (.aload_n 0, 1) := by decide +kernel
theorem dX8_speak_11 : decode cX8_speak 11 = .ok (.getfield 22, 3) := by decide +kernel
theorem dX8_speak_14 : decode cX8_speak 14 = .ok (.iload_n 1, 1) := by decide +kernel
theorem dX8_speak_15 : decode cX8_speak 15 = .ok (.iaload, 1) := by decide +kernel
theorem dX8_speak_16 : decode cX8_speak 16 = .ok (.istore_n 2, 1) := by decide +kernel
theorem dX8_speak_17 : decode cX8_speak 17 = .ok (.aload_n 0, 1) := by decide +kernel
theorem dX8_speak_18 : decode cX8_speak 18 = .ok (.getfield 19, 3) := by decide +kernel
theorem dX8_speak_21 : decode cX8_speak 21 = .ok (.iload_n 1, 1) := by decide +kernel
theorem dX8_speak_22 : decode cX8_speak 22 = .ok (.iaload, 1) := by decide +kernel
theorem dX8_speak_23 : decode cX8_speak 23 = .ok (.lookupswitch 67 #[(1, 25), (2, 40)], 25) := by decide +kernel
theorem dX8_speak_48 : decode cX8_speak 48 = .ok (.aload_n 0, 1) := by decide +kernel
theorem dX8_speak_49 : decode cX8_speak 49 = .ok (.iconst 2, 1) := by decide +kernel
theorem dX8_speak_50 : decode cX8_speak 50 = .ok (.invokevirtual 258, 3) := by decide +kernel
theorem dX8_speak_53 : decode cX8_speak 53 = .ok (.aload_n 0, 1) := by decide +kernel
theorem dX8_speak_54 : decode cX8_speak 54 = .ok (.iconst 1, 1) := by decide +kernel
theorem dX8_speak_55 : decode cX8_speak 55 = .ok (.invokevirtual 258, 3) := by decide +kernel
theorem dX8_speak_58 : decode cX8_speak 58 = .ok (.iload_n 2, 1) := by decide +kernel
theorem dX8_speak_59 : decode cX8_speak 59 = .ok (.bipush 100, 2) := by decide +kernel
theorem dX8_speak_61 : decode cX8_speak 61 = .ok (.iadd, 1) := by decide +kernel
theorem dX8_speak_62 : decode cX8_speak 62 = .ok (.ireturn, 1) := by decide +kernel
theorem dX8_speak_63 : decode cX8_speak 63 = .ok (.aload_n 0, 1) := by decide +kernel
theorem dX8_speak_64 : decode cX8_speak 64 = .ok (.iconst 3, 1) := by decide +kernel
theorem dX8_speak_65 : decode cX8_speak 65 = .ok (.invokevirtual 258, 3) := by decide +kernel
theorem dX8_speak_68 : decode cX8_speak 68 = .ok (.aload_n 0, 1) := by decide +kernel
theorem dX8_speak_69 : decode cX8_speak 69 = .ok (.iconst 2, 1) := by decide +kernel
theorem dX8_speak_70 : decode cX8_speak 70 = .ok (.invokevirtual 258, 3) := by decide +kernel
theorem dX8_speak_73 : decode cX8_speak 73 = .ok (.aload_n 0, 1) := by decide +kernel
theorem dX8_speak_74 : decode cX8_speak 74 = .ok (.iconst 1, 1) := by decide +kernel
theorem dX8_speak_75 : decode cX8_speak 75 = .ok (.invokevirtual 258, 3) := by decide +kernel
theorem dX8_speak_78 : decode cX8_speak 78 = .ok (.aload_n 0, 1) := by decide +kernel
theorem dX8_speak_79 : decode cX8_speak 79 = .ok (.iconst 1, 1) := by decide +kernel
theorem dX8_speak_80 : decode cX8_speak 80 = .ok (.invokevirtual 258, 3) := by decide +kernel
theorem dX8_speak_83 : decode cX8_speak 83 = .ok (.iconst 2, 1) := by decide +kernel
theorem dX8_speak_84 : decode cX8_speak 84 = .ok (.iload_n 2, 1) := by decide +kernel
theorem dX8_speak_85 : decode cX8_speak 85 = .ok (.imul, 1) := by decide +kernel
theorem dX8_speak_86 : decode cX8_speak 86 = .ok (.bipush 100, 2) := by decide +kernel
theorem dX8_speak_88 : decode cX8_speak 88 = .ok (.iadd, 1) := by decide +kernel
theorem dX8_speak_89 : decode cX8_speak 89 = .ok (.ireturn, 1) := by decide +kernel
theorem dX8_speak_90 : decode cX8_speak 90 = .ok (.aload_n 0, 1) := by decide +kernel
theorem dX8_speak_91 : decode cX8_speak 91 = .ok (.iconst 1, 1) := by decide +kernel
theorem dX8_speak_92 : decode cX8_speak 92 = .ok (.invokevirtual 258, 3) := by decide +kernel
theorem dX8_speak_95 : decode cX8_speak 95 = .ok (.iload_n 2, 1) := by decide +kernel
theorem dX8_speak_96 : decode cX8_speak 96 = .ok (.ireturn, 1) := by decide +kernel
set_option maxRecDepth 20000 in
theorem ggX8_quote_X8_isRule : GoodIn wsX8_quote wsX8_isRule := goodIn_r _ [7, 8, 14, 15, 16, 17, 18, 19, 20, 21, 22, 23, 24, 25, 26, 27, 28, 29, 30, 31, 32, 33, 34, 35, 36, 37, 38, 39, 40, 41, 42, 43, 44, 45, 46, 47] rfl aw_wsX8_isRule
set_option maxRecDepth 20000 in
theorem gX8_quote_X8_isRule : GoodIn wsX8_quote (wsV RX8 195 RX8 yX8_isRule wsX8_isRule) := goodIn_app (goodIn_r _ [3, 4, 5, 6] rfl (by decide +kernel)) ggX8_quote_X8_isRule
set_option maxRecDepth 20000 in
theorem ggX8_quote_X8_begins : GoodIn wsX8_quote wsX8_begins := goodIn_r _ [12, 13, 14, 15, 16, 17, 18, 19, 20, 21, 22, 23, 24, 25, 26, 27, 28, 29, 30, 31, 32, 33, 34, 35, 36, 37, 38, 39, 40, 41, 42, 43, 44, 45, 46, 47] rfl aw_wsX8_begins
set_option maxRecDepth 20000 in
theorem gX8_quote_X8_begins : GoodIn wsX8_quote (wsV RX8 258 RX8 yX8_begins wsX8_begins) := goodIn_app (goodIn_r _ [9, 10, 11, 6] rfl (by decide +kernel)) ggX8_quote_X8_begins
theorem dX8_quote_0 : decode cX8_quote 0 = .ok (.aload_n 0, 1) := by decide +kernel
theorem dX8_quote_1 : decode cX8_quote 1 = .ok (.iload_n 1, 1) := by decide +kernel
theorem dX8_quote_2 : decode cX8_quote 2 = .ok (.invokevirtual 195, 3) := by decide +kernel
theorem dX8_quote_5 : decode cX8_quote 5 = .ok (.ifCond .ne 5, 3) := by decide +kernel
theorem dX8_quote_8 : decode cX8_quote 8 = .ok (.iconst (-1), 1) := by decide +kernel
theorem dX8_quote_9 : decode cX8_quote 9 = .ok (.ireturn, 1) := by decide +kernel
theorem dX8_quote_10 : decode cX8_quote 10 = .ok (.aload_n 0, 1) := by decide +kernel
theorem dX8_quote_11 : decode cX8_quote 11 = .ok (.aload_n 0, 1) := by decide +kernel
theorem dX8_quote_12 : decode cX8_quote 12 = .ok (.getfield 19, 3) := by decide +kernel
theorem dX8_quote_15 : decode cX8_quote 15 = .ok (.iload_n 1, 1) := by decide +kernel
theorem dX8_quote_16 : decode cX8_quote 16 = .ok (.iaload, 1) := by decide +kernel
theorem dX8_quote_17 : decode cX8_quote 17 = .ok (.iconst 2, 1) := by decide +kernel
theorem dX8_quote_18 : decode cX8_quote 18 = .ok (.if_icmp .ne 7, 3) := by decide +kernel
theorem dX8_quote_21 : decode cX8_quote 21 = .ok (.iconst 5, 1) := by decide +kernel
theorem dX8_quote_22 : decode cX8_quote 22 = .ok (.goto 4, 3) := by decide +kernel
theorem dX8_quote_25 : decode cX8_quote 25 = .ok (.iconst 4, 1) := by decide +kernel
theorem dX8_quote_26 : decode cX8_quote 26 = .ok (.invokevirtual 258, 3) := by decide +kernel
theorem dX8_quote_29 : decode cX8_quote 29 = .ok (.aload_n 0, 1) := by decide +kernel
theorem dX8_quote_30 : decode cX8_quote 30 = .ok (.getfield 19, 3) := by decide +kernel
theorem dX8_quote_33 : decode cX8_quote 33 = .ok (.iload_n 1, 1) := by decide +kernel
theorem dX8_quote_34 : decode cX8_quote 34 = .ok (.iaload, 1) := by decide +kernel
theorem dX8_quote_35 : decode cX8_quote 35 = .ok (.iconst 2, 1) := by decide +kernel
theorem dX8_quote_36 : decode cX8_quote 36 = .ok (.if_icmp .ne 8, 3) := by decide +kernel
theorem dX8_quote_39 : decode cX8_quote 39 = .ok (.bipush 40, 2) := by decide +kernel
theorem dX8_quote_41 : decode cX8_quote 41 = .ok (.goto 9, 3) := by decide +kernel
theorem dX8_quote_44 : decode cX8_quote 44 = .ok (.aload_n 0, 1) := by decide +kernel
theorem dX8_quote_45 : decode cX8_quote 45 = .ok (.getfield 28, 3) := by decide +kernel
theorem dX8_quote_48 : decode cX8_quote 48 = .ok (.iload_n 1, 1) := by decide +kernel
theorem dX8_quote_49 : decode cX8_quote 49 = .ok (.iaload, 1) := by decide +kernel
theorem dX8_quote_50 : decode cX8_quote 50 = .ok (.ireturn, 1) := by decide +kernel
set_option maxRecDepth 20000 in
theorem ggX8_as_X8_isRule : GoodIn wsX8_as wsX8_isRule := goodIn_r _ [7, 8, 16, 17, 18, 19, 20, 21, 22, 23, 24, 25, 26, 27, 28, 29, 30, 31, 32, 33, 34, 35, 36, 37, 38, 39, 40, 41, 42, 43, 44, 45, 46, 47, 48, 49] rfl aw_wsX8_isRule
set_option maxRecDepth 20000 in
theorem gX8_as_X8_isRule : GoodIn wsX8_as (wsV RX8 195 RX8 yX8_isRule wsX8_isRule) := goodIn_app (goodIn_r _ [3, 4, 5, 6] rfl (by decide +kernel)) ggX8_as_X8_isRule
set_option maxRecDepth 20000 in
theorem ggX8_as_X8_within : GoodIn wsX8_as wsX8_within := goodIn_r _ [11] rfl aw_wsX8_within
set_option maxRecDepth 20000 in
theorem gX8_as_X8_within : GoodIn wsX8_as (va_wsS RX8 88 yX8_within wsX8_within) := goodIn_app (goodIn_r _ [9, 10, 6] rfl (by decide +kernel)) ggX8_as_X8_within
set_option maxRecDepth 20000 in
theorem ggX8_as_X8_fails : GoodIn wsX8_as wsX8_fails := goodIn_r _ [15, 1, 16, 17, 18, 19, 20, 21, 22, 23, 24, 25, 26, 27, 28, 29, 30, 31, 32, 33, 34, 35, 36, 37, 38, 39, 40, 41, 42, 43, 44, 45, 46, 47, 48, 49] rfl aw_wsX8_fails
set_option maxRecDepth 20000 in
theorem gX8_as_X8_fails : GoodIn wsX8_as (wsV RX8 112 RX8 yX8_fails wsX8_fails) := goodIn_app (goodIn_r _ [12, 13, 14, 6] rfl (by decide +kernel)) ggX8_as_X8_fails
theorem dX8_as_0 : decode cX8_as 0 = .ok (.aload_n 0, 1) := by decide +kernel
theorem dX8_as_1 : decode cX8_as 1 = .ok (.iconst 0, 1) := by decide +kernel
theorem dX8_as_2 : decode cX8_as 2 = .ok (.putfield 82, 3) := by decide +kernel
theorem dX8_as_5 : decode cX8_as 5 = .ok (.aload_n 0, 1) := by decide +kernel
theorem dX8_as_6 : decode cX8_as 6 = .ok (.iload_n 1, 1) := by decide +kernel
theorem dX8_as_7 : decode cX8_as 7 = .ok (.invokevirtual 195, 3) := by decide +kernel
theorem dX8_as_10 : decode cX8_as 10 = .ok (.ifCond .ne 5, 3) := by decide +kernel
theorem dX8_as_13 : decode cX8_as 13 = .ok (.iconst (-1), 1) := by decide +kernel
theorem dX8_as_14 : decode cX8_as 14 = .ok (.ireturn, 1) := by decide +kernel
theorem dX8_as_15 : decode cX8_as 15 = .ok (.iload_n 2, 1) := by decide +kernel
theorem dX8_as_16 : decode cX8_as 16 = .ok (.iconst 0, 1) := by decide +kernel
theorem dX8_as_17 : decode cX8_as 17 = .ok (.iconst 2, 1) := by decide +kernel
theorem dX8_as_18 : decode cX8_as 18 = .ok (.invokestatic 88, 3) := by decide +kernel
theorem dX8_as_21 : decode cX8_as 21 = .ok (.ifCond .ne 6, 3) := by decide +kernel
theorem dX8_as_24 : decode cX8_as 24 = .ok (.bipush (-2), 2) := by decide +kernel
theorem dX8_as_26 : decode cX8_as 26 = .ok (.ireturn, 1) := by decide +kernel
theorem dX8_as_27 : decode cX8_as 27 = .ok (.aload_n 0, 1) := by decide +kernel
theorem dX8_as_28 : decode cX8_as 28 = .ok (.getfield 19, 3) := by decide +kernel
theorem dX8_as_31 : decode cX8_as 31 = .ok (.iload_n 1, 1) := by decide +kernel
theorem dX8_as_32 : decode cX8_as 32 = .ok (.iaload, 1) := by decide +kernel
theorem dX8_as_33 : decode cX8_as 33 = .ok (.iload_n 2, 1) := by decide +kernel
theorem dX8_as_34 : decode cX8_as 34 = .ok (.if_icmp .lt 7, 3) := by decide +kernel
theorem dX8_as_37 : decode cX8_as 37 = .ok (.iconst 1, 1) := by decide +kernel
theorem dX8_as_38 : decode cX8_as 38 = .ok (.goto 8, 3) := by decide +kernel
theorem dX8_as_41 : decode cX8_as 41 = .ok (.aload_n 0, 1) := by decide +kernel
theorem dX8_as_42 : decode cX8_as 42 = .ok (.iconst 2, 1) := by decide +kernel
theorem dX8_as_43 : decode cX8_as 43 = .ok (.invokevirtual 112, 3) := by decide +kernel
theorem dX8_as_46 : decode cX8_as 46 = .ok (.ireturn, 1) := by decide +kernel
theorem dX8_trace_0 : decode cX8_trace 0 = .ok (.aload_n 0, 1) := by decide +kernel
theorem dX8_trace_1 : decode cX8_trace 1 = .ok (.getfield 255, 3) := by decide +kernel
theorem dX8_trace_4 : decode cX8_trace 4 = .ok (.ireturn, 1) := by decide +kernel
theorem dX8_fault_0 : decode cX8_fault 0 = .ok (.aload_n 0, 1) := by decide +kernel
theorem dX8_fault_1 : decode cX8_fault 1 = .ok (.getfield 82, 3) := by decide +kernel
theorem dX8_fault_4 : decode cX8_fault 4 = .ok (.ireturn, 1) := by decide +kernel
set_option maxRecDepth 20000 in
theorem ggX8_many_X8_findHolds : GoodIn wsX8_many wsX8_findHolds := goodIn_r _ [8, 9, 10, 11, 12, 13, 14, 15, 7, 16, 17, 2, 18, 19, 20, 21, 22, 23, 24, 25, 26, 27, 28, 29, 30, 31, 32, 33, 50, 51, 52, 53, 54, 55, 56, 57, 58, 59, 60, 61, 62, 63, 64, 65, 66, 67, 68, 69, 70, 71, 72, 73, 74, 75, 76, 77, 78, 79, 80, 81, 82, 83] rfl aw_wsX8_findHolds
set_option maxRecDepth 20000 in
theorem gX8_many_X8_findHolds : GoodIn wsX8_many (wsV RX8 185 RX8 yX8_findHolds wsX8_findHolds) := goodIn_app (goodIn_r _ [4, 5, 6, 7] rfl (by decide +kernel)) ggX8_many_X8_findHolds
set_option maxRecDepth 20000 in
theorem ggX8_many_X8_allHeld : GoodIn wsX8_many wsX8_allHeld := goodIn_r _ [37, 38, 39, 40, 7, 41, 10, 50, 51, 52, 53, 54, 55, 56, 57, 58, 59, 60, 61, 62, 63, 64, 65, 66, 67, 68, 69, 70, 71, 72, 73, 74, 75, 76, 77, 78, 79, 80, 81, 82, 83] rfl aw_wsX8_allHeld
set_option maxRecDepth 20000 in
theorem gX8_many_X8_allHeld : GoodIn wsX8_many (wsV RX8 229 RX8 yX8_allHeld wsX8_allHeld) := goodIn_app (goodIn_r _ [34, 35, 36, 7] rfl (by decide +kernel)) ggX8_many_X8_allHeld
set_option maxRecDepth 20000 in
theorem ggX8_many_X8_allTold : GoodIn wsX8_many wsX8_allTold := goodIn_r _ [45, 46, 47, 48, 7, 49, 11, 50, 51, 52, 53, 54, 55, 56, 57, 58, 59, 60, 61, 62, 63, 64, 65, 66, 67, 68, 69, 70, 71, 72, 73, 74, 75, 76, 77, 78, 79, 80, 81, 82, 83] rfl aw_wsX8_allTold
set_option maxRecDepth 20000 in
theorem gX8_many_X8_allTold : GoodIn wsX8_many (wsV RX8 232 RX8 yX8_allTold wsX8_allTold) := goodIn_app (goodIn_r _ [42, 43, 44, 7] rfl (by decide +kernel)) ggX8_many_X8_allTold
theorem dX8_many_0 : decode cX8_many 0 = .ok (.iload_n 1, 1) := by decide +kernel
theorem dX8_many_1 : decode cX8_many 1 = .ok (.tableswitch 64 0 4 #[35, 40, 45, 54, 59], 35) := by decide +kernel
theorem dX8_many_36 : decode cX8_many 36 = .ok (.aload_n 0, 1) := by decide +kernel
theorem dX8_many_37 : decode cX8_many 37 = .ok (.getfield 92, 3) := by decide +kernel
theorem dX8_many_40 : decode cX8_many 40 = .ok (.ireturn, 1) := by decide +kernel
theorem dX8_many_41 : decode cX8_many 41 = .ok (.aload_n 0, 1) := by decide +kernel
theorem dX8_many_42 : decode cX8_many 42 = .ok (.getfield 95, 3) := by decide +kernel
theorem dX8_many_45 : decode cX8_many 45 = .ok (.ireturn, 1) := by decide +kernel
theorem dX8_many_46 : decode cX8_many 46 = .ok (.aload_n 0, 1) := by decide +kernel
theorem dX8_many_47 : decode cX8_many 47 = .ok (.invokevirtual 185, 3) := by decide +kernel
theorem dX8_many_50 : decode cX8_many 50 = .ok (.aload_n 0, 1) := by decide +kernel
theorem dX8_many_51 : decode cX8_many 51 = .ok (.invokevirtual 229, 3) := by decide +kernel
theorem dX8_many_54 : decode cX8_many 54 = .ok (.ireturn, 1) := by decide +kernel
theorem dX8_many_55 : decode cX8_many 55 = .ok (.aload_n 0, 1) := by decide +kernel
theorem dX8_many_56 : decode cX8_many 56 = .ok (.invokevirtual 232, 3) := by decide +kernel
theorem dX8_many_59 : decode cX8_many 59 = .ok (.ireturn, 1) := by decide +kernel
theorem dX8_many_60 : decode cX8_many 60 = .ok (.aload_n 0, 1) := by decide +kernel
theorem dX8_many_61 : decode cX8_many 61 = .ok (.getfield 135, 3) := by decide +kernel
theorem dX8_many_64 : decode cX8_many 64 = .ok (.ireturn, 1) := by decide +kernel
theorem dX8_many_65 : decode cX8_many 65 = .ok (.bipush (-2), 2) := by decide +kernel
theorem dX8_many_67 : decode cX8_many 67 = .ok (.ireturn, 1) := by decide +kernel
