theorem dX3_isRoundIn_77 : decode cX3_isRoundIn 77 = .ok (.iload_n 3, 1) := by decide +kernel
theorem dX3_isRoundIn_78 : decode cX3_isRoundIn 78 = .ok (.aload_n 0, 1) := by decide +kernel
theorem dX3_isRoundIn_79 : decode cX3_isRoundIn 79 = .ok (.getfield 21, 3) := by decide +kernel
theorem dX3_isRoundIn_82 : decode cX3_isRoundIn 82 = .ok (.getfield 39, 3) := by decide +kernel
theorem dX3_isRoundIn_85 : decode cX3_isRoundIn 85 = .ok (.if_icmp .ge 18, 3) := by decide +kernel
theorem dX3_isRoundIn_88 : decode cX3_isRoundIn 88 = .ok (.iload_n 2, 1) := by decide +kernel
theorem dX3_isRoundIn_89 : decode cX3_isRoundIn 89 = .ok (.aload_n 0, 1) := by decide +kernel
theorem dX3_isRoundIn_90 : decode cX3_isRoundIn 90 = .ok (.getfield 15, 3) := by decide +kernel
theorem dX3_isRoundIn_93 : decode cX3_isRoundIn 93 = .ok (.iload_n 3, 1) := by decide +kernel
theorem dX3_isRoundIn_94 : decode cX3_isRoundIn 94 = .ok (.iaload, 1) := by decide +kernel
theorem dX3_isRoundIn_95 : decode cX3_isRoundIn 95 = .ok (.ior, 1) := by decide +kernel
theorem dX3_isRoundIn_96 : decode cX3_isRoundIn 96 = .ok (.istore_n 2, 1) := by decide +kernel
theorem dX3_isRoundIn_97 : decode cX3_isRoundIn 97 = .ok (.iinc 3 1, 3) := by decide +kernel
theorem dX3_isRoundIn_100 : decode cX3_isRoundIn 100 = .ok (.goto (-23), 3) := by decide +kernel
theorem dX3_isRoundIn_103 : decode cX3_isRoundIn 103 = .ok (.iload_n 2, 1) := by decide +kernel
theorem dX3_isRoundIn_104 : decode cX3_isRoundIn 104 = .ok (.ifCond .ne 5, 3) := by decide +kernel
theorem dX3_isRoundIn_107 : decode cX3_isRoundIn 107 = .ok (.iconst 0, 1) := by decide +kernel
theorem dX3_isRoundIn_108 : decode cX3_isRoundIn 108 = .ok (.ireturn, 1) := by decide +kernel
theorem dX3_isRoundIn_109 : decode cX3_isRoundIn 109 = .ok (.aload_n 0, 1) := by decide +kernel
theorem dX3_isRoundIn_110 : decode cX3_isRoundIn 110 = .ok (.dup, 1) := by decide +kernel
theorem dX3_isRoundIn_111 : decode cX3_isRoundIn 111 = .ok (.getfield 35, 3) := by decide +kernel
theorem dX3_isRoundIn_114 : decode cX3_isRoundIn 114 = .ok (.iconst 1, 1) := by decide +kernel
theorem dX3_isRoundIn_115 : decode cX3_isRoundIn 115 = .ok (.iadd, 1) := by decide +kernel
theorem dX3_isRoundIn_116 : decode cX3_isRoundIn 116 = .ok (.putfield 35, 3) := by decide +kernel
theorem dX3_isRoundIn_119 : decode cX3_isRoundIn 119 = .ok (.iconst 0, 1) := by decide +kernel
theorem dX3_isRoundIn_120 : decode cX3_isRoundIn 120 = .ok (.istore_n 3, 1) := by decide +kernel
theorem dX3_isRoundIn_121 : decode cX3_isRoundIn 121 = .ok (.iload_n 3, 1) := by decide +kernel
theorem dX3_isRoundIn_122 : decode cX3_isRoundIn 122 = .ok (.aload_n 0, 1) := by decide +kernel
theorem dX3_isRoundIn_123 : decode cX3_isRoundIn 123 = .ok (.getfield 21, 3) := by decide +kernel
theorem dX3_isRoundIn_126 : decode cX3_isRoundIn 126 = .ok (.getfield 39, 3) := by decide +kernel
theorem dX3_isRoundIn_129 : decode cX3_isRoundIn 129 = .ok (.if_icmp .ge 24, 3) := by decide +kernel
theorem dX3_isRoundIn_132 : decode cX3_isRoundIn 132 = .ok (.aload_n 0, 1) := by decide +kernel
theorem dX3_isRoundIn_133 : decode cX3_isRoundIn 133 = .ok (.iload_n 3, 1) := by decide +kernel
theorem dX3_isRoundIn_134 : decode cX3_isRoundIn 134 = .ok (.aload_n 0, 1) := by decide +kernel
theorem dX3_isRoundIn_135 : decode cX3_isRoundIn 135 = .ok (.getfield 15, 3) := by decide +kernel
theorem dX3_isRoundIn_138 : decode cX3_isRoundIn 138 = .ok (.iload_n 3, 1) := by decide +kernel
theorem dX3_isRoundIn_139 : decode cX3_isRoundIn 139 = .ok (.iaload, 1) := by decide +kernel
theorem dX3_isRoundIn_140 : decode cX3_isRoundIn 140 = .ok (.aload_n 0, 1) := by decide +kernel
theorem dX3_isRoundIn_141 : decode cX3_isRoundIn 141 = .ok (.getfield 35, 3) := by decide +kernel
theorem dX3_isRoundIn_144 : decode cX3_isRoundIn 144 = .ok (.invokevirtual 47, 3) := by decide +kernel
theorem dX3_isRoundIn_147 : decode cX3_isRoundIn 147 = .ok (.iinc 3 1, 3) := by decide +kernel
theorem dX3_isRoundIn_150 : decode cX3_isRoundIn 150 = .ok (.goto (-29), 3) := by decide +kernel
theorem dX3_isRoundIn_153 : decode cX3_isRoundIn 153 = .ok (.iconst 1, 1) := by decide +kernel
theorem dX3_isRoundIn_154 : decode cX3_isRoundIn 154 = .ok (.ireturn, 1) := by decide +kernel
set_option maxRecDepth 20000 in
theorem aw_wsX3_turnedSet : wsX3_turnedSet.all goodWord = true := by decide +kernel
set_option maxRecDepth 20000 in
theorem ggX3_followBy_X3_turnedSet : GoodIn wsX3_followBy wsX3_turnedSet := goodIn_r _ [9, 10, 11, 12] rfl aw_wsX3_turnedSet
set_option maxRecDepth 20000 in
theorem gX3_followBy_X3_turnedSet : GoodIn wsX3_followBy (va_wsS RX3 79 yX3_turnedSet wsX3_turnedSet) := goodIn_app (goodIn_r _ [6, 7, 8] rfl (by decide +kernel)) ggX3_followBy_X3_turnedSet
set_option maxRecDepth 20000 in
theorem aw_wsX3_joinedSet : wsX3_joinedSet.all goodWord = true := by decide +kernel
set_option maxRecDepth 20000 in
theorem ggX3_followBy_X3_joinedSet : GoodIn wsX3_followBy wsX3_joinedSet := goodIn_r _ [15, 16, 11, 17] rfl aw_wsX3_joinedSet
set_option maxRecDepth 20000 in
theorem gX3_followBy_X3_joinedSet : GoodIn wsX3_followBy (va_wsS RX3 82 yX3_joinedSet wsX3_joinedSet) := goodIn_app (goodIn_r _ [13, 14, 8] rfl (by decide +kernel)) ggX3_followBy_X3_joinedSet
theorem dX3_followBy_0 : decode cX3_followBy 0 = .ok (.aload_n 0, 1) := by decide +kernel
theorem dX3_followBy_1 : decode cX3_followBy 1 = .ok (.getfield 9, 3) := by decide +kernel
theorem dX3_followBy_4 : decode cX3_followBy 4 = .ok (.aload_n 0, 1) := by decide +kernel
theorem dX3_followBy_5 : decode cX3_followBy 5 = .ok (.getfield 21, 3) := by decide +kernel
theorem dX3_followBy_8 : decode cX3_followBy 8 = .ok (.getfield 70, 3) := by decide +kernel
theorem dX3_followBy_11 : decode cX3_followBy 11 = .ok (.iload_n 1, 1) := by decide +kernel
theorem dX3_followBy_12 : decode cX3_followBy 12 = .ok (.iaload, 1) := by decide +kernel
theorem dX3_followBy_13 : decode cX3_followBy 13 = .ok (.iaload, 1) := by decide +kernel
theorem dX3_followBy_14 : decode cX3_followBy 14 = .ok (.istore_n 2, 1) := by decide +kernel
theorem dX3_followBy_15 : decode cX3_followBy 15 = .ok (.aload_n 0, 1) := by decide +kernel
theorem dX3_followBy_16 : decode cX3_followBy 16 = .ok (.getfield 9, 3) := by decide +kernel
theorem dX3_followBy_19 : decode cX3_followBy 19 = .ok (.aload_n 0, 1) := by decide +kernel
theorem dX3_followBy_20 : decode cX3_followBy 20 = .ok (.getfield 21, 3) := by decide +kernel
theorem dX3_followBy_23 : decode cX3_followBy 23 = .ok (.getfield 73, 3) := by decide +kernel
theorem dX3_followBy_26 : decode cX3_followBy 26 = .ok (.iload_n 1, 1) := by decide +kernel
theorem dX3_followBy_27 : decode cX3_followBy 27 = .ok (.iaload, 1) := by decide +kernel
theorem dX3_followBy_28 : decode cX3_followBy 28 = .ok (.iaload, 1) := by decide +kernel
theorem dX3_followBy_29 : decode cX3_followBy 29 = .ok (.istore_n 3, 1) := by decide +kernel
theorem dX3_followBy_30 : decode cX3_followBy 30 = .ok (.aload_n 0, 1) := by decide +kernel
theorem dX3_followBy_31 : decode cX3_followBy 31 = .ok (.getfield 21, 3) := by decide +kernel
theorem dX3_followBy_34 : decode cX3_followBy 34 = .ok (.getfield 76, 3) := by decide +kernel
theorem dX3_followBy_37 : decode cX3_followBy 37 = .ok (.iload_n 1, 1) := by decide +kernel
theorem dX3_followBy_38 : decode cX3_followBy 38 = .ok (.iaload, 1) := by decide +kernel
theorem dX3_followBy_39 : decode cX3_followBy 39 = .ok (.tableswitch 42 1 3 #[25, 30, 36], 25) := by decide +kernel
theorem dX3_followBy_64 : decode cX3_followBy 64 = .ok (.iload_n 2, 1) := by decide +kernel
theorem dX3_followBy_65 : decode cX3_followBy 65 = .ok (.invokestatic 79, 3) := by decide +kernel
theorem dX3_followBy_68 : decode cX3_followBy 68 = .ok (.ireturn, 1) := by decide +kernel
theorem dX3_followBy_69 : decode cX3_followBy 69 = .ok (.iload_n 2, 1) := by decide +kernel
theorem dX3_followBy_70 : decode cX3_followBy 70 = .ok (.iload_n 3, 1) := by decide +kernel
theorem dX3_followBy_71 : decode cX3_followBy 71 = .ok (.invokestatic 82, 3) := by decide +kernel
theorem dX3_followBy_74 : decode cX3_followBy 74 = .ok (.ireturn, 1) := by decide +kernel
theorem dX3_followBy_75 : decode cX3_followBy 75 = .ok (.iload_n 2, 1) := by decide +kernel
theorem dX3_followBy_76 : decode cX3_followBy 76 = .ok (.iload_n 3, 1) := by decide +kernel
theorem dX3_followBy_77 : decode cX3_followBy 77 = .ok (.iconst (-1), 1) := by decide +kernel
theorem dX3_followBy_78 : decode cX3_followBy 78 = .ok (.ixor, 1) := by decide +kernel
theorem dX3_followBy_79 : decode cX3_followBy 79 = .ok (.iand, 1) := by decide +kernel
theorem dX3_followBy_80 : decode cX3_followBy 80 = .ok (.ireturn, 1) := by decide +kernel
theorem dX3_followBy_81 : decode cX3_followBy 81 = .ok (.iload_n 2, 1) := by decide +kernel
theorem dX3_followBy_82 : decode cX3_followBy 82 = .ok (.ireturn, 1) := by decide +kernel
set_option maxRecDepth 20000 in
theorem aw_wsX7_turnedAbout : wsX7_turnedAbout.all goodWord = true := by decide +kernel
set_option maxRecDepth 20000 in
theorem ggX3_turnedSet_X7_turnedAbout : GoodIn wsX3_turnedSet wsX7_turnedAbout := goodIn_r _ [3] rfl aw_wsX7_turnedAbout
set_option maxRecDepth 20000 in
theorem gX3_turnedSet_X7_turnedAbout_n86 : GoodIn wsX3_turnedSet (wsX7_turnedAbout) := ggX3_turnedSet_X7_turnedAbout
theorem dX3_turnedSet_0 : decode cX3_turnedSet 0 = .ok (.iconst 0, 1) := by decide +kernel
theorem dX3_turnedSet_1 : decode cX3_turnedSet 1 = .ok (.istore_n 1, 1) := by decide +kernel
theorem dX3_turnedSet_2 : decode cX3_turnedSet 2 = .ok (.iconst 0, 1) := by decide +kernel
theorem dX3_turnedSet_3 : decode cX3_turnedSet 3 = .ok (.istore_n 2, 1) := by decide +kernel
theorem dX3_turnedSet_4 : decode cX3_turnedSet 4 = .ok (.iload_n 2, 1) := by decide +kernel
theorem dX3_turnedSet_5 : decode cX3_turnedSet 5 = .ok (.bipush 16, 2) := by decide +kernel
theorem dX3_turnedSet_7 : decode cX3_turnedSet 7 = .ok (.if_icmp .ge 26, 3) := by decide +kernel
theorem dX3_turnedSet_10 : decode cX3_turnedSet 10 = .ok (.iload_n 0, 1) := by decide +kernel
theorem dX3_turnedSet_11 : decode cX3_turnedSet 11 = .ok (.iload_n 2, 1) := by decide +kernel
theorem dX3_turnedSet_12 : decode cX3_turnedSet 12 = .ok (.ishr, 1) := by decide +kernel
theorem dX3_turnedSet_13 : decode cX3_turnedSet 13 = .ok (.iconst 1, 1) := by decide +kernel
theorem dX3_turnedSet_14 : decode cX3_turnedSet 14 = .ok (.iand, 1) := by decide +kernel
theorem dX3_turnedSet_15 : decode cX3_turnedSet 15 = .ok (.ifCond .eq 12, 3) := by decide +kernel
theorem dX3_turnedSet_18 : decode cX3_turnedSet 18 = .ok (.iload_n 1, 1) := by decide +kernel
theorem dX3_turnedSet_19 : decode cX3_turnedSet 19 = .ok (.iconst 1, 1) := by decide +kernel
theorem dX3_turnedSet_20 : decode cX3_turnedSet 20 = .ok (.iload_n 2, 1) := by decide +kernel
theorem dX3_turnedSet_21 : decode cX3_turnedSet 21 = .ok (.invokestatic 86, 3) := by decide +kernel
theorem dX3_turnedSet_24 : decode cX3_turnedSet 24 = .ok (.ishl, 1) := by decide +kernel
theorem dX3_turnedSet_25 : decode cX3_turnedSet 25 = .ok (.ior, 1) := by decide +kernel
theorem dX3_turnedSet_26 : decode cX3_turnedSet 26 = .ok (.istore_n 1, 1) := by decide +kernel
theorem dX3_turnedSet_27 : decode cX3_turnedSet 27 = .ok (.iinc 2 1, 3) := by decide +kernel
theorem dX3_turnedSet_30 : decode cX3_turnedSet 30 = .ok (.goto (-26), 3) := by decide +kernel
theorem dX3_turnedSet_33 : decode cX3_turnedSet 33 = .ok (.iload_n 1, 1) := by decide +kernel
theorem dX3_turnedSet_34 : decode cX3_turnedSet 34 = .ok (.ireturn, 1) := by decide +kernel
set_option maxRecDepth 20000 in
theorem aw_wsX7_rowOf : wsX7_rowOf.all goodWord = true := by decide +kernel
set_option maxRecDepth 20000 in
theorem ggX3_joinedSet_X7_rowOf : GoodIn wsX3_joinedSet wsX7_rowOf := goodIn_r _ [3] rfl aw_wsX7_rowOf
set_option maxRecDepth 20000 in
theorem gX3_joinedSet_X7_rowOf_n89 : GoodIn wsX3_joinedSet (wsX7_rowOf) := ggX3_joinedSet_X7_rowOf
theorem dX3_joinedSet_0 : decode cX3_joinedSet 0 = .ok (.iconst 0, 1) := by decide +kernel
theorem dX3_joinedSet_1 : decode cX3_joinedSet 1 = .ok (.istore_n 2, 1) := by decide +kernel
theorem dX3_joinedSet_2 : decode cX3_joinedSet 2 = .ok (.iconst 0, 1) := by decide +kernel
theorem dX3_joinedSet_3 : decode cX3_joinedSet 3 = .ok (.istore_n 3, 1) := by decide +kernel
theorem dX3_joinedSet_4 : decode cX3_joinedSet 4 = .ok (.iload_n 3, 1) := by decide +kernel
theorem dX3_joinedSet_5 : decode cX3_joinedSet 5 = .ok (.bipush 16, 2) := by decide +kernel
theorem dX3_joinedSet_7 : decode cX3_joinedSet 7 = .ok (.if_icmp .ge 33, 3) := by decide +kernel
theorem dX3_joinedSet_10 : decode cX3_joinedSet 10 = .ok (.iload_n 0, 1) := by decide +kernel
theorem dX3_joinedSet_11 : decode cX3_joinedSet 11 = .ok (.iload_n 3, 1) := by decide +kernel
theorem dX3_joinedSet_12 : decode cX3_joinedSet 12 = .ok (.ishr, 1) := by decide +kernel
theorem dX3_joinedSet_13 : decode cX3_joinedSet 13 = .ok (.iconst 1, 1) := by decide +kernel
theorem dX3_joinedSet_14 : decode cX3_joinedSet 14 = .ok (.iand, 1) := by decide +kernel
theorem dX3_joinedSet_15 : decode cX3_joinedSet 15 = .ok (.ifCond .eq 19, 3) := by decide +kernel
theorem dX3_joinedSet_18 : decode cX3_joinedSet 18 = .ok (.iload_n 2, 1) := by decide +kernel
theorem dX3_joinedSet_19 : decode cX3_joinedSet 19 = .ok (.iload_n 1, 1) := by decide +kernel
theorem dX3_joinedSet_20 : decode cX3_joinedSet 20 = .ok (.iload_n 3, 1) := by decide +kernel
theorem dX3_joinedSet_21 : decode cX3_joinedSet 21 = .ok (.iconst 4, 1) := by decide +kernel
theorem dX3_joinedSet_22 : decode cX3_joinedSet 22 = .ok (.irem, 1) := by decide +kernel
theorem dX3_joinedSet_23 : decode cX3_joinedSet 23 = .ok (.invokestatic 89, 3) := by decide +kernel
theorem dX3_joinedSet_26 : decode cX3_joinedSet 26 = .ok (.iconst 4, 1) := by decide +kernel
theorem dX3_joinedSet_27 : decode cX3_joinedSet 27 = .ok (.iload_n 3, 1) := by decide +kernel
theorem dX3_joinedSet_28 : decode cX3_joinedSet 28 = .ok (.iconst 4, 1) := by decide +kernel
theorem dX3_joinedSet_29 : decode cX3_joinedSet 29 = .ok (.idiv, 1) := by decide +kernel
theorem dX3_joinedSet_30 : decode cX3_joinedSet 30 = .ok (.imul, 1) := by decide +kernel
theorem dX3_joinedSet_31 : decode cX3_joinedSet 31 = .ok (.ishl, 1) := by decide +kernel
theorem dX3_joinedSet_32 : decode cX3_joinedSet 32 = .ok (.ior, 1) := by decide +kernel
theorem dX3_joinedSet_33 : decode cX3_joinedSet 33 = .ok (.istore_n 2, 1) := by decide +kernel
theorem dX3_joinedSet_34 : decode cX3_joinedSet 34 = .ok (.iinc 3 1, 3) := by decide +kernel
theorem dX3_joinedSet_37 : decode cX3_joinedSet 37 = .ok (.goto (-33), 3) := by decide +kernel
theorem dX3_joinedSet_40 : decode cX3_joinedSet 40 = .ok (.iload_n 2, 1) := by decide +kernel
theorem dX3_joinedSet_41 : decode cX3_joinedSet 41 = .ok (.ireturn, 1) := by decide +kernel
theorem dX3_isHeld_0 : decode cX3_isHeld 0 = .ok (.aload_n 0, 1) := by decide +kernel
theorem dX3_isHeld_1 : decode cX3_isHeld 1 = .ok (.getfield 9, 3) := by decide +kernel
theorem dX3_isHeld_4 : decode cX3_isHeld 4 = .ok (.iload_n 1, 1) := by decide +kernel
theorem dX3_isHeld_5 : decode cX3_isHeld 5 = .ok (.bipush 16, 2) := by decide +kernel
theorem dX3_isHeld_7 : decode cX3_isHeld 7 = .ok (.idiv, 1) := by decide +kernel
theorem dX3_isHeld_8 : decode cX3_isHeld 8 = .ok (.iaload, 1) := by decide +kernel
theorem dX3_isHeld_9 : decode cX3_isHeld 9 = .ok (.iload_n 1, 1) := by decide +kernel
theorem dX3_isHeld_10 : decode cX3_isHeld 10 = .ok (.bipush 16, 2) := by decide +kernel
theorem dX3_isHeld_12 : decode cX3_isHeld 12 = .ok (.irem, 1) := by decide +kernel
theorem dX3_isHeld_13 : decode cX3_isHeld 13 = .ok (.ishr, 1) := by decide +kernel
theorem dX3_isHeld_14 : decode cX3_isHeld 14 = .ok (.iconst 1, 1) := by decide +kernel
theorem dX3_isHeld_15 : decode cX3_isHeld 15 = .ok (.iand, 1) := by decide +kernel
theorem dX3_isHeld_16 : decode cX3_isHeld 16 = .ok (.ifCond .eq 7, 3) := by decide +kernel
theorem dX3_isHeld_19 : decode cX3_isHeld 19 = .ok (.iconst 1, 1) := by decide +kernel
theorem dX3_isHeld_20 : decode cX3_isHeld 20 = .ok (.goto 4, 3) := by decide +kernel
theorem dX3_isHeld_23 : decode cX3_isHeld 23 = .ok (.iconst 0, 1) := by decide +kernel
theorem dX3_isHeld_24 : decode cX3_isHeld 24 = .ok (.ireturn, 1) := by decide +kernel
set_option maxRecDepth 20000 in
theorem ggX3_held_J6_bitCount_0f7a4 : GoodIn wsX3_held wsJ6_bitCount_0f7a4 := goodIn_r _ [5, 6, 7, 8] rfl aw_wsJ6_bitCount_0f7a4
set_option maxRecDepth 20000 in
theorem gX3_held_J6_bitCount_0f7a4 : GoodIn wsX3_held (va_wsS RX3 92 yJ6_bitCount_0f7a4 wsJ6_bitCount_0f7a4) := goodIn_app (goodIn_r _ [2, 3, 4] rfl (by decide +kernel)) ggX3_held_J6_bitCount_0f7a4
theorem dX3_held_0 : decode cX3_held 0 = .ok (.iconst 0, 1) := by decide +kernel
theorem dX3_held_1 : decode cX3_held 1 = .ok (.istore_n 1, 1) := by decide +kernel
theorem dX3_held_2 : decode cX3_held 2 = .ok (.iconst 0, 1) := by decide +kernel
theorem dX3_held_3 : decode cX3_held 3 = .ok (.istore_n 2, 1) := by decide +kernel
theorem dX3_held_4 : decode cX3_held 4 = .ok (.iload_n 2, 1) := by decide +kernel
theorem dX3_held_5 : decode cX3_held 5 = .ok (.iconst 4, 1) := by decide +kernel
theorem dX3_held_6 : decode cX3_held 6 = .ok (.if_icmp .ge 21, 3) := by decide +kernel
theorem dX3_held_9 : decode cX3_held 9 = .ok (.iload_n 1, 1) := by decide +kernel
theorem dX3_held_10 : decode cX3_held 10 = .ok (.aload_n 0, 1) := by decide +kernel
theorem dX3_held_11 : decode cX3_held 11 = .ok (.getfield 9, 3) := by decide +kernel
theorem dX3_held_14 : decode cX3_held 14 = .ok (.iload_n 2, 1) := by decide +kernel
theorem dX3_held_15 : decode cX3_held 15 = .ok (.iaload, 1) := by decide +kernel
theorem dX3_held_16 : decode cX3_held 16 = .ok (.invokestatic 92, 3) := by decide +kernel
theorem dX3_held_19 : decode cX3_held 19 = .ok (.iadd, 1) := by decide +kernel
theorem dX3_held_20 : decode cX3_held 20 = .ok (.istore_n 1, 1) := by decide +kernel
theorem dX3_held_21 : decode cX3_held 21 = .ok (.iinc 2 1, 3) := by decide +kernel
theorem dX3_held_24 : decode cX3_held 24 = .ok (.goto (-20), 3) := by decide +kernel
theorem dX3_held_27 : decode cX3_held 27 = .ok (.iload_n 1, 1) := by decide +kernel
theorem dX3_held_28 : decode cX3_held 28 = .ok (.ireturn, 1) := by decide +kernel
theorem dX3_bornAt_0 : decode cX3_bornAt 0 = .ok (.iconst 0, 1) := by decide +kernel
theorem dX3_bornAt_1 : decode cX3_bornAt 1 = .ok (.istore_n 2, 1) := by decide +kernel
theorem dX3_bornAt_2 : decode cX3_bornAt 2 = .ok (.iconst 0, 1) := by decide +kernel
theorem dX3_bornAt_3 : decode cX3_bornAt 3 = .ok (.istore_n 3, 1) := by decide +kernel
theorem dX3_bornAt_4 : decode cX3_bornAt 4 = .ok (.iload_n 3, 1) := by decide +kernel
theorem dX3_bornAt_5 : decode cX3_bornAt 5 = .ok (.bipush 64, 2) := by decide +kernel
theorem dX3_bornAt_7 : decode cX3_bornAt 7 = .ok (.if_icmp .ge 22, 3) := by decide +kernel
theorem dX3_bornAt_10 : decode cX3_bornAt 10 = .ok (.aload_n 0, 1) := by decide +kernel
theorem dX3_bornAt_11 : decode cX3_bornAt 11 = .ok (.getfield 18, 3) := by decide +kernel
theorem dX3_bornAt_14 : decode cX3_bornAt 14 = .ok (.iload_n 3, 1) := by decide +kernel
theorem dX3_bornAt_15 : decode cX3_bornAt 15 = .ok (.iaload, 1) := by decide +kernel
theorem dX3_bornAt_16 : decode cX3_bornAt 16 = .ok (.iload_n 1, 1) := by decide +kernel
theorem dX3_bornAt_17 : decode cX3_bornAt 17 = .ok (.if_icmp .ne 6, 3) := by decide +kernel
theorem dX3_bornAt_20 : decode cX3_bornAt 20 = .ok (.iinc 2 1, 3) := by decide +kernel
theorem dX3_bornAt_23 : decode cX3_bornAt 23 = .ok (.iinc 3 1, 3) := by decide +kernel
theorem dX3_bornAt_26 : decode cX3_bornAt 26 = .ok (.goto (-22), 3) := by decide +kernel
theorem dX3_bornAt_29 : decode cX3_bornAt 29 = .ok (.iload_n 2, 1) := by decide +kernel
theorem dX3_bornAt_30 : decode cX3_bornAt 30 = .ok (.ireturn, 1) := by decide +kernel
theorem dX0_init_0 : decode cX0_init 0 = .ok (.aload_n 0, 1) := by decide +kernel
theorem dX0_init_1 : decode cX0_init 1 = .ok (.invokespecial 3, 3) := by decide +kernel
theorem dX0_init_4 : decode cX0_init 4 = .ok (.aload_n 0, 1) := by decide +kernel
theorem dX0_init_5 : decode cX0_init 5 = .ok (.bipush 64, 2) := by decide +kernel
theorem dX0_init_7 : decode cX0_init 7 = .ok (.newarray .long, 2) := by decide +kernel
theorem dX0_init_9 : decode cX0_init 9 = .ok (.putfield 9, 3) := by decide +kernel
theorem dX0_init_12 : decode cX0_init 12 = .ok (.aload_n 0, 1) := by decide +kernel
theorem dX0_init_13 : decode cX0_init 13 = .ok (.bipush 64, 2) := by decide +kernel
theorem dX0_init_15 : decode cX0_init 15 = .ok (.newarray .int, 2) := by decide +kernel
theorem dX0_init_17 : decode cX0_init 17 = .ok (.putfield 15, 3) := by decide +kernel
theorem dX0_init_20 : decode cX0_init 20 = .ok (.aload_n 0, 1) := by decide +kernel
theorem dX0_init_21 : decode cX0_init 21 = .ok (.aload_n 1, 1) := by decide +kernel
theorem dX0_init_22 : decode cX0_init 22 = .ok (.putfield 19, 3) := by decide +kernel
theorem dX0_init_25 : decode cX0_init 25 = .ok (.aload_n 0, 1) := by decide +kernel
theorem dX0_init_26 : decode cX0_init 26 = .ok (.aload_n 2, 1) := by decide +kernel
theorem dX0_init_27 : decode cX0_init 27 = .ok (.putfield 23, 3) := by decide +kernel
theorem dX0_init_30 : decode cX0_init 30 = .ok (.aload_n 0, 1) := by decide +kernel
theorem dX0_init_31 : decode cX0_init 31 = .ok (.aload_n 3, 1) := by decide +kernel
theorem dX0_init_32 : decode cX0_init 32 = .ok (.putfield 27, 3) := by decide +kernel
theorem dX0_init_35 : decode cX0_init 35 = .ok (.return_, 1) := by decide +kernel
set_option maxRecDepth 20000 in
theorem aw_wsX2_isTold : wsX2_isTold.all goodWord = true := by decide +kernel
set_option maxRecDepth 20000 in
theorem ggX0_run_X2_isTold : GoodIn wsX0_run wsX2_isTold := goodIn_r _ [9, 10, 58, 59, 60, 61, 62, 63, 64, 65, 66] rfl aw_wsX2_isTold
set_option maxRecDepth 20000 in
theorem gX0_run_X2_isTold : GoodIn wsX0_run (wsV RX0 31 RX2 yX2_isTold wsX2_isTold) := goodIn_app (goodIn_r _ [5, 6, 7, 8] rfl (by decide +kernel)) ggX0_run_X2_isTold
set_option maxRecDepth 20000 in
theorem aw_wsX0_isCheapened : wsX0_isCheapened.all goodWord = true := by decide +kernel
set_option maxRecDepth 20000 in
theorem ggX0_run_X0_isCheapened : GoodIn wsX0_run wsX0_isCheapened := goodIn_r _ [15, 2, 16, 17, 18, 19, 20, 3, 1, 21, 22, 23, 14, 24, 25, 26, 27, 28, 29, 30, 31, 32, 33, 34, 35, 36, 37, 38, 8, 39, 40, 41, 42, 43, 44, 45, 46, 47, 48, 49, 50, 51, 52, 53, 54, 55, 56, 57, 58, 59, 60, 61, 62, 63, 64, 65, 66, 67, 68, 69, 70, 71, 72] rfl aw_wsX0_isCheapened
set_option maxRecDepth 20000 in
theorem gX0_run_X0_isCheapened : GoodIn wsX0_run (wsV RX0 39 RX0 yX0_isCheapened wsX0_isCheapened) := goodIn_app (goodIn_r _ [11, 12, 13, 14] rfl (by decide +kernel)) ggX0_run_X0_isCheapened
theorem dX0_run_0 : decode cX0_run 0 = .ok (.iconst 0, 1) := by decide +kernel
theorem dX0_run_1 : decode cX0_run 1 = .ok (.istore_n 1, 1) := by decide +kernel
theorem dX0_run_2 : decode cX0_run 2 = .ok (.iload_n 1, 1) := by decide +kernel
theorem dX0_run_3 : decode cX0_run 3 = .ok (.bipush 64, 2) := by decide +kernel
theorem dX0_run_5 : decode cX0_run 5 = .ok (.if_icmp .ge 33, 3) := by decide +kernel
theorem dX0_run_8 : decode cX0_run 8 = .ok (.aload_n 0, 1) := by decide +kernel
theorem dX0_run_9 : decode cX0_run 9 = .ok (.getfield 9, 3) := by decide +kernel
theorem dX0_run_12 : decode cX0_run 12 = .ok (.iload_n 1, 1) := by decide +kernel
theorem dX0_run_13 : decode cX0_run 13 = .ok (.aload_n 0, 1) := by decide +kernel
theorem dX0_run_14 : decode cX0_run 14 = .ok (.getfield 19, 3) := by decide +kernel
theorem dX0_run_17 : decode cX0_run 17 = .ok (.iload_n 1, 1) := by decide +kernel
theorem dX0_run_18 : decode cX0_run 18 = .ok (.invokevirtual 31, 3) := by decide +kernel
theorem dX0_run_21 : decode cX0_run 21 = .ok (.ifCond .eq 7, 3) := by decide +kernel
theorem dX0_run_24 : decode cX0_run 24 = .ok (.lconst 0, 1) := by decide +kernel
theorem dX0_run_25 : decode cX0_run 25 = .ok (.goto 6, 3) := by decide +kernel
theorem dX0_run_28 : decode cX0_run 28 = .ok (.ldc2_w 37, 3) := by decide +kernel
theorem dX0_run_31 : decode cX0_run 31 = .ok (.lastore, 1) := by decide +kernel
theorem dX0_run_32 : decode cX0_run 32 = .ok (.iinc 1 1, 3) := by decide +kernel
theorem dX0_run_35 : decode cX0_run 35 = .ok (.goto (-33), 3) := by decide +kernel
theorem dX0_run_38 : decode cX0_run 38 = .ok (.iconst 1, 1) := by decide +kernel
theorem dX0_run_39 : decode cX0_run 39 = .ok (.istore_n 1, 1) := by decide +kernel
theorem dX0_run_40 : decode cX0_run 40 = .ok (.iconst 0, 1) := by decide +kernel
theorem dX0_run_41 : decode cX0_run 41 = .ok (.istore_n 2, 1) := by decide +kernel
theorem dX0_run_42 : decode cX0_run 42 = .ok (.iload_n 2, 1) := by decide +kernel
theorem dX0_run_43 : decode cX0_run 43 = .ok (.bipush 64, 2) := by decide +kernel
theorem dX0_run_45 : decode cX0_run 45 = .ok (.if_icmp .gt 18, 3) := by decide +kernel
theorem dX0_run_48 : decode cX0_run 48 = .ok (.iload_n 1, 1) := by decide +kernel
theorem dX0_run_49 : decode cX0_run 49 = .ok (.ifCond .eq 14, 3) := by decide +kernel
theorem dX0_run_52 : decode cX0_run 52 = .ok (.aload_n 0, 1) := by decide +kernel
theorem dX0_run_53 : decode cX0_run 53 = .ok (.invokevirtual 39, 3) := by decide +kernel
theorem dX0_run_56 : decode cX0_run 56 = .ok (.istore_n 1, 1) := by decide +kernel
theorem dX0_run_57 : decode cX0_run 57 = .ok (.iinc 2 1, 3) := by decide +kernel
theorem dX0_run_60 : decode cX0_run 60 = .ok (.goto (-18), 3) := by decide +kernel
theorem dX0_run_63 : decode cX0_run 63 = .ok (.aload_n 0, 1) := by decide +kernel
theorem dX0_run_64 : decode cX0_run 64 = .ok (.iconst 0, 1) := by decide +kernel
theorem dX0_run_65 : decode cX0_run 65 = .ok (.putfield 43, 3) := by decide +kernel
theorem dX0_run_68 : decode cX0_run 68 = .ok (.return_, 1) := by decide +kernel
set_option maxRecDepth 20000 in
theorem aw_wsX0_wayBy : wsX0_wayBy.all goodWord = true := by decide +kernel
set_option maxRecDepth 20000 in
theorem ggX0_isCheapened_X0_wayBy : GoodIn wsX0_isCheapened wsX0_wayBy := goodIn_r _ [13, 1, 14, 7, 15, 16, 17, 18, 4, 19, 8, 20, 21, 22, 23, 12, 24, 25, 26, 27, 28, 29, 30, 31, 32, 33, 34, 35, 36, 37, 38, 39, 40, 41, 42, 43, 44, 45, 46, 47, 48, 49, 50, 51, 52, 53, 54, 55, 56, 57, 58, 59, 60, 61, 62] rfl aw_wsX0_wayBy
set_option maxRecDepth 20000 in
theorem gX0_isCheapened_X0_wayBy : GoodIn wsX0_isCheapened (wsV RX0 62 RX0 yX0_wayBy wsX0_wayBy) := goodIn_app (goodIn_r _ [9, 10, 11, 12] rfl (by decide +kernel)) ggX0_isCheapened_X0_wayBy
theorem dX0_isCheapened_0 : decode cX0_isCheapened 0 = .ok (.iconst 0, 1) := by decide +kernel
theorem dX0_isCheapened_1 : decode cX0_isCheapened 1 = .ok (.istore_n 1, 1) := by decide +kernel
theorem dX0_isCheapened_2 : decode cX0_isCheapened 2 = .ok (.iconst 0, 1) := by decide +kernel
theorem dX0_isCheapened_3 : decode cX0_isCheapened 3 = .ok (.istore_n 2, 1) := by decide +kernel
theorem dX0_isCheapened_4 : decode cX0_isCheapened 4 = .ok (.iload_n 2, 1) := by decide +kernel
theorem dX0_isCheapened_5 : decode cX0_isCheapened 5 = .ok (.aload_n 0, 1) := by decide +kernel
theorem dX0_isCheapened_6 : decode cX0_isCheapened 6 = .ok (.getfield 19, 3) := by decide +kernel
theorem dX0_isCheapened_9 : decode cX0_isCheapened 9 = .ok (.getfield 47, 3) := by decide +kernel
theorem dX0_isCheapened_12 : decode cX0_isCheapened 12 = .ok (.if_icmp .ge 117, 3) := by decide +kernel
theorem dX0_isCheapened_15 : decode cX0_isCheapened 15 = .ok (.aload_n 0, 1) := by decide +kernel
theorem dX0_isCheapened_16 : decode cX0_isCheapened 16 = .ok (.getfield 19, 3) := by decide +kernel
theorem dX0_isCheapened_19 : decode cX0_isCheapened 19 = .ok (.getfield 51, 3) := by decide +kernel
theorem dX0_isCheapened_22 : decode cX0_isCheapened 22 = .ok (.iload_n 2, 1) := by decide +kernel
theorem dX0_isCheapened_23 : decode cX0_isCheapened 23 = .ok (.iaload, 1) := by decide +kernel
theorem dX0_isCheapened_24 : decode cX0_isCheapened 24 = .ok (.istore_n 3, 1) := by decide +kernel
theorem dX0_isCheapened_25 : decode cX0_isCheapened 25 = .ok (.aload_n 0, 1) := by decide +kernel
theorem dX0_isCheapened_26 : decode cX0_isCheapened 26 = .ok (.getfield 27, 3) := by decide +kernel
theorem dX0_isCheapened_29 : decode cX0_isCheapened 29 = .ok (.getfield 54, 3) := by decide +kernel
theorem dX0_isCheapened_32 : decode cX0_isCheapened 32 = .ok (.iload_n 3, 1) := by decide +kernel
theorem dX0_isCheapened_33 : decode cX0_isCheapened 33 = .ok (.iaload, 1) := by decide +kernel
theorem dX0_isCheapened_34 : decode cX0_isCheapened 34 = .ok (.aload_n 0, 1) := by decide +kernel
theorem dX0_isCheapened_35 : decode cX0_isCheapened 35 = .ok (.getfield 19, 3) := by decide +kernel
theorem dX0_isCheapened_38 : decode cX0_isCheapened 38 = .ok (.getfield 59, 3) := by decide +kernel
theorem dX0_isCheapened_41 : decode cX0_isCheapened 41 = .ok (.iload_n 3, 1) := by decide +kernel
theorem dX0_isCheapened_42 : decode cX0_isCheapened 42 = .ok (.iaload, 1) := by decide +kernel
theorem dX0_isCheapened_43 : decode cX0_isCheapened 43 = .ok (.iconst (-1), 1) := by decide +kernel
theorem dX0_isCheapened_44 : decode cX0_isCheapened 44 = .ok (.ixor, 1) := by decide +kernel
theorem dX0_isCheapened_45 : decode cX0_isCheapened 45 = .ok (.iand, 1) := by decide +kernel
theorem dX0_isCheapened_46 : decode cX0_isCheapened 46 = .ok (.istore 4, 2) := by decide +kernel
theorem dX0_isCheapened_48 : decode cX0_isCheapened 48 = .ok (.iconst 0, 1) := by decide +kernel
theorem dX0_isCheapened_49 : decode cX0_isCheapened 49 = .ok (.istore 5, 2) := by decide +kernel
theorem dX0_isCheapened_51 : decode cX0_isCheapened 51 = .ok (.iload 5, 2) := by decide +kernel
theorem dX0_isCheapened_53 : decode cX0_isCheapened 53 = .ok (.bipush 16, 2) := by decide +kernel
theorem dX0_isCheapened_55 : decode cX0_isCheapened 55 = .ok (.if_icmp .ge 68, 3) := by decide +kernel
theorem dX0_isCheapened_58 : decode cX0_isCheapened 58 = .ok (.iload 4, 2) := by decide +kernel
theorem dX0_isCheapened_60 : decode cX0_isCheapened 60 = .ok (.iload 5, 2) := by decide +kernel
theorem dX0_isCheapened_62 : decode cX0_isCheapened 62 = .ok (.ishr, 1) := by decide +kernel
theorem dX0_isCheapened_63 : decode cX0_isCheapened 63 = .ok (.iconst 1, 1) := by decide +kernel
theorem dX0_isCheapened_64 : decode cX0_isCheapened 64 = .ok (.iand, 1) := by decide +kernel
theorem dX0_isCheapened_65 : decode cX0_isCheapened 65 = .ok (.ifCond .ne 9, 3) := by decide +kernel
theorem dX0_isCheapened_68 : decode cX0_isCheapened 68 = .ok (.ldc2_w 37, 3) := by decide +kernel
theorem dX0_isCheapened_71 : decode cX0_isCheapened 71 = .ok (.goto 10, 3) := by decide +kernel
theorem dX0_isCheapened_74 : decode cX0_isCheapened 74 = .ok (.aload_n 0, 1) := by decide +kernel
theorem dX0_isCheapened_75 : decode cX0_isCheapened 75 = .ok (.iload_n 2, 1) := by decide +kernel
theorem dX0_isCheapened_76 : decode cX0_isCheapened 76 = .ok (.iload 5, 2) := by decide +kernel
theorem dX0_isCheapened_78 : decode cX0_isCheapened 78 = .ok (.invokevirtual 62, 3) := by decide +kernel
theorem dX0_isCheapened_81 : decode cX0_isCheapened 81 = .ok (.lstore 6, 2) := by decide +kernel
theorem dX0_isCheapened_83 : decode cX0_isCheapened 83 = .ok (.lload 6, 2) := by decide +kernel
theorem dX0_isCheapened_85 : decode cX0_isCheapened 85 = .ok (.aload_n 0, 1) := by decide +kernel
theorem dX0_isCheapened_86 : decode cX0_isCheapened 86 = .ok (.getfield 9, 3) := by decide +kernel
theorem dX0_isCheapened_89 : decode cX0_isCheapened 89 = .ok (.bipush 16, 2) := by decide +kernel
theorem dX0_isCheapened_91 : decode cX0_isCheapened 91 = .ok (.iload_n 3, 1) := by decide +kernel
theorem dX0_isCheapened_92 : decode cX0_isCheapened 92 = .ok (.imul, 1) := by decide +kernel
theorem dX0_isCheapened_93 : decode cX0_isCheapened 93 = .ok (.iload 5, 2) := by decide +kernel
theorem dX0_isCheapened_95 : decode cX0_isCheapened 95 = .ok (.iadd, 1) := by decide +kernel
theorem dX0_isCheapened_96 : decode cX0_isCheapened 96 = .ok (.laload, 1) := by decide +kernel
theorem dX0_isCheapened_97 : decode cX0_isCheapened 97 = .ok (.lcmp, 1) := by decide +kernel
theorem dX0_isCheapened_98 : decode cX0_isCheapened 98 = .ok (.ifCond .ge 19, 3) := by decide +kernel
theorem dX0_isCheapened_101 : decode cX0_isCheapened 101 = .ok (.aload_n 0, 1) := by decide +kernel
theorem dX0_isCheapened_102 : decode cX0_isCheapened 102 = .ok (.getfield 9, 3) := by decide +kernel
theorem dX0_isCheapened_105 : decode cX0_isCheapened 105 = .ok (.bipush 16, 2) := by decide +kernel
theorem dX0_isCheapened_107 : decode cX0_isCheapened 107 = .ok (.iload_n 3, 1) := by decide +kernel
theorem dX0_isCheapened_108 : decode cX0_isCheapened 108 = .ok (.imul, 1) := by decide +kernel
theorem dX0_isCheapened_109 : decode cX0_isCheapened 109 = .ok (.iload 5, 2) := by decide +kernel
theorem dX0_isCheapened_111 : decode cX0_isCheapened 111 = .ok (.iadd, 1) := by decide +kernel
theorem dX0_isCheapened_112 : decode cX0_isCheapened 112 = .ok (.lload 6, 2) := by decide +kernel
theorem dX0_isCheapened_114 : decode cX0_isCheapened 114 = .ok (.lastore, 1) := by decide +kernel
theorem dX0_isCheapened_115 : decode cX0_isCheapened 115 = .ok (.iconst 1, 1) := by decide +kernel
theorem dX0_isCheapened_116 : decode cX0_isCheapened 116 = .ok (.istore_n 1, 1) := by decide +kernel
theorem dX0_isCheapened_117 : decode cX0_isCheapened 117 = .ok (.iinc 5 1, 3) := by decide +kernel
theorem dX0_isCheapened_120 : decode cX0_isCheapened 120 = .ok (.goto (-69), 3) := by decide +kernel
theorem dX0_isCheapened_123 : decode cX0_isCheapened 123 = .ok (.iinc 2 1, 3) := by decide +kernel
theorem dX0_isCheapened_126 : decode cX0_isCheapened 126 = .ok (.goto (-122), 3) := by decide +kernel
theorem dX0_isCheapened_129 : decode cX0_isCheapened 129 = .ok (.iload_n 1, 1) := by decide +kernel
theorem dX0_isCheapened_130 : decode cX0_isCheapened 130 = .ok (.ireturn, 1) := by decide +kernel
set_option maxRecDepth 20000 in
theorem aw_wsX0_partsThrough : wsX0_partsThrough.all goodWord = true := by decide +kernel
set_option maxRecDepth 20000 in
theorem ggX0_wayBy_X0_partsThrough : GoodIn wsX0_wayBy wsX0_partsThrough := goodIn_r _ [16, 1, 11, 9, 10, 33, 34, 35, 36, 37, 38, 39, 40, 41, 42, 43, 44, 45, 46, 47, 48] rfl aw_wsX0_partsThrough
set_option maxRecDepth 20000 in
theorem gX0_wayBy_X0_partsThrough : GoodIn wsX0_wayBy (wsV RX0 69 RX0 yX0_partsThrough wsX0_partsThrough) := goodIn_app (goodIn_r _ [12, 13, 14, 15] rfl (by decide +kernel)) ggX0_wayBy_X0_partsThrough
set_option maxRecDepth 20000 in
theorem aw_wsX2_cost : wsX2_cost.all goodWord = true := by decide +kernel
set_option maxRecDepth 20000 in
theorem ggX0_wayBy_X2_cost : GoodIn wsX0_wayBy wsX2_cost := goodIn_r _ [21, 22, 23, 40, 41, 42, 43, 44, 45, 46, 47, 48] rfl aw_wsX2_cost
set_option maxRecDepth 20000 in
theorem gX0_wayBy_X2_cost : GoodIn wsX0_wayBy (wsV RX0 79 RX2 yX2_cost wsX2_cost) := goodIn_app (goodIn_r _ [17, 18, 19, 20] rfl (by decide +kernel)) ggX0_wayBy_X2_cost
set_option maxRecDepth 20000 in
theorem aw_wsX3_isHeld : wsX3_isHeld.all goodWord = true := by decide +kernel
set_option maxRecDepth 20000 in
theorem ggX0_wayBy_X3_isHeld : GoodIn wsX0_wayBy wsX3_isHeld := goodIn_r _ [28, 29, 49, 50, 51, 52, 53, 54] rfl aw_wsX3_isHeld
set_option maxRecDepth 20000 in
theorem gX0_wayBy_X3_isHeld : GoodIn wsX0_wayBy (wsV RX0 86 RX3 yX3_isHeld wsX3_isHeld) := goodIn_app (goodIn_r _ [24, 25, 26, 27] rfl (by decide +kernel)) ggX0_wayBy_X3_isHeld
set_option maxRecDepth 20000 in
theorem ggX0_wayBy_X7_turnedAbout : GoodIn wsX0_wayBy wsX7_turnedAbout := goodIn_r _ [32] rfl aw_wsX7_turnedAbout
set_option maxRecDepth 20000 in
theorem gX0_wayBy_X7_turnedAbout_n89 : GoodIn wsX0_wayBy (wsX7_turnedAbout) := ggX0_wayBy_X7_turnedAbout
theorem dX0_wayBy_0 : decode cX0_wayBy 0 = .ok (.aload_n 0, 1) := by decide +kernel
theorem dX0_wayBy_1 : decode cX0_wayBy 1 = .ok (.getfield 19, 3) := by decide +kernel
theorem dX0_wayBy_4 : decode cX0_wayBy 4 = .ok (.getfield 66, 3) := by decide +kernel
theorem dX0_wayBy_7 : decode cX0_wayBy 7 = .ok (.iload_n 1, 1) := by decide +kernel
theorem dX0_wayBy_8 : decode cX0_wayBy 8 = .ok (.iaload, 1) := by decide +kernel
theorem dX0_wayBy_9 : decode cX0_wayBy 9 = .ok (.istore_n 3, 1) := by decide +kernel
theorem dX0_wayBy_10 : decode cX0_wayBy 10 = .ok (.iload_n 3, 1) := by decide +kernel
theorem dX0_wayBy_11 : decode cX0_wayBy 11 = .ok (.iconst 2, 1) := by decide +kernel
theorem dX0_wayBy_12 : decode cX0_wayBy 12 = .ok (.if_icmp .ne 51, 3) := by decide +kernel
theorem dX0_wayBy_15 : decode cX0_wayBy 15 = .ok (.ldc2_w 37, 3) := by decide +kernel
theorem dX0_wayBy_18 : decode cX0_wayBy 18 = .ok (.lstore 4, 2) := by decide +kernel
theorem dX0_wayBy_20 : decode cX0_wayBy 20 = .ok (.iconst 0, 1) := by decide +kernel
theorem dX0_wayBy_21 : decode cX0_wayBy 21 = .ok (.istore 6, 2) := by decide +kernel
theorem dX0_wayBy_23 : decode cX0_wayBy 23 = .ok (.iload 6, 2) := by decide +kernel
theorem dX0_wayBy_25 : decode cX0_wayBy 25 = .ok (.iconst 4, 1) := by decide +kernel
theorem dX0_wayBy_26 : decode cX0_wayBy 26 = .ok (.if_icmp .ge 24, 3) := by decide +kernel
theorem dX0_wayBy_29 : decode cX0_wayBy 29 = .ok (.lload 4, 2) := by decide +kernel
theorem dX0_wayBy_31 : decode cX0_wayBy 31 = .ok (.aload_n 0, 1) := by decide +kernel
theorem dX0_wayBy_32 : decode cX0_wayBy 32 = .ok (.iload_n 1, 1) := by decide +kernel
theorem dX0_wayBy_33 : decode cX0_wayBy 33 = .ok (.iload_n 2, 1) := by decide +kernel
theorem dX0_wayBy_34 : decode cX0_wayBy 34 = .ok (.iload 6, 2) := by decide +kernel
theorem dX0_wayBy_36 : decode cX0_wayBy 36 = .ok (.invokevirtual 69, 3) := by decide +kernel
theorem dX0_wayBy_39 : decode cX0_wayBy 39 = .ok (.invokestatic 73, 3) := by decide +kernel
theorem dX0_wayBy_42 : decode cX0_wayBy 42 = .ok (.lstore 4, 2) := by decide +kernel
theorem dX0_wayBy_44 : decode cX0_wayBy 44 = .ok (.iinc 6 1, 3) := by decide +kernel
theorem dX0_wayBy_47 : decode cX0_wayBy 47 = .ok (.goto (-24), 3) := by decide +kernel
theorem dX0_wayBy_50 : decode cX0_wayBy 50 = .ok (.aload_n 0, 1) := by decide +kernel
theorem dX0_wayBy_51 : decode cX0_wayBy 51 = .ok (.getfield 19, 3) := by decide +kernel
theorem dX0_wayBy_54 : decode cX0_wayBy 54 = .ok (.iload_n 1, 1) := by decide +kernel
theorem dX0_wayBy_55 : decode cX0_wayBy 55 = .ok (.invokevirtual 79, 3) := by decide +kernel
theorem dX0_wayBy_58 : decode cX0_wayBy 58 = .ok (.i2l, 1) := by decide +kernel
theorem dX0_wayBy_59 : decode cX0_wayBy 59 = .ok (.lload 4, 2) := by decide +kernel
theorem dX0_wayBy_61 : decode cX0_wayBy 61 = .ok (.ladd, 1) := by decide +kernel
theorem dX0_wayBy_62 : decode cX0_wayBy 62 = .ok (.lreturn, 1) := by decide +kernel
theorem dX0_wayBy_63 : decode cX0_wayBy 63 = .ok (.iload_n 3, 1) := by decide +kernel
theorem dX0_wayBy_64 : decode cX0_wayBy 64 = .ok (.iconst 3, 1) := by decide +kernel
theorem dX0_wayBy_65 : decode cX0_wayBy 65 = .ok (.if_icmp .ne 31, 3) := by decide +kernel
theorem dX0_wayBy_68 : decode cX0_wayBy 68 = .ok (.aload_n 0, 1) := by decide +kernel
theorem dX0_wayBy_69 : decode cX0_wayBy 69 = .ok (.getfield 27, 3) := by decide +kernel
theorem dX0_wayBy_72 : decode cX0_wayBy 72 = .ok (.bipush 16, 2) := by decide +kernel
theorem dX0_wayBy_74 : decode cX0_wayBy 74 = .ok (.aload_n 0, 1) := by decide +kernel
theorem dX0_wayBy_75 : decode cX0_wayBy 75 = .ok (.getfield 19, 3) := by decide +kernel
theorem dX0_wayBy_78 : decode cX0_wayBy 78 = .ok (.getfield 83, 3) := by decide +kernel
theorem dX0_wayBy_81 : decode cX0_wayBy 81 = .ok (.iload_n 1, 1) := by decide +kernel
theorem dX0_wayBy_82 : decode cX0_wayBy 82 = .ok (.iaload, 1) := by decide +kernel
theorem dX0_wayBy_83 : decode cX0_wayBy 83 = .ok (.imul, 1) := by decide +kernel
theorem dX0_wayBy_84 : decode cX0_wayBy 84 = .ok (.iload_n 2, 1) := by decide +kernel
theorem dX0_wayBy_85 : decode cX0_wayBy 85 = .ok (.iadd, 1) := by decide +kernel
theorem dX0_wayBy_86 : decode cX0_wayBy 86 = .ok (.invokevirtual 86, 3) := by decide +kernel
theorem dX0_wayBy_89 : decode cX0_wayBy 89 = .ok (.ifCond .eq 7, 3) := by decide +kernel
theorem dX0_wayBy_92 : decode cX0_wayBy 92 = .ok (.ldc2_w 37, 3) := by decide +kernel
theorem dX0_wayBy_95 : decode cX0_wayBy 95 = .ok (.lreturn, 1) := by decide +kernel
theorem dX0_wayBy_96 : decode cX0_wayBy 96 = .ok (.iload_n 3, 1) := by decide +kernel
theorem dX0_wayBy_97 : decode cX0_wayBy 97 = .ok (.iconst 1, 1) := by decide +kernel
theorem dX0_wayBy_98 : decode cX0_wayBy 98 = .ok (.if_icmp .ne 10, 3) := by decide +kernel
theorem dX0_wayBy_101 : decode cX0_wayBy 101 = .ok (.iload_n 2, 1) := by decide +kernel
theorem dX0_wayBy_102 : decode cX0_wayBy 102 = .ok (.invokestatic 89, 3) := by decide +kernel
theorem dX0_wayBy_105 : decode cX0_wayBy 105 = .ok (.goto 4, 3) := by decide +kernel
theorem dX0_wayBy_108 : decode cX0_wayBy 108 = .ok (.iload_n 2, 1) := by decide +kernel
theorem dX0_wayBy_109 : decode cX0_wayBy 109 = .ok (.istore 4, 2) := by decide +kernel
theorem dX0_wayBy_111 : decode cX0_wayBy 111 = .ok (.aload_n 0, 1) := by decide +kernel
theorem dX0_wayBy_112 : decode cX0_wayBy 112 = .ok (.getfield 19, 3) := by decide +kernel
theorem dX0_wayBy_115 : decode cX0_wayBy 115 = .ok (.iload_n 1, 1) := by decide +kernel
theorem dX0_wayBy_116 : decode cX0_wayBy 116 = .ok (.invokevirtual 79, 3) := by decide +kernel
theorem dX0_wayBy_119 : decode cX0_wayBy 119 = .ok (.i2l, 1) := by decide +kernel
theorem dX0_wayBy_120 : decode cX0_wayBy 120 = .ok (.aload_n 0, 1) := by decide +kernel
theorem dX0_wayBy_121 : decode cX0_wayBy 121 = .ok (.getfield 9, 3) := by decide +kernel
theorem dX0_wayBy_124 : decode cX0_wayBy 124 = .ok (.bipush 16, 2) := by decide +kernel
theorem dX0_wayBy_126 : decode cX0_wayBy 126 = .ok (.aload_n 0, 1) := by decide +kernel
theorem dX0_wayBy_127 : decode cX0_wayBy 127 = .ok (.getfield 19, 3) := by decide +kernel
theorem dX0_wayBy_130 : decode cX0_wayBy 130 = .ok (.getfield 92, 3) := by decide +kernel
theorem dX0_wayBy_133 : decode cX0_wayBy 133 = .ok (.iload_n 1, 1) := by decide +kernel
theorem dX0_wayBy_134 : decode cX0_wayBy 134 = .ok (.iaload, 1) := by decide +kernel
theorem dX0_wayBy_135 : decode cX0_wayBy 135 = .ok (.imul, 1) := by decide +kernel
theorem dX0_wayBy_136 : decode cX0_wayBy 136 = .ok (.iload 4, 2) := by decide +kernel
theorem dX0_wayBy_138 : decode cX0_wayBy 138 = .ok (.iadd, 1) := by decide +kernel
theorem dX0_wayBy_139 : decode cX0_wayBy 139 = .ok (.laload, 1) := by decide +kernel
theorem dX0_wayBy_140 : decode cX0_wayBy 140 = .ok (.ladd, 1) := by decide +kernel
theorem dX0_wayBy_141 : decode cX0_wayBy 141 = .ok (.lreturn, 1) := by decide +kernel
theorem dX0_partsThrough_0 : decode cX0_partsThrough 0 = .ok (.bipush 16, 2) := by decide +kernel
theorem dX0_partsThrough_2 : decode cX0_partsThrough 2 = .ok (.aload_n 0, 1) := by decide +kernel
theorem dX0_partsThrough_3 : decode cX0_partsThrough 3 = .ok (.getfield 19, 3) := by decide +kernel
theorem dX0_partsThrough_6 : decode cX0_partsThrough 6 = .ok (.getfield 92, 3) := by decide +kernel
theorem dX0_partsThrough_9 : decode cX0_partsThrough 9 = .ok (.iload_n 1, 1) := by decide +kernel
theorem dX0_partsThrough_10 : decode cX0_partsThrough 10 = .ok (.iaload, 1) := by decide +kernel
theorem dX0_partsThrough_11 : decode cX0_partsThrough 11 = .ok (.imul, 1) := by decide +kernel
theorem dX0_partsThrough_12 : decode cX0_partsThrough 12 = .ok (.iload_n 2, 1) := by decide +kernel
theorem dX0_partsThrough_13 : decode cX0_partsThrough 13 = .ok (.iconst 4, 1) := by decide +kernel
theorem dX0_partsThrough_14 : decode cX0_partsThrough 14 = .ok (.idiv, 1) := by decide +kernel
theorem dX0_partsThrough_15 : decode cX0_partsThrough 15 = .ok (.iconst 4, 1) := by decide +kernel
theorem dX0_partsThrough_16 : decode cX0_partsThrough 16 = .ok (.imul, 1) := by decide +kernel
theorem dX0_partsThrough_17 : decode cX0_partsThrough 17 = .ok (.iadd, 1) := by decide +kernel
theorem dX0_partsThrough_18 : decode cX0_partsThrough 18 = .ok (.iload_n 3, 1) := by decide +kernel
theorem dX0_partsThrough_19 : decode cX0_partsThrough 19 = .ok (.iadd, 1) := by decide +kernel
theorem dX0_partsThrough_20 : decode cX0_partsThrough 20 = .ok (.istore 4, 2) := by decide +kernel
theorem dX0_partsThrough_22 : decode cX0_partsThrough 22 = .ok (.bipush 16, 2) := by decide +kernel
theorem dX0_partsThrough_24 : decode cX0_partsThrough 24 = .ok (.aload_n 0, 1) := by decide +kernel
theorem dX0_partsThrough_25 : decode cX0_partsThrough 25 = .ok (.getfield 19, 3) := by decide +kernel
theorem dX0_partsThrough_28 : decode cX0_partsThrough 28 = .ok (.getfield 83, 3) := by decide +kernel
theorem dX0_partsThrough_31 : decode cX0_partsThrough 31 = .ok (.iload_n 1, 1) := by decide +kernel
theorem dX0_partsThrough_32 : decode cX0_partsThrough 32 = .ok (.iaload, 1) := by decide +kernel
theorem dX0_partsThrough_33 : decode cX0_partsThrough 33 = .ok (.imul, 1) := by decide +kernel
theorem dX0_partsThrough_34 : decode cX0_partsThrough 34 = .ok (.iconst 4, 1) := by decide +kernel
theorem dX0_partsThrough_35 : decode cX0_partsThrough 35 = .ok (.iload_n 3, 1) := by decide +kernel
theorem dX0_partsThrough_36 : decode cX0_partsThrough 36 = .ok (.imul, 1) := by decide +kernel
theorem dX0_partsThrough_37 : decode cX0_partsThrough 37 = .ok (.iadd, 1) := by decide +kernel
theorem dX0_partsThrough_38 : decode cX0_partsThrough 38 = .ok (.iload_n 2, 1) := by decide +kernel
theorem dX0_partsThrough_39 : decode cX0_partsThrough 39 = .ok (.iconst 4, 1) := by decide +kernel
theorem dX0_partsThrough_40 : decode cX0_partsThrough 40 = .ok (.irem, 1) := by decide +kernel
theorem dX0_partsThrough_41 : decode cX0_partsThrough 41 = .ok (.iadd, 1) := by decide +kernel
theorem dX0_partsThrough_42 : decode cX0_partsThrough 42 = .ok (.istore 5, 2) := by decide +kernel
theorem dX0_partsThrough_44 : decode cX0_partsThrough 44 = .ok (.aload_n 0, 1) := by decide +kernel
theorem dX0_partsThrough_45 : decode cX0_partsThrough 45 = .ok (.getfield 9, 3) := by decide +kernel
theorem dX0_partsThrough_48 : decode cX0_partsThrough 48 = .ok (.iload 4, 2) := by decide +kernel
theorem dX0_partsThrough_50 : decode cX0_partsThrough 50 = .ok (.laload, 1) := by decide +kernel
theorem dX0_partsThrough_51 : decode cX0_partsThrough 51 = .ok (.aload_n 0, 1) := by decide +kernel
theorem dX0_partsThrough_52 : decode cX0_partsThrough 52 = .ok (.getfield 9, 3) := by decide +kernel
theorem dX0_partsThrough_55 : decode cX0_partsThrough 55 = .ok (.iload 5, 2) := by decide +kernel
theorem dX0_partsThrough_57 : decode cX0_partsThrough 57 = .ok (.laload, 1) := by decide +kernel
theorem dX0_partsThrough_58 : decode cX0_partsThrough 58 = .ok (.ladd, 1) := by decide +kernel
theorem dX0_partsThrough_59 : decode cX0_partsThrough 59 = .ok (.lreturn, 1) := by decide +kernel
set_option maxRecDepth 20000 in
theorem ggX0_cheapOf_X3_isHeld : GoodIn wsX0_cheapOf wsX3_isHeld := goodIn_r _ [7, 8, 16, 17, 18, 19, 20, 21] rfl aw_wsX3_isHeld
set_option maxRecDepth 20000 in
theorem gX0_cheapOf_X3_isHeld : GoodIn wsX0_cheapOf (wsV RX0 86 RX3 yX3_isHeld wsX3_isHeld) := goodIn_app (goodIn_r _ [3, 4, 5, 6] rfl (by decide +kernel)) ggX0_cheapOf_X3_isHeld
theorem dX0_cheapOf_0 : decode cX0_cheapOf 0 = .ok (.aload_n 0, 1) := by decide +kernel
theorem dX0_cheapOf_1 : decode cX0_cheapOf 1 = .ok (.getfield 27, 3) := by decide +kernel
theorem dX0_cheapOf_4 : decode cX0_cheapOf 4 = .ok (.iload_n 1, 1) := by decide +kernel
theorem dX0_cheapOf_5 : decode cX0_cheapOf 5 = .ok (.invokevirtual 86, 3) := by decide +kernel
theorem dX0_cheapOf_8 : decode cX0_cheapOf 8 = .ok (.ifCond .eq 13, 3) := by decide +kernel
theorem dX0_cheapOf_11 : decode cX0_cheapOf 11 = .ok (.aload_n 0, 1) := by decide +kernel
theorem dX0_cheapOf_12 : decode cX0_cheapOf 12 = .ok (.getfield 9, 3) := by decide +kernel
theorem dX0_cheapOf_15 : decode cX0_cheapOf 15 = .ok (.iload_n 1, 1) := by decide +kernel
theorem dX0_cheapOf_16 : decode cX0_cheapOf 16 = .ok (.laload, 1) := by decide +kernel
theorem dX0_cheapOf_17 : decode cX0_cheapOf 17 = .ok (.l2i, 1) := by decide +kernel
theorem dX0_cheapOf_18 : decode cX0_cheapOf 18 = .ok (.goto 5, 3) := by decide +kernel
theorem dX0_cheapOf_21 : decode cX0_cheapOf 21 = .ok (.bipush (-9), 2) := by decide +kernel
theorem dX0_cheapOf_23 : decode cX0_cheapOf 23 = .ok (.ireturn, 1) := by decide +kernel
set_option maxRecDepth 20000 in
theorem ggX0_lastRule_X3_isHeld : GoodIn wsX0_lastRule wsX3_isHeld := goodIn_r _ [10, 11, 60, 61, 62, 63, 64, 65] rfl aw_wsX3_isHeld
set_option maxRecDepth 20000 in
theorem gX0_lastRule_X3_isHeld : GoodIn wsX0_lastRule (wsV RX0 86 RX3 yX3_isHeld wsX3_isHeld) := goodIn_app (goodIn_r _ [6, 7, 8, 9] rfl (by decide +kernel)) ggX0_lastRule_X3_isHeld
set_option maxRecDepth 20000 in
theorem ggX0_lastRule_X2_isTold : GoodIn wsX0_lastRule wsX2_isTold := goodIn_r _ [16, 17, 51, 52, 53, 54, 55, 56, 57, 58, 59] rfl aw_wsX2_isTold
set_option maxRecDepth 20000 in
theorem gX0_lastRule_X2_isTold : GoodIn wsX0_lastRule (wsV RX0 31 RX2 yX2_isTold wsX2_isTold) := goodIn_app (goodIn_r _ [12, 13, 14, 15] rfl (by decide +kernel)) ggX0_lastRule_X2_isTold
set_option maxRecDepth 20000 in
theorem ggX0_lastRule_X0_wayBy : GoodIn wsX0_lastRule wsX0_wayBy := goodIn_r _ [22, 2, 23, 24, 25, 26, 27, 28, 1, 29, 5, 30, 31, 32, 33, 21, 34, 35, 36, 37, 15, 38, 39, 40, 6, 7, 8, 9, 10, 11, 41, 42, 43, 44, 45, 46, 47, 48, 49, 50, 51, 52, 53, 54, 55, 56, 57, 58, 59, 60, 61, 62, 63, 64, 65] rfl aw_wsX0_wayBy
set_option maxRecDepth 20000 in
theorem gX0_lastRule_X0_wayBy : GoodIn wsX0_lastRule (wsV RX0 62 RX0 yX0_wayBy wsX0_wayBy) := goodIn_app (goodIn_r _ [18, 19, 20, 21] rfl (by decide +kernel)) ggX0_lastRule_X0_wayBy
theorem dX0_lastRule_0 : decode cX0_lastRule 0 = .ok (.aload_n 0, 1) := by decide +kernel
theorem dX0_lastRule_1 : decode cX0_lastRule 1 = .ok (.getfield 27, 3) := by decide +kernel
theorem dX0_lastRule_4 : decode cX0_lastRule 4 = .ok (.iload_n 1, 1) := by decide +kernel
theorem dX0_lastRule_5 : decode cX0_lastRule 5 = .ok (.invokevirtual 86, 3) := by decide +kernel
theorem dX0_lastRule_8 : decode cX0_lastRule 8 = .ok (.ifCond .eq 14, 3) := by decide +kernel
theorem dX0_lastRule_11 : decode cX0_lastRule 11 = .ok (.aload_n 0, 1) := by decide +kernel
theorem dX0_lastRule_12 : decode cX0_lastRule 12 = .ok (.getfield 19, 3) := by decide +kernel
theorem dX0_lastRule_15 : decode cX0_lastRule 15 = .ok (.iload_n 1, 1) := by decide +kernel
theorem dX0_lastRule_16 : decode cX0_lastRule 16 = .ok (.invokevirtual 31, 3) := by decide +kernel
theorem dX0_lastRule_19 : decode cX0_lastRule 19 = .ok (.ifCond .eq 6, 3) := by decide +kernel
theorem dX0_lastRule_22 : decode cX0_lastRule 22 = .ok (.bipush (-9), 2) := by decide +kernel
theorem dX0_lastRule_24 : decode cX0_lastRule 24 = .ok (.ireturn, 1) := by decide +kernel
theorem dX0_lastRule_25 : decode cX0_lastRule 25 = .ok (.iconst 0, 1) := by decide +kernel
theorem dX0_lastRule_26 : decode cX0_lastRule 26 = .ok (.istore_n 2, 1) := by decide +kernel
theorem dX0_lastRule_27 : decode cX0_lastRule 27 = .ok (.iload_n 2, 1) := by decide +kernel
theorem dX0_lastRule_28 : decode cX0_lastRule 28 = .ok (.aload_n 0, 1) := by decide +kernel
theorem dX0_lastRule_29 : decode cX0_lastRule 29 = .ok (.getfield 19, 3) := by decide +kernel
theorem dX0_lastRule_32 : decode cX0_lastRule 32 = .ok (.getfield 47, 3) := by decide +kernel
theorem dX0_lastRule_35 : decode cX0_lastRule 35 = .ok (.if_icmp .ge 46, 3) := by decide +kernel
theorem dX0_lastRule_38 : decode cX0_lastRule 38 = .ok (.aload_n 0, 1) := by decide +kernel
theorem dX0_lastRule_39 : decode cX0_lastRule 39 = .ok (.getfield 19, 3) := by decide +kernel
theorem dX0_lastRule_42 : decode cX0_lastRule 42 = .ok (.getfield 51, 3) := by decide +kernel
theorem dX0_lastRule_45 : decode cX0_lastRule 45 = .ok (.iload_n 2, 1) := by decide +kernel
theorem dX0_lastRule_46 : decode cX0_lastRule 46 = .ok (.iaload, 1) := by decide +kernel
theorem dX0_lastRule_47 : decode cX0_lastRule 47 = .ok (.iload_n 1, 1) := by decide +kernel
theorem dX0_lastRule_48 : decode cX0_lastRule 48 = .ok (.bipush 16, 2) := by decide +kernel
theorem dX0_lastRule_50 : decode cX0_lastRule 50 = .ok (.idiv, 1) := by decide +kernel
theorem dX0_lastRule_51 : decode cX0_lastRule 51 = .ok (.if_icmp .ne 24, 3) := by decide +kernel
theorem dX0_lastRule_54 : decode cX0_lastRule 54 = .ok (.aload_n 0, 1) := by decide +kernel
theorem dX0_lastRule_55 : decode cX0_lastRule 55 = .ok (.iload_n 2, 1) := by decide +kernel
theorem dX0_lastRule_56 : decode cX0_lastRule 56 = .ok (.iload_n 1, 1) := by decide +kernel
theorem dX0_lastRule_57 : decode cX0_lastRule 57 = .ok (.bipush 16, 2) := by decide +kernel
theorem dX0_lastRule_59 : decode cX0_lastRule 59 = .ok (.irem, 1) := by decide +kernel
theorem dX0_lastRule_60 : decode cX0_lastRule 60 = .ok (.invokevirtual 62, 3) := by decide +kernel
theorem dX0_lastRule_63 : decode cX0_lastRule 63 = .ok (.aload_n 0, 1) := by decide +kernel
theorem dX0_lastRule_64 : decode cX0_lastRule 64 = .ok (.getfield 9, 3) := by decide +kernel
theorem dX0_lastRule_67 : decode cX0_lastRule 67 = .ok (.iload_n 1, 1) := by decide +kernel
theorem dX0_lastRule_68 : decode cX0_lastRule 68 = .ok (.laload, 1) := by decide +kernel
theorem dX0_lastRule_69 : decode cX0_lastRule 69 = .ok (.lcmp, 1) := by decide +kernel
theorem dX0_lastRule_70 : decode cX0_lastRule 70 = .ok (.ifCond .ne 5, 3) := by decide +kernel
theorem dX0_lastRule_73 : decode cX0_lastRule 73 = .ok (.iload_n 2, 1) := by decide +kernel
theorem dX0_lastRule_74 : decode cX0_lastRule 74 = .ok (.ireturn, 1) := by decide +kernel
theorem dX0_lastRule_75 : decode cX0_lastRule 75 = .ok (.iinc 2 1, 3) := by decide +kernel
theorem dX0_lastRule_78 : decode cX0_lastRule 78 = .ok (.goto (-51), 3) := by decide +kernel
theorem dX0_lastRule_81 : decode cX0_lastRule 81 = .ok (.bipush (-9), 2) := by decide +kernel
theorem dX0_lastRule_83 : decode cX0_lastRule 83 = .ok (.ireturn, 1) := by decide +kernel
set_option maxRecDepth 20000 in
theorem aw_wsX0_lastRule : wsX0_lastRule.all goodWord = true := by decide +kernel
set_option maxRecDepth 20000 in
theorem ggX0_middle_X0_lastRule : GoodIn wsX0_middle wsX0_lastRule := goodIn_r _ [8, 9, 1, 10, 11, 3, 12, 13, 14, 15, 16, 17, 18, 19, 20, 21, 22, 23, 24, 25, 26, 7, 27, 2, 28, 29, 30, 31, 32, 33, 34, 35, 36, 37, 38, 39, 40, 41, 42, 43, 44, 45, 46, 47, 48, 49, 50, 51, 52, 53, 54, 55, 56, 57, 58, 59, 60, 61, 62, 63, 64, 65, 66, 67, 68, 69] rfl aw_wsX0_lastRule
set_option maxRecDepth 20000 in
theorem gX0_middle_X0_lastRule : GoodIn wsX0_middle (wsV RX0 95 RX0 yX0_lastRule wsX0_lastRule) := goodIn_app (goodIn_r _ [4, 5, 6, 7] rfl (by decide +kernel)) ggX0_middle_X0_lastRule
set_option maxRecDepth 20000 in
theorem ggX0_middle_X2_cost : GoodIn wsX0_middle wsX2_cost := goodIn_r _ [42, 43, 44, 55, 56, 57, 58, 59, 60, 61, 62, 63] rfl aw_wsX2_cost
set_option maxRecDepth 20000 in
theorem gX0_middle_X2_cost : GoodIn wsX0_middle (wsV RX0 79 RX2 yX2_cost wsX2_cost) := goodIn_app (goodIn_r _ [39, 40, 41, 21] rfl (by decide +kernel)) ggX0_middle_X2_cost
set_option maxRecDepth 20000 in
theorem ggX0_middle_X0_partsThrough : GoodIn wsX0_middle wsX0_partsThrough := goodIn_r _ [38, 1, 34, 33, 3, 48, 49, 50, 51, 52, 53, 54, 55, 56, 57, 58, 59, 60, 61, 62, 63] rfl aw_wsX0_partsThrough
set_option maxRecDepth 20000 in
theorem gX0_middle_X0_partsThrough : GoodIn wsX0_middle (wsV RX0 69 RX0 yX0_partsThrough wsX0_partsThrough) := goodIn_app (goodIn_r _ [35, 36, 37, 7] rfl (by decide +kernel)) ggX0_middle_X0_partsThrough
theorem dX0_middle_0 : decode cX0_middle 0 = .ok (.aload_n 0, 1) := by decide +kernel
theorem dX0_middle_1 : decode cX0_middle 1 = .ok (.iload_n 1, 1) := by decide +kernel
theorem dX0_middle_2 : decode cX0_middle 2 = .ok (.invokevirtual 95, 3) := by decide +kernel
theorem dX0_middle_5 : decode cX0_middle 5 = .ok (.istore_n 2, 1) := by decide +kernel
theorem dX0_middle_6 : decode cX0_middle 6 = .ok (.iload_n 2, 1) := by decide +kernel
theorem dX0_middle_7 : decode cX0_middle 7 = .ok (.bipush (-9), 2) := by decide +kernel
theorem dX0_middle_9 : decode cX0_middle 9 = .ok (.if_icmp .eq 16, 3) := by decide +kernel
theorem dX0_middle_12 : decode cX0_middle 12 = .ok (.aload_n 0, 1) := by decide +kernel
theorem dX0_middle_13 : decode cX0_middle 13 = .ok (.getfield 19, 3) := by decide +kernel
theorem dX0_middle_16 : decode cX0_middle 16 = .ok (.getfield 66, 3) := by decide +kernel
theorem dX0_middle_19 : decode cX0_middle 19 = .ok (.iload_n 2, 1) := by decide +kernel
theorem dX0_middle_20 : decode cX0_middle 20 = .ok (.iaload, 1) := by decide +kernel
theorem dX0_middle_21 : decode cX0_middle 21 = .ok (.iconst 2, 1) := by decide +kernel
theorem dX0_middle_22 : decode cX0_middle 22 = .ok (.if_icmp .eq 6, 3) := by decide +kernel
theorem dX0_middle_25 : decode cX0_middle 25 = .ok (.bipush (-9), 2) := by decide +kernel
theorem dX0_middle_27 : decode cX0_middle 27 = .ok (.ireturn, 1) := by decide +kernel
theorem dX0_middle_28 : decode cX0_middle 28 = .ok (.aload_n 0, 1) := by decide +kernel
theorem dX0_middle_29 : decode cX0_middle 29 = .ok (.getfield 9, 3) := by decide +kernel
theorem dX0_middle_32 : decode cX0_middle 32 = .ok (.iload_n 1, 1) := by decide +kernel
theorem dX0_middle_33 : decode cX0_middle 33 = .ok (.laload, 1) := by decide +kernel
theorem dX0_middle_34 : decode cX0_middle 34 = .ok (.aload_n 0, 1) := by decide +kernel
theorem dX0_middle_35 : decode cX0_middle 35 = .ok (.getfield 19, 3) := by decide +kernel
theorem dX0_middle_38 : decode cX0_middle 38 = .ok (.iload_n 2, 1) := by decide +kernel
theorem dX0_middle_39 : decode cX0_middle 39 = .ok (.invokevirtual 79, 3) := by decide +kernel
theorem dX0_middle_42 : decode cX0_middle 42 = .ok (.i2l, 1) := by decide +kernel
theorem dX0_middle_43 : decode cX0_middle 43 = .ok (.lsub, 1) := by decide +kernel
theorem dX0_middle_44 : decode cX0_middle 44 = .ok (.lstore_n 3, 1) := by decide +kernel
theorem dX0_middle_45 : decode cX0_middle 45 = .ok (.iconst 0, 1) := by decide +kernel
theorem dX0_middle_46 : decode cX0_middle 46 = .ok (.istore 5, 2) := by decide +kernel
theorem dX0_middle_48 : decode cX0_middle 48 = .ok (.iload 5, 2) := by decide +kernel
theorem dX0_middle_50 : decode cX0_middle 50 = .ok (.iconst 4, 1) := by decide +kernel
theorem dX0_middle_51 : decode cX0_middle 51 = .ok (.if_icmp .ge 28, 3) := by decide +kernel
theorem dX0_middle_54 : decode cX0_middle 54 = .ok (.aload_n 0, 1) := by decide +kernel
theorem dX0_middle_55 : decode cX0_middle 55 = .ok (.iload_n 2, 1) := by decide +kernel
theorem dX0_middle_56 : decode cX0_middle 56 = .ok (.iload_n 1, 1) := by decide +kernel
theorem dX0_middle_57 : decode cX0_middle 57 = .ok (.bipush 16, 2) := by decide +kernel
theorem dX0_middle_59 : decode cX0_middle 59 = .ok (.irem, 1) := by decide +kernel
theorem dX0_middle_60 : decode cX0_middle 60 = .ok (.iload 5, 2) := by decide +kernel
theorem dX0_middle_62 : decode cX0_middle 62 = .ok (.invokevirtual 69, 3) := by decide +kernel
theorem dX0_middle_65 : decode cX0_middle 65 = .ok (.lload_n 3, 1) := by decide +kernel
theorem dX0_middle_66 : decode cX0_middle 66 = .ok (.lcmp, 1) := by decide +kernel
theorem dX0_middle_67 : decode cX0_middle 67 = .ok (.ifCond .ne 6, 3) := by decide +kernel
theorem dX0_middle_70 : decode cX0_middle 70 = .ok (.iload 5, 2) := by decide +kernel
theorem dX0_middle_72 : decode cX0_middle 72 = .ok (.ireturn, 1) := by decide +kernel
theorem dX0_middle_73 : decode cX0_middle 73 = .ok (.iinc 5 1, 3) := by decide +kernel
theorem dX0_middle_76 : decode cX0_middle 76 = .ok (.goto (-28), 3) := by decide +kernel
theorem dX0_middle_79 : decode cX0_middle 79 = .ok (.bipush (-9), 2) := by decide +kernel
theorem dX0_middle_81 : decode cX0_middle 81 = .ok (.ireturn, 1) := by decide +kernel
set_option maxRecDepth 20000 in
theorem ggX0_greatest_X3_isHeld : GoodIn wsX0_greatest wsX3_isHeld := goodIn_r _ [11, 12, 20, 21, 22, 23, 24, 25] rfl aw_wsX3_isHeld
set_option maxRecDepth 20000 in
theorem gX0_greatest_X3_isHeld : GoodIn wsX0_greatest (wsV RX0 86 RX3 yX3_isHeld wsX3_isHeld) := goodIn_app (goodIn_r _ [7, 8, 9, 10] rfl (by decide +kernel)) ggX0_greatest_X3_isHeld
theorem dX0_greatest_0 : decode cX0_greatest 0 = .ok (.lconst 0, 1) := by decide +kernel
theorem dX0_greatest_1 : decode cX0_greatest 1 = .ok (.lstore_n 1, 1) := by decide +kernel
theorem dX0_greatest_2 : decode cX0_greatest 2 = .ok (.iconst 0, 1) := by decide +kernel
theorem dX0_greatest_3 : decode cX0_greatest 3 = .ok (.istore_n 3, 1) := by decide +kernel
theorem dX0_greatest_4 : decode cX0_greatest 4 = .ok (.iload_n 3, 1) := by decide +kernel
theorem dX0_greatest_5 : decode cX0_greatest 5 = .ok (.bipush 64, 2) := by decide +kernel
theorem dX0_greatest_7 : decode cX0_greatest 7 = .ok (.if_icmp .ge 31, 3) := by decide +kernel
theorem dX0_greatest_10 : decode cX0_greatest 10 = .ok (.aload_n 0, 1) := by decide +kernel
theorem dX0_greatest_11 : decode cX0_greatest 11 = .ok (.getfield 27, 3) := by decide +kernel
theorem dX0_greatest_14 : decode cX0_greatest 14 = .ok (.iload_n 3, 1) := by decide +kernel
theorem dX0_greatest_15 : decode cX0_greatest 15 = .ok (.invokevirtual 86, 3) := by decide +kernel
theorem dX0_greatest_18 : decode cX0_greatest 18 = .ok (.ifCond .eq 14, 3) := by decide +kernel
theorem dX0_greatest_21 : decode cX0_greatest 21 = .ok (.lload_n 1, 1) := by decide +kernel
theorem dX0_greatest_22 : decode cX0_greatest 22 = .ok (.aload_n 0, 1) := by decide +kernel
theorem dX0_greatest_23 : decode cX0_greatest 23 = .ok (.getfield 9, 3) := by decide +kernel
theorem dX0_greatest_26 : decode cX0_greatest 26 = .ok (.iload_n 3, 1) := by decide +kernel
theorem dX0_greatest_27 : decode cX0_greatest 27 = .ok (.laload, 1) := by decide +kernel
theorem dX0_greatest_28 : decode cX0_greatest 28 = .ok (.invokestatic 98, 3) := by decide +kernel
theorem dX0_greatest_31 : decode cX0_greatest 31 = .ok (.lstore_n 1, 1) := by decide +kernel
theorem dX0_greatest_32 : decode cX0_greatest 32 = .ok (.iinc 3 1, 3) := by decide +kernel
theorem dX0_greatest_35 : decode cX0_greatest 35 = .ok (.goto (-31), 3) := by decide +kernel
theorem dX0_greatest_38 : decode cX0_greatest 38 = .ok (.lload_n 1, 1) := by decide +kernel
theorem dX0_greatest_39 : decode cX0_greatest 39 = .ok (.l2i, 1) := by decide +kernel
theorem dX0_greatest_40 : decode cX0_greatest 40 = .ok (.ireturn, 1) := by decide +kernel
set_option maxRecDepth 20000 in
theorem ggX0_putInOrder_X3_isHeld : GoodIn wsX0_putInOrder wsX3_isHeld := goodIn_r _ [9, 10, 26, 27, 28, 29, 30, 31] rfl aw_wsX3_isHeld
set_option maxRecDepth 20000 in
theorem gX0_putInOrder_X3_isHeld : GoodIn wsX0_putInOrder (wsV RX0 86 RX3 yX3_isHeld wsX3_isHeld) := goodIn_app (goodIn_r _ [5, 6, 7, 8] rfl (by decide +kernel)) ggX0_putInOrder_X3_isHeld
set_option maxRecDepth 20000 in
theorem aw_wsX0_comesAhead : wsX0_comesAhead.all goodWord = true := by decide +kernel
set_option maxRecDepth 20000 in
theorem ggX0_putInOrder_X0_comesAhead : GoodIn wsX0_putInOrder wsX0_comesAhead := goodIn_r _ [15, 16, 17, 18, 19, 20, 21, 22, 23, 24, 25, 32, 33, 34] rfl aw_wsX0_comesAhead
set_option maxRecDepth 20000 in
theorem gX0_putInOrder_X0_comesAhead : GoodIn wsX0_putInOrder (wsV RX0 104 RX0 yX0_comesAhead wsX0_comesAhead) := goodIn_app (goodIn_r _ [11, 12, 13, 14] rfl (by decide +kernel)) ggX0_putInOrder_X0_comesAhead
theorem dX0_putInOrder_0 : decode cX0_putInOrder 0 = .ok (.aload_n 0, 1) := by decide +kernel
theorem dX0_putInOrder_1 : decode cX0_putInOrder 1 = .ok (.getfield 43, 3) := by decide +kernel
theorem dX0_putInOrder_4 : decode cX0_putInOrder 4 = .ok (.ifCond .eq 4, 3) := by decide +kernel
theorem dX0_putInOrder_7 : decode cX0_putInOrder 7 = .ok (.return_, 1) := by decide +kernel
theorem dX0_putInOrder_8 : decode cX0_putInOrder 8 = .ok (.aload_n 0, 1) := by decide +kernel
theorem dX0_putInOrder_9 : decode cX0_putInOrder 9 = .ok (.iconst 1, 1) := by decide +kernel
theorem dX0_putInOrder_10 : decode cX0_putInOrder 10 = .ok (.putfield 43, 3) := by decide +kernel
theorem dX0_putInOrder_13 : decode cX0_putInOrder 13 = .ok (.aload_n 0, 1) := by decide +kernel
theorem dX0_putInOrder_14 : decode cX0_putInOrder 14 = .ok (.iconst 0, 1) := by decide +kernel
theorem dX0_putInOrder_15 : decode cX0_putInOrder 15 = .ok (.putfield 101, 3) := by decide +kernel
theorem dX0_putInOrder_18 : decode cX0_putInOrder 18 = .ok (.iconst 0, 1) := by decide +kernel
theorem dX0_putInOrder_19 : decode cX0_putInOrder 19 = .ok (.istore_n 1, 1) := by decide +kernel
theorem dX0_putInOrder_20 : decode cX0_putInOrder 20 = .ok (.iload_n 1, 1) := by decide +kernel
theorem dX0_putInOrder_21 : decode cX0_putInOrder 21 = .ok (.bipush 64, 2) := by decide +kernel
theorem dX0_putInOrder_23 : decode cX0_putInOrder 23 = .ok (.if_icmp .ge 82, 3) := by decide +kernel
theorem dX0_putInOrder_26 : decode cX0_putInOrder 26 = .ok (.aload_n 0, 1) := by decide +kernel
theorem dX0_putInOrder_27 : decode cX0_putInOrder 27 = .ok (.getfield 27, 3) := by decide +kernel
theorem dX0_putInOrder_30 : decode cX0_putInOrder 30 = .ok (.iload_n 1, 1) := by decide +kernel
theorem dX0_putInOrder_31 : decode cX0_putInOrder 31 = .ok (.invokevirtual 86, 3) := by decide +kernel
theorem dX0_putInOrder_34 : decode cX0_putInOrder 34 = .ok (.ifCond .eq 65, 3) := by decide +kernel
theorem dX0_putInOrder_37 : decode cX0_putInOrder 37 = .ok (.aload_n 0, 1) := by decide +kernel
theorem dX0_putInOrder_38 : decode cX0_putInOrder 38 = .ok (.getfield 101, 3) := by decide +kernel
theorem dX0_putInOrder_41 : decode cX0_putInOrder 41 = .ok (.istore_n 2, 1) := by decide +kernel
theorem dX0_putInOrder_42 : decode cX0_putInOrder 42 = .ok (.iload_n 2, 1) := by decide +kernel
theorem dX0_putInOrder_43 : decode cX0_putInOrder 43 = .ok (.ifCond .le 39, 3) := by decide +kernel
theorem dX0_putInOrder_46 : decode cX0_putInOrder 46 = .ok (.aload_n 0, 1) := by decide +kernel
theorem dX0_putInOrder_47 : decode cX0_putInOrder 47 = .ok (.iload_n 1, 1) := by decide +kernel
theorem dX0_putInOrder_48 : decode cX0_putInOrder 48 = .ok (.aload_n 0, 1) := by decide +kernel
theorem dX0_putInOrder_49 : decode cX0_putInOrder 49 = .ok (.getfield 15, 3) := by decide +kernel
theorem dX0_putInOrder_52 : decode cX0_putInOrder 52 = .ok (.iload_n 2, 1) := by decide +kernel
theorem dX0_putInOrder_53 : decode cX0_putInOrder 53 = .ok (.iconst 1, 1) := by decide +kernel
theorem dX0_putInOrder_54 : decode cX0_putInOrder 54 = .ok (.isub, 1) := by decide +kernel
theorem dX0_putInOrder_55 : decode cX0_putInOrder 55 = .ok (.iaload, 1) := by decide +kernel
theorem dX0_putInOrder_56 : decode cX0_putInOrder 56 = .ok (.invokevirtual 104, 3) := by decide +kernel
theorem dX0_putInOrder_59 : decode cX0_putInOrder 59 = .ok (.ifCond .eq 23, 3) := by decide +kernel
theorem dX0_putInOrder_62 : decode cX0_putInOrder 62 = .ok (.aload_n 0, 1) := by decide +kernel
theorem dX0_putInOrder_63 : decode cX0_putInOrder 63 = .ok (.getfield 15, 3) := by decide +kernel
theorem dX0_putInOrder_66 : decode cX0_putInOrder 66 = .ok (.iload_n 2, 1) := by decide +kernel
theorem dX0_putInOrder_67 : decode cX0_putInOrder 67 = .ok (.aload_n 0, 1) := by decide +kernel
theorem dX0_putInOrder_68 : decode cX0_putInOrder 68 = .ok (.getfield 15, 3) := by decide +kernel
theorem dX0_putInOrder_71 : decode cX0_putInOrder 71 = .ok (.iload_n 2, 1) := by decide +kernel
theorem dX0_putInOrder_72 : decode cX0_putInOrder 72 = .ok (.iconst 1, 1) := by decide +kernel
theorem dX0_putInOrder_73 : decode cX0_putInOrder 73 = .ok (.isub, 1) := by decide +kernel
theorem dX0_putInOrder_74 : decode cX0_putInOrder 74 = .ok (.iaload, 1) := by decide +kernel
theorem dX0_putInOrder_75 : decode cX0_putInOrder 75 = .ok (.iastore, 1) := by decide +kernel
theorem dX0_putInOrder_76 : decode cX0_putInOrder 76 = .ok (.iinc 2 (-1), 3) := by decide +kernel
theorem dX0_putInOrder_79 : decode cX0_putInOrder 79 = .ok (.goto (-37), 3) := by decide +kernel
theorem dX0_putInOrder_82 : decode cX0_putInOrder 82 = .ok (.aload_n 0, 1) := by decide +kernel
theorem dX0_putInOrder_83 : decode cX0_putInOrder 83 = .ok (.getfield 15, 3) := by decide +kernel
theorem dX0_putInOrder_86 : decode cX0_putInOrder 86 = .ok (.iload_n 2, 1) := by decide +kernel
theorem dX0_putInOrder_87 : decode cX0_putInOrder 87 = .ok (.iload_n 1, 1) := by decide +kernel
theorem dX0_putInOrder_88 : decode cX0_putInOrder 88 = .ok (.iastore, 1) := by decide +kernel
theorem dX0_putInOrder_89 : decode cX0_putInOrder 89 = .ok (.aload_n 0, 1) := by decide +kernel
theorem dX0_putInOrder_90 : decode cX0_putInOrder 90 = .ok (.dup, 1) := by decide +kernel
theorem dX0_putInOrder_91 : decode cX0_putInOrder 91 = .ok (.getfield 101, 3) := by decide +kernel
theorem dX0_putInOrder_94 : decode cX0_putInOrder 94 = .ok (.iconst 1, 1) := by decide +kernel
theorem dX0_putInOrder_95 : decode cX0_putInOrder 95 = .ok (.iadd, 1) := by decide +kernel
theorem dX0_putInOrder_96 : decode cX0_putInOrder 96 = .ok (.putfield 101, 3) := by decide +kernel
theorem dX0_putInOrder_99 : decode cX0_putInOrder 99 = .ok (.iinc 1 1, 3) := by decide +kernel
theorem dX0_putInOrder_102 : decode cX0_putInOrder 102 = .ok (.goto (-82), 3) := by decide +kernel
theorem dX0_putInOrder_105 : decode cX0_putInOrder 105 = .ok (.return_, 1) := by decide +kernel
theorem dX0_comesAhead_0 : decode cX0_comesAhead 0 = .ok (.aload_n 0, 1) := by decide +kernel
theorem dX0_comesAhead_1 : decode cX0_comesAhead 1 = .ok (.getfield 23, 3) := by decide +kernel
theorem dX0_comesAhead_4 : decode cX0_comesAhead 4 = .ok (.getfield 108, 3) := by decide +kernel
theorem dX0_comesAhead_7 : decode cX0_comesAhead 7 = .ok (.iload_n 1, 1) := by decide +kernel
theorem dX0_comesAhead_8 : decode cX0_comesAhead 8 = .ok (.bipush 16, 2) := by decide +kernel
theorem dX0_comesAhead_10 : decode cX0_comesAhead 10 = .ok (.idiv, 1) := by decide +kernel
theorem dX0_comesAhead_11 : decode cX0_comesAhead 11 = .ok (.iaload, 1) := by decide +kernel
theorem dX0_comesAhead_12 : decode cX0_comesAhead 12 = .ok (.istore_n 3, 1) := by decide +kernel
theorem dX0_comesAhead_13 : decode cX0_comesAhead 13 = .ok (.aload_n 0, 1) := by decide +kernel
theorem dX0_comesAhead_14 : decode cX0_comesAhead 14 = .ok (.getfield 23, 3) := by decide +kernel
theorem dX0_comesAhead_17 : decode cX0_comesAhead 17 = .ok (.getfield 108, 3) := by decide +kernel
theorem dX0_comesAhead_20 : decode cX0_comesAhead 20 = .ok (.iload_n 2, 1) := by decide +kernel
theorem dX0_comesAhead_21 : decode cX0_comesAhead 21 = .ok (.bipush 16, 2) := by decide +kernel
theorem dX0_comesAhead_23 : decode cX0_comesAhead 23 = .ok (.idiv, 1) := by decide +kernel
theorem dX0_comesAhead_24 : decode cX0_comesAhead 24 = .ok (.iaload, 1) := by decide +kernel
theorem dX0_comesAhead_25 : decode cX0_comesAhead 25 = .ok (.istore 4, 2) := by decide +kernel
theorem dX0_comesAhead_27 : decode cX0_comesAhead 27 = .ok (.iload_n 3, 1) := by decide +kernel
theorem dX0_comesAhead_28 : decode cX0_comesAhead 28 = .ok (.iload 4, 2) := by decide +kernel
theorem dX0_comesAhead_30 : decode cX0_comesAhead 30 = .ok (.if_icmp .lt 25, 3) := by decide +kernel
theorem dX0_comesAhead_33 : decode cX0_comesAhead 33 = .ok (.iload_n 3, 1) := by decide +kernel
theorem dX0_comesAhead_34 : decode cX0_comesAhead 34 = .ok (.iload 4, 2) := by decide +kernel
theorem dX0_comesAhead_36 : decode cX0_comesAhead 36 = .ok (.if_icmp .ne 23, 3) := by decide +kernel
theorem dX0_comesAhead_39 : decode cX0_comesAhead 39 = .ok (.aload_n 0, 1) := by decide +kernel
theorem dX0_comesAhead_40 : decode cX0_comesAhead 40 = .ok (.getfield 9, 3) := by decide +kernel
theorem dX0_comesAhead_43 : decode cX0_comesAhead 43 = .ok (.iload_n 1, 1) := by decide +kernel
theorem dX0_comesAhead_44 : decode cX0_comesAhead 44 = .ok (.laload, 1) := by decide +kernel
theorem dX0_comesAhead_45 : decode cX0_comesAhead 45 = .ok (.aload_n 0, 1) := by decide +kernel
theorem dX0_comesAhead_46 : decode cX0_comesAhead 46 = .ok (.getfield 9, 3) := by decide +kernel
theorem dX0_comesAhead_49 : decode cX0_comesAhead 49 = .ok (.iload_n 2, 1) := by decide +kernel
theorem dX0_comesAhead_50 : decode cX0_comesAhead 50 = .ok (.laload, 1) := by decide +kernel
theorem dX0_comesAhead_51 : decode cX0_comesAhead 51 = .ok (.lcmp, 1) := by decide +kernel
theorem dX0_comesAhead_52 : decode cX0_comesAhead 52 = .ok (.ifCond .ge 7, 3) := by decide +kernel
theorem dX0_comesAhead_55 : decode cX0_comesAhead 55 = .ok (.iconst 1, 1) := by decide +kernel
theorem dX0_comesAhead_56 : decode cX0_comesAhead 56 = .ok (.goto 4, 3) := by decide +kernel
theorem dX0_comesAhead_59 : decode cX0_comesAhead 59 = .ok (.iconst 0, 1) := by decide +kernel
theorem dX0_comesAhead_60 : decode cX0_comesAhead 60 = .ok (.ireturn, 1) := by decide +kernel
set_option maxRecDepth 20000 in
theorem aw_wsX0_putInOrder : wsX0_putInOrder.all goodWord = true := by decide +kernel
set_option maxRecDepth 20000 in
theorem ggX0_settledFact_X0_putInOrder : GoodIn wsX0_settledFact wsX0_putInOrder := goodIn_r _ [7, 8, 1, 9, 2, 10, 11, 12, 13, 14, 15, 16, 17, 18, 6, 19, 20, 21, 22, 23, 24, 25, 26, 27, 28, 29, 30, 31, 32, 33, 34, 35, 36, 37, 38] rfl aw_wsX0_putInOrder
set_option maxRecDepth 20000 in
theorem gX0_settledFact_X0_putInOrder : GoodIn wsX0_settledFact (wsV RX0 113 RX0 yX0_putInOrder wsX0_putInOrder) := goodIn_app (goodIn_r _ [3, 4, 5, 6] rfl (by decide +kernel)) ggX0_settledFact_X0_putInOrder
theorem dX0_settledFact_0 : decode cX0_settledFact 0 = .ok (.aload_n 0, 1) := by decide +kernel
theorem dX0_settledFact_1 : decode cX0_settledFact 1 = .ok (.invokevirtual 113, 3) := by decide +kernel
theorem dX0_settledFact_4 : decode cX0_settledFact 4 = .ok (.iload_n 1, 1) := by decide +kernel
theorem dX0_settledFact_5 : decode cX0_settledFact 5 = .ok (.aload_n 0, 1) := by decide +kernel
theorem dX0_settledFact_6 : decode cX0_settledFact 6 = .ok (.getfield 101, 3) := by decide +kernel
theorem dX0_settledFact_9 : decode cX0_settledFact 9 = .ok (.if_icmp .ge 12, 3) := by decide +kernel
theorem dX0_settledFact_12 : decode cX0_settledFact 12 = .ok (.aload_n 0, 1) := by decide +kernel
theorem dX0_settledFact_13 : decode cX0_settledFact 13 = .ok (.getfield 15, 3) := by decide +kernel
theorem dX0_settledFact_16 : decode cX0_settledFact 16 = .ok (.iload_n 1, 1) := by decide +kernel
theorem dX0_settledFact_17 : decode cX0_settledFact 17 = .ok (.iaload, 1) := by decide +kernel
theorem dX0_settledFact_18 : decode cX0_settledFact 18 = .ok (.goto 5, 3) := by decide +kernel
theorem dX0_settledFact_21 : decode cX0_settledFact 21 = .ok (.bipush (-9), 2) := by decide +kernel
theorem dX0_settledFact_23 : decode cX0_settledFact 23 = .ok (.ireturn, 1) := by decide +kernel
set_option maxRecDepth 20000 in
theorem ggX0_rankedFact_X0_putInOrder : GoodIn wsX0_rankedFact wsX0_putInOrder := goodIn_r _ [7, 8, 1, 9, 2, 10, 11, 12, 13, 14, 15, 16, 17, 18, 6, 19, 20, 21, 22, 23, 24, 25, 26, 27, 28, 29, 30, 31, 32, 33, 34, 35, 36, 37, 38] rfl aw_wsX0_putInOrder
set_option maxRecDepth 20000 in
theorem gX0_rankedFact_X0_putInOrder : GoodIn wsX0_rankedFact (wsV RX0 113 RX0 yX0_putInOrder wsX0_putInOrder) := goodIn_app (goodIn_r _ [3, 4, 5, 6] rfl (by decide +kernel)) ggX0_rankedFact_X0_putInOrder
theorem dX0_rankedFact_0 : decode cX0_rankedFact 0 = .ok (.aload_n 0, 1) := by decide +kernel
theorem dX0_rankedFact_1 : decode cX0_rankedFact 1 = .ok (.invokevirtual 113, 3) := by decide +kernel
theorem dX0_rankedFact_4 : decode cX0_rankedFact 4 = .ok (.iconst 0, 1) := by decide +kernel
theorem dX0_rankedFact_5 : decode cX0_rankedFact 5 = .ok (.istore_n 3, 1) := by decide +kernel
theorem dX0_rankedFact_6 : decode cX0_rankedFact 6 = .ok (.iconst 0, 1) := by decide +kernel
theorem dX0_rankedFact_7 : decode cX0_rankedFact 7 = .ok (.istore 4, 2) := by decide +kernel
theorem dX0_rankedFact_9 : decode cX0_rankedFact 9 = .ok (.iload 4, 2) := by decide +kernel
theorem dX0_rankedFact_11 : decode cX0_rankedFact 11 = .ok (.aload_n 0, 1) := by decide +kernel
theorem dX0_rankedFact_12 : decode cX0_rankedFact 12 = .ok (.getfield 101, 3) := by decide +kernel
theorem dX0_rankedFact_15 : decode cX0_rankedFact 15 = .ok (.if_icmp .ge 42, 3) := by decide +kernel
theorem dX0_rankedFact_18 : decode cX0_rankedFact 18 = .ok (.aload_n 0, 1) := by decide +kernel
theorem dX0_rankedFact_19 : decode cX0_rankedFact 19 = .ok (.getfield 15, 3) := by decide +kernel
theorem dX0_rankedFact_22 : decode cX0_rankedFact 22 = .ok (.iload 4, 2) := by decide +kernel
theorem dX0_rankedFact_24 : decode cX0_rankedFact 24 = .ok (.iaload, 1) := by decide +kernel
theorem dX0_rankedFact_25 : decode cX0_rankedFact 25 = .ok (.bipush 16, 2) := by decide +kernel
theorem dX0_rankedFact_27 : decode cX0_rankedFact 27 = .ok (.idiv, 1) := by decide +kernel
theorem dX0_rankedFact_28 : decode cX0_rankedFact 28 = .ok (.iload_n 1, 1) := by decide +kernel
theorem dX0_rankedFact_29 : decode cX0_rankedFact 29 = .ok (.if_icmp .ne 22, 3) := by decide +kernel
theorem dX0_rankedFact_32 : decode cX0_rankedFact 32 = .ok (.iload_n 3, 1) := by decide +kernel
theorem dX0_rankedFact_33 : decode cX0_rankedFact 33 = .ok (.iload_n 2, 1) := by decide +kernel
theorem dX0_rankedFact_34 : decode cX0_rankedFact 34 = .ok (.if_icmp .ne 14, 3) := by decide +kernel
theorem dX0_rankedFact_37 : decode cX0_rankedFact 37 = .ok (.aload_n 0, 1) := by decide +kernel
theorem dX0_rankedFact_38 : decode cX0_rankedFact 38 = .ok (.getfield 15, 3) := by decide +kernel
theorem dX0_rankedFact_41 : decode cX0_rankedFact 41 = .ok (.iload 4, 2) := by decide +kernel
theorem dX0_rankedFact_43 : decode cX0_rankedFact 43 = .ok (.iaload, 1) := by decide +kernel
theorem dX0_rankedFact_44 : decode cX0_rankedFact 44 = .ok (.bipush 16, 2) := by decide +kernel
theorem dX0_rankedFact_46 : decode cX0_rankedFact 46 = .ok (.irem, 1) := by decide +kernel
theorem dX0_rankedFact_47 : decode cX0_rankedFact 47 = .ok (.ireturn, 1) := by decide +kernel
theorem dX0_rankedFact_48 : decode cX0_rankedFact 48 = .ok (.iinc 3 1, 3) := by decide +kernel
theorem dX0_rankedFact_51 : decode cX0_rankedFact 51 = .ok (.iinc 4 1, 3) := by decide +kernel
theorem dX0_rankedFact_54 : decode cX0_rankedFact 54 = .ok (.goto (-45), 3) := by decide +kernel
theorem dX0_rankedFact_57 : decode cX0_rankedFact 57 = .ok (.bipush (-9), 2) := by decide +kernel
theorem dX0_rankedFact_59 : decode cX0_rankedFact 59 = .ok (.ireturn, 1) := by decide +kernel
set_option maxRecDepth 20000 in
theorem aw_wsX2_init : wsX2_init.all goodWord = true := by decide +kernel
set_option maxRecDepth 20000 in
theorem ggX6_init_X2_init : GoodIn wsX6_init wsX2_init := goodIn_r _ [21, 22, 2, 3, 23, 24, 25, 26, 27, 28, 29, 30, 57, 58, 59, 60, 61, 62, 63, 64, 65] rfl aw_wsX2_init
set_option maxRecDepth 20000 in
theorem gX6_init_X2_init_n11 : GoodIn wsX6_init (wsX2_init) := ggX6_init_X2_init
set_option maxRecDepth 20000 in
theorem aw_wsX1_init : wsX1_init.all goodWord = true := by decide +kernel
set_option maxRecDepth 20000 in
theorem ggX6_init_X1_init : GoodIn wsX6_init wsX1_init := goodIn_r _ [33, 34, 2, 3, 23, 35, 36, 37, 66, 67, 68] rfl aw_wsX1_init
set_option maxRecDepth 20000 in
theorem gX6_init_X1_init : GoodIn wsX6_init (wsX1_init) := ggX6_init_X1_init
set_option maxRecDepth 20000 in
theorem aw_wsX3_init : wsX3_init.all goodWord = true := by decide +kernel
set_option maxRecDepth 20000 in
theorem ggX6_init_X3_init : GoodIn wsX6_init wsX3_init := goodIn_r _ [40, 41, 2, 3, 23, 42, 43, 44, 45, 46, 69, 70, 71, 72, 73, 74] rfl aw_wsX3_init
set_option maxRecDepth 20000 in
theorem gX6_init_X3_init : GoodIn wsX6_init (wsX3_init) := ggX6_init_X3_init
set_option maxRecDepth 20000 in
theorem aw_wsX0_init : wsX0_init.all goodWord = true := by decide +kernel
set_option maxRecDepth 20000 in
theorem ggX6_init_X0_init : GoodIn wsX6_init wsX0_init := goodIn_r _ [49, 50, 2, 3, 51, 52, 23, 53, 54, 55, 56, 75, 76, 77, 78, 79, 80, 81] rfl aw_wsX0_init
set_option maxRecDepth 20000 in
theorem gX6_init_X0_init : GoodIn wsX6_init (wsX0_init) := ggX6_init_X0_init
theorem dX6_init_0 : decode cX6_init 0 = .ok (.aload_n 0, 1) := by decide +kernel
theorem dX6_init_1 : decode cX6_init 1 = .ok (.invokespecial 3, 3) := by decide +kernel
theorem dX6_init_4 : decode cX6_init 4 = .ok (.new 9, 3) := by decide +kernel
theorem dX6_init_7 : decode cX6_init 7 = .ok (.dup, 1) := by decide +kernel
theorem dX6_init_8 : decode cX6_init 8 = .ok (.invokespecial 11, 3) := by decide +kernel
theorem dX6_init_11 : decode cX6_init 11 = .ok (.astore_n 1, 1) := by decide +kernel
theorem dX6_init_12 : decode cX6_init 12 = .ok (.new 12, 3) := by decide +kernel
theorem dX6_init_15 : decode cX6_init 15 = .ok (.dup, 1) := by decide +kernel
theorem dX6_init_16 : decode cX6_init 16 = .ok (.aload_n 1, 1) := by decide +kernel
theorem dX6_init_17 : decode cX6_init 17 = .ok (.invokespecial 14, 3) := by decide +kernel
theorem dX6_init_20 : decode cX6_init 20 = .ok (.astore_n 2, 1) := by decide +kernel
theorem dX6_init_21 : decode cX6_init 21 = .ok (.new 17, 3) := by decide +kernel
theorem dX6_init_24 : decode cX6_init 24 = .ok (.dup, 1) := by decide +kernel
theorem dX6_init_25 : decode cX6_init 25 = .ok (.aload_n 1, 1) := by decide +kernel
theorem dX6_init_26 : decode cX6_init 26 = .ok (.aload_n 2, 1) := by decide +kernel
theorem dX6_init_27 : decode cX6_init 27 = .ok (.invokespecial 19, 3) := by decide +kernel
theorem dX6_init_30 : decode cX6_init 30 = .ok (.astore_n 3, 1) := by decide +kernel
theorem dX6_init_31 : decode cX6_init 31 = .ok (.aload_n 0, 1) := by decide +kernel
theorem dX6_init_32 : decode cX6_init 32 = .ok (.new 22, 3) := by decide +kernel
theorem dX6_init_35 : decode cX6_init 35 = .ok (.dup, 1) := by decide +kernel
theorem dX6_init_36 : decode cX6_init 36 = .ok (.aload_n 1, 1) := by decide +kernel
theorem dX6_init_37 : decode cX6_init 37 = .ok (.aload_n 2, 1) := by decide +kernel
theorem dX6_init_38 : decode cX6_init 38 = .ok (.aload_n 3, 1) := by decide +kernel
theorem dX6_init_39 : decode cX6_init 39 = .ok (.invokespecial 24, 3) := by decide +kernel
theorem dX6_init_42 : decode cX6_init 42 = .ok (.putfield 27, 3) := by decide +kernel
theorem dX6_init_45 : decode cX6_init 45 = .ok (.aload_n 0, 1) := by decide +kernel
theorem dX6_init_46 : decode cX6_init 46 = .ok (.aload_n 3, 1) := by decide +kernel
