theorem dX8_readFactNext_3 : decode cX8_readFactNext 3 = .ok (.aload_n 0, 1) := by decide +kernel
theorem dX8_readFactNext_4 : decode cX8_readFactNext 4 = .ok (.getfield 138, 3) := by decide +kernel
theorem dX8_readFactNext_7 : decode cX8_readFactNext 7 = .ok (.iconst 1, 1) := by decide +kernel
theorem dX8_readFactNext_8 : decode cX8_readFactNext 8 = .ok (.isub, 1) := by decide +kernel
theorem dX8_readFactNext_9 : decode cX8_readFactNext 9 = .ok (.invokevirtual 148, 3) := by decide +kernel
theorem dX8_readFactNext_12 : decode cX8_readFactNext 12 = .ok (.istore_n 2, 1) := by decide +kernel
theorem dX8_readFactNext_13 : decode cX8_readFactNext 13 = .ok (.iload_n 2, 1) := by decide +kernel
theorem dX8_readFactNext_14 : decode cX8_readFactNext 14 = .ok (.bipush (-9), 2) := by decide +kernel
theorem dX8_readFactNext_16 : decode cX8_readFactNext 16 = .ok (.if_icmp .ne 5, 3) := by decide +kernel
theorem dX8_readFactNext_19 : decode cX8_readFactNext 19 = .ok (.iconst 0, 1) := by decide +kernel
theorem dX8_readFactNext_20 : decode cX8_readFactNext 20 = .ok (.ireturn, 1) := by decide +kernel
theorem dX8_readFactNext_21 : decode cX8_readFactNext 21 = .ok (.aload_n 0, 1) := by decide +kernel
theorem dX8_readFactNext_22 : decode cX8_readFactNext 22 = .ok (.iload_n 1, 1) := by decide +kernel
theorem dX8_readFactNext_23 : decode cX8_readFactNext 23 = .ok (.iconst 0, 1) := by decide +kernel
theorem dX8_readFactNext_24 : decode cX8_readFactNext 24 = .ok (.iconst 3, 1) := by decide +kernel
theorem dX8_readFactNext_25 : decode cX8_readFactNext 25 = .ok (.invokevirtual 148, 3) := by decide +kernel
theorem dX8_readFactNext_28 : decode cX8_readFactNext 28 = .ok (.istore_n 3, 1) := by decide +kernel
theorem dX8_readFactNext_29 : decode cX8_readFactNext 29 = .ok (.iload_n 3, 1) := by decide +kernel
theorem dX8_readFactNext_30 : decode cX8_readFactNext 30 = .ok (.bipush (-9), 2) := by decide +kernel
theorem dX8_readFactNext_32 : decode cX8_readFactNext 32 = .ok (.if_icmp .eq 30, 3) := by decide +kernel
theorem dX8_readFactNext_35 : decode cX8_readFactNext 35 = .ok (.aload_n 0, 1) := by decide +kernel
theorem dX8_readFactNext_36 : decode cX8_readFactNext 36 = .ok (.getfield 98, 3) := by decide +kernel
theorem dX8_readFactNext_39 : decode cX8_readFactNext 39 = .ok (.iload_n 1, 1) := by decide +kernel
theorem dX8_readFactNext_40 : decode cX8_readFactNext 40 = .ok (.if_icmp .ge 22, 3) := by decide +kernel
theorem dX8_readFactNext_43 : decode cX8_readFactNext 43 = .ok (.aload_n 0, 1) := by decide +kernel
theorem dX8_readFactNext_44 : decode cX8_readFactNext 44 = .ok (.getfield 16, 3) := by decide +kernel
theorem dX8_readFactNext_47 : decode cX8_readFactNext 47 = .ok (.aload_n 0, 1) := by decide +kernel
theorem dX8_readFactNext_48 : decode cX8_readFactNext 48 = .ok (.getfield 98, 3) := by decide +kernel
theorem dX8_readFactNext_51 : decode cX8_readFactNext 51 = .ok (.iaload, 1) := by decide +kernel
theorem dX8_readFactNext_52 : decode cX8_readFactNext 52 = .ok (.bipush 48, 2) := by decide +kernel
theorem dX8_readFactNext_54 : decode cX8_readFactNext 54 = .ok (.bipush 51, 2) := by decide +kernel
theorem dX8_readFactNext_56 : decode cX8_readFactNext 56 = .ok (.invokestatic 88, 3) := by decide +kernel
theorem dX8_readFactNext_59 : decode cX8_readFactNext 59 = .ok (.ifCond .ne 5, 3) := by decide +kernel
theorem dX8_readFactNext_62 : decode cX8_readFactNext 62 = .ok (.iconst 0, 1) := by decide +kernel
theorem dX8_readFactNext_63 : decode cX8_readFactNext 63 = .ok (.ireturn, 1) := by decide +kernel
theorem dX8_readFactNext_64 : decode cX8_readFactNext 64 = .ok (.bipush 16, 2) := by decide +kernel
theorem dX8_readFactNext_66 : decode cX8_readFactNext 66 = .ok (.iload_n 2, 1) := by decide +kernel
theorem dX8_readFactNext_67 : decode cX8_readFactNext 67 = .ok (.imul, 1) := by decide +kernel
theorem dX8_readFactNext_68 : decode cX8_readFactNext 68 = .ok (.iconst 4, 1) := by decide +kernel
theorem dX8_readFactNext_69 : decode cX8_readFactNext 69 = .ok (.iload_n 3, 1) := by decide +kernel
theorem dX8_readFactNext_70 : decode cX8_readFactNext 70 = .ok (.imul, 1) := by decide +kernel
theorem dX8_readFactNext_71 : decode cX8_readFactNext 71 = .ok (.iadd, 1) := by decide +kernel
theorem dX8_readFactNext_72 : decode cX8_readFactNext 72 = .ok (.aload_n 0, 1) := by decide +kernel
theorem dX8_readFactNext_73 : decode cX8_readFactNext 73 = .ok (.getfield 16, 3) := by decide +kernel
theorem dX8_readFactNext_76 : decode cX8_readFactNext 76 = .ok (.aload_n 0, 1) := by decide +kernel
theorem dX8_readFactNext_77 : decode cX8_readFactNext 77 = .ok (.getfield 98, 3) := by decide +kernel
theorem dX8_readFactNext_80 : decode cX8_readFactNext 80 = .ok (.iaload, 1) := by decide +kernel
theorem dX8_readFactNext_81 : decode cX8_readFactNext 81 = .ok (.iadd, 1) := by decide +kernel
theorem dX8_readFactNext_82 : decode cX8_readFactNext 82 = .ok (.bipush 48, 2) := by decide +kernel
theorem dX8_readFactNext_84 : decode cX8_readFactNext 84 = .ok (.isub, 1) := by decide +kernel
theorem dX8_readFactNext_85 : decode cX8_readFactNext 85 = .ok (.istore 4, 2) := by decide +kernel
theorem dX8_readFactNext_87 : decode cX8_readFactNext 87 = .ok (.iconst 0, 1) := by decide +kernel
theorem dX8_readFactNext_88 : decode cX8_readFactNext 88 = .ok (.istore 5, 2) := by decide +kernel
theorem dX8_readFactNext_90 : decode cX8_readFactNext 90 = .ok (.iload 5, 2) := by decide +kernel
theorem dX8_readFactNext_92 : decode cX8_readFactNext 92 = .ok (.aload_n 0, 1) := by decide +kernel
theorem dX8_readFactNext_93 : decode cX8_readFactNext 93 = .ok (.getfield 132, 3) := by decide +kernel
theorem dX8_readFactNext_96 : decode cX8_readFactNext 96 = .ok (.if_icmp .ge 23, 3) := by decide +kernel
theorem dX8_readFactNext_99 : decode cX8_readFactNext 99 = .ok (.aload_n 0, 1) := by decide +kernel
theorem dX8_readFactNext_100 : decode cX8_readFactNext 100 = .ok (.getfield 43, 3) := by decide +kernel
theorem dX8_readFactNext_103 : decode cX8_readFactNext 103 = .ok (.iload 5, 2) := by decide +kernel
theorem dX8_readFactNext_105 : decode cX8_readFactNext 105 = .ok (.iaload, 1) := by decide +kernel
theorem dX8_readFactNext_106 : decode cX8_readFactNext 106 = .ok (.iload 4, 2) := by decide +kernel
theorem dX8_readFactNext_108 : decode cX8_readFactNext 108 = .ok (.if_icmp .ne 5, 3) := by decide +kernel
theorem dX8_readFactNext_111 : decode cX8_readFactNext 111 = .ok (.iconst 0, 1) := by decide +kernel
theorem dX8_readFactNext_112 : decode cX8_readFactNext 112 = .ok (.ireturn, 1) := by decide +kernel
theorem dX8_readFactNext_113 : decode cX8_readFactNext 113 = .ok (.iinc 5 1, 3) := by decide +kernel
theorem dX8_readFactNext_116 : decode cX8_readFactNext 116 = .ok (.goto (-26), 3) := by decide +kernel
theorem dX8_readFactNext_119 : decode cX8_readFactNext 119 = .ok (.aload_n 0, 1) := by decide +kernel
theorem dX8_readFactNext_120 : decode cX8_readFactNext 120 = .ok (.dup, 1) := by decide +kernel
theorem dX8_readFactNext_121 : decode cX8_readFactNext 121 = .ok (.getfield 98, 3) := by decide +kernel
theorem dX8_readFactNext_124 : decode cX8_readFactNext 124 = .ok (.iconst 1, 1) := by decide +kernel
theorem dX8_readFactNext_125 : decode cX8_readFactNext 125 = .ok (.iadd, 1) := by decide +kernel
theorem dX8_readFactNext_126 : decode cX8_readFactNext 126 = .ok (.putfield 98, 3) := by decide +kernel
theorem dX8_readFactNext_129 : decode cX8_readFactNext 129 = .ok (.aload_n 0, 1) := by decide +kernel
theorem dX8_readFactNext_130 : decode cX8_readFactNext 130 = .ok (.getfield 43, 3) := by decide +kernel
theorem dX8_readFactNext_133 : decode cX8_readFactNext 133 = .ok (.aload_n 0, 1) := by decide +kernel
theorem dX8_readFactNext_134 : decode cX8_readFactNext 134 = .ok (.getfield 132, 3) := by decide +kernel
theorem dX8_readFactNext_137 : decode cX8_readFactNext 137 = .ok (.iload 4, 2) := by decide +kernel
theorem dX8_readFactNext_139 : decode cX8_readFactNext 139 = .ok (.iastore, 1) := by decide +kernel
theorem dX8_readFactNext_140 : decode cX8_readFactNext 140 = .ok (.aload_n 0, 1) := by decide +kernel
theorem dX8_readFactNext_141 : decode cX8_readFactNext 141 = .ok (.dup, 1) := by decide +kernel
theorem dX8_readFactNext_142 : decode cX8_readFactNext 142 = .ok (.getfield 132, 3) := by decide +kernel
theorem dX8_readFactNext_145 : decode cX8_readFactNext 145 = .ok (.iconst 1, 1) := by decide +kernel
theorem dX8_readFactNext_146 : decode cX8_readFactNext 146 = .ok (.iadd, 1) := by decide +kernel
theorem dX8_readFactNext_147 : decode cX8_readFactNext 147 = .ok (.putfield 132, 3) := by decide +kernel
theorem dX8_readFactNext_150 : decode cX8_readFactNext 150 = .ok (.iconst 1, 1) := by decide +kernel
theorem dX8_readFactNext_151 : decode cX8_readFactNext 151 = .ok (.ireturn, 1) := by decide +kernel
theorem dX8_costOf_0 : decode cX8_costOf 0 = .ok (.aload_n 0, 1) := by decide +kernel
theorem dX8_costOf_1 : decode cX8_costOf 1 = .ok (.getfield 19, 3) := by decide +kernel
theorem dX8_costOf_4 : decode cX8_costOf 4 = .ok (.iload_n 1, 1) := by decide +kernel
theorem dX8_costOf_5 : decode cX8_costOf 5 = .ok (.iaload, 1) := by decide +kernel
theorem dX8_costOf_6 : decode cX8_costOf 6 = .ok (.ifCond .ne 12, 3) := by decide +kernel
theorem dX8_costOf_9 : decode cX8_costOf 9 = .ok (.aload_n 0, 1) := by decide +kernel
theorem dX8_costOf_10 : decode cX8_costOf 10 = .ok (.getfield 22, 3) := by decide +kernel
theorem dX8_costOf_13 : decode cX8_costOf 13 = .ok (.iload_n 1, 1) := by decide +kernel
theorem dX8_costOf_14 : decode cX8_costOf 14 = .ok (.iaload, 1) := by decide +kernel
theorem dX8_costOf_15 : decode cX8_costOf 15 = .ok (.goto 32, 3) := by decide +kernel
theorem dX8_costOf_18 : decode cX8_costOf 18 = .ok (.aload_n 0, 1) := by decide +kernel
theorem dX8_costOf_19 : decode cX8_costOf 19 = .ok (.getfield 19, 3) := by decide +kernel
theorem dX8_costOf_22 : decode cX8_costOf 22 = .ok (.iload_n 1, 1) := by decide +kernel
theorem dX8_costOf_23 : decode cX8_costOf 23 = .ok (.iaload, 1) := by decide +kernel
theorem dX8_costOf_24 : decode cX8_costOf 24 = .ok (.iconst 1, 1) := by decide +kernel
theorem dX8_costOf_25 : decode cX8_costOf 25 = .ok (.if_icmp .ne 14, 3) := by decide +kernel
theorem dX8_costOf_28 : decode cX8_costOf 28 = .ok (.aload_n 0, 1) := by decide +kernel
theorem dX8_costOf_29 : decode cX8_costOf 29 = .ok (.getfield 22, 3) := by decide +kernel
theorem dX8_costOf_32 : decode cX8_costOf 32 = .ok (.iload_n 1, 1) := by decide +kernel
theorem dX8_costOf_33 : decode cX8_costOf 33 = .ok (.iaload, 1) := by decide +kernel
theorem dX8_costOf_34 : decode cX8_costOf 34 = .ok (.iconst 1, 1) := by decide +kernel
theorem dX8_costOf_35 : decode cX8_costOf 35 = .ok (.iadd, 1) := by decide +kernel
theorem dX8_costOf_36 : decode cX8_costOf 36 = .ok (.goto 11, 3) := by decide +kernel
theorem dX8_costOf_39 : decode cX8_costOf 39 = .ok (.iconst 2, 1) := by decide +kernel
theorem dX8_costOf_40 : decode cX8_costOf 40 = .ok (.aload_n 0, 1) := by decide +kernel
theorem dX8_costOf_41 : decode cX8_costOf 41 = .ok (.getfield 22, 3) := by decide +kernel
theorem dX8_costOf_44 : decode cX8_costOf 44 = .ok (.iload_n 1, 1) := by decide +kernel
theorem dX8_costOf_45 : decode cX8_costOf 45 = .ok (.iaload, 1) := by decide +kernel
theorem dX8_costOf_46 : decode cX8_costOf 46 = .ok (.imul, 1) := by decide +kernel
theorem dX8_costOf_47 : decode cX8_costOf 47 = .ok (.ireturn, 1) := by decide +kernel
set_option maxRecDepth 20000 in
theorem aw_wsX8_isOf : wsX8_isOf.all goodWord = true := by decide +kernel
set_option maxRecDepth 20000 in
theorem ggX8_leads_X8_isOf : GoodIn wsX8_leads wsX8_isOf := goodIn_r _ [9] rfl aw_wsX8_isOf
set_option maxRecDepth 20000 in
theorem gX8_leads_X8_isOf : GoodIn wsX8_leads (va_wsS RX8 158 yX8_isOf wsX8_isOf) := goodIn_app (goodIn_r _ [6, 7, 8] rfl (by decide +kernel)) ggX8_leads_X8_isOf
theorem dX8_leads_0 : decode cX8_leads 0 = .ok (.iload_n 1, 1) := by decide +kernel
theorem dX8_leads_1 : decode cX8_leads 1 = .ok (.istore_n 2, 1) := by decide +kernel
theorem dX8_leads_2 : decode cX8_leads 2 = .ok (.iconst 0, 1) := by decide +kernel
theorem dX8_leads_3 : decode cX8_leads 3 = .ok (.istore_n 3, 1) := by decide +kernel
theorem dX8_leads_4 : decode cX8_leads 4 = .ok (.iload_n 3, 1) := by decide +kernel
theorem dX8_leads_5 : decode cX8_leads 5 = .ok (.aload_n 0, 1) := by decide +kernel
theorem dX8_leads_6 : decode cX8_leads 6 = .ok (.getfield 95, 3) := by decide +kernel
theorem dX8_leads_9 : decode cX8_leads 9 = .ok (.if_icmp .ge 137, 3) := by decide +kernel
theorem dX8_leads_12 : decode cX8_leads 12 = .ok (.iconst 1, 1) := by decide +kernel
theorem dX8_leads_13 : decode cX8_leads 13 = .ok (.aload_n 0, 1) := by decide +kernel
theorem dX8_leads_14 : decode cX8_leads 14 = .ok (.getfield 28, 3) := by decide +kernel
theorem dX8_leads_17 : decode cX8_leads 17 = .ok (.iload_n 3, 1) := by decide +kernel
theorem dX8_leads_18 : decode cX8_leads 18 = .ok (.iaload, 1) := by decide +kernel
theorem dX8_leads_19 : decode cX8_leads 19 = .ok (.ishl, 1) := by decide +kernel
theorem dX8_leads_20 : decode cX8_leads 20 = .ok (.istore 4, 2) := by decide +kernel
theorem dX8_leads_22 : decode cX8_leads 22 = .ok (.iconst 0, 1) := by decide +kernel
theorem dX8_leads_23 : decode cX8_leads 23 = .ok (.istore 5, 2) := by decide +kernel
theorem dX8_leads_25 : decode cX8_leads 25 = .ok (.iload 5, 2) := by decide +kernel
theorem dX8_leads_27 : decode cX8_leads 27 = .ok (.iconst 2, 1) := by decide +kernel
theorem dX8_leads_28 : decode cX8_leads 28 = .ok (.if_icmp .ge 112, 3) := by decide +kernel
theorem dX8_leads_31 : decode cX8_leads 31 = .ok (.iload 5, 2) := by decide +kernel
theorem dX8_leads_33 : decode cX8_leads 33 = .ok (.ifCond .ne 10, 3) := by decide +kernel
theorem dX8_leads_36 : decode cX8_leads 36 = .ok (.iload_n 1, 1) := by decide +kernel
theorem dX8_leads_37 : decode cX8_leads 37 = .ok (.bipush 15, 2) := by decide +kernel
theorem dX8_leads_39 : decode cX8_leads 39 = .ok (.iand, 1) := by decide +kernel
theorem dX8_leads_40 : decode cX8_leads 40 = .ok (.goto 9, 3) := by decide +kernel
theorem dX8_leads_43 : decode cX8_leads 43 = .ok (.iload_n 1, 1) := by decide +kernel
theorem dX8_leads_44 : decode cX8_leads 44 = .ok (.iconst 4, 1) := by decide +kernel
theorem dX8_leads_45 : decode cX8_leads 45 = .ok (.ishr, 1) := by decide +kernel
theorem dX8_leads_46 : decode cX8_leads 46 = .ok (.bipush 15, 2) := by decide +kernel
theorem dX8_leads_48 : decode cX8_leads 48 = .ok (.iand, 1) := by decide +kernel
theorem dX8_leads_49 : decode cX8_leads 49 = .ok (.istore 6, 2) := by decide +kernel
theorem dX8_leads_51 : decode cX8_leads 51 = .ok (.iconst 4, 1) := by decide +kernel
theorem dX8_leads_52 : decode cX8_leads 52 = .ok (.iload 5, 2) := by decide +kernel
theorem dX8_leads_54 : decode cX8_leads 54 = .ok (.imul, 1) := by decide +kernel
theorem dX8_leads_55 : decode cX8_leads 55 = .ok (.istore 7, 2) := by decide +kernel
theorem dX8_leads_57 : decode cX8_leads 57 = .ok (.iload 6, 2) := by decide +kernel
theorem dX8_leads_59 : decode cX8_leads 59 = .ok (.aload_n 0, 1) := by decide +kernel
theorem dX8_leads_60 : decode cX8_leads 60 = .ok (.getfield 31, 3) := by decide +kernel
theorem dX8_leads_63 : decode cX8_leads 63 = .ok (.iload_n 3, 1) := by decide +kernel
theorem dX8_leads_64 : decode cX8_leads 64 = .ok (.iaload, 1) := by decide +kernel
theorem dX8_leads_65 : decode cX8_leads 65 = .ok (.invokestatic 158, 3) := by decide +kernel
theorem dX8_leads_68 : decode cX8_leads 68 = .ok (.ifCond .ne 27, 3) := by decide +kernel
theorem dX8_leads_71 : decode cX8_leads 71 = .ok (.aload_n 0, 1) := by decide +kernel
theorem dX8_leads_72 : decode cX8_leads 72 = .ok (.getfield 25, 3) := by decide +kernel
theorem dX8_leads_75 : decode cX8_leads 75 = .ok (.iload_n 3, 1) := by decide +kernel
theorem dX8_leads_76 : decode cX8_leads 76 = .ok (.iaload, 1) := by decide +kernel
theorem dX8_leads_77 : decode cX8_leads 77 = .ok (.iconst 2, 1) := by decide +kernel
theorem dX8_leads_78 : decode cX8_leads 78 = .ok (.if_icmp .ne 25, 3) := by decide +kernel
theorem dX8_leads_81 : decode cX8_leads 81 = .ok (.iload 6, 2) := by decide +kernel
theorem dX8_leads_83 : decode cX8_leads 83 = .ok (.aload_n 0, 1) := by decide +kernel
theorem dX8_leads_84 : decode cX8_leads 84 = .ok (.getfield 34, 3) := by decide +kernel
theorem dX8_leads_87 : decode cX8_leads 87 = .ok (.iload_n 3, 1) := by decide +kernel
theorem dX8_leads_88 : decode cX8_leads 88 = .ok (.iaload, 1) := by decide +kernel
theorem dX8_leads_89 : decode cX8_leads 89 = .ok (.invokestatic 158, 3) := by decide +kernel
theorem dX8_leads_92 : decode cX8_leads 92 = .ok (.ifCond .eq 11, 3) := by decide +kernel
theorem dX8_leads_95 : decode cX8_leads 95 = .ok (.iload_n 2, 1) := by decide +kernel
theorem dX8_leads_96 : decode cX8_leads 96 = .ok (.iload 4, 2) := by decide +kernel
theorem dX8_leads_98 : decode cX8_leads 98 = .ok (.iload 7, 2) := by decide +kernel
theorem dX8_leads_100 : decode cX8_leads 100 = .ok (.ishl, 1) := by decide +kernel
theorem dX8_leads_101 : decode cX8_leads 101 = .ok (.ior, 1) := by decide +kernel
theorem dX8_leads_102 : decode cX8_leads 102 = .ok (.istore_n 2, 1) := by decide +kernel
theorem dX8_leads_103 : decode cX8_leads 103 = .ok (.aload_n 0, 1) := by decide +kernel
theorem dX8_leads_104 : decode cX8_leads 104 = .ok (.getfield 25, 3) := by decide +kernel
theorem dX8_leads_107 : decode cX8_leads 107 = .ok (.iload_n 3, 1) := by decide +kernel
theorem dX8_leads_108 : decode cX8_leads 108 = .ok (.iaload, 1) := by decide +kernel
theorem dX8_leads_109 : decode cX8_leads 109 = .ok (.iconst 3, 1) := by decide +kernel
theorem dX8_leads_110 : decode cX8_leads 110 = .ok (.if_icmp .ne 24, 3) := by decide +kernel
theorem dX8_leads_113 : decode cX8_leads 113 = .ok (.iload 6, 2) := by decide +kernel
theorem dX8_leads_115 : decode cX8_leads 115 = .ok (.aload_n 0, 1) := by decide +kernel
theorem dX8_leads_116 : decode cX8_leads 116 = .ok (.getfield 34, 3) := by decide +kernel
theorem dX8_leads_119 : decode cX8_leads 119 = .ok (.iload_n 3, 1) := by decide +kernel
theorem dX8_leads_120 : decode cX8_leads 120 = .ok (.iaload, 1) := by decide +kernel
theorem dX8_leads_121 : decode cX8_leads 121 = .ok (.invokestatic 158, 3) := by decide +kernel
theorem dX8_leads_124 : decode cX8_leads 124 = .ok (.ifCond .eq 10, 3) := by decide +kernel
theorem dX8_leads_127 : decode cX8_leads 127 = .ok (.iload_n 2, 1) := by decide +kernel
theorem dX8_leads_128 : decode cX8_leads 128 = .ok (.iload 4, 2) := by decide +kernel
theorem dX8_leads_130 : decode cX8_leads 130 = .ok (.iconst 4, 1) := by decide +kernel
theorem dX8_leads_131 : decode cX8_leads 131 = .ok (.ishl, 1) := by decide +kernel
theorem dX8_leads_132 : decode cX8_leads 132 = .ok (.ior, 1) := by decide +kernel
theorem dX8_leads_133 : decode cX8_leads 133 = .ok (.istore_n 2, 1) := by decide +kernel
theorem dX8_leads_134 : decode cX8_leads 134 = .ok (.iinc 5 1, 3) := by decide +kernel
theorem dX8_leads_137 : decode cX8_leads 137 = .ok (.goto (-112), 3) := by decide +kernel
theorem dX8_leads_140 : decode cX8_leads 140 = .ok (.iinc 3 1, 3) := by decide +kernel
theorem dX8_leads_143 : decode cX8_leads 143 = .ok (.goto (-139), 3) := by decide +kernel
theorem dX8_leads_146 : decode cX8_leads 146 = .ok (.iload_n 2, 1) := by decide +kernel
theorem dX8_leads_147 : decode cX8_leads 147 = .ok (.ireturn, 1) := by decide +kernel
set_option maxRecDepth 20000 in
theorem aw_wsX8_leads : wsX8_leads.all goodWord = true := by decide +kernel
set_option maxRecDepth 20000 in
theorem ggX8_goesRoundBy_X8_leads : GoodIn wsX8_goesRoundBy wsX8_leads := goodIn_r _ [6, 7, 8, 9, 10, 11, 12, 13, 5, 14, 15, 16, 17, 18, 19, 20, 21, 22, 23, 24, 25, 26, 27, 28, 29, 30, 31, 32, 33, 34, 35, 36, 37, 38, 39, 40, 41, 42, 43, 44, 45, 46, 47, 48] rfl aw_wsX8_leads
set_option maxRecDepth 20000 in
theorem gX8_goesRoundBy_X8_leads : GoodIn wsX8_goesRoundBy (wsV RX8 161 RX8 yX8_leads wsX8_leads) := goodIn_app (goodIn_r _ [2, 3, 4, 5] rfl (by decide +kernel)) ggX8_goesRoundBy_X8_leads
set_option maxRecDepth 20000 in
theorem ggX8_goesRoundBy_X8_isOf : GoodIn wsX8_goesRoundBy wsX8_isOf := goodIn_r _ [14] rfl aw_wsX8_isOf
set_option maxRecDepth 20000 in
theorem gX8_goesRoundBy_X8_isOf : GoodIn wsX8_goesRoundBy (va_wsS RX8 158 yX8_isOf wsX8_isOf) := goodIn_app (goodIn_r _ [12, 13, 5] rfl (by decide +kernel)) ggX8_goesRoundBy_X8_isOf
theorem dX8_goesRoundBy_0 : decode cX8_goesRoundBy 0 = .ok (.iconst 0, 1) := by decide +kernel
theorem dX8_goesRoundBy_1 : decode cX8_goesRoundBy 1 = .ok (.istore_n 1, 1) := by decide +kernel
theorem dX8_goesRoundBy_2 : decode cX8_goesRoundBy 2 = .ok (.iload_n 1, 1) := by decide +kernel
theorem dX8_goesRoundBy_3 : decode cX8_goesRoundBy 3 = .ok (.aload_n 0, 1) := by decide +kernel
theorem dX8_goesRoundBy_4 : decode cX8_goesRoundBy 4 = .ok (.getfield 92, 3) := by decide +kernel
theorem dX8_goesRoundBy_7 : decode cX8_goesRoundBy 7 = .ok (.if_icmp .ge 43, 3) := by decide +kernel
theorem dX8_goesRoundBy_10 : decode cX8_goesRoundBy 10 = .ok (.iconst 1, 1) := by decide +kernel
theorem dX8_goesRoundBy_11 : decode cX8_goesRoundBy 11 = .ok (.iload_n 1, 1) := by decide +kernel
theorem dX8_goesRoundBy_12 : decode cX8_goesRoundBy 12 = .ok (.ishl, 1) := by decide +kernel
theorem dX8_goesRoundBy_13 : decode cX8_goesRoundBy 13 = .ok (.istore_n 2, 1) := by decide +kernel
theorem dX8_goesRoundBy_14 : decode cX8_goesRoundBy 14 = .ok (.iconst 0, 1) := by decide +kernel
theorem dX8_goesRoundBy_15 : decode cX8_goesRoundBy 15 = .ok (.istore_n 3, 1) := by decide +kernel
theorem dX8_goesRoundBy_16 : decode cX8_goesRoundBy 16 = .ok (.iload_n 2, 1) := by decide +kernel
theorem dX8_goesRoundBy_17 : decode cX8_goesRoundBy 17 = .ok (.iload_n 3, 1) := by decide +kernel
theorem dX8_goesRoundBy_18 : decode cX8_goesRoundBy 18 = .ok (.if_icmp .eq 14, 3) := by decide +kernel
theorem dX8_goesRoundBy_21 : decode cX8_goesRoundBy 21 = .ok (.iload_n 2, 1) := by decide +kernel
theorem dX8_goesRoundBy_22 : decode cX8_goesRoundBy 22 = .ok (.istore_n 3, 1) := by decide +kernel
theorem dX8_goesRoundBy_23 : decode cX8_goesRoundBy 23 = .ok (.aload_n 0, 1) := by decide +kernel
theorem dX8_goesRoundBy_24 : decode cX8_goesRoundBy 24 = .ok (.iload_n 2, 1) := by decide +kernel
theorem dX8_goesRoundBy_25 : decode cX8_goesRoundBy 25 = .ok (.invokevirtual 161, 3) := by decide +kernel
theorem dX8_goesRoundBy_28 : decode cX8_goesRoundBy 28 = .ok (.istore_n 2, 1) := by decide +kernel
theorem dX8_goesRoundBy_29 : decode cX8_goesRoundBy 29 = .ok (.goto (-13), 3) := by decide +kernel
theorem dX8_goesRoundBy_32 : decode cX8_goesRoundBy 32 = .ok (.iload_n 2, 1) := by decide +kernel
theorem dX8_goesRoundBy_33 : decode cX8_goesRoundBy 33 = .ok (.iconst 4, 1) := by decide +kernel
theorem dX8_goesRoundBy_34 : decode cX8_goesRoundBy 34 = .ok (.iload_n 1, 1) := by decide +kernel
theorem dX8_goesRoundBy_35 : decode cX8_goesRoundBy 35 = .ok (.iadd, 1) := by decide +kernel
theorem dX8_goesRoundBy_36 : decode cX8_goesRoundBy 36 = .ok (.invokestatic 158, 3) := by decide +kernel
theorem dX8_goesRoundBy_39 : decode cX8_goesRoundBy 39 = .ok (.ifCond .eq 5, 3) := by decide +kernel
theorem dX8_goesRoundBy_42 : decode cX8_goesRoundBy 42 = .ok (.iload_n 1, 1) := by decide +kernel
theorem dX8_goesRoundBy_43 : decode cX8_goesRoundBy 43 = .ok (.ireturn, 1) := by decide +kernel
theorem dX8_goesRoundBy_44 : decode cX8_goesRoundBy 44 = .ok (.iinc 1 1, 3) := by decide +kernel
theorem dX8_goesRoundBy_47 : decode cX8_goesRoundBy 47 = .ok (.goto (-45), 3) := by decide +kernel
theorem dX8_goesRoundBy_50 : decode cX8_goesRoundBy 50 = .ok (.bipush (-9), 2) := by decide +kernel
theorem dX8_goesRoundBy_52 : decode cX8_goesRoundBy 52 = .ok (.ireturn, 1) := by decide +kernel
theorem dX8_findLayers_0 : decode cX8_findLayers 0 = .ok (.iconst 0, 1) := by decide +kernel
theorem dX8_findLayers_1 : decode cX8_findLayers 1 = .ok (.istore_n 1, 1) := by decide +kernel
theorem dX8_findLayers_2 : decode cX8_findLayers 2 = .ok (.iload_n 1, 1) := by decide +kernel
theorem dX8_findLayers_3 : decode cX8_findLayers 3 = .ok (.iconst 4, 1) := by decide +kernel
theorem dX8_findLayers_4 : decode cX8_findLayers 4 = .ok (.if_icmp .ge 16, 3) := by decide +kernel
theorem dX8_findLayers_7 : decode cX8_findLayers 7 = .ok (.aload_n 0, 1) := by decide +kernel
theorem dX8_findLayers_8 : decode cX8_findLayers 8 = .ok (.getfield 49, 3) := by decide +kernel
theorem dX8_findLayers_11 : decode cX8_findLayers 11 = .ok (.iload_n 1, 1) := by decide +kernel
theorem dX8_findLayers_12 : decode cX8_findLayers 12 = .ok (.iconst 0, 1) := by decide +kernel
theorem dX8_findLayers_13 : decode cX8_findLayers 13 = .ok (.iastore, 1) := by decide +kernel
theorem dX8_findLayers_14 : decode cX8_findLayers 14 = .ok (.iinc 1 1, 3) := by decide +kernel
theorem dX8_findLayers_17 : decode cX8_findLayers 17 = .ok (.goto (-15), 3) := by decide +kernel
theorem dX8_findLayers_20 : decode cX8_findLayers 20 = .ok (.iconst 1, 1) := by decide +kernel
theorem dX8_findLayers_21 : decode cX8_findLayers 21 = .ok (.istore_n 1, 1) := by decide +kernel
theorem dX8_findLayers_22 : decode cX8_findLayers 22 = .ok (.iload_n 1, 1) := by decide +kernel
theorem dX8_findLayers_23 : decode cX8_findLayers 23 = .ok (.ifCond .eq 117, 3) := by decide +kernel
theorem dX8_findLayers_26 : decode cX8_findLayers 26 = .ok (.iconst 0, 1) := by decide +kernel
theorem dX8_findLayers_27 : decode cX8_findLayers 27 = .ok (.istore_n 1, 1) := by decide +kernel
theorem dX8_findLayers_28 : decode cX8_findLayers 28 = .ok (.iconst 0, 1) := by decide +kernel
theorem dX8_findLayers_29 : decode cX8_findLayers 29 = .ok (.istore_n 2, 1) := by decide +kernel
theorem dX8_findLayers_30 : decode cX8_findLayers 30 = .ok (.iload_n 2, 1) := by decide +kernel
theorem dX8_findLayers_31 : decode cX8_findLayers 31 = .ok (.aload_n 0, 1) := by decide +kernel
theorem dX8_findLayers_32 : decode cX8_findLayers 32 = .ok (.getfield 95, 3) := by decide +kernel
theorem dX8_findLayers_35 : decode cX8_findLayers 35 = .ok (.if_icmp .ge 102, 3) := by decide +kernel
theorem dX8_findLayers_38 : decode cX8_findLayers 38 = .ok (.aload_n 0, 1) := by decide +kernel
theorem dX8_findLayers_39 : decode cX8_findLayers 39 = .ok (.getfield 49, 3) := by decide +kernel
theorem dX8_findLayers_42 : decode cX8_findLayers 42 = .ok (.aload_n 0, 1) := by decide +kernel
theorem dX8_findLayers_43 : decode cX8_findLayers 43 = .ok (.getfield 31, 3) := by decide +kernel
theorem dX8_findLayers_46 : decode cX8_findLayers 46 = .ok (.iload_n 2, 1) := by decide +kernel
theorem dX8_findLayers_47 : decode cX8_findLayers 47 = .ok (.iaload, 1) := by decide +kernel
theorem dX8_findLayers_48 : decode cX8_findLayers 48 = .ok (.iaload, 1) := by decide +kernel
theorem dX8_findLayers_49 : decode cX8_findLayers 49 = .ok (.istore_n 3, 1) := by decide +kernel
theorem dX8_findLayers_50 : decode cX8_findLayers 50 = .ok (.aload_n 0, 1) := by decide +kernel
theorem dX8_findLayers_51 : decode cX8_findLayers 51 = .ok (.getfield 25, 3) := by decide +kernel
theorem dX8_findLayers_54 : decode cX8_findLayers 54 = .ok (.iload_n 2, 1) := by decide +kernel
theorem dX8_findLayers_55 : decode cX8_findLayers 55 = .ok (.iaload, 1) := by decide +kernel
theorem dX8_findLayers_56 : decode cX8_findLayers 56 = .ok (.iconst 2, 1) := by decide +kernel
theorem dX8_findLayers_57 : decode cX8_findLayers 57 = .ok (.if_icmp .lt 45, 3) := by decide +kernel
theorem dX8_findLayers_60 : decode cX8_findLayers 60 = .ok (.aload_n 0, 1) := by decide +kernel
theorem dX8_findLayers_61 : decode cX8_findLayers 61 = .ok (.getfield 49, 3) := by decide +kernel
theorem dX8_findLayers_64 : decode cX8_findLayers 64 = .ok (.aload_n 0, 1) := by decide +kernel
theorem dX8_findLayers_65 : decode cX8_findLayers 65 = .ok (.getfield 34, 3) := by decide +kernel
theorem dX8_findLayers_68 : decode cX8_findLayers 68 = .ok (.iload_n 2, 1) := by decide +kernel
theorem dX8_findLayers_69 : decode cX8_findLayers 69 = .ok (.iaload, 1) := by decide +kernel
theorem dX8_findLayers_70 : decode cX8_findLayers 70 = .ok (.iaload, 1) := by decide +kernel
theorem dX8_findLayers_71 : decode cX8_findLayers 71 = .ok (.aload_n 0, 1) := by decide +kernel
theorem dX8_findLayers_72 : decode cX8_findLayers 72 = .ok (.getfield 25, 3) := by decide +kernel
theorem dX8_findLayers_75 : decode cX8_findLayers 75 = .ok (.iload_n 2, 1) := by decide +kernel
theorem dX8_findLayers_76 : decode cX8_findLayers 76 = .ok (.iaload, 1) := by decide +kernel
theorem dX8_findLayers_77 : decode cX8_findLayers 77 = .ok (.iconst 3, 1) := by decide +kernel
theorem dX8_findLayers_78 : decode cX8_findLayers 78 = .ok (.if_icmp .ne 7, 3) := by decide +kernel
theorem dX8_findLayers_81 : decode cX8_findLayers 81 = .ok (.iconst 1, 1) := by decide +kernel
theorem dX8_findLayers_82 : decode cX8_findLayers 82 = .ok (.goto 4, 3) := by decide +kernel
theorem dX8_findLayers_85 : decode cX8_findLayers 85 = .ok (.iconst 0, 1) := by decide +kernel
theorem dX8_findLayers_86 : decode cX8_findLayers 86 = .ok (.iadd, 1) := by decide +kernel
theorem dX8_findLayers_87 : decode cX8_findLayers 87 = .ok (.istore 4, 2) := by decide +kernel
theorem dX8_findLayers_89 : decode cX8_findLayers 89 = .ok (.iload 4, 2) := by decide +kernel
theorem dX8_findLayers_91 : decode cX8_findLayers 91 = .ok (.iload_n 3, 1) := by decide +kernel
theorem dX8_findLayers_92 : decode cX8_findLayers 92 = .ok (.if_icmp .le 8, 3) := by decide +kernel
theorem dX8_findLayers_95 : decode cX8_findLayers 95 = .ok (.iload 4, 2) := by decide +kernel
theorem dX8_findLayers_97 : decode cX8_findLayers 97 = .ok (.goto 4, 3) := by decide +kernel
theorem dX8_findLayers_100 : decode cX8_findLayers 100 = .ok (.iload_n 3, 1) := by decide +kernel
theorem dX8_findLayers_101 : decode cX8_findLayers 101 = .ok (.istore_n 3, 1) := by decide +kernel
theorem dX8_findLayers_102 : decode cX8_findLayers 102 = .ok (.aload_n 0, 1) := by decide +kernel
theorem dX8_findLayers_103 : decode cX8_findLayers 103 = .ok (.getfield 49, 3) := by decide +kernel
theorem dX8_findLayers_106 : decode cX8_findLayers 106 = .ok (.aload_n 0, 1) := by decide +kernel
theorem dX8_findLayers_107 : decode cX8_findLayers 107 = .ok (.getfield 28, 3) := by decide +kernel
theorem dX8_findLayers_110 : decode cX8_findLayers 110 = .ok (.iload_n 2, 1) := by decide +kernel
theorem dX8_findLayers_111 : decode cX8_findLayers 111 = .ok (.iaload, 1) := by decide +kernel
theorem dX8_findLayers_112 : decode cX8_findLayers 112 = .ok (.iaload, 1) := by decide +kernel
theorem dX8_findLayers_113 : decode cX8_findLayers 113 = .ok (.iload_n 3, 1) := by decide +kernel
theorem dX8_findLayers_114 : decode cX8_findLayers 114 = .ok (.if_icmp .ge 17, 3) := by decide +kernel
theorem dX8_findLayers_117 : decode cX8_findLayers 117 = .ok (.aload_n 0, 1) := by decide +kernel
theorem dX8_findLayers_118 : decode cX8_findLayers 118 = .ok (.getfield 49, 3) := by decide +kernel
theorem dX8_findLayers_121 : decode cX8_findLayers 121 = .ok (.aload_n 0, 1) := by decide +kernel
theorem dX8_findLayers_122 : decode cX8_findLayers 122 = .ok (.getfield 28, 3) := by decide +kernel
theorem dX8_findLayers_125 : decode cX8_findLayers 125 = .ok (.iload_n 2, 1) := by decide +kernel
theorem dX8_findLayers_126 : decode cX8_findLayers 126 = .ok (.iaload, 1) := by decide +kernel
theorem dX8_findLayers_127 : decode cX8_findLayers 127 = .ok (.iload_n 3, 1) := by decide +kernel
theorem dX8_findLayers_128 : decode cX8_findLayers 128 = .ok (.iastore, 1) := by decide +kernel
theorem dX8_findLayers_129 : decode cX8_findLayers 129 = .ok (.iconst 1, 1) := by decide +kernel
theorem dX8_findLayers_130 : decode cX8_findLayers 130 = .ok (.istore_n 1, 1) := by decide +kernel
theorem dX8_findLayers_131 : decode cX8_findLayers 131 = .ok (.iinc 2 1, 3) := by decide +kernel
theorem dX8_findLayers_134 : decode cX8_findLayers 134 = .ok (.goto (-104), 3) := by decide +kernel
theorem dX8_findLayers_137 : decode cX8_findLayers 137 = .ok (.goto (-115), 3) := by decide +kernel
theorem dX8_findLayers_140 : decode cX8_findLayers 140 = .ok (.return_, 1) := by decide +kernel
theorem dX8_factOf_0 : decode cX8_factOf 0 = .ok (.bipush 16, 2) := by decide +kernel
theorem dX8_factOf_2 : decode cX8_factOf 2 = .ok (.iload_n 0, 1) := by decide +kernel
theorem dX8_factOf_3 : decode cX8_factOf 3 = .ok (.imul, 1) := by decide +kernel
theorem dX8_factOf_4 : decode cX8_factOf 4 = .ok (.iconst 4, 1) := by decide +kernel
theorem dX8_factOf_5 : decode cX8_factOf 5 = .ok (.iload_n 1, 1) := by decide +kernel
theorem dX8_factOf_6 : decode cX8_factOf 6 = .ok (.imul, 1) := by decide +kernel
theorem dX8_factOf_7 : decode cX8_factOf 7 = .ok (.iadd, 1) := by decide +kernel
theorem dX8_factOf_8 : decode cX8_factOf 8 = .ok (.iload_n 2, 1) := by decide +kernel
theorem dX8_factOf_9 : decode cX8_factOf 9 = .ok (.iadd, 1) := by decide +kernel
theorem dX8_factOf_10 : decode cX8_factOf 10 = .ok (.ireturn, 1) := by decide +kernel
set_option maxRecDepth 20000 in
theorem aw_wsX8_factOf : wsX8_factOf.all goodWord = true := by decide +kernel
set_option maxRecDepth 20000 in
theorem ggX8_follows_X8_factOf : GoodIn wsX8_follows wsX8_factOf := goodIn_r _ [8] rfl aw_wsX8_factOf
set_option maxRecDepth 20000 in
theorem gX8_follows_X8_factOf : GoodIn wsX8_follows (va_wsS RX8 164 yX8_factOf wsX8_factOf) := goodIn_app (goodIn_r _ [5, 6, 7] rfl (by decide +kernel)) ggX8_follows_X8_factOf
theorem dX8_follows_0 : decode cX8_follows 0 = .ok (.aload_n 0, 1) := by decide +kernel
theorem dX8_follows_1 : decode cX8_follows 1 = .ok (.getfield 25, 3) := by decide +kernel
theorem dX8_follows_4 : decode cX8_follows 4 = .ok (.iload_n 1, 1) := by decide +kernel
theorem dX8_follows_5 : decode cX8_follows 5 = .ok (.iaload, 1) := by decide +kernel
theorem dX8_follows_6 : decode cX8_follows 6 = .ok (.iconst 2, 1) := by decide +kernel
theorem dX8_follows_7 : decode cX8_follows 7 = .ok (.if_icmp .ne 64, 3) := by decide +kernel
theorem dX8_follows_10 : decode cX8_follows 10 = .ok (.iconst 0, 1) := by decide +kernel
theorem dX8_follows_11 : decode cX8_follows 11 = .ok (.istore 4, 2) := by decide +kernel
theorem dX8_follows_13 : decode cX8_follows 13 = .ok (.iload 4, 2) := by decide +kernel
theorem dX8_follows_15 : decode cX8_follows 15 = .ok (.iconst 4, 1) := by decide +kernel
theorem dX8_follows_16 : decode cX8_follows 16 = .ok (.if_icmp .ge 53, 3) := by decide +kernel
theorem dX8_follows_19 : decode cX8_follows 19 = .ok (.aload_n 0, 1) := by decide +kernel
theorem dX8_follows_20 : decode cX8_follows 20 = .ok (.getfield 52, 3) := by decide +kernel
theorem dX8_follows_23 : decode cX8_follows 23 = .ok (.aload_n 0, 1) := by decide +kernel
theorem dX8_follows_24 : decode cX8_follows 24 = .ok (.getfield 31, 3) := by decide +kernel
theorem dX8_follows_27 : decode cX8_follows 27 = .ok (.iload_n 1, 1) := by decide +kernel
theorem dX8_follows_28 : decode cX8_follows 28 = .ok (.iaload, 1) := by decide +kernel
theorem dX8_follows_29 : decode cX8_follows 29 = .ok (.iload_n 2, 1) := by decide +kernel
theorem dX8_follows_30 : decode cX8_follows 30 = .ok (.iload 4, 2) := by decide +kernel
theorem dX8_follows_32 : decode cX8_follows 32 = .ok (.invokestatic 164, 3) := by decide +kernel
theorem dX8_follows_35 : decode cX8_follows 35 = .ok (.iaload, 1) := by decide +kernel
theorem dX8_follows_36 : decode cX8_follows 36 = .ok (.iconst 1, 1) := by decide +kernel
theorem dX8_follows_37 : decode cX8_follows 37 = .ok (.if_icmp .ne 26, 3) := by decide +kernel
theorem dX8_follows_40 : decode cX8_follows 40 = .ok (.aload_n 0, 1) := by decide +kernel
theorem dX8_follows_41 : decode cX8_follows 41 = .ok (.getfield 52, 3) := by decide +kernel
theorem dX8_follows_44 : decode cX8_follows 44 = .ok (.aload_n 0, 1) := by decide +kernel
theorem dX8_follows_45 : decode cX8_follows 45 = .ok (.getfield 34, 3) := by decide +kernel
theorem dX8_follows_48 : decode cX8_follows 48 = .ok (.iload_n 1, 1) := by decide +kernel
theorem dX8_follows_49 : decode cX8_follows 49 = .ok (.iaload, 1) := by decide +kernel
theorem dX8_follows_50 : decode cX8_follows 50 = .ok (.iload 4, 2) := by decide +kernel
theorem dX8_follows_52 : decode cX8_follows 52 = .ok (.iload_n 3, 1) := by decide +kernel
theorem dX8_follows_53 : decode cX8_follows 53 = .ok (.invokestatic 164, 3) := by decide +kernel
theorem dX8_follows_56 : decode cX8_follows 56 = .ok (.iaload, 1) := by decide +kernel
theorem dX8_follows_57 : decode cX8_follows 57 = .ok (.iconst 1, 1) := by decide +kernel
theorem dX8_follows_58 : decode cX8_follows 58 = .ok (.if_icmp .ne 5, 3) := by decide +kernel
theorem dX8_follows_61 : decode cX8_follows 61 = .ok (.iconst 1, 1) := by decide +kernel
theorem dX8_follows_62 : decode cX8_follows 62 = .ok (.ireturn, 1) := by decide +kernel
theorem dX8_follows_63 : decode cX8_follows 63 = .ok (.iinc 4 1, 3) := by decide +kernel
theorem dX8_follows_66 : decode cX8_follows 66 = .ok (.goto (-53), 3) := by decide +kernel
theorem dX8_follows_69 : decode cX8_follows 69 = .ok (.iconst 0, 1) := by decide +kernel
theorem dX8_follows_70 : decode cX8_follows 70 = .ok (.ireturn, 1) := by decide +kernel
theorem dX8_follows_71 : decode cX8_follows 71 = .ok (.aload_n 0, 1) := by decide +kernel
theorem dX8_follows_72 : decode cX8_follows 72 = .ok (.getfield 25, 3) := by decide +kernel
theorem dX8_follows_75 : decode cX8_follows 75 = .ok (.iload_n 1, 1) := by decide +kernel
theorem dX8_follows_76 : decode cX8_follows 76 = .ok (.iaload, 1) := by decide +kernel
theorem dX8_follows_77 : decode cX8_follows 77 = .ok (.iconst 3, 1) := by decide +kernel
theorem dX8_follows_78 : decode cX8_follows 78 = .ok (.if_icmp .ne 48, 3) := by decide +kernel
theorem dX8_follows_81 : decode cX8_follows 81 = .ok (.aload_n 0, 1) := by decide +kernel
theorem dX8_follows_82 : decode cX8_follows 82 = .ok (.getfield 52, 3) := by decide +kernel
theorem dX8_follows_85 : decode cX8_follows 85 = .ok (.aload_n 0, 1) := by decide +kernel
theorem dX8_follows_86 : decode cX8_follows 86 = .ok (.getfield 31, 3) := by decide +kernel
theorem dX8_follows_89 : decode cX8_follows 89 = .ok (.iload_n 1, 1) := by decide +kernel
theorem dX8_follows_90 : decode cX8_follows 90 = .ok (.iaload, 1) := by decide +kernel
theorem dX8_follows_91 : decode cX8_follows 91 = .ok (.iload_n 2, 1) := by decide +kernel
theorem dX8_follows_92 : decode cX8_follows 92 = .ok (.iload_n 3, 1) := by decide +kernel
theorem dX8_follows_93 : decode cX8_follows 93 = .ok (.invokestatic 164, 3) := by decide +kernel
theorem dX8_follows_96 : decode cX8_follows 96 = .ok (.iaload, 1) := by decide +kernel
theorem dX8_follows_97 : decode cX8_follows 97 = .ok (.iconst 1, 1) := by decide +kernel
theorem dX8_follows_98 : decode cX8_follows 98 = .ok (.if_icmp .ne 26, 3) := by decide +kernel
theorem dX8_follows_101 : decode cX8_follows 101 = .ok (.aload_n 0, 1) := by decide +kernel
theorem dX8_follows_102 : decode cX8_follows 102 = .ok (.getfield 52, 3) := by decide +kernel
theorem dX8_follows_105 : decode cX8_follows 105 = .ok (.aload_n 0, 1) := by decide +kernel
theorem dX8_follows_106 : decode cX8_follows 106 = .ok (.getfield 34, 3) := by decide +kernel
theorem dX8_follows_109 : decode cX8_follows 109 = .ok (.iload_n 1, 1) := by decide +kernel
theorem dX8_follows_110 : decode cX8_follows 110 = .ok (.iaload, 1) := by decide +kernel
theorem dX8_follows_111 : decode cX8_follows 111 = .ok (.iload_n 2, 1) := by decide +kernel
theorem dX8_follows_112 : decode cX8_follows 112 = .ok (.iload_n 3, 1) := by decide +kernel
theorem dX8_follows_113 : decode cX8_follows 113 = .ok (.invokestatic 164, 3) := by decide +kernel
theorem dX8_follows_116 : decode cX8_follows 116 = .ok (.iaload, 1) := by decide +kernel
theorem dX8_follows_117 : decode cX8_follows 117 = .ok (.ifCond .ne 7, 3) := by decide +kernel
theorem dX8_follows_120 : decode cX8_follows 120 = .ok (.iconst 1, 1) := by decide +kernel
theorem dX8_follows_121 : decode cX8_follows 121 = .ok (.goto 4, 3) := by decide +kernel
theorem dX8_follows_124 : decode cX8_follows 124 = .ok (.iconst 0, 1) := by decide +kernel
theorem dX8_follows_125 : decode cX8_follows 125 = .ok (.ireturn, 1) := by decide +kernel
theorem dX8_follows_126 : decode cX8_follows 126 = .ok (.aload_n 0, 1) := by decide +kernel
theorem dX8_follows_127 : decode cX8_follows 127 = .ok (.getfield 52, 3) := by decide +kernel
theorem dX8_follows_130 : decode cX8_follows 130 = .ok (.aload_n 0, 1) := by decide +kernel
theorem dX8_follows_131 : decode cX8_follows 131 = .ok (.getfield 25, 3) := by decide +kernel
theorem dX8_follows_134 : decode cX8_follows 134 = .ok (.iload_n 1, 1) := by decide +kernel
theorem dX8_follows_135 : decode cX8_follows 135 = .ok (.iaload, 1) := by decide +kernel
theorem dX8_follows_136 : decode cX8_follows 136 = .ok (.ifCond .ne 17, 3) := by decide +kernel
theorem dX8_follows_139 : decode cX8_follows 139 = .ok (.aload_n 0, 1) := by decide +kernel
theorem dX8_follows_140 : decode cX8_follows 140 = .ok (.getfield 31, 3) := by decide +kernel
theorem dX8_follows_143 : decode cX8_follows 143 = .ok (.iload_n 1, 1) := by decide +kernel
theorem dX8_follows_144 : decode cX8_follows 144 = .ok (.iaload, 1) := by decide +kernel
theorem dX8_follows_145 : decode cX8_follows 145 = .ok (.iload_n 2, 1) := by decide +kernel
theorem dX8_follows_146 : decode cX8_follows 146 = .ok (.iload_n 3, 1) := by decide +kernel
theorem dX8_follows_147 : decode cX8_follows 147 = .ok (.invokestatic 164, 3) := by decide +kernel
theorem dX8_follows_150 : decode cX8_follows 150 = .ok (.goto 14, 3) := by decide +kernel
theorem dX8_follows_153 : decode cX8_follows 153 = .ok (.aload_n 0, 1) := by decide +kernel
theorem dX8_follows_154 : decode cX8_follows 154 = .ok (.getfield 31, 3) := by decide +kernel
theorem dX8_follows_157 : decode cX8_follows 157 = .ok (.iload_n 1, 1) := by decide +kernel
theorem dX8_follows_158 : decode cX8_follows 158 = .ok (.iaload, 1) := by decide +kernel
theorem dX8_follows_159 : decode cX8_follows 159 = .ok (.iload_n 3, 1) := by decide +kernel
theorem dX8_follows_160 : decode cX8_follows 160 = .ok (.iload_n 2, 1) := by decide +kernel
theorem dX8_follows_161 : decode cX8_follows 161 = .ok (.invokestatic 164, 3) := by decide +kernel
theorem dX8_follows_164 : decode cX8_follows 164 = .ok (.iaload, 1) := by decide +kernel
theorem dX8_follows_165 : decode cX8_follows 165 = .ok (.iconst 1, 1) := by decide +kernel
theorem dX8_follows_166 : decode cX8_follows 166 = .ok (.if_icmp .ne 7, 3) := by decide +kernel
theorem dX8_follows_169 : decode cX8_follows 169 = .ok (.iconst 1, 1) := by decide +kernel
theorem dX8_follows_170 : decode cX8_follows 170 = .ok (.goto 4, 3) := by decide +kernel
theorem dX8_follows_173 : decode cX8_follows 173 = .ok (.iconst 0, 1) := by decide +kernel
theorem dX8_follows_174 : decode cX8_follows 174 = .ok (.ireturn, 1) := by decide +kernel
set_option maxRecDepth 20000 in
theorem aw_wsX8_follows : wsX8_follows.all goodWord = true := by decide +kernel
set_option maxRecDepth 20000 in
theorem ggX8_goesRound_X8_follows : GoodIn wsX8_goesRound wsX8_follows := goodIn_r _ [12, 13, 2, 14, 15, 16, 17, 11, 18, 19, 20, 21, 22, 23, 24, 25, 26, 27, 28, 29, 30, 31, 32, 33, 34, 35, 36, 37, 38, 39, 40, 41, 42, 43, 44, 45, 46, 47, 48, 49, 50, 51, 52] rfl aw_wsX8_follows
set_option maxRecDepth 20000 in
theorem gX8_goesRound_X8_follows : GoodIn wsX8_goesRound (wsV RX8 167 RX8 yX8_follows wsX8_follows) := goodIn_app (goodIn_r _ [8, 9, 10, 11] rfl (by decide +kernel)) ggX8_goesRound_X8_follows
theorem dX8_goesRound_0 : decode cX8_goesRound 0 = .ok (.iconst 0, 1) := by decide +kernel
theorem dX8_goesRound_1 : decode cX8_goesRound 1 = .ok (.istore_n 2, 1) := by decide +kernel
theorem dX8_goesRound_2 : decode cX8_goesRound 2 = .ok (.iconst 0, 1) := by decide +kernel
theorem dX8_goesRound_3 : decode cX8_goesRound 3 = .ok (.istore_n 3, 1) := by decide +kernel
theorem dX8_goesRound_4 : decode cX8_goesRound 4 = .ok (.iload_n 3, 1) := by decide +kernel
theorem dX8_goesRound_5 : decode cX8_goesRound 5 = .ok (.bipush 64, 2) := by decide +kernel
theorem dX8_goesRound_7 : decode cX8_goesRound 7 = .ok (.if_icmp .ge 21, 3) := by decide +kernel
theorem dX8_goesRound_10 : decode cX8_goesRound 10 = .ok (.aload_n 0, 1) := by decide +kernel
theorem dX8_goesRound_11 : decode cX8_goesRound 11 = .ok (.getfield 55, 3) := by decide +kernel
theorem dX8_goesRound_14 : decode cX8_goesRound 14 = .ok (.iload_n 3, 1) := by decide +kernel
theorem dX8_goesRound_15 : decode cX8_goesRound 15 = .ok (.aload_n 0, 1) := by decide +kernel
theorem dX8_goesRound_16 : decode cX8_goesRound 16 = .ok (.getfield 52, 3) := by decide +kernel
theorem dX8_goesRound_19 : decode cX8_goesRound 19 = .ok (.iload_n 3, 1) := by decide +kernel
theorem dX8_goesRound_20 : decode cX8_goesRound 20 = .ok (.iaload, 1) := by decide +kernel
theorem dX8_goesRound_21 : decode cX8_goesRound 21 = .ok (.iastore, 1) := by decide +kernel
theorem dX8_goesRound_22 : decode cX8_goesRound 22 = .ok (.iinc 3 1, 3) := by decide +kernel
theorem dX8_goesRound_25 : decode cX8_goesRound 25 = .ok (.goto (-21), 3) := by decide +kernel
theorem dX8_goesRound_28 : decode cX8_goesRound 28 = .ok (.iconst 0, 1) := by decide +kernel
theorem dX8_goesRound_29 : decode cX8_goesRound 29 = .ok (.istore_n 3, 1) := by decide +kernel
theorem dX8_goesRound_30 : decode cX8_goesRound 30 = .ok (.iload_n 3, 1) := by decide +kernel
theorem dX8_goesRound_31 : decode cX8_goesRound 31 = .ok (.aload_n 0, 1) := by decide +kernel
theorem dX8_goesRound_32 : decode cX8_goesRound 32 = .ok (.getfield 95, 3) := by decide +kernel
theorem dX8_goesRound_35 : decode cX8_goesRound 35 = .ok (.if_icmp .ge 103, 3) := by decide +kernel
theorem dX8_goesRound_38 : decode cX8_goesRound 38 = .ok (.iconst 0, 1) := by decide +kernel
theorem dX8_goesRound_39 : decode cX8_goesRound 39 = .ok (.istore 4, 2) := by decide +kernel
theorem dX8_goesRound_41 : decode cX8_goesRound 41 = .ok (.iload 4, 2) := by decide +kernel
theorem dX8_goesRound_43 : decode cX8_goesRound 43 = .ok (.bipush 16, 2) := by decide +kernel
theorem dX8_goesRound_45 : decode cX8_goesRound 45 = .ok (.if_icmp .ge 87, 3) := by decide +kernel
theorem dX8_goesRound_48 : decode cX8_goesRound 48 = .ok (.aload_n 0, 1) := by decide +kernel
theorem dX8_goesRound_49 : decode cX8_goesRound 49 = .ok (.getfield 49, 3) := by decide +kernel
theorem dX8_goesRound_52 : decode cX8_goesRound 52 = .ok (.aload_n 0, 1) := by decide +kernel
theorem dX8_goesRound_53 : decode cX8_goesRound 53 = .ok (.getfield 28, 3) := by decide +kernel
theorem dX8_goesRound_56 : decode cX8_goesRound 56 = .ok (.iload_n 3, 1) := by decide +kernel
theorem dX8_goesRound_57 : decode cX8_goesRound 57 = .ok (.iaload, 1) := by decide +kernel
theorem dX8_goesRound_58 : decode cX8_goesRound 58 = .ok (.iaload, 1) := by decide +kernel
theorem dX8_goesRound_59 : decode cX8_goesRound 59 = .ok (.iload_n 1, 1) := by decide +kernel
theorem dX8_goesRound_60 : decode cX8_goesRound 60 = .ok (.if_icmp .ne 72, 3) := by decide +kernel
theorem dX8_goesRound_63 : decode cX8_goesRound 63 = .ok (.bipush 16, 2) := by decide +kernel
theorem dX8_goesRound_65 : decode cX8_goesRound 65 = .ok (.aload_n 0, 1) := by decide +kernel
theorem dX8_goesRound_66 : decode cX8_goesRound 66 = .ok (.getfield 28, 3) := by decide +kernel
theorem dX8_goesRound_69 : decode cX8_goesRound 69 = .ok (.iload_n 3, 1) := by decide +kernel
theorem dX8_goesRound_70 : decode cX8_goesRound 70 = .ok (.iaload, 1) := by decide +kernel
theorem dX8_goesRound_71 : decode cX8_goesRound 71 = .ok (.imul, 1) := by decide +kernel
theorem dX8_goesRound_72 : decode cX8_goesRound 72 = .ok (.iload 4, 2) := by decide +kernel
theorem dX8_goesRound_74 : decode cX8_goesRound 74 = .ok (.iadd, 1) := by decide +kernel
theorem dX8_goesRound_75 : decode cX8_goesRound 75 = .ok (.istore 5, 2) := by decide +kernel
theorem dX8_goesRound_77 : decode cX8_goesRound 77 = .ok (.aload_n 0, 1) := by decide +kernel
theorem dX8_goesRound_78 : decode cX8_goesRound 78 = .ok (.getfield 55, 3) := by decide +kernel
theorem dX8_goesRound_81 : decode cX8_goesRound 81 = .ok (.iload 5, 2) := by decide +kernel
theorem dX8_goesRound_83 : decode cX8_goesRound 83 = .ok (.iaload, 1) := by decide +kernel
theorem dX8_goesRound_84 : decode cX8_goesRound 84 = .ok (.ifCond .ne 42, 3) := by decide +kernel
theorem dX8_goesRound_87 : decode cX8_goesRound 87 = .ok (.aload_n 0, 1) := by decide +kernel
theorem dX8_goesRound_88 : decode cX8_goesRound 88 = .ok (.iload_n 3, 1) := by decide +kernel
theorem dX8_goesRound_89 : decode cX8_goesRound 89 = .ok (.iload 4, 2) := by decide +kernel
theorem dX8_goesRound_91 : decode cX8_goesRound 91 = .ok (.iconst 4, 1) := by decide +kernel
theorem dX8_goesRound_92 : decode cX8_goesRound 92 = .ok (.idiv, 1) := by decide +kernel
theorem dX8_goesRound_93 : decode cX8_goesRound 93 = .ok (.iload 4, 2) := by decide +kernel
theorem dX8_goesRound_95 : decode cX8_goesRound 95 = .ok (.iconst 4, 1) := by decide +kernel
theorem dX8_goesRound_96 : decode cX8_goesRound 96 = .ok (.irem, 1) := by decide +kernel
theorem dX8_goesRound_97 : decode cX8_goesRound 97 = .ok (.invokevirtual 167, 3) := by decide +kernel
theorem dX8_goesRound_100 : decode cX8_goesRound 100 = .ok (.ifCond .eq 26, 3) := by decide +kernel
theorem dX8_goesRound_103 : decode cX8_goesRound 103 = .ok (.aload_n 0, 1) := by decide +kernel
theorem dX8_goesRound_104 : decode cX8_goesRound 104 = .ok (.getfield 55, 3) := by decide +kernel
theorem dX8_goesRound_107 : decode cX8_goesRound 107 = .ok (.iload 5, 2) := by decide +kernel
theorem dX8_goesRound_109 : decode cX8_goesRound 109 = .ok (.iconst 1, 1) := by decide +kernel
theorem dX8_goesRound_110 : decode cX8_goesRound 110 = .ok (.iastore, 1) := by decide +kernel
theorem dX8_goesRound_111 : decode cX8_goesRound 111 = .ok (.aload_n 0, 1) := by decide +kernel
theorem dX8_goesRound_112 : decode cX8_goesRound 112 = .ok (.getfield 58, 3) := by decide +kernel
theorem dX8_goesRound_115 : decode cX8_goesRound 115 = .ok (.iload 5, 2) := by decide +kernel
theorem dX8_goesRound_117 : decode cX8_goesRound 117 = .ok (.aload_n 0, 1) := by decide +kernel
theorem dX8_goesRound_118 : decode cX8_goesRound 118 = .ok (.getfield 170, 3) := by decide +kernel
theorem dX8_goesRound_121 : decode cX8_goesRound 121 = .ok (.iconst 1, 1) := by decide +kernel
theorem dX8_goesRound_122 : decode cX8_goesRound 122 = .ok (.iadd, 1) := by decide +kernel
theorem dX8_goesRound_123 : decode cX8_goesRound 123 = .ok (.iastore, 1) := by decide +kernel
theorem dX8_goesRound_124 : decode cX8_goesRound 124 = .ok (.iconst 1, 1) := by decide +kernel
theorem dX8_goesRound_125 : decode cX8_goesRound 125 = .ok (.istore_n 2, 1) := by decide +kernel
theorem dX8_goesRound_126 : decode cX8_goesRound 126 = .ok (.iinc 4 1, 3) := by decide +kernel
theorem dX8_goesRound_129 : decode cX8_goesRound 129 = .ok (.goto (-88), 3) := by decide +kernel
theorem dX8_goesRound_132 : decode cX8_goesRound 132 = .ok (.iinc 3 1, 3) := by decide +kernel
theorem dX8_goesRound_135 : decode cX8_goesRound 135 = .ok (.goto (-105), 3) := by decide +kernel
theorem dX8_goesRound_138 : decode cX8_goesRound 138 = .ok (.iconst 0, 1) := by decide +kernel
theorem dX8_goesRound_139 : decode cX8_goesRound 139 = .ok (.istore_n 3, 1) := by decide +kernel
theorem dX8_goesRound_140 : decode cX8_goesRound 140 = .ok (.iload_n 3, 1) := by decide +kernel
theorem dX8_goesRound_141 : decode cX8_goesRound 141 = .ok (.bipush 64, 2) := by decide +kernel
theorem dX8_goesRound_143 : decode cX8_goesRound 143 = .ok (.if_icmp .ge 21, 3) := by decide +kernel
theorem dX8_goesRound_146 : decode cX8_goesRound 146 = .ok (.aload_n 0, 1) := by decide +kernel
theorem dX8_goesRound_147 : decode cX8_goesRound 147 = .ok (.getfield 52, 3) := by decide +kernel
theorem dX8_goesRound_150 : decode cX8_goesRound 150 = .ok (.iload_n 3, 1) := by decide +kernel
theorem dX8_goesRound_151 : decode cX8_goesRound 151 = .ok (.aload_n 0, 1) := by decide +kernel
theorem dX8_goesRound_152 : decode cX8_goesRound 152 = .ok (.getfield 55, 3) := by decide +kernel
theorem dX8_goesRound_155 : decode cX8_goesRound 155 = .ok (.iload_n 3, 1) := by decide +kernel
theorem dX8_goesRound_156 : decode cX8_goesRound 156 = .ok (.iaload, 1) := by decide +kernel
theorem dX8_goesRound_157 : decode cX8_goesRound 157 = .ok (.iastore, 1) := by decide +kernel
theorem dX8_goesRound_158 : decode cX8_goesRound 158 = .ok (.iinc 3 1, 3) := by decide +kernel
theorem dX8_goesRound_161 : decode cX8_goesRound 161 = .ok (.goto (-21), 3) := by decide +kernel
theorem dX8_goesRound_164 : decode cX8_goesRound 164 = .ok (.aload_n 0, 1) := by decide +kernel
theorem dX8_goesRound_165 : decode cX8_goesRound 165 = .ok (.dup, 1) := by decide +kernel
theorem dX8_goesRound_166 : decode cX8_goesRound 166 = .ok (.getfield 170, 3) := by decide +kernel
theorem dX8_goesRound_169 : decode cX8_goesRound 169 = .ok (.iload_n 2, 1) := by decide +kernel
theorem dX8_goesRound_170 : decode cX8_goesRound 170 = .ok (.ifCond .eq 7, 3) := by decide +kernel
theorem dX8_goesRound_173 : decode cX8_goesRound 173 = .ok (.iconst 1, 1) := by decide +kernel
theorem dX8_goesRound_174 : decode cX8_goesRound 174 = .ok (.goto 4, 3) := by decide +kernel
theorem dX8_goesRound_177 : decode cX8_goesRound 177 = .ok (.iconst 0, 1) := by decide +kernel
theorem dX8_goesRound_178 : decode cX8_goesRound 178 = .ok (.iadd, 1) := by decide +kernel
theorem dX8_goesRound_179 : decode cX8_goesRound 179 = .ok (.putfield 170, 3) := by decide +kernel
theorem dX8_goesRound_182 : decode cX8_goesRound 182 = .ok (.iload_n 2, 1) := by decide +kernel
theorem dX8_goesRound_183 : decode cX8_goesRound 183 = .ok (.ireturn, 1) := by decide +kernel
set_option maxRecDepth 20000 in
theorem aw_wsX8_findLayers : wsX8_findLayers.all goodWord = true := by decide +kernel
set_option maxRecDepth 20000 in
theorem ggX8_findHolds_X8_findLayers : GoodIn wsX8_findHolds wsX8_findLayers := goodIn_r _ [9, 10, 11, 12, 13, 14, 15, 28, 29, 30, 31, 32, 33, 34, 35, 36, 37, 38, 39, 40, 41, 42, 43, 44, 45, 46, 47, 48, 49, 50, 51, 52, 53, 54, 55, 56, 57, 58, 59, 60, 61] rfl aw_wsX8_findLayers
set_option maxRecDepth 20000 in
theorem gX8_findHolds_X8_findLayers : GoodIn wsX8_findHolds (wsV RX8 173 RX8 yX8_findLayers wsX8_findLayers) := goodIn_app (goodIn_r _ [5, 6, 7, 8] rfl (by decide +kernel)) ggX8_findHolds_X8_findLayers
set_option maxRecDepth 20000 in
theorem aw_wsX8_goesRound : wsX8_goesRound.all goodWord = true := by decide +kernel
set_option maxRecDepth 20000 in
theorem ggX8_findHolds_X8_goesRound : GoodIn wsX8_findHolds wsX8_goesRound := goodIn_r _ [19, 20, 2, 11, 10, 15, 4, 1, 21, 22, 23, 8, 24, 13, 12, 14, 25, 26, 27, 28, 29, 30, 31, 32, 33, 34, 35, 36, 37, 38, 39, 40, 41, 42, 43, 44, 45, 46, 47, 48, 49, 50, 51, 52, 53, 54, 55, 56, 57, 58, 59, 60, 61] rfl aw_wsX8_goesRound
set_option maxRecDepth 20000 in
theorem gX8_findHolds_X8_goesRound : GoodIn wsX8_findHolds (wsV RX8 176 RX8 yX8_goesRound wsX8_goesRound) := goodIn_app (goodIn_r _ [16, 17, 18, 8] rfl (by decide +kernel)) ggX8_findHolds_X8_goesRound
theorem dX8_findHolds_0 : decode cX8_findHolds 0 = .ok (.aload_n 0, 1) := by decide +kernel
theorem dX8_findHolds_1 : decode cX8_findHolds 1 = .ok (.invokevirtual 173, 3) := by decide +kernel
theorem dX8_findHolds_4 : decode cX8_findHolds 4 = .ok (.aload_n 0, 1) := by decide +kernel
theorem dX8_findHolds_5 : decode cX8_findHolds 5 = .ok (.iconst 0, 1) := by decide +kernel
theorem dX8_findHolds_6 : decode cX8_findHolds 6 = .ok (.putfield 170, 3) := by decide +kernel
theorem dX8_findHolds_9 : decode cX8_findHolds 9 = .ok (.iconst 0, 1) := by decide +kernel
theorem dX8_findHolds_10 : decode cX8_findHolds 10 = .ok (.istore_n 1, 1) := by decide +kernel
theorem dX8_findHolds_11 : decode cX8_findHolds 11 = .ok (.iload_n 1, 1) := by decide +kernel
theorem dX8_findHolds_12 : decode cX8_findHolds 12 = .ok (.bipush 64, 2) := by decide +kernel
theorem dX8_findHolds_14 : decode cX8_findHolds 14 = .ok (.if_icmp .ge 28, 3) := by decide +kernel
theorem dX8_findHolds_17 : decode cX8_findHolds 17 = .ok (.aload_n 0, 1) := by decide +kernel
theorem dX8_findHolds_18 : decode cX8_findHolds 18 = .ok (.getfield 52, 3) := by decide +kernel
theorem dX8_findHolds_21 : decode cX8_findHolds 21 = .ok (.iload_n 1, 1) := by decide +kernel
theorem dX8_findHolds_22 : decode cX8_findHolds 22 = .ok (.aload_n 0, 1) := by decide +kernel
theorem dX8_findHolds_23 : decode cX8_findHolds 23 = .ok (.getfield 37, 3) := by decide +kernel
theorem dX8_findHolds_26 : decode cX8_findHolds 26 = .ok (.iload_n 1, 1) := by decide +kernel
theorem dX8_findHolds_27 : decode cX8_findHolds 27 = .ok (.iaload, 1) := by decide +kernel
theorem dX8_findHolds_28 : decode cX8_findHolds 28 = .ok (.iastore, 1) := by decide +kernel
theorem dX8_findHolds_29 : decode cX8_findHolds 29 = .ok (.aload_n 0, 1) := by decide +kernel
theorem dX8_findHolds_30 : decode cX8_findHolds 30 = .ok (.getfield 58, 3) := by decide +kernel
theorem dX8_findHolds_33 : decode cX8_findHolds 33 = .ok (.iload_n 1, 1) := by decide +kernel
theorem dX8_findHolds_34 : decode cX8_findHolds 34 = .ok (.iconst 0, 1) := by decide +kernel
theorem dX8_findHolds_35 : decode cX8_findHolds 35 = .ok (.iastore, 1) := by decide +kernel
theorem dX8_findHolds_36 : decode cX8_findHolds 36 = .ok (.iinc 1 1, 3) := by decide +kernel
theorem dX8_findHolds_39 : decode cX8_findHolds 39 = .ok (.goto (-28), 3) := by decide +kernel
theorem dX8_findHolds_42 : decode cX8_findHolds 42 = .ok (.iconst 0, 1) := by decide +kernel
theorem dX8_findHolds_43 : decode cX8_findHolds 43 = .ok (.istore_n 1, 1) := by decide +kernel
theorem dX8_findHolds_44 : decode cX8_findHolds 44 = .ok (.iload_n 1, 1) := by decide +kernel
theorem dX8_findHolds_45 : decode cX8_findHolds 45 = .ok (.iconst 4, 1) := by decide +kernel
theorem dX8_findHolds_46 : decode cX8_findHolds 46 = .ok (.if_icmp .ge 24, 3) := by decide +kernel
theorem dX8_findHolds_49 : decode cX8_findHolds 49 = .ok (.iconst 1, 1) := by decide +kernel
theorem dX8_findHolds_50 : decode cX8_findHolds 50 = .ok (.istore_n 2, 1) := by decide +kernel
theorem dX8_findHolds_51 : decode cX8_findHolds 51 = .ok (.iload_n 2, 1) := by decide +kernel
theorem dX8_findHolds_52 : decode cX8_findHolds 52 = .ok (.ifCond .eq 12, 3) := by decide +kernel
theorem dX8_findHolds_55 : decode cX8_findHolds 55 = .ok (.aload_n 0, 1) := by decide +kernel
theorem dX8_findHolds_56 : decode cX8_findHolds 56 = .ok (.iload_n 1, 1) := by decide +kernel
theorem dX8_findHolds_57 : decode cX8_findHolds 57 = .ok (.invokevirtual 176, 3) := by decide +kernel
theorem dX8_findHolds_60 : decode cX8_findHolds 60 = .ok (.istore_n 2, 1) := by decide +kernel
theorem dX8_findHolds_61 : decode cX8_findHolds 61 = .ok (.goto (-10), 3) := by decide +kernel
theorem dX8_findHolds_64 : decode cX8_findHolds 64 = .ok (.iinc 1 1, 3) := by decide +kernel
theorem dX8_findHolds_67 : decode cX8_findHolds 67 = .ok (.goto (-23), 3) := by decide +kernel
theorem dX8_findHolds_70 : decode cX8_findHolds 70 = .ok (.return_, 1) := by decide +kernel
set_option maxRecDepth 20000 in
theorem ggX8_costBy_X8_factOf : GoodIn wsX8_costBy wsX8_factOf := goodIn_r _ [9] rfl aw_wsX8_factOf
set_option maxRecDepth 20000 in
theorem gX8_costBy_X8_factOf : GoodIn wsX8_costBy (va_wsS RX8 164 yX8_factOf wsX8_factOf) := goodIn_app (goodIn_r _ [6, 7, 8] rfl (by decide +kernel)) ggX8_costBy_X8_factOf
set_option maxRecDepth 20000 in
theorem aw_wsX8_costOf : wsX8_costOf.all goodWord = true := by decide +kernel
set_option maxRecDepth 20000 in
theorem ggX8_costBy_X8_costOf : GoodIn wsX8_costBy wsX8_costOf := goodIn_r _ [13, 14, 15, 16, 17, 18, 19, 20, 21, 22, 23, 24, 25, 26, 27, 28, 29, 30, 31, 32, 33, 34, 35, 36, 37, 38, 39, 40, 41, 42, 43, 44, 45, 46, 47, 48, 49] rfl aw_wsX8_costOf
set_option maxRecDepth 20000 in
theorem gX8_costBy_X8_costOf : GoodIn wsX8_costBy (wsV RX8 179 RX8 yX8_costOf wsX8_costOf) := goodIn_app (goodIn_r _ [10, 11, 12, 8] rfl (by decide +kernel)) ggX8_costBy_X8_costOf
theorem dX8_costBy_0 : decode cX8_costBy 0 = .ok (.aload_n 0, 1) := by decide +kernel
theorem dX8_costBy_1 : decode cX8_costBy 1 = .ok (.getfield 61, 3) := by decide +kernel
theorem dX8_costBy_4 : decode cX8_costBy 4 = .ok (.aload_n 0, 1) := by decide +kernel
theorem dX8_costBy_5 : decode cX8_costBy 5 = .ok (.getfield 25, 3) := by decide +kernel
theorem dX8_costBy_8 : decode cX8_costBy 8 = .ok (.iload_n 1, 1) := by decide +kernel
theorem dX8_costBy_9 : decode cX8_costBy 9 = .ok (.iaload, 1) := by decide +kernel
theorem dX8_costBy_10 : decode cX8_costBy 10 = .ok (.iconst 2, 1) := by decide +kernel
theorem dX8_costBy_11 : decode cX8_costBy 11 = .ok (.if_icmp .ne 18, 3) := by decide +kernel
theorem dX8_costBy_14 : decode cX8_costBy 14 = .ok (.aload_n 0, 1) := by decide +kernel
theorem dX8_costBy_15 : decode cX8_costBy 15 = .ok (.getfield 31, 3) := by decide +kernel
theorem dX8_costBy_18 : decode cX8_costBy 18 = .ok (.iload_n 1, 1) := by decide +kernel
theorem dX8_costBy_19 : decode cX8_costBy 19 = .ok (.iaload, 1) := by decide +kernel
theorem dX8_costBy_20 : decode cX8_costBy 20 = .ok (.iload_n 2, 1) := by decide +kernel
theorem dX8_costBy_21 : decode cX8_costBy 21 = .ok (.iload 4, 2) := by decide +kernel
theorem dX8_costBy_23 : decode cX8_costBy 23 = .ok (.invokestatic 164, 3) := by decide +kernel
theorem dX8_costBy_26 : decode cX8_costBy 26 = .ok (.goto 38, 3) := by decide +kernel
theorem dX8_costBy_29 : decode cX8_costBy 29 = .ok (.aload_n 0, 1) := by decide +kernel
theorem dX8_costBy_30 : decode cX8_costBy 30 = .ok (.getfield 25, 3) := by decide +kernel
theorem dX8_costBy_33 : decode cX8_costBy 33 = .ok (.iload_n 1, 1) := by decide +kernel
theorem dX8_costBy_34 : decode cX8_costBy 34 = .ok (.iaload, 1) := by decide +kernel
theorem dX8_costBy_35 : decode cX8_costBy 35 = .ok (.iconst 1, 1) := by decide +kernel
theorem dX8_costBy_36 : decode cX8_costBy 36 = .ok (.if_icmp .ne 17, 3) := by decide +kernel
theorem dX8_costBy_39 : decode cX8_costBy 39 = .ok (.aload_n 0, 1) := by decide +kernel
theorem dX8_costBy_40 : decode cX8_costBy 40 = .ok (.getfield 31, 3) := by decide +kernel
theorem dX8_costBy_43 : decode cX8_costBy 43 = .ok (.iload_n 1, 1) := by decide +kernel
theorem dX8_costBy_44 : decode cX8_costBy 44 = .ok (.iaload, 1) := by decide +kernel
theorem dX8_costBy_45 : decode cX8_costBy 45 = .ok (.iload_n 3, 1) := by decide +kernel
theorem dX8_costBy_46 : decode cX8_costBy 46 = .ok (.iload_n 2, 1) := by decide +kernel
theorem dX8_costBy_47 : decode cX8_costBy 47 = .ok (.invokestatic 164, 3) := by decide +kernel
theorem dX8_costBy_50 : decode cX8_costBy 50 = .ok (.goto 14, 3) := by decide +kernel
theorem dX8_costBy_53 : decode cX8_costBy 53 = .ok (.aload_n 0, 1) := by decide +kernel
theorem dX8_costBy_54 : decode cX8_costBy 54 = .ok (.getfield 31, 3) := by decide +kernel
theorem dX8_costBy_57 : decode cX8_costBy 57 = .ok (.iload_n 1, 1) := by decide +kernel
theorem dX8_costBy_58 : decode cX8_costBy 58 = .ok (.iaload, 1) := by decide +kernel
theorem dX8_costBy_59 : decode cX8_costBy 59 = .ok (.iload_n 2, 1) := by decide +kernel
theorem dX8_costBy_60 : decode cX8_costBy 60 = .ok (.iload_n 3, 1) := by decide +kernel
theorem dX8_costBy_61 : decode cX8_costBy 61 = .ok (.invokestatic 164, 3) := by decide +kernel
theorem dX8_costBy_64 : decode cX8_costBy 64 = .ok (.iaload, 1) := by decide +kernel
theorem dX8_costBy_65 : decode cX8_costBy 65 = .ok (.istore 5, 2) := by decide +kernel
theorem dX8_costBy_67 : decode cX8_costBy 67 = .ok (.iload 5, 2) := by decide +kernel
theorem dX8_costBy_69 : decode cX8_costBy 69 = .ok (.bipush (-9), 2) := by decide +kernel
theorem dX8_costBy_71 : decode cX8_costBy 71 = .ok (.if_icmp .eq 33, 3) := by decide +kernel
theorem dX8_costBy_74 : decode cX8_costBy 74 = .ok (.aload_n 0, 1) := by decide +kernel
theorem dX8_costBy_75 : decode cX8_costBy 75 = .ok (.getfield 25, 3) := by decide +kernel
theorem dX8_costBy_78 : decode cX8_costBy 78 = .ok (.iload_n 1, 1) := by decide +kernel
theorem dX8_costBy_79 : decode cX8_costBy 79 = .ok (.iaload, 1) := by decide +kernel
theorem dX8_costBy_80 : decode cX8_costBy 80 = .ok (.iconst 3, 1) := by decide +kernel
theorem dX8_costBy_81 : decode cX8_costBy 81 = .ok (.if_icmp .ne 26, 3) := by decide +kernel
theorem dX8_costBy_84 : decode cX8_costBy 84 = .ok (.aload_n 0, 1) := by decide +kernel
theorem dX8_costBy_85 : decode cX8_costBy 85 = .ok (.getfield 52, 3) := by decide +kernel
theorem dX8_costBy_88 : decode cX8_costBy 88 = .ok (.aload_n 0, 1) := by decide +kernel
theorem dX8_costBy_89 : decode cX8_costBy 89 = .ok (.getfield 34, 3) := by decide +kernel
theorem dX8_costBy_92 : decode cX8_costBy 92 = .ok (.iload_n 1, 1) := by decide +kernel
theorem dX8_costBy_93 : decode cX8_costBy 93 = .ok (.iaload, 1) := by decide +kernel
theorem dX8_costBy_94 : decode cX8_costBy 94 = .ok (.iload_n 2, 1) := by decide +kernel
theorem dX8_costBy_95 : decode cX8_costBy 95 = .ok (.iload_n 3, 1) := by decide +kernel
theorem dX8_costBy_96 : decode cX8_costBy 96 = .ok (.invokestatic 164, 3) := by decide +kernel
theorem dX8_costBy_99 : decode cX8_costBy 99 = .ok (.iaload, 1) := by decide +kernel
theorem dX8_costBy_100 : decode cX8_costBy 100 = .ok (.iconst 1, 1) := by decide +kernel
theorem dX8_costBy_101 : decode cX8_costBy 101 = .ok (.if_icmp .ne 6, 3) := by decide +kernel
theorem dX8_costBy_104 : decode cX8_costBy 104 = .ok (.bipush (-9), 2) := by decide +kernel
theorem dX8_costBy_106 : decode cX8_costBy 106 = .ok (.ireturn, 1) := by decide +kernel
theorem dX8_costBy_107 : decode cX8_costBy 107 = .ok (.aload_n 0, 1) := by decide +kernel
theorem dX8_costBy_108 : decode cX8_costBy 108 = .ok (.getfield 25, 3) := by decide +kernel
theorem dX8_costBy_111 : decode cX8_costBy 111 = .ok (.iload_n 1, 1) := by decide +kernel
theorem dX8_costBy_112 : decode cX8_costBy 112 = .ok (.iaload, 1) := by decide +kernel
theorem dX8_costBy_113 : decode cX8_costBy 113 = .ok (.iconst 2, 1) := by decide +kernel
theorem dX8_costBy_114 : decode cX8_costBy 114 = .ok (.if_icmp .ne 23, 3) := by decide +kernel
theorem dX8_costBy_117 : decode cX8_costBy 117 = .ok (.aload_n 0, 1) := by decide +kernel
theorem dX8_costBy_118 : decode cX8_costBy 118 = .ok (.getfield 61, 3) := by decide +kernel
theorem dX8_costBy_121 : decode cX8_costBy 121 = .ok (.aload_n 0, 1) := by decide +kernel
theorem dX8_costBy_122 : decode cX8_costBy 122 = .ok (.getfield 34, 3) := by decide +kernel
theorem dX8_costBy_125 : decode cX8_costBy 125 = .ok (.iload_n 1, 1) := by decide +kernel
theorem dX8_costBy_126 : decode cX8_costBy 126 = .ok (.iaload, 1) := by decide +kernel
theorem dX8_costBy_127 : decode cX8_costBy 127 = .ok (.iload 4, 2) := by decide +kernel
theorem dX8_costBy_129 : decode cX8_costBy 129 = .ok (.iload_n 3, 1) := by decide +kernel
theorem dX8_costBy_130 : decode cX8_costBy 130 = .ok (.invokestatic 164, 3) := by decide +kernel
theorem dX8_costBy_133 : decode cX8_costBy 133 = .ok (.iaload, 1) := by decide +kernel
theorem dX8_costBy_134 : decode cX8_costBy 134 = .ok (.goto 4, 3) := by decide +kernel
theorem dX8_costBy_137 : decode cX8_costBy 137 = .ok (.iconst 0, 1) := by decide +kernel
theorem dX8_costBy_138 : decode cX8_costBy 138 = .ok (.istore 6, 2) := by decide +kernel
theorem dX8_costBy_140 : decode cX8_costBy 140 = .ok (.iload 6, 2) := by decide +kernel
theorem dX8_costBy_142 : decode cX8_costBy 142 = .ok (.bipush (-9), 2) := by decide +kernel
theorem dX8_costBy_144 : decode cX8_costBy 144 = .ok (.if_icmp .ne 8, 3) := by decide +kernel
theorem dX8_costBy_147 : decode cX8_costBy 147 = .ok (.bipush (-9), 2) := by decide +kernel
theorem dX8_costBy_149 : decode cX8_costBy 149 = .ok (.goto 14, 3) := by decide +kernel
theorem dX8_costBy_152 : decode cX8_costBy 152 = .ok (.aload_n 0, 1) := by decide +kernel
theorem dX8_costBy_153 : decode cX8_costBy 153 = .ok (.iload_n 1, 1) := by decide +kernel
theorem dX8_costBy_154 : decode cX8_costBy 154 = .ok (.invokevirtual 179, 3) := by decide +kernel
theorem dX8_costBy_157 : decode cX8_costBy 157 = .ok (.iload 5, 2) := by decide +kernel
theorem dX8_costBy_159 : decode cX8_costBy 159 = .ok (.iadd, 1) := by decide +kernel
theorem dX8_costBy_160 : decode cX8_costBy 160 = .ok (.iload 6, 2) := by decide +kernel
theorem dX8_costBy_162 : decode cX8_costBy 162 = .ok (.iadd, 1) := by decide +kernel
theorem dX8_costBy_163 : decode cX8_costBy 163 = .ok (.ireturn, 1) := by decide +kernel
set_option maxRecDepth 20000 in
theorem aw_wsX8_costBy : wsX8_costBy.all goodWord = true := by decide +kernel
set_option maxRecDepth 20000 in
theorem ggX8_getsCheaper_X8_costBy : GoodIn wsX8_getsCheaper wsX8_costBy := goodIn_r _ [8, 3, 9, 10, 11, 12, 13, 14, 7, 15, 16, 17, 18, 19, 20, 21, 22, 23, 24, 25, 26, 27, 28, 29, 30, 31, 32, 33, 34, 35, 36, 37, 38, 39, 40, 41, 42, 43, 44, 45, 46, 47, 48, 49, 50, 51, 52, 53, 54, 55] rfl aw_wsX8_costBy
set_option maxRecDepth 20000 in
theorem gX8_getsCheaper_X8_costBy : GoodIn wsX8_getsCheaper (wsV RX8 182 RX8 yX8_costBy wsX8_costBy) := goodIn_app (goodIn_r _ [4, 5, 6, 7] rfl (by decide +kernel)) ggX8_getsCheaper_X8_costBy
theorem dX8_getsCheaper_0 : decode cX8_getsCheaper 0 = .ok (.iload_n 1, 1) := by decide +kernel
theorem dX8_getsCheaper_1 : decode cX8_getsCheaper 1 = .ok (.iconst 4, 1) := by decide +kernel
theorem dX8_getsCheaper_2 : decode cX8_getsCheaper 2 = .ok (.idiv, 1) := by decide +kernel
theorem dX8_getsCheaper_3 : decode cX8_getsCheaper 3 = .ok (.iconst 4, 1) := by decide +kernel
theorem dX8_getsCheaper_4 : decode cX8_getsCheaper 4 = .ok (.irem, 1) := by decide +kernel
theorem dX8_getsCheaper_5 : decode cX8_getsCheaper 5 = .ok (.istore_n 2, 1) := by decide +kernel
theorem dX8_getsCheaper_6 : decode cX8_getsCheaper 6 = .ok (.iload_n 1, 1) := by decide +kernel
theorem dX8_getsCheaper_7 : decode cX8_getsCheaper 7 = .ok (.iconst 4, 1) := by decide +kernel
theorem dX8_getsCheaper_8 : decode cX8_getsCheaper 8 = .ok (.irem, 1) := by decide +kernel
theorem dX8_getsCheaper_9 : decode cX8_getsCheaper 9 = .ok (.istore_n 3, 1) := by decide +kernel
theorem dX8_getsCheaper_10 : decode cX8_getsCheaper 10 = .ok (.iconst 0, 1) := by decide +kernel
theorem dX8_getsCheaper_11 : decode cX8_getsCheaper 11 = .ok (.istore 4, 2) := by decide +kernel
theorem dX8_getsCheaper_13 : decode cX8_getsCheaper 13 = .ok (.iconst 0, 1) := by decide +kernel
theorem dX8_getsCheaper_14 : decode cX8_getsCheaper 14 = .ok (.istore 5, 2) := by decide +kernel
theorem dX8_getsCheaper_16 : decode cX8_getsCheaper 16 = .ok (.iload 5, 2) := by decide +kernel
theorem dX8_getsCheaper_18 : decode cX8_getsCheaper 18 = .ok (.aload_n 0, 1) := by decide +kernel
theorem dX8_getsCheaper_19 : decode cX8_getsCheaper 19 = .ok (.getfield 95, 3) := by decide +kernel
theorem dX8_getsCheaper_22 : decode cX8_getsCheaper 22 = .ok (.if_icmp .ge 90, 3) := by decide +kernel
theorem dX8_getsCheaper_25 : decode cX8_getsCheaper 25 = .ok (.iconst 0, 1) := by decide +kernel
theorem dX8_getsCheaper_26 : decode cX8_getsCheaper 26 = .ok (.istore 6, 2) := by decide +kernel
theorem dX8_getsCheaper_28 : decode cX8_getsCheaper 28 = .ok (.iload 6, 2) := by decide +kernel
theorem dX8_getsCheaper_30 : decode cX8_getsCheaper 30 = .ok (.iconst 4, 1) := by decide +kernel
theorem dX8_getsCheaper_31 : decode cX8_getsCheaper 31 = .ok (.if_icmp .ge 75, 3) := by decide +kernel
theorem dX8_getsCheaper_34 : decode cX8_getsCheaper 34 = .ok (.aload_n 0, 1) := by decide +kernel
theorem dX8_getsCheaper_35 : decode cX8_getsCheaper 35 = .ok (.getfield 28, 3) := by decide +kernel
theorem dX8_getsCheaper_38 : decode cX8_getsCheaper 38 = .ok (.iload 5, 2) := by decide +kernel
theorem dX8_getsCheaper_40 : decode cX8_getsCheaper 40 = .ok (.iaload, 1) := by decide +kernel
theorem dX8_getsCheaper_41 : decode cX8_getsCheaper 41 = .ok (.iload_n 1, 1) := by decide +kernel
theorem dX8_getsCheaper_42 : decode cX8_getsCheaper 42 = .ok (.bipush 16, 2) := by decide +kernel
theorem dX8_getsCheaper_44 : decode cX8_getsCheaper 44 = .ok (.idiv, 1) := by decide +kernel
theorem dX8_getsCheaper_45 : decode cX8_getsCheaper 45 = .ok (.if_icmp .ne 61, 3) := by decide +kernel
theorem dX8_getsCheaper_48 : decode cX8_getsCheaper 48 = .ok (.aload_n 0, 1) := by decide +kernel
theorem dX8_getsCheaper_49 : decode cX8_getsCheaper 49 = .ok (.iload 5, 2) := by decide +kernel
theorem dX8_getsCheaper_51 : decode cX8_getsCheaper 51 = .ok (.iload_n 2, 1) := by decide +kernel
theorem dX8_getsCheaper_52 : decode cX8_getsCheaper 52 = .ok (.iload_n 3, 1) := by decide +kernel
theorem dX8_getsCheaper_53 : decode cX8_getsCheaper 53 = .ok (.iload 6, 2) := by decide +kernel
theorem dX8_getsCheaper_55 : decode cX8_getsCheaper 55 = .ok (.invokevirtual 182, 3) := by decide +kernel
theorem dX8_getsCheaper_58 : decode cX8_getsCheaper 58 = .ok (.istore 7, 2) := by decide +kernel
theorem dX8_getsCheaper_60 : decode cX8_getsCheaper 60 = .ok (.iload 7, 2) := by decide +kernel
theorem dX8_getsCheaper_62 : decode cX8_getsCheaper 62 = .ok (.bipush (-9), 2) := by decide +kernel
theorem dX8_getsCheaper_64 : decode cX8_getsCheaper 64 = .ok (.if_icmp .eq 36, 3) := by decide +kernel
theorem dX8_getsCheaper_67 : decode cX8_getsCheaper 67 = .ok (.aload_n 0, 1) := by decide +kernel
theorem dX8_getsCheaper_68 : decode cX8_getsCheaper 68 = .ok (.getfield 61, 3) := by decide +kernel
theorem dX8_getsCheaper_71 : decode cX8_getsCheaper 71 = .ok (.iload_n 1, 1) := by decide +kernel
theorem dX8_getsCheaper_72 : decode cX8_getsCheaper 72 = .ok (.iaload, 1) := by decide +kernel
theorem dX8_getsCheaper_73 : decode cX8_getsCheaper 73 = .ok (.bipush (-9), 2) := by decide +kernel
theorem dX8_getsCheaper_75 : decode cX8_getsCheaper 75 = .ok (.if_icmp .eq 14, 3) := by decide +kernel
theorem dX8_getsCheaper_78 : decode cX8_getsCheaper 78 = .ok (.iload 7, 2) := by decide +kernel
theorem dX8_getsCheaper_80 : decode cX8_getsCheaper 80 = .ok (.aload_n 0, 1) := by decide +kernel
theorem dX8_getsCheaper_81 : decode cX8_getsCheaper 81 = .ok (.getfield 61, 3) := by decide +kernel
theorem dX8_getsCheaper_84 : decode cX8_getsCheaper 84 = .ok (.iload_n 1, 1) := by decide +kernel
theorem dX8_getsCheaper_85 : decode cX8_getsCheaper 85 = .ok (.iaload, 1) := by decide +kernel
theorem dX8_getsCheaper_86 : decode cX8_getsCheaper 86 = .ok (.if_icmp .ge 14, 3) := by decide +kernel
theorem dX8_getsCheaper_89 : decode cX8_getsCheaper 89 = .ok (.aload_n 0, 1) := by decide +kernel
theorem dX8_getsCheaper_90 : decode cX8_getsCheaper 90 = .ok (.getfield 61, 3) := by decide +kernel
theorem dX8_getsCheaper_93 : decode cX8_getsCheaper 93 = .ok (.iload_n 1, 1) := by decide +kernel
theorem dX8_getsCheaper_94 : decode cX8_getsCheaper 94 = .ok (.iload 7, 2) := by decide +kernel
theorem dX8_getsCheaper_96 : decode cX8_getsCheaper 96 = .ok (.iastore, 1) := by decide +kernel
theorem dX8_getsCheaper_97 : decode cX8_getsCheaper 97 = .ok (.iconst 1, 1) := by decide +kernel
theorem dX8_getsCheaper_98 : decode cX8_getsCheaper 98 = .ok (.istore 4, 2) := by decide +kernel
theorem dX8_getsCheaper_100 : decode cX8_getsCheaper 100 = .ok (.iinc 6 1, 3) := by decide +kernel
theorem dX8_getsCheaper_103 : decode cX8_getsCheaper 103 = .ok (.goto (-75), 3) := by decide +kernel
theorem dX8_getsCheaper_106 : decode cX8_getsCheaper 106 = .ok (.iinc 5 1, 3) := by decide +kernel
theorem dX8_getsCheaper_109 : decode cX8_getsCheaper 109 = .ok (.goto (-93), 3) := by decide +kernel
theorem dX8_getsCheaper_112 : decode cX8_getsCheaper 112 = .ok (.iload 4, 2) := by decide +kernel
theorem dX8_getsCheaper_114 : decode cX8_getsCheaper 114 = .ok (.ireturn, 1) := by decide +kernel
set_option maxRecDepth 20000 in
theorem ggX8_findLast_X8_costBy : GoodIn wsX8_findLast wsX8_costBy := goodIn_r _ [12, 3, 7, 13, 14, 15, 16, 17, 11, 18, 19, 20, 21, 22, 23, 24, 25, 26, 27, 28, 29, 30, 31, 32, 33, 34, 35, 36, 37, 38, 39, 40, 41, 42, 43, 44, 45, 46, 47, 48, 49, 50, 51, 52, 53, 54, 55, 56, 57, 58] rfl aw_wsX8_costBy
set_option maxRecDepth 20000 in
theorem gX8_findLast_X8_costBy : GoodIn wsX8_findLast (wsV RX8 182 RX8 yX8_costBy wsX8_costBy) := goodIn_app (goodIn_r _ [8, 9, 10, 11] rfl (by decide +kernel)) ggX8_findLast_X8_costBy
theorem dX8_findLast_0 : decode cX8_findLast 0 = .ok (.aload_n 0, 1) := by decide +kernel
theorem dX8_findLast_1 : decode cX8_findLast 1 = .ok (.getfield 64, 3) := by decide +kernel
theorem dX8_findLast_4 : decode cX8_findLast 4 = .ok (.iload_n 1, 1) := by decide +kernel
theorem dX8_findLast_5 : decode cX8_findLast 5 = .ok (.bipush (-9), 2) := by decide +kernel
theorem dX8_findLast_7 : decode cX8_findLast 7 = .ok (.iastore, 1) := by decide +kernel
theorem dX8_findLast_8 : decode cX8_findLast 8 = .ok (.aload_n 0, 1) := by decide +kernel
theorem dX8_findLast_9 : decode cX8_findLast 9 = .ok (.getfield 67, 3) := by decide +kernel
theorem dX8_findLast_12 : decode cX8_findLast 12 = .ok (.iload_n 1, 1) := by decide +kernel
theorem dX8_findLast_13 : decode cX8_findLast 13 = .ok (.bipush (-9), 2) := by decide +kernel
theorem dX8_findLast_15 : decode cX8_findLast 15 = .ok (.iastore, 1) := by decide +kernel
theorem dX8_findLast_16 : decode cX8_findLast 16 = .ok (.aload_n 0, 1) := by decide +kernel
theorem dX8_findLast_17 : decode cX8_findLast 17 = .ok (.getfield 61, 3) := by decide +kernel
theorem dX8_findLast_20 : decode cX8_findLast 20 = .ok (.iload_n 1, 1) := by decide +kernel
theorem dX8_findLast_21 : decode cX8_findLast 21 = .ok (.iaload, 1) := by decide +kernel
theorem dX8_findLast_22 : decode cX8_findLast 22 = .ok (.bipush (-9), 2) := by decide +kernel
theorem dX8_findLast_24 : decode cX8_findLast 24 = .ok (.if_icmp .eq 13, 3) := by decide +kernel
theorem dX8_findLast_27 : decode cX8_findLast 27 = .ok (.aload_n 0, 1) := by decide +kernel
theorem dX8_findLast_28 : decode cX8_findLast 28 = .ok (.getfield 37, 3) := by decide +kernel
theorem dX8_findLast_31 : decode cX8_findLast 31 = .ok (.iload_n 1, 1) := by decide +kernel
theorem dX8_findLast_32 : decode cX8_findLast 32 = .ok (.iaload, 1) := by decide +kernel
theorem dX8_findLast_33 : decode cX8_findLast 33 = .ok (.iconst 1, 1) := by decide +kernel
theorem dX8_findLast_34 : decode cX8_findLast 34 = .ok (.if_icmp .ne 4, 3) := by decide +kernel
theorem dX8_findLast_37 : decode cX8_findLast 37 = .ok (.return_, 1) := by decide +kernel
theorem dX8_findLast_38 : decode cX8_findLast 38 = .ok (.aload_n 0, 1) := by decide +kernel
theorem dX8_findLast_39 : decode cX8_findLast 39 = .ok (.getfield 95, 3) := by decide +kernel
theorem dX8_findLast_42 : decode cX8_findLast 42 = .ok (.iconst 1, 1) := by decide +kernel
theorem dX8_findLast_43 : decode cX8_findLast 43 = .ok (.isub, 1) := by decide +kernel
theorem dX8_findLast_44 : decode cX8_findLast 44 = .ok (.istore_n 2, 1) := by decide +kernel
theorem dX8_findLast_45 : decode cX8_findLast 45 = .ok (.iload_n 2, 1) := by decide +kernel
theorem dX8_findLast_46 : decode cX8_findLast 46 = .ok (.ifCond .lt 86, 3) := by decide +kernel
theorem dX8_findLast_49 : decode cX8_findLast 49 = .ok (.iconst 3, 1) := by decide +kernel
theorem dX8_findLast_50 : decode cX8_findLast 50 = .ok (.istore_n 3, 1) := by decide +kernel
theorem dX8_findLast_51 : decode cX8_findLast 51 = .ok (.iload_n 3, 1) := by decide +kernel
theorem dX8_findLast_52 : decode cX8_findLast 52 = .ok (.ifCond .lt 74, 3) := by decide +kernel
theorem dX8_findLast_55 : decode cX8_findLast 55 = .ok (.aload_n 0, 1) := by decide +kernel
theorem dX8_findLast_56 : decode cX8_findLast 56 = .ok (.getfield 28, 3) := by decide +kernel
theorem dX8_findLast_59 : decode cX8_findLast 59 = .ok (.iload_n 2, 1) := by decide +kernel
theorem dX8_findLast_60 : decode cX8_findLast 60 = .ok (.iaload, 1) := by decide +kernel
theorem dX8_findLast_61 : decode cX8_findLast 61 = .ok (.iload_n 1, 1) := by decide +kernel
theorem dX8_findLast_62 : decode cX8_findLast 62 = .ok (.bipush 16, 2) := by decide +kernel
theorem dX8_findLast_64 : decode cX8_findLast 64 = .ok (.idiv, 1) := by decide +kernel
theorem dX8_findLast_65 : decode cX8_findLast 65 = .ok (.if_icmp .ne 61, 3) := by decide +kernel
theorem dX8_findLast_68 : decode cX8_findLast 68 = .ok (.aload_n 0, 1) := by decide +kernel
theorem dX8_findLast_69 : decode cX8_findLast 69 = .ok (.iload_n 2, 1) := by decide +kernel
theorem dX8_findLast_70 : decode cX8_findLast 70 = .ok (.iload_n 1, 1) := by decide +kernel
theorem dX8_findLast_71 : decode cX8_findLast 71 = .ok (.iconst 4, 1) := by decide +kernel
theorem dX8_findLast_72 : decode cX8_findLast 72 = .ok (.idiv, 1) := by decide +kernel
theorem dX8_findLast_73 : decode cX8_findLast 73 = .ok (.iconst 4, 1) := by decide +kernel
theorem dX8_findLast_74 : decode cX8_findLast 74 = .ok (.irem, 1) := by decide +kernel
theorem dX8_findLast_75 : decode cX8_findLast 75 = .ok (.iload_n 1, 1) := by decide +kernel
theorem dX8_findLast_76 : decode cX8_findLast 76 = .ok (.iconst 4, 1) := by decide +kernel
theorem dX8_findLast_77 : decode cX8_findLast 77 = .ok (.irem, 1) := by decide +kernel
theorem dX8_findLast_78 : decode cX8_findLast 78 = .ok (.iload_n 3, 1) := by decide +kernel
theorem dX8_findLast_79 : decode cX8_findLast 79 = .ok (.invokevirtual 182, 3) := by decide +kernel
theorem dX8_findLast_82 : decode cX8_findLast 82 = .ok (.aload_n 0, 1) := by decide +kernel
theorem dX8_findLast_83 : decode cX8_findLast 83 = .ok (.getfield 61, 3) := by decide +kernel
theorem dX8_findLast_86 : decode cX8_findLast 86 = .ok (.iload_n 1, 1) := by decide +kernel
theorem dX8_findLast_87 : decode cX8_findLast 87 = .ok (.iaload, 1) := by decide +kernel
theorem dX8_findLast_88 : decode cX8_findLast 88 = .ok (.if_icmp .ne 32, 3) := by decide +kernel
theorem dX8_findLast_91 : decode cX8_findLast 91 = .ok (.aload_n 0, 1) := by decide +kernel
theorem dX8_findLast_92 : decode cX8_findLast 92 = .ok (.getfield 64, 3) := by decide +kernel
theorem dX8_findLast_95 : decode cX8_findLast 95 = .ok (.iload_n 1, 1) := by decide +kernel
theorem dX8_findLast_96 : decode cX8_findLast 96 = .ok (.iload_n 2, 1) := by decide +kernel
theorem dX8_findLast_97 : decode cX8_findLast 97 = .ok (.iastore, 1) := by decide +kernel
theorem dX8_findLast_98 : decode cX8_findLast 98 = .ok (.aload_n 0, 1) := by decide +kernel
theorem dX8_findLast_99 : decode cX8_findLast 99 = .ok (.getfield 67, 3) := by decide +kernel
theorem dX8_findLast_102 : decode cX8_findLast 102 = .ok (.iload_n 1, 1) := by decide +kernel
theorem dX8_findLast_103 : decode cX8_findLast 103 = .ok (.aload_n 0, 1) := by decide +kernel
theorem dX8_findLast_104 : decode cX8_findLast 104 = .ok (.getfield 25, 3) := by decide +kernel
theorem dX8_findLast_107 : decode cX8_findLast 107 = .ok (.iload_n 2, 1) := by decide +kernel
theorem dX8_findLast_108 : decode cX8_findLast 108 = .ok (.iaload, 1) := by decide +kernel
theorem dX8_findLast_109 : decode cX8_findLast 109 = .ok (.iconst 2, 1) := by decide +kernel
theorem dX8_findLast_110 : decode cX8_findLast 110 = .ok (.if_icmp .ne 7, 3) := by decide +kernel
theorem dX8_findLast_113 : decode cX8_findLast 113 = .ok (.iload_n 3, 1) := by decide +kernel
theorem dX8_findLast_114 : decode cX8_findLast 114 = .ok (.goto 5, 3) := by decide +kernel
theorem dX8_findLast_117 : decode cX8_findLast 117 = .ok (.bipush (-9), 2) := by decide +kernel
theorem dX8_findLast_119 : decode cX8_findLast 119 = .ok (.iastore, 1) := by decide +kernel
theorem dX8_findLast_120 : decode cX8_findLast 120 = .ok (.iinc 3 (-1), 3) := by decide +kernel
theorem dX8_findLast_123 : decode cX8_findLast 123 = .ok (.goto (-72), 3) := by decide +kernel
theorem dX8_findLast_126 : decode cX8_findLast 126 = .ok (.iinc 2 (-1), 3) := by decide +kernel
theorem dX8_findLast_129 : decode cX8_findLast 129 = .ok (.goto (-84), 3) := by decide +kernel
theorem dX8_findLast_132 : decode cX8_findLast 132 = .ok (.return_, 1) := by decide +kernel
set_option maxRecDepth 20000 in
theorem aw_wsX8_findHolds : wsX8_findHolds.all goodWord = true := by decide +kernel
set_option maxRecDepth 20000 in
theorem ggX8_findCheap_X8_findHolds : GoodIn wsX8_findCheap wsX8_findHolds := goodIn_r _ [7, 8, 9, 2, 10, 11, 12, 13, 6, 14, 15, 16, 17, 18, 19, 20, 21, 22, 23, 24, 25, 26, 27, 28, 29, 30, 31, 32, 53, 54, 55, 56, 57, 58, 59, 60, 61, 62, 63, 64, 65, 66, 67, 68, 69, 70, 71, 72, 73, 74, 75, 76, 77, 78, 79, 80, 81, 82, 83, 84, 85, 86] rfl aw_wsX8_findHolds
set_option maxRecDepth 20000 in
theorem gX8_findCheap_X8_findHolds : GoodIn wsX8_findCheap (wsV RX8 185 RX8 yX8_findHolds wsX8_findHolds) := goodIn_app (goodIn_r _ [3, 4, 5, 6] rfl (by decide +kernel)) ggX8_findCheap_X8_findHolds
set_option maxRecDepth 20000 in
theorem aw_wsX8_getsCheaper : wsX8_getsCheaper.all goodWord = true := by decide +kernel
set_option maxRecDepth 20000 in
theorem ggX8_findCheap_X8_getsCheaper : GoodIn wsX8_findCheap wsX8_getsCheaper := goodIn_r _ [36, 16, 20, 1, 37, 38, 39, 6, 40, 18, 17, 9, 19, 30, 31, 32, 41, 42, 43, 44, 45, 46, 53, 54, 55, 56, 57, 58, 59, 60, 61, 62, 63, 64, 65, 66, 67, 68, 69, 70, 71, 72, 73, 74, 75, 76, 77, 78, 79, 80, 81, 82, 83, 84, 85, 86] rfl aw_wsX8_getsCheaper
set_option maxRecDepth 20000 in
theorem gX8_findCheap_X8_getsCheaper : GoodIn wsX8_findCheap (wsV RX8 188 RX8 yX8_getsCheaper wsX8_getsCheaper) := goodIn_app (goodIn_r _ [33, 34, 35, 6] rfl (by decide +kernel)) ggX8_findCheap_X8_getsCheaper
set_option maxRecDepth 20000 in
theorem aw_wsX8_findLast : wsX8_findLast.all goodWord = true := by decide +kernel
set_option maxRecDepth 20000 in
theorem ggX8_findCheap_X8_findLast : GoodIn wsX8_findCheap wsX8_findLast := goodIn_r _ [50, 51, 52, 1, 2, 16, 20, 18, 37, 38, 39, 6, 40, 17, 9, 19, 30, 31, 32, 41, 42, 43, 44, 45, 46, 53, 54, 55, 56, 57, 58, 59, 60, 61, 62, 63, 64, 65, 66, 67, 68, 69, 70, 71, 72, 73, 74, 75, 76, 77, 78, 79, 80, 81, 82, 83, 84, 85, 86] rfl aw_wsX8_findLast
set_option maxRecDepth 20000 in
theorem gX8_findCheap_X8_findLast : GoodIn wsX8_findCheap (wsV RX8 191 RX8 yX8_findLast wsX8_findLast) := goodIn_app (goodIn_r _ [47, 48, 49, 6] rfl (by decide +kernel)) ggX8_findCheap_X8_findLast
theorem dX8_findCheap_0 : decode cX8_findCheap 0 = .ok (.aload_n 0, 1) := by decide +kernel
theorem dX8_findCheap_1 : decode cX8_findCheap 1 = .ok (.invokevirtual 185, 3) := by decide +kernel
theorem dX8_findCheap_4 : decode cX8_findCheap 4 = .ok (.iconst 0, 1) := by decide +kernel
theorem dX8_findCheap_5 : decode cX8_findCheap 5 = .ok (.istore_n 1, 1) := by decide +kernel
theorem dX8_findCheap_6 : decode cX8_findCheap 6 = .ok (.iload_n 1, 1) := by decide +kernel
theorem dX8_findCheap_7 : decode cX8_findCheap 7 = .ok (.bipush 64, 2) := by decide +kernel
theorem dX8_findCheap_9 : decode cX8_findCheap 9 = .ok (.if_icmp .ge 31, 3) := by decide +kernel
theorem dX8_findCheap_12 : decode cX8_findCheap 12 = .ok (.aload_n 0, 1) := by decide +kernel
theorem dX8_findCheap_13 : decode cX8_findCheap 13 = .ok (.getfield 61, 3) := by decide +kernel
theorem dX8_findCheap_16 : decode cX8_findCheap 16 = .ok (.iload_n 1, 1) := by decide +kernel
theorem dX8_findCheap_17 : decode cX8_findCheap 17 = .ok (.aload_n 0, 1) := by decide +kernel
theorem dX8_findCheap_18 : decode cX8_findCheap 18 = .ok (.getfield 37, 3) := by decide +kernel
theorem dX8_findCheap_21 : decode cX8_findCheap 21 = .ok (.iload_n 1, 1) := by decide +kernel
theorem dX8_findCheap_22 : decode cX8_findCheap 22 = .ok (.iaload, 1) := by decide +kernel
theorem dX8_findCheap_23 : decode cX8_findCheap 23 = .ok (.iconst 1, 1) := by decide +kernel
theorem dX8_findCheap_24 : decode cX8_findCheap 24 = .ok (.if_icmp .ne 7, 3) := by decide +kernel
theorem dX8_findCheap_27 : decode cX8_findCheap 27 = .ok (.iconst 0, 1) := by decide +kernel
theorem dX8_findCheap_28 : decode cX8_findCheap 28 = .ok (.goto 5, 3) := by decide +kernel
theorem dX8_findCheap_31 : decode cX8_findCheap 31 = .ok (.bipush (-9), 2) := by decide +kernel
theorem dX8_findCheap_33 : decode cX8_findCheap 33 = .ok (.iastore, 1) := by decide +kernel
theorem dX8_findCheap_34 : decode cX8_findCheap 34 = .ok (.iinc 1 1, 3) := by decide +kernel
theorem dX8_findCheap_37 : decode cX8_findCheap 37 = .ok (.goto (-31), 3) := by decide +kernel
theorem dX8_findCheap_40 : decode cX8_findCheap 40 = .ok (.iconst 1, 1) := by decide +kernel
theorem dX8_findCheap_41 : decode cX8_findCheap 41 = .ok (.istore_n 1, 1) := by decide +kernel
theorem dX8_findCheap_42 : decode cX8_findCheap 42 = .ok (.iload_n 1, 1) := by decide +kernel
theorem dX8_findCheap_43 : decode cX8_findCheap 43 = .ok (.ifCond .eq 49, 3) := by decide +kernel
theorem dX8_findCheap_46 : decode cX8_findCheap 46 = .ok (.iconst 0, 1) := by decide +kernel
theorem dX8_findCheap_47 : decode cX8_findCheap 47 = .ok (.istore_n 1, 1) := by decide +kernel
theorem dX8_findCheap_48 : decode cX8_findCheap 48 = .ok (.iconst 0, 1) := by decide +kernel
theorem dX8_findCheap_49 : decode cX8_findCheap 49 = .ok (.istore_n 2, 1) := by decide +kernel
theorem dX8_findCheap_50 : decode cX8_findCheap 50 = .ok (.iload_n 2, 1) := by decide +kernel
theorem dX8_findCheap_51 : decode cX8_findCheap 51 = .ok (.bipush 64, 2) := by decide +kernel
theorem dX8_findCheap_53 : decode cX8_findCheap 53 = .ok (.if_icmp .ge 36, 3) := by decide +kernel
theorem dX8_findCheap_56 : decode cX8_findCheap 56 = .ok (.aload_n 0, 1) := by decide +kernel
theorem dX8_findCheap_57 : decode cX8_findCheap 57 = .ok (.getfield 37, 3) := by decide +kernel
theorem dX8_findCheap_60 : decode cX8_findCheap 60 = .ok (.iload_n 2, 1) := by decide +kernel
theorem dX8_findCheap_61 : decode cX8_findCheap 61 = .ok (.iaload, 1) := by decide +kernel
theorem dX8_findCheap_62 : decode cX8_findCheap 62 = .ok (.ifCond .ne 11, 3) := by decide +kernel
theorem dX8_findCheap_65 : decode cX8_findCheap 65 = .ok (.aload_n 0, 1) := by decide +kernel
theorem dX8_findCheap_66 : decode cX8_findCheap 66 = .ok (.iload_n 2, 1) := by decide +kernel
theorem dX8_findCheap_67 : decode cX8_findCheap 67 = .ok (.invokevirtual 188, 3) := by decide +kernel
theorem dX8_findCheap_70 : decode cX8_findCheap 70 = .ok (.ifCond .ne 7, 3) := by decide +kernel
theorem dX8_findCheap_73 : decode cX8_findCheap 73 = .ok (.iload_n 1, 1) := by decide +kernel
theorem dX8_findCheap_74 : decode cX8_findCheap 74 = .ok (.ifCond .eq 7, 3) := by decide +kernel
theorem dX8_findCheap_77 : decode cX8_findCheap 77 = .ok (.iconst 1, 1) := by decide +kernel
theorem dX8_findCheap_78 : decode cX8_findCheap 78 = .ok (.goto 4, 3) := by decide +kernel
theorem dX8_findCheap_81 : decode cX8_findCheap 81 = .ok (.iconst 0, 1) := by decide +kernel
theorem dX8_findCheap_82 : decode cX8_findCheap 82 = .ok (.istore_n 1, 1) := by decide +kernel
theorem dX8_findCheap_83 : decode cX8_findCheap 83 = .ok (.iinc 2 1, 3) := by decide +kernel
theorem dX8_findCheap_86 : decode cX8_findCheap 86 = .ok (.goto (-36), 3) := by decide +kernel
theorem dX8_findCheap_89 : decode cX8_findCheap 89 = .ok (.goto (-47), 3) := by decide +kernel
theorem dX8_findCheap_92 : decode cX8_findCheap 92 = .ok (.iconst 0, 1) := by decide +kernel
theorem dX8_findCheap_93 : decode cX8_findCheap 93 = .ok (.istore_n 2, 1) := by decide +kernel
theorem dX8_findCheap_94 : decode cX8_findCheap 94 = .ok (.iload_n 2, 1) := by decide +kernel
theorem dX8_findCheap_95 : decode cX8_findCheap 95 = .ok (.bipush 64, 2) := by decide +kernel
theorem dX8_findCheap_97 : decode cX8_findCheap 97 = .ok (.if_icmp .ge 14, 3) := by decide +kernel
theorem dX8_findCheap_100 : decode cX8_findCheap 100 = .ok (.aload_n 0, 1) := by decide +kernel
theorem dX8_findCheap_101 : decode cX8_findCheap 101 = .ok (.iload_n 2, 1) := by decide +kernel
theorem dX8_findCheap_102 : decode cX8_findCheap 102 = .ok (.invokevirtual 191, 3) := by decide +kernel
theorem dX8_findCheap_105 : decode cX8_findCheap 105 = .ok (.iinc 2 1, 3) := by decide +kernel
theorem dX8_findCheap_108 : decode cX8_findCheap 108 = .ok (.goto (-14), 3) := by decide +kernel
theorem dX8_findCheap_111 : decode cX8_findCheap 111 = .ok (.return_, 1) := by decide +kernel
theorem dX8_countHeld_0 : decode cX8_countHeld 0 = .ok (.iconst 0, 1) := by decide +kernel
theorem dX8_countHeld_1 : decode cX8_countHeld 1 = .ok (.istore_n 2, 1) := by decide +kernel
theorem dX8_countHeld_2 : decode cX8_countHeld 2 = .ok (.iconst 0, 1) := by decide +kernel
theorem dX8_countHeld_3 : decode cX8_countHeld 3 = .ok (.istore_n 3, 1) := by decide +kernel
theorem dX8_countHeld_4 : decode cX8_countHeld 4 = .ok (.iload_n 3, 1) := by decide +kernel
theorem dX8_countHeld_5 : decode cX8_countHeld 5 = .ok (.bipush 16, 2) := by decide +kernel
theorem dX8_countHeld_7 : decode cX8_countHeld 7 = .ok (.if_icmp .ge 23, 3) := by decide +kernel
theorem dX8_countHeld_10 : decode cX8_countHeld 10 = .ok (.iload_n 2, 1) := by decide +kernel
theorem dX8_countHeld_11 : decode cX8_countHeld 11 = .ok (.aload_n 0, 1) := by decide +kernel
theorem dX8_countHeld_12 : decode cX8_countHeld 12 = .ok (.getfield 52, 3) := by decide +kernel
theorem dX8_countHeld_15 : decode cX8_countHeld 15 = .ok (.bipush 16, 2) := by decide +kernel
theorem dX8_countHeld_17 : decode cX8_countHeld 17 = .ok (.iload_n 1, 1) := by decide +kernel
theorem dX8_countHeld_18 : decode cX8_countHeld 18 = .ok (.imul, 1) := by decide +kernel
theorem dX8_countHeld_19 : decode cX8_countHeld 19 = .ok (.iload_n 3, 1) := by decide +kernel
theorem dX8_countHeld_20 : decode cX8_countHeld 20 = .ok (.iadd, 1) := by decide +kernel
theorem dX8_countHeld_21 : decode cX8_countHeld 21 = .ok (.iaload, 1) := by decide +kernel
theorem dX8_countHeld_22 : decode cX8_countHeld 22 = .ok (.iadd, 1) := by decide +kernel
theorem dX8_countHeld_23 : decode cX8_countHeld 23 = .ok (.istore_n 2, 1) := by decide +kernel
theorem dX8_countHeld_24 : decode cX8_countHeld 24 = .ok (.iinc 3 1, 3) := by decide +kernel
theorem dX8_countHeld_27 : decode cX8_countHeld 27 = .ok (.goto (-23), 3) := by decide +kernel
theorem dX8_countHeld_30 : decode cX8_countHeld 30 = .ok (.iload_n 2, 1) := by decide +kernel
theorem dX8_countHeld_31 : decode cX8_countHeld 31 = .ok (.ireturn, 1) := by decide +kernel
theorem dX8_countTold_0 : decode cX8_countTold 0 = .ok (.iconst 0, 1) := by decide +kernel
theorem dX8_countTold_1 : decode cX8_countTold 1 = .ok (.istore_n 2, 1) := by decide +kernel
theorem dX8_countTold_2 : decode cX8_countTold 2 = .ok (.iconst 0, 1) := by decide +kernel
theorem dX8_countTold_3 : decode cX8_countTold 3 = .ok (.istore_n 3, 1) := by decide +kernel
theorem dX8_countTold_4 : decode cX8_countTold 4 = .ok (.iload_n 3, 1) := by decide +kernel
theorem dX8_countTold_5 : decode cX8_countTold 5 = .ok (.bipush 16, 2) := by decide +kernel
theorem dX8_countTold_7 : decode cX8_countTold 7 = .ok (.if_icmp .ge 23, 3) := by decide +kernel
theorem dX8_countTold_10 : decode cX8_countTold 10 = .ok (.iload_n 2, 1) := by decide +kernel
theorem dX8_countTold_11 : decode cX8_countTold 11 = .ok (.aload_n 0, 1) := by decide +kernel
theorem dX8_countTold_12 : decode cX8_countTold 12 = .ok (.getfield 37, 3) := by decide +kernel
theorem dX8_countTold_15 : decode cX8_countTold 15 = .ok (.bipush 16, 2) := by decide +kernel
theorem dX8_countTold_17 : decode cX8_countTold 17 = .ok (.iload_n 1, 1) := by decide +kernel
theorem dX8_countTold_18 : decode cX8_countTold 18 = .ok (.imul, 1) := by decide +kernel
