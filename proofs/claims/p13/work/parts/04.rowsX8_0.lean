theorem dX8_init_0 : decode cX8_init 0 = .ok (.aload_n 0, 1) := by decide +kernel
theorem dX8_init_1 : decode cX8_init 1 = .ok (.invokespecial 1, 3) := by decide +kernel
theorem dX8_init_4 : decode cX8_init 4 = .ok (.aload_n 0, 1) := by decide +kernel
theorem dX8_init_5 : decode cX8_init 5 = .ok (.iconst 4, 1) := by decide +kernel
theorem dX8_init_6 : decode cX8_init 6 = .ok (.newarray .int, 2) := by decide +kernel
theorem dX8_init_8 : decode cX8_init 8 = .ok (.dup, 1) := by decide +kernel
theorem dX8_init_9 : decode cX8_init 9 = .ok (.iconst 0, 1) := by decide +kernel
theorem dX8_init_10 : decode cX8_init 10 = .ok (.bipush (-9), 2) := by decide +kernel
theorem dX8_init_12 : decode cX8_init 12 = .ok (.iastore, 1) := by decide +kernel
theorem dX8_init_13 : decode cX8_init 13 = .ok (.dup, 1) := by decide +kernel
theorem dX8_init_14 : decode cX8_init 14 = .ok (.iconst 1, 1) := by decide +kernel
theorem dX8_init_15 : decode cX8_init 15 = .ok (.bipush (-9), 2) := by decide +kernel
theorem dX8_init_17 : decode cX8_init 17 = .ok (.iastore, 1) := by decide +kernel
theorem dX8_init_18 : decode cX8_init 18 = .ok (.dup, 1) := by decide +kernel
theorem dX8_init_19 : decode cX8_init 19 = .ok (.iconst 2, 1) := by decide +kernel
theorem dX8_init_20 : decode cX8_init 20 = .ok (.bipush (-9), 2) := by decide +kernel
theorem dX8_init_22 : decode cX8_init 22 = .ok (.iastore, 1) := by decide +kernel
theorem dX8_init_23 : decode cX8_init 23 = .ok (.dup, 1) := by decide +kernel
theorem dX8_init_24 : decode cX8_init 24 = .ok (.iconst 3, 1) := by decide +kernel
theorem dX8_init_25 : decode cX8_init 25 = .ok (.bipush (-9), 2) := by decide +kernel
theorem dX8_init_27 : decode cX8_init 27 = .ok (.iastore, 1) := by decide +kernel
theorem dX8_init_28 : decode cX8_init 28 = .ok (.putfield 9, 3) := by decide +kernel
theorem dX8_init_31 : decode cX8_init 31 = .ok (.aload_n 0, 1) := by decide +kernel
theorem dX8_init_32 : decode cX8_init 32 = .ok (.iconst 4, 1) := by decide +kernel
theorem dX8_init_33 : decode cX8_init 33 = .ok (.newarray .int, 2) := by decide +kernel
theorem dX8_init_35 : decode cX8_init 35 = .ok (.putfield 13, 3) := by decide +kernel
theorem dX8_init_38 : decode cX8_init 38 = .ok (.aload_n 0, 1) := by decide +kernel
theorem dX8_init_39 : decode cX8_init 39 = .ok (.sipush 240, 3) := by decide +kernel
theorem dX8_init_42 : decode cX8_init 42 = .ok (.newarray .int, 2) := by decide +kernel
theorem dX8_init_44 : decode cX8_init 44 = .ok (.putfield 16, 3) := by decide +kernel
theorem dX8_init_47 : decode cX8_init 47 = .ok (.aload_n 0, 1) := by decide +kernel
theorem dX8_init_48 : decode cX8_init 48 = .ok (.iconst 5, 1) := by decide +kernel
theorem dX8_init_49 : decode cX8_init 49 = .ok (.newarray .int, 2) := by decide +kernel
theorem dX8_init_51 : decode cX8_init 51 = .ok (.putfield 19, 3) := by decide +kernel
theorem dX8_init_54 : decode cX8_init 54 = .ok (.aload_n 0, 1) := by decide +kernel
theorem dX8_init_55 : decode cX8_init 55 = .ok (.iconst 5, 1) := by decide +kernel
theorem dX8_init_56 : decode cX8_init 56 = .ok (.newarray .int, 2) := by decide +kernel
theorem dX8_init_58 : decode cX8_init 58 = .ok (.putfield 22, 3) := by decide +kernel
theorem dX8_init_61 : decode cX8_init 61 = .ok (.aload_n 0, 1) := by decide +kernel
theorem dX8_init_62 : decode cX8_init 62 = .ok (.iconst 5, 1) := by decide +kernel
theorem dX8_init_63 : decode cX8_init 63 = .ok (.newarray .int, 2) := by decide +kernel
theorem dX8_init_65 : decode cX8_init 65 = .ok (.putfield 25, 3) := by decide +kernel
theorem dX8_init_68 : decode cX8_init 68 = .ok (.aload_n 0, 1) := by decide +kernel
theorem dX8_init_69 : decode cX8_init 69 = .ok (.iconst 5, 1) := by decide +kernel
theorem dX8_init_70 : decode cX8_init 70 = .ok (.newarray .int, 2) := by decide +kernel
theorem dX8_init_72 : decode cX8_init 72 = .ok (.putfield 28, 3) := by decide +kernel
theorem dX8_init_75 : decode cX8_init 75 = .ok (.aload_n 0, 1) := by decide +kernel
theorem dX8_init_76 : decode cX8_init 76 = .ok (.iconst 5, 1) := by decide +kernel
theorem dX8_init_77 : decode cX8_init 77 = .ok (.newarray .int, 2) := by decide +kernel
theorem dX8_init_79 : decode cX8_init 79 = .ok (.putfield 31, 3) := by decide +kernel
theorem dX8_init_82 : decode cX8_init 82 = .ok (.aload_n 0, 1) := by decide +kernel
theorem dX8_init_83 : decode cX8_init 83 = .ok (.iconst 5, 1) := by decide +kernel
theorem dX8_init_84 : decode cX8_init 84 = .ok (.newarray .int, 2) := by decide +kernel
theorem dX8_init_86 : decode cX8_init 86 = .ok (.putfield 34, 3) := by decide +kernel
theorem dX8_init_89 : decode cX8_init 89 = .ok (.aload_n 0, 1) := by decide +kernel
theorem dX8_init_90 : decode cX8_init 90 = .ok (.bipush 64, 2) := by decide +kernel
theorem dX8_init_92 : decode cX8_init 92 = .ok (.newarray .int, 2) := by decide +kernel
theorem dX8_init_94 : decode cX8_init 94 = .ok (.putfield 37, 3) := by decide +kernel
theorem dX8_init_97 : decode cX8_init 97 = .ok (.aload_n 0, 1) := by decide +kernel
theorem dX8_init_98 : decode cX8_init 98 = .ok (.bipush 30, 2) := by decide +kernel
theorem dX8_init_100 : decode cX8_init 100 = .ok (.newarray .int, 2) := by decide +kernel
theorem dX8_init_102 : decode cX8_init 102 = .ok (.putfield 40, 3) := by decide +kernel
theorem dX8_init_105 : decode cX8_init 105 = .ok (.aload_n 0, 1) := by decide +kernel
theorem dX8_init_106 : decode cX8_init 106 = .ok (.iconst 5, 1) := by decide +kernel
theorem dX8_init_107 : decode cX8_init 107 = .ok (.newarray .int, 2) := by decide +kernel
theorem dX8_init_109 : decode cX8_init 109 = .ok (.putfield 43, 3) := by decide +kernel
theorem dX8_init_112 : decode cX8_init 112 = .ok (.aload_n 0, 1) := by decide +kernel
theorem dX8_init_113 : decode cX8_init 113 = .ok (.bipush 30, 2) := by decide +kernel
theorem dX8_init_115 : decode cX8_init 115 = .ok (.newarray .int, 2) := by decide +kernel
theorem dX8_init_117 : decode cX8_init 117 = .ok (.putfield 46, 3) := by decide +kernel
theorem dX8_init_120 : decode cX8_init 120 = .ok (.aload_n 0, 1) := by decide +kernel
theorem dX8_init_121 : decode cX8_init 121 = .ok (.iconst 4, 1) := by decide +kernel
theorem dX8_init_122 : decode cX8_init 122 = .ok (.newarray .int, 2) := by decide +kernel
theorem dX8_init_124 : decode cX8_init 124 = .ok (.putfield 49, 3) := by decide +kernel
theorem dX8_init_127 : decode cX8_init 127 = .ok (.aload_n 0, 1) := by decide +kernel
theorem dX8_init_128 : decode cX8_init 128 = .ok (.bipush 64, 2) := by decide +kernel
theorem dX8_init_130 : decode cX8_init 130 = .ok (.newarray .int, 2) := by decide +kernel
theorem dX8_init_132 : decode cX8_init 132 = .ok (.putfield 52, 3) := by decide +kernel
theorem dX8_init_135 : decode cX8_init 135 = .ok (.aload_n 0, 1) := by decide +kernel
theorem dX8_init_136 : decode cX8_init 136 = .ok (.bipush 64, 2) := by decide +kernel
theorem dX8_init_138 : decode cX8_init 138 = .ok (.newarray .int, 2) := by decide +kernel
theorem dX8_init_140 : decode cX8_init 140 = .ok (.putfield 55, 3) := by decide +kernel
theorem dX8_init_143 : decode cX8_init 143 = .ok (.aload_n 0, 1) := by decide +kernel
theorem dX8_init_144 : decode cX8_init 144 = .ok (.bipush 64, 2) := by decide +kernel
theorem dX8_init_146 : decode cX8_init 146 = .ok (.newarray .int, 2) := by decide +kernel
theorem dX8_init_148 : decode cX8_init 148 = .ok (.putfield 58, 3) := by decide +kernel
theorem dX8_init_151 : decode cX8_init 151 = .ok (.aload_n 0, 1) := by decide +kernel
theorem dX8_init_152 : decode cX8_init 152 = .ok (.bipush 64, 2) := by decide +kernel
theorem dX8_init_154 : decode cX8_init 154 = .ok (.newarray .int, 2) := by decide +kernel
theorem dX8_init_156 : decode cX8_init 156 = .ok (.putfield 61, 3) := by decide +kernel
theorem dX8_init_159 : decode cX8_init 159 = .ok (.aload_n 0, 1) := by decide +kernel
theorem dX8_init_160 : decode cX8_init 160 = .ok (.bipush 64, 2) := by decide +kernel
theorem dX8_init_162 : decode cX8_init 162 = .ok (.newarray .int, 2) := by decide +kernel
theorem dX8_init_164 : decode cX8_init 164 = .ok (.putfield 64, 3) := by decide +kernel
theorem dX8_init_167 : decode cX8_init 167 = .ok (.aload_n 0, 1) := by decide +kernel
theorem dX8_init_168 : decode cX8_init 168 = .ok (.bipush 64, 2) := by decide +kernel
theorem dX8_init_170 : decode cX8_init 170 = .ok (.newarray .int, 2) := by decide +kernel
theorem dX8_init_172 : decode cX8_init 172 = .ok (.putfield 67, 3) := by decide +kernel
theorem dX8_init_175 : decode cX8_init 175 = .ok (.aload_n 0, 1) := by decide +kernel
theorem dX8_init_176 : decode cX8_init 176 = .ok (.bipush 64, 2) := by decide +kernel
theorem dX8_init_178 : decode cX8_init 178 = .ok (.newarray .int, 2) := by decide +kernel
theorem dX8_init_180 : decode cX8_init 180 = .ok (.putfield 70, 3) := by decide +kernel
theorem dX8_init_183 : decode cX8_init 183 = .ok (.aload_n 0, 1) := by decide +kernel
theorem dX8_init_184 : decode cX8_init 184 = .ok (.iconst 5, 1) := by decide +kernel
theorem dX8_init_185 : decode cX8_init 185 = .ok (.newarray .int, 2) := by decide +kernel
theorem dX8_init_187 : decode cX8_init 187 = .ok (.putfield 73, 3) := by decide +kernel
theorem dX8_init_190 : decode cX8_init 190 = .ok (.aload_n 0, 1) := by decide +kernel
theorem dX8_init_191 : decode cX8_init 191 = .ok (.bipush 8, 2) := by decide +kernel
theorem dX8_init_193 : decode cX8_init 193 = .ok (.newarray .int, 2) := by decide +kernel
theorem dX8_init_195 : decode cX8_init 195 = .ok (.putfield 76, 3) := by decide +kernel
theorem dX8_init_198 : decode cX8_init 198 = .ok (.aload_n 0, 1) := by decide +kernel
theorem dX8_init_199 : decode cX8_init 199 = .ok (.bipush 8, 2) := by decide +kernel
theorem dX8_init_201 : decode cX8_init 201 = .ok (.newarray .int, 2) := by decide +kernel
theorem dX8_init_203 : decode cX8_init 203 = .ok (.putfield 79, 3) := by decide +kernel
theorem dX8_init_206 : decode cX8_init 206 = .ok (.return_, 1) := by decide +kernel
theorem dX8_fails_0 : decode cX8_fails 0 = .ok (.aload_n 0, 1) := by decide +kernel
theorem dX8_fails_1 : decode cX8_fails 1 = .ok (.iload_n 1, 1) := by decide +kernel
theorem dX8_fails_2 : decode cX8_fails 2 = .ok (.putfield 82, 3) := by decide +kernel
theorem dX8_fails_5 : decode cX8_fails 5 = .ok (.bipush (-10), 2) := by decide +kernel
theorem dX8_fails_7 : decode cX8_fails 7 = .ok (.iload_n 1, 1) := by decide +kernel
theorem dX8_fails_8 : decode cX8_fails 8 = .ok (.isub, 1) := by decide +kernel
theorem dX8_fails_9 : decode cX8_fails 9 = .ok (.ireturn, 1) := by decide +kernel
theorem dX8_lost_0 : decode cX8_lost 0 = .ok (.aload_n 0, 1) := by decide +kernel
theorem dX8_lost_1 : decode cX8_lost 1 = .ok (.iload_n 1, 1) := by decide +kernel
theorem dX8_lost_2 : decode cX8_lost 2 = .ok (.putfield 82, 3) := by decide +kernel
theorem dX8_lost_5 : decode cX8_lost 5 = .ok (.ldc2_w 86, 3) := by decide +kernel
theorem dX8_lost_8 : decode cX8_lost 8 = .ok (.lreturn, 1) := by decide +kernel
theorem dX8_within_0 : decode cX8_within 0 = .ok (.iload_n 0, 1) := by decide +kernel
theorem dX8_within_1 : decode cX8_within 1 = .ok (.iload_n 1, 1) := by decide +kernel
theorem dX8_within_2 : decode cX8_within 2 = .ok (.if_icmp .lt 12, 3) := by decide +kernel
theorem dX8_within_5 : decode cX8_within 5 = .ok (.iload_n 0, 1) := by decide +kernel
theorem dX8_within_6 : decode cX8_within 6 = .ok (.iload_n 2, 1) := by decide +kernel
theorem dX8_within_7 : decode cX8_within 7 = .ok (.if_icmp .gt 7, 3) := by decide +kernel
theorem dX8_within_10 : decode cX8_within 10 = .ok (.iconst 1, 1) := by decide +kernel
theorem dX8_within_11 : decode cX8_within 11 = .ok (.goto 4, 3) := by decide +kernel
theorem dX8_within_14 : decode cX8_within 14 = .ok (.iconst 0, 1) := by decide +kernel
theorem dX8_within_15 : decode cX8_within 15 = .ok (.ireturn, 1) := by decide +kernel
set_option maxRecDepth 20000 in
theorem aw_wsX8_within : wsX8_within.all goodWord = true := by decide +kernel
set_option maxRecDepth 20000 in
theorem ggX8_isSheet_X8_within : GoodIn wsX8_isSheet wsX8_within := goodIn_r _ [4] rfl aw_wsX8_within
set_option maxRecDepth 20000 in
theorem gX8_isSheet_X8_within : GoodIn wsX8_isSheet (va_wsS RX8 88 yX8_within wsX8_within) := goodIn_app (goodIn_r _ [1, 2, 3] rfl (by decide +kernel)) ggX8_isSheet_X8_within
theorem dX8_isSheet_0 : decode cX8_isSheet 0 = .ok (.iload_n 0, 1) := by decide +kernel
theorem dX8_isSheet_1 : decode cX8_isSheet 1 = .ok (.iconst 0, 1) := by decide +kernel
theorem dX8_isSheet_2 : decode cX8_isSheet 2 = .ok (.iconst 3, 1) := by decide +kernel
theorem dX8_isSheet_3 : decode cX8_isSheet 3 = .ok (.invokestatic 88, 3) := by decide +kernel
theorem dX8_isSheet_6 : decode cX8_isSheet 6 = .ok (.ireturn, 1) := by decide +kernel
set_option maxRecDepth 20000 in
theorem ggX8_isSort_X8_within : GoodIn wsX8_isSort wsX8_within := goodIn_r _ [4] rfl aw_wsX8_within
set_option maxRecDepth 20000 in
theorem gX8_isSort_X8_within : GoodIn wsX8_isSort (va_wsS RX8 88 yX8_within wsX8_within) := goodIn_app (goodIn_r _ [1, 2, 3] rfl (by decide +kernel)) ggX8_isSort_X8_within
theorem dX8_isSort_0 : decode cX8_isSort 0 = .ok (.iload_n 0, 1) := by decide +kernel
theorem dX8_isSort_1 : decode cX8_isSort 1 = .ok (.iconst 0, 1) := by decide +kernel
theorem dX8_isSort_2 : decode cX8_isSort 2 = .ok (.iconst 2, 1) := by decide +kernel
theorem dX8_isSort_3 : decode cX8_isSort 3 = .ok (.invokestatic 88, 3) := by decide +kernel
theorem dX8_isSort_6 : decode cX8_isSort 6 = .ok (.ireturn, 1) := by decide +kernel
theorem dX8_against_0 : decode cX8_against 0 = .ok (.aload_n 0, 1) := by decide +kernel
theorem dX8_against_1 : decode cX8_against 1 = .ok (.getfield 9, 3) := by decide +kernel
theorem dX8_against_4 : decode cX8_against 4 = .ok (.iload_n 1, 1) := by decide +kernel
theorem dX8_against_5 : decode cX8_against 5 = .ok (.iaload, 1) := by decide +kernel
theorem dX8_against_6 : decode cX8_against 6 = .ok (.bipush (-9), 2) := by decide +kernel
theorem dX8_against_8 : decode cX8_against 8 = .ok (.if_icmp .eq 15, 3) := by decide +kernel
theorem dX8_against_11 : decode cX8_against 11 = .ok (.aload_n 0, 1) := by decide +kernel
theorem dX8_against_12 : decode cX8_against 12 = .ok (.getfield 9, 3) := by decide +kernel
theorem dX8_against_15 : decode cX8_against 15 = .ok (.iload_n 1, 1) := by decide +kernel
theorem dX8_against_16 : decode cX8_against 16 = .ok (.iaload, 1) := by decide +kernel
theorem dX8_against_17 : decode cX8_against 17 = .ok (.iload_n 2, 1) := by decide +kernel
theorem dX8_against_18 : decode cX8_against 18 = .ok (.if_icmp .eq 5, 3) := by decide +kernel
theorem dX8_against_21 : decode cX8_against 21 = .ok (.iconst 2, 1) := by decide +kernel
theorem dX8_against_22 : decode cX8_against 22 = .ok (.ireturn, 1) := by decide +kernel
theorem dX8_against_23 : decode cX8_against 23 = .ok (.aload_n 0, 1) := by decide +kernel
theorem dX8_against_24 : decode cX8_against 24 = .ok (.getfield 9, 3) := by decide +kernel
theorem dX8_against_27 : decode cX8_against 27 = .ok (.iload_n 1, 1) := by decide +kernel
theorem dX8_against_28 : decode cX8_against 28 = .ok (.iaload, 1) := by decide +kernel
theorem dX8_against_29 : decode cX8_against 29 = .ok (.bipush (-9), 2) := by decide +kernel
theorem dX8_against_31 : decode cX8_against 31 = .ok (.if_icmp .ne 5, 3) := by decide +kernel
theorem dX8_against_34 : decode cX8_against 34 = .ok (.iconst 1, 1) := by decide +kernel
theorem dX8_against_35 : decode cX8_against 35 = .ok (.ireturn, 1) := by decide +kernel
theorem dX8_against_36 : decode cX8_against 36 = .ok (.iload 4, 2) := by decide +kernel
theorem dX8_against_38 : decode cX8_against 38 = .ok (.ifCond .ge 5, 3) := by decide +kernel
theorem dX8_against_41 : decode cX8_against 41 = .ok (.iconst 4, 1) := by decide +kernel
theorem dX8_against_42 : decode cX8_against 42 = .ok (.ireturn, 1) := by decide +kernel
theorem dX8_against_43 : decode cX8_against 43 = .ok (.iload_n 3, 1) := by decide +kernel
theorem dX8_against_44 : decode cX8_against 44 = .ok (.ifCond .lt 26, 3) := by decide +kernel
theorem dX8_against_47 : decode cX8_against 47 = .ok (.iload_n 3, 1) := by decide +kernel
theorem dX8_against_48 : decode cX8_against 48 = .ok (.aload_n 0, 1) := by decide +kernel
theorem dX8_against_49 : decode cX8_against 49 = .ok (.getfield 13, 3) := by decide +kernel
theorem dX8_against_52 : decode cX8_against 52 = .ok (.iload_n 1, 1) := by decide +kernel
theorem dX8_against_53 : decode cX8_against 53 = .ok (.iaload, 1) := by decide +kernel
theorem dX8_against_54 : decode cX8_against 54 = .ok (.if_icmp .gt 16, 3) := by decide +kernel
theorem dX8_against_57 : decode cX8_against 57 = .ok (.iload 4, 2) := by decide +kernel
theorem dX8_against_59 : decode cX8_against 59 = .ok (.aload_n 0, 1) := by decide +kernel
theorem dX8_against_60 : decode cX8_against 60 = .ok (.getfield 13, 3) := by decide +kernel
theorem dX8_against_63 : decode cX8_against 63 = .ok (.iload_n 1, 1) := by decide +kernel
theorem dX8_against_64 : decode cX8_against 64 = .ok (.iaload, 1) := by decide +kernel
theorem dX8_against_65 : decode cX8_against 65 = .ok (.iload_n 3, 1) := by decide +kernel
theorem dX8_against_66 : decode cX8_against 66 = .ok (.isub, 1) := by decide +kernel
theorem dX8_against_67 : decode cX8_against 67 = .ok (.if_icmp .le 7, 3) := by decide +kernel
theorem dX8_against_70 : decode cX8_against 70 = .ok (.iconst 3, 1) := by decide +kernel
theorem dX8_against_71 : decode cX8_against 71 = .ok (.goto 4, 3) := by decide +kernel
theorem dX8_against_74 : decode cX8_against 74 = .ok (.iconst 0, 1) := by decide +kernel
theorem dX8_against_75 : decode cX8_against 75 = .ok (.ireturn, 1) := by decide +kernel
theorem dX8_isRelation_0 : decode cX8_isRelation 0 = .ok (.iload_n 1, 1) := by decide +kernel
theorem dX8_isRelation_1 : decode cX8_isRelation 1 = .ok (.ifCond .lt 15, 3) := by decide +kernel
theorem dX8_isRelation_4 : decode cX8_isRelation 4 = .ok (.iload_n 1, 1) := by decide +kernel
theorem dX8_isRelation_5 : decode cX8_isRelation 5 = .ok (.aload_n 0, 1) := by decide +kernel
theorem dX8_isRelation_6 : decode cX8_isRelation 6 = .ok (.getfield 92, 3) := by decide +kernel
theorem dX8_isRelation_9 : decode cX8_isRelation 9 = .ok (.if_icmp .ge 7, 3) := by decide +kernel
theorem dX8_isRelation_12 : decode cX8_isRelation 12 = .ok (.iconst 1, 1) := by decide +kernel
theorem dX8_isRelation_13 : decode cX8_isRelation 13 = .ok (.goto 4, 3) := by decide +kernel
theorem dX8_isRelation_16 : decode cX8_isRelation 16 = .ok (.iconst 0, 1) := by decide +kernel
theorem dX8_isRelation_17 : decode cX8_isRelation 17 = .ok (.ireturn, 1) := by decide +kernel
theorem dX8_isRule_0 : decode cX8_isRule 0 = .ok (.iload_n 1, 1) := by decide +kernel
theorem dX8_isRule_1 : decode cX8_isRule 1 = .ok (.ifCond .lt 15, 3) := by decide +kernel
theorem dX8_isRule_4 : decode cX8_isRule 4 = .ok (.iload_n 1, 1) := by decide +kernel
theorem dX8_isRule_5 : decode cX8_isRule 5 = .ok (.aload_n 0, 1) := by decide +kernel
theorem dX8_isRule_6 : decode cX8_isRule 6 = .ok (.getfield 95, 3) := by decide +kernel
theorem dX8_isRule_9 : decode cX8_isRule 9 = .ok (.if_icmp .ge 7, 3) := by decide +kernel
theorem dX8_isRule_12 : decode cX8_isRule 12 = .ok (.iconst 1, 1) := by decide +kernel
theorem dX8_isRule_13 : decode cX8_isRule 13 = .ok (.goto 4, 3) := by decide +kernel
theorem dX8_isRule_16 : decode cX8_isRule 16 = .ok (.iconst 0, 1) := by decide +kernel
theorem dX8_isRule_17 : decode cX8_isRule 17 = .ok (.ireturn, 1) := by decide +kernel
set_option maxRecDepth 20000 in
theorem ggX8_isThing_X8_within : GoodIn wsX8_isThing wsX8_within := goodIn_r _ [4] rfl aw_wsX8_within
set_option maxRecDepth 20000 in
theorem gX8_isThing_X8_within : GoodIn wsX8_isThing (va_wsS RX8 88 yX8_within wsX8_within) := goodIn_app (goodIn_r _ [1, 2, 3] rfl (by decide +kernel)) ggX8_isThing_X8_within
theorem dX8_isThing_0 : decode cX8_isThing 0 = .ok (.iload_n 0, 1) := by decide +kernel
theorem dX8_isThing_1 : decode cX8_isThing 1 = .ok (.iconst 0, 1) := by decide +kernel
theorem dX8_isThing_2 : decode cX8_isThing 2 = .ok (.iconst 3, 1) := by decide +kernel
theorem dX8_isThing_3 : decode cX8_isThing 3 = .ok (.invokestatic 88, 3) := by decide +kernel
theorem dX8_isThing_6 : decode cX8_isThing 6 = .ok (.ireturn, 1) := by decide +kernel
theorem dX8_isOf_0 : decode cX8_isOf 0 = .ok (.iload_n 0, 1) := by decide +kernel
theorem dX8_isOf_1 : decode cX8_isOf 1 = .ok (.iload_n 1, 1) := by decide +kernel
theorem dX8_isOf_2 : decode cX8_isOf 2 = .ok (.ishr, 1) := by decide +kernel
theorem dX8_isOf_3 : decode cX8_isOf 3 = .ok (.iconst 1, 1) := by decide +kernel
theorem dX8_isOf_4 : decode cX8_isOf 4 = .ok (.iand, 1) := by decide +kernel
theorem dX8_isOf_5 : decode cX8_isOf 5 = .ok (.iconst 1, 1) := by decide +kernel
theorem dX8_isOf_6 : decode cX8_isOf 6 = .ok (.if_icmp .ne 7, 3) := by decide +kernel
theorem dX8_isOf_9 : decode cX8_isOf 9 = .ok (.iconst 1, 1) := by decide +kernel
theorem dX8_isOf_10 : decode cX8_isOf 10 = .ok (.goto 4, 3) := by decide +kernel
theorem dX8_isOf_13 : decode cX8_isOf 13 = .ok (.iconst 0, 1) := by decide +kernel
theorem dX8_isOf_14 : decode cX8_isOf 14 = .ok (.ireturn, 1) := by decide +kernel
set_option maxRecDepth 20000 in
theorem ggX8_digit_X8_within : GoodIn wsX8_digit wsX8_within := goodIn_r _ [6] rfl aw_wsX8_within
set_option maxRecDepth 20000 in
theorem gX8_digit_X8_within : GoodIn wsX8_digit (va_wsS RX8 88 yX8_within wsX8_within) := goodIn_app (goodIn_r _ [3, 4, 5] rfl (by decide +kernel)) ggX8_digit_X8_within
theorem dX8_digit_0 : decode cX8_digit 0 = .ok (.aload_n 0, 1) := by decide +kernel
theorem dX8_digit_1 : decode cX8_digit 1 = .ok (.getfield 98, 3) := by decide +kernel
theorem dX8_digit_4 : decode cX8_digit 4 = .ok (.iload_n 1, 1) := by decide +kernel
theorem dX8_digit_5 : decode cX8_digit 5 = .ok (.if_icmp .ge 26, 3) := by decide +kernel
theorem dX8_digit_8 : decode cX8_digit 8 = .ok (.aload_n 0, 1) := by decide +kernel
theorem dX8_digit_9 : decode cX8_digit 9 = .ok (.getfield 16, 3) := by decide +kernel
theorem dX8_digit_12 : decode cX8_digit 12 = .ok (.aload_n 0, 1) := by decide +kernel
theorem dX8_digit_13 : decode cX8_digit 13 = .ok (.getfield 98, 3) := by decide +kernel
theorem dX8_digit_16 : decode cX8_digit 16 = .ok (.iaload, 1) := by decide +kernel
theorem dX8_digit_17 : decode cX8_digit 17 = .ok (.bipush 48, 2) := by decide +kernel
theorem dX8_digit_19 : decode cX8_digit 19 = .ok (.iload_n 2, 1) := by decide +kernel
theorem dX8_digit_20 : decode cX8_digit 20 = .ok (.iadd, 1) := by decide +kernel
theorem dX8_digit_21 : decode cX8_digit 21 = .ok (.bipush 48, 2) := by decide +kernel
theorem dX8_digit_23 : decode cX8_digit 23 = .ok (.iload_n 3, 1) := by decide +kernel
theorem dX8_digit_24 : decode cX8_digit 24 = .ok (.iadd, 1) := by decide +kernel
theorem dX8_digit_25 : decode cX8_digit 25 = .ok (.invokestatic 88, 3) := by decide +kernel
theorem dX8_digit_28 : decode cX8_digit 28 = .ok (.ifCond .ne 6, 3) := by decide +kernel
theorem dX8_digit_31 : decode cX8_digit 31 = .ok (.bipush (-9), 2) := by decide +kernel
theorem dX8_digit_33 : decode cX8_digit 33 = .ok (.ireturn, 1) := by decide +kernel
theorem dX8_digit_34 : decode cX8_digit 34 = .ok (.aload_n 0, 1) := by decide +kernel
theorem dX8_digit_35 : decode cX8_digit 35 = .ok (.dup, 1) := by decide +kernel
theorem dX8_digit_36 : decode cX8_digit 36 = .ok (.getfield 98, 3) := by decide +kernel
theorem dX8_digit_39 : decode cX8_digit 39 = .ok (.iconst 1, 1) := by decide +kernel
theorem dX8_digit_40 : decode cX8_digit 40 = .ok (.iadd, 1) := by decide +kernel
theorem dX8_digit_41 : decode cX8_digit 41 = .ok (.putfield 98, 3) := by decide +kernel
theorem dX8_digit_44 : decode cX8_digit 44 = .ok (.aload_n 0, 1) := by decide +kernel
theorem dX8_digit_45 : decode cX8_digit 45 = .ok (.getfield 16, 3) := by decide +kernel
theorem dX8_digit_48 : decode cX8_digit 48 = .ok (.aload_n 0, 1) := by decide +kernel
theorem dX8_digit_49 : decode cX8_digit 49 = .ok (.getfield 98, 3) := by decide +kernel
theorem dX8_digit_52 : decode cX8_digit 52 = .ok (.iconst 1, 1) := by decide +kernel
theorem dX8_digit_53 : decode cX8_digit 53 = .ok (.isub, 1) := by decide +kernel
theorem dX8_digit_54 : decode cX8_digit 54 = .ok (.iaload, 1) := by decide +kernel
theorem dX8_digit_55 : decode cX8_digit 55 = .ok (.bipush 48, 2) := by decide +kernel
theorem dX8_digit_57 : decode cX8_digit 57 = .ok (.isub, 1) := by decide +kernel
theorem dX8_digit_58 : decode cX8_digit 58 = .ok (.ireturn, 1) := by decide +kernel
theorem dX8_isSign_0 : decode cX8_isSign 0 = .ok (.aload_n 0, 1) := by decide +kernel
theorem dX8_isSign_1 : decode cX8_isSign 1 = .ok (.getfield 98, 3) := by decide +kernel
theorem dX8_isSign_4 : decode cX8_isSign 4 = .ok (.iload_n 1, 1) := by decide +kernel
theorem dX8_isSign_5 : decode cX8_isSign 5 = .ok (.if_icmp .ge 16, 3) := by decide +kernel
theorem dX8_isSign_8 : decode cX8_isSign 8 = .ok (.aload_n 0, 1) := by decide +kernel
theorem dX8_isSign_9 : decode cX8_isSign 9 = .ok (.getfield 16, 3) := by decide +kernel
theorem dX8_isSign_12 : decode cX8_isSign 12 = .ok (.aload_n 0, 1) := by decide +kernel
theorem dX8_isSign_13 : decode cX8_isSign 13 = .ok (.getfield 98, 3) := by decide +kernel
theorem dX8_isSign_16 : decode cX8_isSign 16 = .ok (.iaload, 1) := by decide +kernel
theorem dX8_isSign_17 : decode cX8_isSign 17 = .ok (.iload_n 2, 1) := by decide +kernel
theorem dX8_isSign_18 : decode cX8_isSign 18 = .ok (.if_icmp .eq 5, 3) := by decide +kernel
theorem dX8_isSign_21 : decode cX8_isSign 21 = .ok (.iconst 0, 1) := by decide +kernel
theorem dX8_isSign_22 : decode cX8_isSign 22 = .ok (.ireturn, 1) := by decide +kernel
theorem dX8_isSign_23 : decode cX8_isSign 23 = .ok (.aload_n 0, 1) := by decide +kernel
theorem dX8_isSign_24 : decode cX8_isSign 24 = .ok (.dup, 1) := by decide +kernel
theorem dX8_isSign_25 : decode cX8_isSign 25 = .ok (.getfield 98, 3) := by decide +kernel
theorem dX8_isSign_28 : decode cX8_isSign 28 = .ok (.iconst 1, 1) := by decide +kernel
theorem dX8_isSign_29 : decode cX8_isSign 29 = .ok (.iadd, 1) := by decide +kernel
theorem dX8_isSign_30 : decode cX8_isSign 30 = .ok (.putfield 98, 3) := by decide +kernel
theorem dX8_isSign_33 : decode cX8_isSign 33 = .ok (.iconst 1, 1) := by decide +kernel
theorem dX8_isSign_34 : decode cX8_isSign 34 = .ok (.ireturn, 1) := by decide +kernel
set_option maxRecDepth 20000 in
theorem aw_wsX8_isSheet : wsX8_isSheet.all goodWord = true := by decide +kernel
set_option maxRecDepth 20000 in
theorem ggX8_program_X8_isSheet : GoodIn wsX8_program wsX8_isSheet := goodIn_r _ [12, 13, 14, 11, 15] rfl aw_wsX8_isSheet
set_option maxRecDepth 20000 in
theorem gX8_program_X8_isSheet : GoodIn wsX8_program (va_wsS RX8 101 yX8_isSheet wsX8_isSheet) := goodIn_app (goodIn_r _ [9, 10, 11] rfl (by decide +kernel)) ggX8_program_X8_isSheet
set_option maxRecDepth 20000 in
theorem aw_wsX8_isSort : wsX8_isSort.all goodWord = true := by decide +kernel
set_option maxRecDepth 20000 in
theorem ggX8_program_X8_isSort : GoodIn wsX8_program wsX8_isSort := goodIn_r _ [18, 13, 14, 11, 15] rfl aw_wsX8_isSort
set_option maxRecDepth 20000 in
theorem gX8_program_X8_isSort : GoodIn wsX8_program (va_wsS RX8 105 yX8_isSort wsX8_isSort) := goodIn_app (goodIn_r _ [16, 17, 11] rfl (by decide +kernel)) ggX8_program_X8_isSort
set_option maxRecDepth 20000 in
theorem aw_wsX8_against : wsX8_against.all goodWord = true := by decide +kernel
set_option maxRecDepth 20000 in
theorem ggX8_program_X8_against : GoodIn wsX8_program wsX8_against := goodIn_r _ [22, 23, 24, 83, 84, 85, 86, 87, 88, 89, 90, 91, 92, 93, 94, 95, 96, 97, 98, 99, 100, 101, 102, 103, 104, 105, 106, 107, 108, 109, 110, 111, 112, 113, 114, 115, 116] rfl aw_wsX8_against
set_option maxRecDepth 20000 in
theorem gX8_program_X8_against : GoodIn wsX8_program (wsV RX8 108 RX8 yX8_against wsX8_against) := goodIn_app (goodIn_r _ [19, 20, 21, 11] rfl (by decide +kernel)) ggX8_program_X8_against
set_option maxRecDepth 20000 in
theorem aw_wsX8_fails : wsX8_fails.all goodWord = true := by decide +kernel
set_option maxRecDepth 20000 in
theorem ggX8_program_X8_fails : GoodIn wsX8_program wsX8_fails := goodIn_r _ [28, 1, 83, 84, 85, 86, 87, 88, 89, 90, 91, 92, 93, 94, 95, 96, 97, 98, 99, 100, 101, 102, 103, 104, 105, 106, 107, 108, 109, 110, 111, 112, 113, 114, 115, 116] rfl aw_wsX8_fails
set_option maxRecDepth 20000 in
theorem gX8_program_X8_fails : GoodIn wsX8_program (wsV RX8 112 RX8 yX8_fails wsX8_fails) := goodIn_app (goodIn_r _ [25, 26, 27, 11] rfl (by decide +kernel)) ggX8_program_X8_fails
set_option maxRecDepth 20000 in
theorem aw_wsX8_readAll : wsX8_readAll.all goodWord = true := by decide +kernel
set_option maxRecDepth 20000 in
theorem ggX8_program_X8_readAll : GoodIn wsX8_program wsX8_readAll := goodIn_r _ [32, 33, 6, 34, 2, 35, 36, 37, 38, 11, 39, 40, 41, 42, 43, 13, 14, 15, 44, 45, 46, 47, 48, 49, 50, 51, 52, 7, 83, 84, 85, 86, 87, 88, 89, 90, 91, 92, 93, 94, 95, 96, 97, 98, 99, 100, 101, 102, 103, 104, 105, 106, 107, 108, 109, 110, 111, 112, 113, 114, 115, 116] rfl aw_wsX8_readAll
set_option maxRecDepth 20000 in
theorem gX8_program_X8_readAll : GoodIn wsX8_program (wsV RX8 116 RX8 yX8_readAll wsX8_readAll) := goodIn_app (goodIn_r _ [29, 30, 31, 11] rfl (by decide +kernel)) ggX8_program_X8_readAll
set_option maxRecDepth 20000 in
theorem aw_wsX8_keepRules : wsX8_keepRules.all goodWord = true := by decide +kernel
set_option maxRecDepth 20000 in
theorem ggX8_program_X8_keepRules : GoodIn wsX8_program wsX8_keepRules := goodIn_r _ [56, 57, 58, 59, 60, 61, 62, 63, 83, 84, 85, 86, 87, 88, 89, 90, 91, 92, 93, 94, 95, 96, 97, 98, 99, 100, 101, 102, 103, 104, 105, 106, 107, 108, 109, 110, 111, 112, 113, 114, 115, 116] rfl aw_wsX8_keepRules
set_option maxRecDepth 20000 in
theorem gX8_program_X8_keepRules : GoodIn wsX8_program (wsV RX8 119 RX8 yX8_keepRules wsX8_keepRules) := goodIn_app (goodIn_r _ [53, 54, 55, 11] rfl (by decide +kernel)) ggX8_program_X8_keepRules
set_option maxRecDepth 20000 in
theorem aw_wsX8_takeRules : wsX8_takeRules.all goodWord = true := by decide +kernel
set_option maxRecDepth 20000 in
theorem ggX8_program_X8_takeRules : GoodIn wsX8_program wsX8_takeRules := goodIn_r _ [67, 34, 3, 33, 4, 58, 48, 59, 60, 61, 62, 63, 83, 84, 85, 86, 87, 88, 89, 90, 91, 92, 93, 94, 95, 96, 97, 98, 99, 100, 101, 102, 103, 104, 105, 106, 107, 108, 109, 110, 111, 112, 113, 114, 115, 116] rfl aw_wsX8_takeRules
set_option maxRecDepth 20000 in
theorem gX8_program_X8_takeRules : GoodIn wsX8_program (wsV RX8 122 RX8 yX8_takeRules wsX8_takeRules) := goodIn_app (goodIn_r _ [64, 65, 66, 11] rfl (by decide +kernel)) ggX8_program_X8_takeRules
set_option maxRecDepth 20000 in
theorem aw_wsX8_goesRoundBy : wsX8_goesRoundBy.all goodWord = true := by decide +kernel
set_option maxRecDepth 20000 in
theorem ggX8_program_X8_goesRoundBy : GoodIn wsX8_program wsX8_goesRoundBy := goodIn_r _ [71, 3, 72, 73, 74, 11, 75, 4, 61, 62, 60, 63, 76, 77, 78, 83, 84, 85, 86, 87, 88, 89, 90, 91, 92, 93, 94, 95, 96, 97, 98, 99, 100, 101, 102, 103, 104, 105, 106, 107, 108, 109, 110, 111, 112, 113, 114, 115, 116] rfl aw_wsX8_goesRoundBy
set_option maxRecDepth 20000 in
theorem gX8_program_X8_goesRoundBy : GoodIn wsX8_program (wsV RX8 125 RX8 yX8_goesRoundBy wsX8_goesRoundBy) := goodIn_app (goodIn_r _ [68, 69, 70, 11] rfl (by decide +kernel)) ggX8_program_X8_goesRoundBy
set_option maxRecDepth 20000 in
theorem aw_wsX8_putRulesBack : wsX8_putRulesBack.all goodWord = true := by decide +kernel
set_option maxRecDepth 20000 in
theorem ggX8_program_X8_putRulesBack : GoodIn wsX8_program wsX8_putRulesBack := goodIn_r _ [82, 58, 57, 59, 60, 61, 62, 63, 83, 84, 85, 86, 87, 88, 89, 90, 91, 92, 93, 94, 95, 96, 97, 98, 99, 100, 101, 102, 103, 104, 105, 106, 107, 108, 109, 110, 111, 112, 113, 114, 115, 116] rfl aw_wsX8_putRulesBack
set_option maxRecDepth 20000 in
theorem gX8_program_X8_putRulesBack : GoodIn wsX8_program (wsV RX8 129 RX8 yX8_putRulesBack wsX8_putRulesBack) := goodIn_app (goodIn_r _ [79, 80, 81, 11] rfl (by decide +kernel)) ggX8_program_X8_putRulesBack
theorem dX8_program_0 : decode cX8_program 0 = .ok (.aload_n 0, 1) := by decide +kernel
theorem dX8_program_1 : decode cX8_program 1 = .ok (.iconst 0, 1) := by decide +kernel
theorem dX8_program_2 : decode cX8_program 2 = .ok (.putfield 82, 3) := by decide +kernel
theorem dX8_program_5 : decode cX8_program 5 = .ok (.iload_n 1, 1) := by decide +kernel
theorem dX8_program_6 : decode cX8_program 6 = .ok (.invokestatic 101, 3) := by decide +kernel
theorem dX8_program_9 : decode cX8_program 9 = .ok (.ifCond .ne 5, 3) := by decide +kernel
theorem dX8_program_12 : decode cX8_program 12 = .ok (.iconst (-1), 1) := by decide +kernel
theorem dX8_program_13 : decode cX8_program 13 = .ok (.ireturn, 1) := by decide +kernel
theorem dX8_program_14 : decode cX8_program 14 = .ok (.iload_n 2, 1) := by decide +kernel
theorem dX8_program_15 : decode cX8_program 15 = .ok (.invokestatic 105, 3) := by decide +kernel
theorem dX8_program_18 : decode cX8_program 18 = .ok (.ifCond .ne 6, 3) := by decide +kernel
theorem dX8_program_21 : decode cX8_program 21 = .ok (.bipush (-2), 2) := by decide +kernel
theorem dX8_program_23 : decode cX8_program 23 = .ok (.ireturn, 1) := by decide +kernel
theorem dX8_program_24 : decode cX8_program 24 = .ok (.aload_n 0, 1) := by decide +kernel
theorem dX8_program_25 : decode cX8_program 25 = .ok (.iload_n 1, 1) := by decide +kernel
theorem dX8_program_26 : decode cX8_program 26 = .ok (.iload_n 2, 1) := by decide +kernel
theorem dX8_program_27 : decode cX8_program 27 = .ok (.iload_n 3, 1) := by decide +kernel
theorem dX8_program_28 : decode cX8_program 28 = .ok (.iload 4, 2) := by decide +kernel
theorem dX8_program_30 : decode cX8_program 30 = .ok (.invokevirtual 108, 3) := by decide +kernel
theorem dX8_program_33 : decode cX8_program 33 = .ok (.istore 5, 2) := by decide +kernel
theorem dX8_program_35 : decode cX8_program 35 = .ok (.iload 5, 2) := by decide +kernel
theorem dX8_program_37 : decode cX8_program 37 = .ok (.ifCond .eq 10, 3) := by decide +kernel
theorem dX8_program_40 : decode cX8_program 40 = .ok (.aload_n 0, 1) := by decide +kernel
theorem dX8_program_41 : decode cX8_program 41 = .ok (.iload 5, 2) := by decide +kernel
theorem dX8_program_43 : decode cX8_program 43 = .ok (.invokevirtual 112, 3) := by decide +kernel
theorem dX8_program_46 : decode cX8_program 46 = .ok (.ireturn, 1) := by decide +kernel
theorem dX8_program_47 : decode cX8_program 47 = .ok (.bipush 60, 2) := by decide +kernel
theorem dX8_program_49 : decode cX8_program 49 = .ok (.iload_n 1, 1) := by decide +kernel
theorem dX8_program_50 : decode cX8_program 50 = .ok (.imul, 1) := by decide +kernel
theorem dX8_program_51 : decode cX8_program 51 = .ok (.iload_n 3, 1) := by decide +kernel
theorem dX8_program_52 : decode cX8_program 52 = .ok (.iadd, 1) := by decide +kernel
theorem dX8_program_53 : decode cX8_program 53 = .ok (.istore 6, 2) := by decide +kernel
theorem dX8_program_55 : decode cX8_program 55 = .ok (.aload_n 0, 1) := by decide +kernel
theorem dX8_program_56 : decode cX8_program 56 = .ok (.iload 6, 2) := by decide +kernel
theorem dX8_program_58 : decode cX8_program 58 = .ok (.putfield 98, 3) := by decide +kernel
theorem dX8_program_61 : decode cX8_program 61 = .ok (.aload_n 0, 1) := by decide +kernel
theorem dX8_program_62 : decode cX8_program 62 = .ok (.iload 6, 2) := by decide +kernel
theorem dX8_program_64 : decode cX8_program 64 = .ok (.iload 4, 2) := by decide +kernel
theorem dX8_program_66 : decode cX8_program 66 = .ok (.iadd, 1) := by decide +kernel
theorem dX8_program_67 : decode cX8_program 67 = .ok (.invokevirtual 116, 3) := by decide +kernel
theorem dX8_program_70 : decode cX8_program 70 = .ok (.ifCond .ne 14, 3) := by decide +kernel
theorem dX8_program_73 : decode cX8_program 73 = .ok (.bipush (-100), 2) := by decide +kernel
theorem dX8_program_75 : decode cX8_program 75 = .ok (.aload_n 0, 1) := by decide +kernel
theorem dX8_program_76 : decode cX8_program 76 = .ok (.getfield 98, 3) := by decide +kernel
theorem dX8_program_79 : decode cX8_program 79 = .ok (.iload 6, 2) := by decide +kernel
theorem dX8_program_81 : decode cX8_program 81 = .ok (.isub, 1) := by decide +kernel
theorem dX8_program_82 : decode cX8_program 82 = .ok (.isub, 1) := by decide +kernel
theorem dX8_program_83 : decode cX8_program 83 = .ok (.ireturn, 1) := by decide +kernel
theorem dX8_program_84 : decode cX8_program 84 = .ok (.aload_n 0, 1) := by decide +kernel
theorem dX8_program_85 : decode cX8_program 85 = .ok (.getfield 92, 3) := by decide +kernel
theorem dX8_program_88 : decode cX8_program 88 = .ok (.istore 7, 2) := by decide +kernel
theorem dX8_program_90 : decode cX8_program 90 = .ok (.aload_n 0, 1) := by decide +kernel
theorem dX8_program_91 : decode cX8_program 91 = .ok (.getfield 95, 3) := by decide +kernel
theorem dX8_program_94 : decode cX8_program 94 = .ok (.istore 8, 2) := by decide +kernel
theorem dX8_program_96 : decode cX8_program 96 = .ok (.aload_n 0, 1) := by decide +kernel
theorem dX8_program_97 : decode cX8_program 97 = .ok (.invokevirtual 119, 3) := by decide +kernel
theorem dX8_program_100 : decode cX8_program 100 = .ok (.aload_n 0, 1) := by decide +kernel
theorem dX8_program_101 : decode cX8_program 101 = .ok (.invokevirtual 122, 3) := by decide +kernel
theorem dX8_program_104 : decode cX8_program 104 = .ok (.aload_n 0, 1) := by decide +kernel
theorem dX8_program_105 : decode cX8_program 105 = .ok (.invokevirtual 125, 3) := by decide +kernel
theorem dX8_program_108 : decode cX8_program 108 = .ok (.istore 9, 2) := by decide +kernel
theorem dX8_program_110 : decode cX8_program 110 = .ok (.iload 9, 2) := by decide +kernel
theorem dX8_program_112 : decode cX8_program 112 = .ok (.bipush (-9), 2) := by decide +kernel
theorem dX8_program_114 : decode cX8_program 114 = .ok (.if_icmp .eq 26, 3) := by decide +kernel
theorem dX8_program_117 : decode cX8_program 117 = .ok (.aload_n 0, 1) := by decide +kernel
theorem dX8_program_118 : decode cX8_program 118 = .ok (.iload 7, 2) := by decide +kernel
theorem dX8_program_120 : decode cX8_program 120 = .ok (.putfield 92, 3) := by decide +kernel
theorem dX8_program_123 : decode cX8_program 123 = .ok (.aload_n 0, 1) := by decide +kernel
theorem dX8_program_124 : decode cX8_program 124 = .ok (.iload 8, 2) := by decide +kernel
theorem dX8_program_126 : decode cX8_program 126 = .ok (.putfield 95, 3) := by decide +kernel
theorem dX8_program_129 : decode cX8_program 129 = .ok (.aload_n 0, 1) := by decide +kernel
theorem dX8_program_130 : decode cX8_program 130 = .ok (.invokevirtual 129, 3) := by decide +kernel
theorem dX8_program_133 : decode cX8_program 133 = .ok (.sipush (-200), 3) := by decide +kernel
theorem dX8_program_136 : decode cX8_program 136 = .ok (.iload 9, 2) := by decide +kernel
theorem dX8_program_138 : decode cX8_program 138 = .ok (.isub, 1) := by decide +kernel
theorem dX8_program_139 : decode cX8_program 139 = .ok (.ireturn, 1) := by decide +kernel
theorem dX8_program_140 : decode cX8_program 140 = .ok (.iconst 0, 1) := by decide +kernel
theorem dX8_program_141 : decode cX8_program 141 = .ok (.istore 10, 2) := by decide +kernel
theorem dX8_program_143 : decode cX8_program 143 = .ok (.iload 10, 2) := by decide +kernel
theorem dX8_program_145 : decode cX8_program 145 = .ok (.bipush 64, 2) := by decide +kernel
theorem dX8_program_147 : decode cX8_program 147 = .ok (.if_icmp .ge 17, 3) := by decide +kernel
theorem dX8_program_150 : decode cX8_program 150 = .ok (.aload_n 0, 1) := by decide +kernel
theorem dX8_program_151 : decode cX8_program 151 = .ok (.getfield 37, 3) := by decide +kernel
theorem dX8_program_154 : decode cX8_program 154 = .ok (.iload 10, 2) := by decide +kernel
theorem dX8_program_156 : decode cX8_program 156 = .ok (.iconst 0, 1) := by decide +kernel
theorem dX8_program_157 : decode cX8_program 157 = .ok (.iastore, 1) := by decide +kernel
theorem dX8_program_158 : decode cX8_program 158 = .ok (.iinc 10 1, 3) := by decide +kernel
theorem dX8_program_161 : decode cX8_program 161 = .ok (.goto (-18), 3) := by decide +kernel
theorem dX8_program_164 : decode cX8_program 164 = .ok (.iconst 0, 1) := by decide +kernel
theorem dX8_program_165 : decode cX8_program 165 = .ok (.istore 10, 2) := by decide +kernel
theorem dX8_program_167 : decode cX8_program 167 = .ok (.iload 10, 2) := by decide +kernel
theorem dX8_program_169 : decode cX8_program 169 = .ok (.aload_n 0, 1) := by decide +kernel
theorem dX8_program_170 : decode cX8_program 170 = .ok (.getfield 132, 3) := by decide +kernel
theorem dX8_program_173 : decode cX8_program 173 = .ok (.if_icmp .ge 22, 3) := by decide +kernel
theorem dX8_program_176 : decode cX8_program 176 = .ok (.aload_n 0, 1) := by decide +kernel
theorem dX8_program_177 : decode cX8_program 177 = .ok (.getfield 37, 3) := by decide +kernel
theorem dX8_program_180 : decode cX8_program 180 = .ok (.aload_n 0, 1) := by decide +kernel
theorem dX8_program_181 : decode cX8_program 181 = .ok (.getfield 43, 3) := by decide +kernel
theorem dX8_program_184 : decode cX8_program 184 = .ok (.iload 10, 2) := by decide +kernel
theorem dX8_program_186 : decode cX8_program 186 = .ok (.iaload, 1) := by decide +kernel
theorem dX8_program_187 : decode cX8_program 187 = .ok (.iconst 1, 1) := by decide +kernel
theorem dX8_program_188 : decode cX8_program 188 = .ok (.iastore, 1) := by decide +kernel
theorem dX8_program_189 : decode cX8_program 189 = .ok (.iinc 10 1, 3) := by decide +kernel
theorem dX8_program_192 : decode cX8_program 192 = .ok (.goto (-25), 3) := by decide +kernel
theorem dX8_program_195 : decode cX8_program 195 = .ok (.aload_n 0, 1) := by decide +kernel
theorem dX8_program_196 : decode cX8_program 196 = .ok (.iconst 0, 1) := by decide +kernel
theorem dX8_program_197 : decode cX8_program 197 = .ok (.putfield 135, 3) := by decide +kernel
theorem dX8_program_200 : decode cX8_program 200 = .ok (.aload_n 0, 1) := by decide +kernel
theorem dX8_program_201 : decode cX8_program 201 = .ok (.getfield 95, 3) := by decide +kernel
theorem dX8_program_204 : decode cX8_program 204 = .ok (.ireturn, 1) := by decide +kernel
theorem dX8_takeRules_0 : decode cX8_takeRules 0 = .ok (.aload_n 0, 1) := by decide +kernel
theorem dX8_takeRules_1 : decode cX8_takeRules 1 = .ok (.aload_n 0, 1) := by decide +kernel
theorem dX8_takeRules_2 : decode cX8_takeRules 2 = .ok (.getfield 138, 3) := by decide +kernel
theorem dX8_takeRules_5 : decode cX8_takeRules 5 = .ok (.putfield 92, 3) := by decide +kernel
theorem dX8_takeRules_8 : decode cX8_takeRules 8 = .ok (.aload_n 0, 1) := by decide +kernel
theorem dX8_takeRules_9 : decode cX8_takeRules 9 = .ok (.aload_n 0, 1) := by decide +kernel
theorem dX8_takeRules_10 : decode cX8_takeRules 10 = .ok (.getfield 141, 3) := by decide +kernel
theorem dX8_takeRules_13 : decode cX8_takeRules 13 = .ok (.putfield 95, 3) := by decide +kernel
theorem dX8_takeRules_16 : decode cX8_takeRules 16 = .ok (.iconst 0, 1) := by decide +kernel
theorem dX8_takeRules_17 : decode cX8_takeRules 17 = .ok (.istore_n 1, 1) := by decide +kernel
theorem dX8_takeRules_18 : decode cX8_takeRules 18 = .ok (.iload_n 1, 1) := by decide +kernel
theorem dX8_takeRules_19 : decode cX8_takeRules 19 = .ok (.aload_n 0, 1) := by decide +kernel
theorem dX8_takeRules_20 : decode cX8_takeRules 20 = .ok (.getfield 95, 3) := by decide +kernel
theorem dX8_takeRules_23 : decode cX8_takeRules 23 = .ok (.if_icmp .ge 109, 3) := by decide +kernel
theorem dX8_takeRules_26 : decode cX8_takeRules 26 = .ok (.aload_n 0, 1) := by decide +kernel
theorem dX8_takeRules_27 : decode cX8_takeRules 27 = .ok (.getfield 19, 3) := by decide +kernel
theorem dX8_takeRules_30 : decode cX8_takeRules 30 = .ok (.iload_n 1, 1) := by decide +kernel
theorem dX8_takeRules_31 : decode cX8_takeRules 31 = .ok (.aload_n 0, 1) := by decide +kernel
theorem dX8_takeRules_32 : decode cX8_takeRules 32 = .ok (.getfield 40, 3) := by decide +kernel
theorem dX8_takeRules_35 : decode cX8_takeRules 35 = .ok (.bipush 6, 2) := by decide +kernel
theorem dX8_takeRules_37 : decode cX8_takeRules 37 = .ok (.iload_n 1, 1) := by decide +kernel
theorem dX8_takeRules_38 : decode cX8_takeRules 38 = .ok (.imul, 1) := by decide +kernel
theorem dX8_takeRules_39 : decode cX8_takeRules 39 = .ok (.iaload, 1) := by decide +kernel
theorem dX8_takeRules_40 : decode cX8_takeRules 40 = .ok (.iastore, 1) := by decide +kernel
theorem dX8_takeRules_41 : decode cX8_takeRules 41 = .ok (.aload_n 0, 1) := by decide +kernel
theorem dX8_takeRules_42 : decode cX8_takeRules 42 = .ok (.getfield 22, 3) := by decide +kernel
theorem dX8_takeRules_45 : decode cX8_takeRules 45 = .ok (.iload_n 1, 1) := by decide +kernel
theorem dX8_takeRules_46 : decode cX8_takeRules 46 = .ok (.aload_n 0, 1) := by decide +kernel
theorem dX8_takeRules_47 : decode cX8_takeRules 47 = .ok (.getfield 40, 3) := by decide +kernel
theorem dX8_takeRules_50 : decode cX8_takeRules 50 = .ok (.bipush 6, 2) := by decide +kernel
theorem dX8_takeRules_52 : decode cX8_takeRules 52 = .ok (.iload_n 1, 1) := by decide +kernel
theorem dX8_takeRules_53 : decode cX8_takeRules 53 = .ok (.imul, 1) := by decide +kernel
theorem dX8_takeRules_54 : decode cX8_takeRules 54 = .ok (.iconst 1, 1) := by decide +kernel
theorem dX8_takeRules_55 : decode cX8_takeRules 55 = .ok (.iadd, 1) := by decide +kernel
theorem dX8_takeRules_56 : decode cX8_takeRules 56 = .ok (.iaload, 1) := by decide +kernel
theorem dX8_takeRules_57 : decode cX8_takeRules 57 = .ok (.iastore, 1) := by decide +kernel
theorem dX8_takeRules_58 : decode cX8_takeRules 58 = .ok (.aload_n 0, 1) := by decide +kernel
theorem dX8_takeRules_59 : decode cX8_takeRules 59 = .ok (.getfield 25, 3) := by decide +kernel
theorem dX8_takeRules_62 : decode cX8_takeRules 62 = .ok (.iload_n 1, 1) := by decide +kernel
theorem dX8_takeRules_63 : decode cX8_takeRules 63 = .ok (.aload_n 0, 1) := by decide +kernel
theorem dX8_takeRules_64 : decode cX8_takeRules 64 = .ok (.getfield 40, 3) := by decide +kernel
theorem dX8_takeRules_67 : decode cX8_takeRules 67 = .ok (.bipush 6, 2) := by decide +kernel
theorem dX8_takeRules_69 : decode cX8_takeRules 69 = .ok (.iload_n 1, 1) := by decide +kernel
theorem dX8_takeRules_70 : decode cX8_takeRules 70 = .ok (.imul, 1) := by decide +kernel
theorem dX8_takeRules_71 : decode cX8_takeRules 71 = .ok (.iconst 2, 1) := by decide +kernel
theorem dX8_takeRules_72 : decode cX8_takeRules 72 = .ok (.iadd, 1) := by decide +kernel
theorem dX8_takeRules_73 : decode cX8_takeRules 73 = .ok (.iaload, 1) := by decide +kernel
theorem dX8_takeRules_74 : decode cX8_takeRules 74 = .ok (.iastore, 1) := by decide +kernel
theorem dX8_takeRules_75 : decode cX8_takeRules 75 = .ok (.aload_n 0, 1) := by decide +kernel
theorem dX8_takeRules_76 : decode cX8_takeRules 76 = .ok (.getfield 28, 3) := by decide +kernel
theorem dX8_takeRules_79 : decode cX8_takeRules 79 = .ok (.iload_n 1, 1) := by decide +kernel
theorem dX8_takeRules_80 : decode cX8_takeRules 80 = .ok (.aload_n 0, 1) := by decide +kernel
theorem dX8_takeRules_81 : decode cX8_takeRules 81 = .ok (.getfield 40, 3) := by decide +kernel
theorem dX8_takeRules_84 : decode cX8_takeRules 84 = .ok (.bipush 6, 2) := by decide +kernel
theorem dX8_takeRules_86 : decode cX8_takeRules 86 = .ok (.iload_n 1, 1) := by decide +kernel
theorem dX8_takeRules_87 : decode cX8_takeRules 87 = .ok (.imul, 1) := by decide +kernel
theorem dX8_takeRules_88 : decode cX8_takeRules 88 = .ok (.iconst 3, 1) := by decide +kernel
theorem dX8_takeRules_89 : decode cX8_takeRules 89 = .ok (.iadd, 1) := by decide +kernel
theorem dX8_takeRules_90 : decode cX8_takeRules 90 = .ok (.iaload, 1) := by decide +kernel
theorem dX8_takeRules_91 : decode cX8_takeRules 91 = .ok (.iastore, 1) := by decide +kernel
theorem dX8_takeRules_92 : decode cX8_takeRules 92 = .ok (.aload_n 0, 1) := by decide +kernel
theorem dX8_takeRules_93 : decode cX8_takeRules 93 = .ok (.getfield 31, 3) := by decide +kernel
theorem dX8_takeRules_96 : decode cX8_takeRules 96 = .ok (.iload_n 1, 1) := by decide +kernel
theorem dX8_takeRules_97 : decode cX8_takeRules 97 = .ok (.aload_n 0, 1) := by decide +kernel
theorem dX8_takeRules_98 : decode cX8_takeRules 98 = .ok (.getfield 40, 3) := by decide +kernel
theorem dX8_takeRules_101 : decode cX8_takeRules 101 = .ok (.bipush 6, 2) := by decide +kernel
theorem dX8_takeRules_103 : decode cX8_takeRules 103 = .ok (.iload_n 1, 1) := by decide +kernel
theorem dX8_takeRules_104 : decode cX8_takeRules 104 = .ok (.imul, 1) := by decide +kernel
theorem dX8_takeRules_105 : decode cX8_takeRules 105 = .ok (.iconst 4, 1) := by decide +kernel
theorem dX8_takeRules_106 : decode cX8_takeRules 106 = .ok (.iadd, 1) := by decide +kernel
theorem dX8_takeRules_107 : decode cX8_takeRules 107 = .ok (.iaload, 1) := by decide +kernel
theorem dX8_takeRules_108 : decode cX8_takeRules 108 = .ok (.iastore, 1) := by decide +kernel
theorem dX8_takeRules_109 : decode cX8_takeRules 109 = .ok (.aload_n 0, 1) := by decide +kernel
theorem dX8_takeRules_110 : decode cX8_takeRules 110 = .ok (.getfield 34, 3) := by decide +kernel
theorem dX8_takeRules_113 : decode cX8_takeRules 113 = .ok (.iload_n 1, 1) := by decide +kernel
theorem dX8_takeRules_114 : decode cX8_takeRules 114 = .ok (.aload_n 0, 1) := by decide +kernel
theorem dX8_takeRules_115 : decode cX8_takeRules 115 = .ok (.getfield 40, 3) := by decide +kernel
theorem dX8_takeRules_118 : decode cX8_takeRules 118 = .ok (.bipush 6, 2) := by decide +kernel
theorem dX8_takeRules_120 : decode cX8_takeRules 120 = .ok (.iload_n 1, 1) := by decide +kernel
theorem dX8_takeRules_121 : decode cX8_takeRules 121 = .ok (.imul, 1) := by decide +kernel
theorem dX8_takeRules_122 : decode cX8_takeRules 122 = .ok (.iconst 5, 1) := by decide +kernel
theorem dX8_takeRules_123 : decode cX8_takeRules 123 = .ok (.iadd, 1) := by decide +kernel
theorem dX8_takeRules_124 : decode cX8_takeRules 124 = .ok (.iaload, 1) := by decide +kernel
theorem dX8_takeRules_125 : decode cX8_takeRules 125 = .ok (.iastore, 1) := by decide +kernel
theorem dX8_takeRules_126 : decode cX8_takeRules 126 = .ok (.iinc 1 1, 3) := by decide +kernel
theorem dX8_takeRules_129 : decode cX8_takeRules 129 = .ok (.goto (-111), 3) := by decide +kernel
theorem dX8_takeRules_132 : decode cX8_takeRules 132 = .ok (.return_, 1) := by decide +kernel
theorem dX8_keepRules_0 : decode cX8_keepRules 0 = .ok (.iconst 0, 1) := by decide +kernel
theorem dX8_keepRules_1 : decode cX8_keepRules 1 = .ok (.istore_n 1, 1) := by decide +kernel
theorem dX8_keepRules_2 : decode cX8_keepRules 2 = .ok (.iload_n 1, 1) := by decide +kernel
theorem dX8_keepRules_3 : decode cX8_keepRules 3 = .ok (.iconst 5, 1) := by decide +kernel
theorem dX8_keepRules_4 : decode cX8_keepRules 4 = .ok (.if_icmp .ge 109, 3) := by decide +kernel
theorem dX8_keepRules_7 : decode cX8_keepRules 7 = .ok (.aload_n 0, 1) := by decide +kernel
theorem dX8_keepRules_8 : decode cX8_keepRules 8 = .ok (.getfield 46, 3) := by decide +kernel
theorem dX8_keepRules_11 : decode cX8_keepRules 11 = .ok (.bipush 6, 2) := by decide +kernel
theorem dX8_keepRules_13 : decode cX8_keepRules 13 = .ok (.iload_n 1, 1) := by decide +kernel
theorem dX8_keepRules_14 : decode cX8_keepRules 14 = .ok (.imul, 1) := by decide +kernel
theorem dX8_keepRules_15 : decode cX8_keepRules 15 = .ok (.aload_n 0, 1) := by decide +kernel
theorem dX8_keepRules_16 : decode cX8_keepRules 16 = .ok (.getfield 19, 3) := by decide +kernel
theorem dX8_keepRules_19 : decode cX8_keepRules 19 = .ok (.iload_n 1, 1) := by decide +kernel
theorem dX8_keepRules_20 : decode cX8_keepRules 20 = .ok (.iaload, 1) := by decide +kernel
theorem dX8_keepRules_21 : decode cX8_keepRules 21 = .ok (.iastore, 1) := by decide +kernel
theorem dX8_keepRules_22 : decode cX8_keepRules 22 = .ok (.aload_n 0, 1) := by decide +kernel
theorem dX8_keepRules_23 : decode cX8_keepRules 23 = .ok (.getfield 46, 3) := by decide +kernel
theorem dX8_keepRules_26 : decode cX8_keepRules 26 = .ok (.bipush 6, 2) := by decide +kernel
theorem dX8_keepRules_28 : decode cX8_keepRules 28 = .ok (.iload_n 1, 1) := by decide +kernel
theorem dX8_keepRules_29 : decode cX8_keepRules 29 = .ok (.imul, 1) := by decide +kernel
theorem dX8_keepRules_30 : decode cX8_keepRules 30 = .ok (.iconst 1, 1) := by decide +kernel
theorem dX8_keepRules_31 : decode cX8_keepRules 31 = .ok (.iadd, 1) := by decide +kernel
theorem dX8_keepRules_32 : decode cX8_keepRules 32 = .ok (.aload_n 0, 1) := by decide +kernel
theorem dX8_keepRules_33 : decode cX8_keepRules 33 = .ok (.getfield 22, 3) := by decide +kernel
theorem dX8_keepRules_36 : decode cX8_keepRules 36 = .ok (.iload_n 1, 1) := by decide +kernel
theorem dX8_keepRules_37 : decode cX8_keepRules 37 = .ok (.iaload, 1) := by decide +kernel
theorem dX8_keepRules_38 : decode cX8_keepRules 38 = .ok (.iastore, 1) := by decide +kernel
theorem dX8_keepRules_39 : decode cX8_keepRules 39 = .ok (.aload_n 0, 1) := by decide +kernel
theorem dX8_keepRules_40 : decode cX8_keepRules 40 = .ok (.getfield 46, 3) := by decide +kernel
theorem dX8_keepRules_43 : decode cX8_keepRules 43 = .ok (.bipush 6, 2) := by decide +kernel
theorem dX8_keepRules_45 : decode cX8_keepRules 45 = .ok (.iload_n 1, 1) := by decide +kernel
theorem dX8_keepRules_46 : decode cX8_keepRules 46 = .ok (.imul, 1) := by decide +kernel
theorem dX8_keepRules_47 : decode cX8_keepRules 47 = .ok (.iconst 2, 1) := by decide +kernel
theorem dX8_keepRules_48 : decode cX8_keepRules 48 = .ok (.iadd, 1) := by decide +kernel
theorem dX8_keepRules_49 : decode cX8_keepRules 49 = .ok (.aload_n 0, 1) := by decide +kernel
theorem dX8_keepRules_50 : decode cX8_keepRules 50 = .ok (.getfield 25, 3) := by decide +kernel
theorem dX8_keepRules_53 : decode cX8_keepRules 53 = .ok (.iload_n 1, 1) := by decide +kernel
theorem dX8_keepRules_54 : decode cX8_keepRules 54 = .ok (.iaload, 1) := by decide +kernel
theorem dX8_keepRules_55 : decode cX8_keepRules 55 = .ok (.iastore, 1) := by decide +kernel
theorem dX8_keepRules_56 : decode cX8_keepRules 56 = .ok (.aload_n 0, 1) := by decide +kernel
theorem dX8_keepRules_57 : decode cX8_keepRules 57 = .ok (.getfield 46, 3) := by decide +kernel
theorem dX8_keepRules_60 : decode cX8_keepRules 60 = .ok (.bipush 6, 2) := by decide +kernel
theorem dX8_keepRules_62 : decode cX8_keepRules 62 = .ok (.iload_n 1, 1) := by decide +kernel
theorem dX8_keepRules_63 : decode cX8_keepRules 63 = .ok (.imul, 1) := by decide +kernel
theorem dX8_keepRules_64 : decode cX8_keepRules 64 = .ok (.iconst 3, 1) := by decide +kernel
theorem dX8_keepRules_65 : decode cX8_keepRules 65 = .ok (.iadd, 1) := by decide +kernel
theorem dX8_keepRules_66 : decode cX8_keepRules 66 = .ok (.aload_n 0, 1) := by decide +kernel
theorem dX8_keepRules_67 : decode cX8_keepRules 67 = .ok (.getfield 28, 3) := by decide +kernel
theorem dX8_keepRules_70 : decode cX8_keepRules 70 = .ok (.iload_n 1, 1) := by decide +kernel
theorem dX8_keepRules_71 : decode cX8_keepRules 71 = .ok (.iaload, 1) := by decide +kernel
theorem dX8_keepRules_72 : decode cX8_keepRules 72 = .ok (.iastore, 1) := by decide +kernel
theorem dX8_keepRules_73 : decode cX8_keepRules 73 = .ok (.aload_n 0, 1) := by decide +kernel
theorem dX8_keepRules_74 : decode cX8_keepRules 74 = .ok (.getfield 46, 3) := by decide +kernel
theorem dX8_keepRules_77 : decode cX8_keepRules 77 = .ok (.bipush 6, 2) := by decide +kernel
theorem dX8_keepRules_79 : decode cX8_keepRules 79 = .ok (.iload_n 1, 1) := by decide +kernel
theorem dX8_keepRules_80 : decode cX8_keepRules 80 = .ok (.imul, 1) := by decide +kernel
theorem dX8_keepRules_81 : decode cX8_keepRules 81 = .ok (.iconst 4, 1) := by decide +kernel
theorem dX8_keepRules_82 : decode cX8_keepRules 82 = .ok (.iadd, 1) := by decide +kernel
theorem dX8_keepRules_83 : decode cX8_keepRules 83 = .ok (.aload_n 0, 1) := by decide +kernel
theorem dX8_keepRules_84 : decode cX8_keepRules 84 = .ok (.getfield 31, 3) := by decide +kernel
theorem dX8_keepRules_87 : decode cX8_keepRules 87 = .ok (.iload_n 1, 1) := by decide +kernel
theorem dX8_keepRules_88 : decode cX8_keepRules 88 = .ok (.iaload, 1) := by decide +kernel
theorem dX8_keepRules_89 : decode cX8_keepRules 89 = .ok (.iastore, 1) := by decide +kernel
theorem dX8_keepRules_90 : decode cX8_keepRules 90 = .ok (.aload_n 0, 1) := by decide +kernel
theorem dX8_keepRules_91 : decode cX8_keepRules 91 = .ok (.getfield 46, 3) := by decide +kernel
theorem dX8_keepRules_94 : decode cX8_keepRules 94 = .ok (.bipush 6, 2) := by decide +kernel
theorem dX8_keepRules_96 : decode cX8_keepRules 96 = .ok (.iload_n 1, 1) := by decide +kernel
theorem dX8_keepRules_97 : decode cX8_keepRules 97 = .ok (.imul, 1) := by decide +kernel
theorem dX8_keepRules_98 : decode cX8_keepRules 98 = .ok (.iconst 5, 1) := by decide +kernel
theorem dX8_keepRules_99 : decode cX8_keepRules 99 = .ok (.iadd, 1) := by decide +kernel
theorem dX8_keepRules_100 : decode cX8_keepRules 100 = .ok (.aload_n 0, 1) := by decide +kernel
theorem dX8_keepRules_101 : decode cX8_keepRules 101 = .ok (.getfield 34, 3) := by decide +kernel
theorem dX8_keepRules_104 : decode cX8_keepRules 104 = .ok (.iload_n 1, 1) := by decide +kernel
theorem dX8_keepRules_105 : decode cX8_keepRules 105 = .ok (.iaload, 1) := by decide +kernel
theorem dX8_keepRules_106 : decode cX8_keepRules 106 = .ok (.iastore, 1) := by decide +kernel
theorem dX8_keepRules_107 : decode cX8_keepRules 107 = .ok (.iinc 1 1, 3) := by decide +kernel
theorem dX8_keepRules_110 : decode cX8_keepRules 110 = .ok (.goto (-108), 3) := by decide +kernel
theorem dX8_keepRules_113 : decode cX8_keepRules 113 = .ok (.return_, 1) := by decide +kernel
theorem dX8_putRulesBack_0 : decode cX8_putRulesBack 0 = .ok (.iconst 0, 1) := by decide +kernel
theorem dX8_putRulesBack_1 : decode cX8_putRulesBack 1 = .ok (.istore_n 1, 1) := by decide +kernel
theorem dX8_putRulesBack_2 : decode cX8_putRulesBack 2 = .ok (.iload_n 1, 1) := by decide +kernel
theorem dX8_putRulesBack_3 : decode cX8_putRulesBack 3 = .ok (.iconst 5, 1) := by decide +kernel
theorem dX8_putRulesBack_4 : decode cX8_putRulesBack 4 = .ok (.if_icmp .ge 109, 3) := by decide +kernel
theorem dX8_putRulesBack_7 : decode cX8_putRulesBack 7 = .ok (.aload_n 0, 1) := by decide +kernel
theorem dX8_putRulesBack_8 : decode cX8_putRulesBack 8 = .ok (.getfield 19, 3) := by decide +kernel
theorem dX8_putRulesBack_11 : decode cX8_putRulesBack 11 = .ok (.iload_n 1, 1) := by decide +kernel
theorem dX8_putRulesBack_12 : decode cX8_putRulesBack 12 = .ok (.aload_n 0, 1) := by decide +kernel
theorem dX8_putRulesBack_13 : decode cX8_putRulesBack 13 = .ok (.getfield 46, 3) := by decide +kernel
theorem dX8_putRulesBack_16 : decode cX8_putRulesBack 16 = .ok (.bipush 6, 2) := by decide +kernel
theorem dX8_putRulesBack_18 : decode cX8_putRulesBack 18 = .ok (.iload_n 1, 1) := by decide +kernel
theorem dX8_putRulesBack_19 : decode cX8_putRulesBack 19 = .ok (.imul, 1) := by decide +kernel
theorem dX8_putRulesBack_20 : decode cX8_putRulesBack 20 = .ok (.iaload, 1) := by decide +kernel
theorem dX8_putRulesBack_21 : decode cX8_putRulesBack 21 = .ok (.iastore, 1) := by decide +kernel
theorem dX8_putRulesBack_22 : decode cX8_putRulesBack 22 = .ok (.aload_n 0, 1) := by decide +kernel
theorem dX8_putRulesBack_23 : decode cX8_putRulesBack 23 = .ok (.getfield 22, 3) := by decide +kernel
theorem dX8_putRulesBack_26 : decode cX8_putRulesBack 26 = .ok (.iload_n 1, 1) := by decide +kernel
theorem dX8_putRulesBack_27 : decode cX8_putRulesBack 27 = .ok (.aload_n 0, 1) := by decide +kernel
theorem dX8_putRulesBack_28 : decode cX8_putRulesBack 28 = .ok (.getfield 46, 3) := by decide +kernel
theorem dX8_putRulesBack_31 : decode cX8_putRulesBack 31 = .ok (.bipush 6, 2) := by decide +kernel
theorem dX8_putRulesBack_33 : decode cX8_putRulesBack 33 = .ok (.iload_n 1, 1) := by decide +kernel
theorem dX8_putRulesBack_34 : decode cX8_putRulesBack 34 = .ok (.imul, 1) := by decide +kernel
theorem dX8_putRulesBack_35 : decode cX8_putRulesBack 35 = .ok (.iconst 1, 1) := by decide +kernel
theorem dX8_putRulesBack_36 : decode cX8_putRulesBack 36 = .ok (.iadd, 1) := by decide +kernel
theorem dX8_putRulesBack_37 : decode cX8_putRulesBack 37 = .ok (.iaload, 1) := by decide +kernel
theorem dX8_putRulesBack_38 : decode cX8_putRulesBack 38 = .ok (.iastore, 1) := by decide +kernel
theorem dX8_putRulesBack_39 : decode cX8_putRulesBack 39 = .ok (.aload_n 0, 1) := by decide +kernel
theorem dX8_putRulesBack_40 : decode cX8_putRulesBack 40 = .ok (.getfield 25, 3) := by decide +kernel
theorem dX8_putRulesBack_43 : decode cX8_putRulesBack 43 = .ok (.iload_n 1, 1) := by decide +kernel
theorem dX8_putRulesBack_44 : decode cX8_putRulesBack 44 = .ok (.aload_n 0, 1) := by decide +kernel
theorem dX8_putRulesBack_45 : decode cX8_putRulesBack 45 = .ok (.getfield 46, 3) := by decide +kernel
theorem dX8_putRulesBack_48 : decode cX8_putRulesBack 48 = .ok (.bipush 6, 2) := by decide +kernel
theorem dX8_putRulesBack_50 : decode cX8_putRulesBack 50 = .ok (.iload_n 1, 1) := by decide +kernel
theorem dX8_putRulesBack_51 : decode cX8_putRulesBack 51 = .ok (.imul, 1) := by decide +kernel
theorem dX8_putRulesBack_52 : decode cX8_putRulesBack 52 = .ok (.iconst 2, 1) := by decide +kernel
theorem dX8_putRulesBack_53 : decode cX8_putRulesBack 53 = .ok (.iadd, 1) := by decide +kernel
theorem dX8_putRulesBack_54 : decode cX8_putRulesBack 54 = .ok (.iaload, 1) := by decide +kernel
theorem dX8_putRulesBack_55 : decode cX8_putRulesBack 55 = .ok (.iastore, 1) := by decide +kernel
theorem dX8_putRulesBack_56 : decode cX8_putRulesBack 56 = .ok (.aload_n 0, 1) := by decide +kernel
theorem dX8_putRulesBack_57 : decode cX8_putRulesBack 57 = .ok (.getfield 28, 3) := by decide +kernel
theorem dX8_putRulesBack_60 : decode cX8_putRulesBack 60 = .ok (.iload_n 1, 1) := by decide +kernel
theorem dX8_putRulesBack_61 : decode cX8_putRulesBack 61 = .ok (.aload_n 0, 1) := by decide +kernel
theorem dX8_putRulesBack_62 : decode cX8_putRulesBack 62 = .ok (.getfield 46, 3) := by decide +kernel
theorem dX8_putRulesBack_65 : decode cX8_putRulesBack 65 = .ok (.bipush 6, 2) := by decide +kernel
theorem dX8_putRulesBack_67 : decode cX8_putRulesBack 67 = .ok (.iload_n 1, 1) := by decide +kernel
theorem dX8_putRulesBack_68 : decode cX8_putRulesBack 68 = .ok (.imul, 1) := by decide +kernel
theorem dX8_putRulesBack_69 : decode cX8_putRulesBack 69 = .ok (.iconst 3, 1) := by decide +kernel
theorem dX8_putRulesBack_70 : decode cX8_putRulesBack 70 = .ok (.iadd, 1) := by decide +kernel
theorem dX8_putRulesBack_71 : decode cX8_putRulesBack 71 = .ok (.iaload, 1) := by decide +kernel
theorem dX8_putRulesBack_72 : decode cX8_putRulesBack 72 = .ok (.iastore, 1) := by decide +kernel
theorem dX8_putRulesBack_73 : decode cX8_putRulesBack 73 = .ok (.aload_n 0, 1) := by decide +kernel
theorem dX8_putRulesBack_74 : decode cX8_putRulesBack 74 = .ok (.getfield 31, 3) := by decide +kernel
theorem dX8_putRulesBack_77 : decode cX8_putRulesBack 77 = .ok (.iload_n 1, 1) := by decide +kernel
theorem dX8_putRulesBack_78 : decode cX8_putRulesBack 78 = .ok (.aload_n 0, 1) := by decide +kernel
theorem dX8_putRulesBack_79 : decode cX8_putRulesBack 79 = .ok (.getfield 46, 3) := by decide +kernel
theorem dX8_putRulesBack_82 : decode cX8_putRulesBack 82 = .ok (.bipush 6, 2) := by decide +kernel
theorem dX8_putRulesBack_84 : decode cX8_putRulesBack 84 = .ok (.iload_n 1, 1) := by decide +kernel
theorem dX8_putRulesBack_85 : decode cX8_putRulesBack 85 = .ok (.imul, 1) := by decide +kernel
theorem dX8_putRulesBack_86 : decode cX8_putRulesBack 86 = .ok (.iconst 4, 1) := by decide +kernel
theorem dX8_putRulesBack_87 : decode cX8_putRulesBack 87 = .ok (.iadd, 1) := by decide +kernel
theorem dX8_putRulesBack_88 : decode cX8_putRulesBack 88 = .ok (.iaload, 1) := by decide +kernel
theorem dX8_putRulesBack_89 : decode cX8_putRulesBack 89 = .ok (.iastore, 1) := by decide +kernel
theorem dX8_putRulesBack_90 : decode cX8_putRulesBack 90 = .ok (.aload_n 0, 1) := by decide +kernel
theorem dX8_putRulesBack_91 : decode cX8_putRulesBack 91 = .ok (.getfield 34, 3) := by decide +kernel
theorem dX8_putRulesBack_94 : decode cX8_putRulesBack 94 = .ok (.iload_n 1, 1) := by decide +kernel
theorem dX8_putRulesBack_95 : decode cX8_putRulesBack 95 = .ok (.aload_n 0, 1) := by decide +kernel
theorem dX8_putRulesBack_96 : decode cX8_putRulesBack 96 = .ok (.getfield 46, 3) := by decide +kernel
theorem dX8_putRulesBack_99 : decode cX8_putRulesBack 99 = .ok (.bipush 6, 2) := by decide +kernel
theorem dX8_putRulesBack_101 : decode cX8_putRulesBack 101 = .ok (.iload_n 1, 1) := by decide +kernel
theorem dX8_putRulesBack_102 : decode cX8_putRulesBack 102 = .ok (.imul, 1) := by decide +kernel
theorem dX8_putRulesBack_103 : decode cX8_putRulesBack 103 = .ok (.iconst 5, 1) := by decide +kernel
theorem dX8_putRulesBack_104 : decode cX8_putRulesBack 104 = .ok (.iadd, 1) := by decide +kernel
theorem dX8_putRulesBack_105 : decode cX8_putRulesBack 105 = .ok (.iaload, 1) := by decide +kernel
theorem dX8_putRulesBack_106 : decode cX8_putRulesBack 106 = .ok (.iastore, 1) := by decide +kernel
theorem dX8_putRulesBack_107 : decode cX8_putRulesBack 107 = .ok (.iinc 1 1, 3) := by decide +kernel
theorem dX8_putRulesBack_110 : decode cX8_putRulesBack 110 = .ok (.goto (-108), 3) := by decide +kernel
theorem dX8_putRulesBack_113 : decode cX8_putRulesBack 113 = .ok (.return_, 1) := by decide +kernel
set_option maxRecDepth 20000 in
theorem aw_wsX8_isSign : wsX8_isSign.all goodWord = true := by decide +kernel
set_option maxRecDepth 20000 in
theorem ggX8_readAll_X8_isSign : GoodIn wsX8_readAll wsX8_isSign := goodIn_r _ [10, 4, 5, 28, 29, 30, 31, 32, 33, 34, 35, 36, 37, 38, 39, 40, 41, 42, 43, 44, 45, 46, 47, 48, 49, 50, 51, 52, 53, 54, 55, 56, 57, 58, 59, 60, 61] rfl aw_wsX8_isSign
set_option maxRecDepth 20000 in
theorem gX8_readAll_X8_isSign : GoodIn wsX8_readAll (wsV RX8 144 RX8 yX8_isSign wsX8_isSign) := goodIn_app (goodIn_r _ [6, 7, 8, 9] rfl (by decide +kernel)) ggX8_readAll_X8_isSign
set_option maxRecDepth 20000 in
theorem aw_wsX8_digit : wsX8_digit.all goodWord = true := by decide +kernel
set_option maxRecDepth 20000 in
theorem ggX8_readAll_X8_digit : GoodIn wsX8_readAll wsX8_digit := goodIn_r _ [14, 4, 5, 15, 16, 9, 17, 28, 29, 30, 31, 32, 33, 34, 35, 36, 37, 38, 39, 40, 41, 42, 43, 44, 45, 46, 47, 48, 49, 50, 51, 52, 53, 54, 55, 56, 57, 58, 59, 60, 61] rfl aw_wsX8_digit
set_option maxRecDepth 20000 in
theorem gX8_readAll_X8_digit : GoodIn wsX8_readAll (wsV RX8 148 RX8 yX8_digit wsX8_digit) := goodIn_app (goodIn_r _ [11, 12, 13, 9] rfl (by decide +kernel)) ggX8_readAll_X8_digit
set_option maxRecDepth 20000 in
theorem aw_wsX8_readRule : wsX8_readRule.all goodWord = true := by decide +kernel
set_option maxRecDepth 20000 in
theorem ggX8_readAll_X8_readRule : GoodIn wsX8_readAll wsX8_readRule := goodIn_r _ [21, 4, 5, 22, 3, 11, 12, 13, 9, 14, 15, 16, 17, 28, 29, 30, 31, 32, 33, 34, 35, 36, 37, 38, 39, 40, 41, 42, 43, 44, 45, 46, 47, 48, 49, 50, 51, 52, 53, 54, 55, 56, 57, 58, 59, 60, 61] rfl aw_wsX8_readRule
set_option maxRecDepth 20000 in
theorem gX8_readAll_X8_readRule : GoodIn wsX8_readAll (wsV RX8 152 RX8 yX8_readRule wsX8_readRule) := goodIn_app (goodIn_r _ [18, 19, 20, 9] rfl (by decide +kernel)) ggX8_readAll_X8_readRule
set_option maxRecDepth 20000 in
theorem aw_wsX8_readFactNext : wsX8_readFactNext.all goodWord = true := by decide +kernel
set_option maxRecDepth 20000 in
theorem ggX8_readAll_X8_readFactNext : GoodIn wsX8_readAll wsX8_readFactNext := goodIn_r _ [26, 3, 4, 5, 2, 27, 11, 12, 13, 9, 14, 15, 16, 17, 28, 29, 30, 31, 32, 33, 34, 35, 36, 37, 38, 39, 40, 41, 42, 43, 44, 45, 46, 47, 48, 49, 50, 51, 52, 53, 54, 55, 56, 57, 58, 59, 60, 61] rfl aw_wsX8_readFactNext
set_option maxRecDepth 20000 in
theorem gX8_readAll_X8_readFactNext : GoodIn wsX8_readAll (wsV RX8 155 RX8 yX8_readFactNext wsX8_readFactNext) := goodIn_app (goodIn_r _ [23, 24, 25, 9] rfl (by decide +kernel)) ggX8_readAll_X8_readFactNext
theorem dX8_readAll_0 : decode cX8_readAll 0 = .ok (.aload_n 0, 1) := by decide +kernel
theorem dX8_readAll_1 : decode cX8_readAll 1 = .ok (.iconst 0, 1) := by decide +kernel
theorem dX8_readAll_2 : decode cX8_readAll 2 = .ok (.putfield 141, 3) := by decide +kernel
theorem dX8_readAll_5 : decode cX8_readAll 5 = .ok (.aload_n 0, 1) := by decide +kernel
theorem dX8_readAll_6 : decode cX8_readAll 6 = .ok (.iconst 0, 1) := by decide +kernel
theorem dX8_readAll_7 : decode cX8_readAll 7 = .ok (.putfield 132, 3) := by decide +kernel
theorem dX8_readAll_10 : decode cX8_readAll 10 = .ok (.aload_n 0, 1) := by decide +kernel
theorem dX8_readAll_11 : decode cX8_readAll 11 = .ok (.iload_n 1, 1) := by decide +kernel
theorem dX8_readAll_12 : decode cX8_readAll 12 = .ok (.bipush 100, 2) := by decide +kernel
theorem dX8_readAll_14 : decode cX8_readAll 14 = .ok (.invokevirtual 144, 3) := by decide +kernel
theorem dX8_readAll_17 : decode cX8_readAll 17 = .ok (.ifCond .ne 5, 3) := by decide +kernel
theorem dX8_readAll_20 : decode cX8_readAll 20 = .ok (.iconst 0, 1) := by decide +kernel
theorem dX8_readAll_21 : decode cX8_readAll 21 = .ok (.ireturn, 1) := by decide +kernel
theorem dX8_readAll_22 : decode cX8_readAll 22 = .ok (.aload_n 0, 1) := by decide +kernel
theorem dX8_readAll_23 : decode cX8_readAll 23 = .ok (.aload_n 0, 1) := by decide +kernel
theorem dX8_readAll_24 : decode cX8_readAll 24 = .ok (.iload_n 1, 1) := by decide +kernel
theorem dX8_readAll_25 : decode cX8_readAll 25 = .ok (.iconst 1, 1) := by decide +kernel
theorem dX8_readAll_26 : decode cX8_readAll 26 = .ok (.iconst 4, 1) := by decide +kernel
theorem dX8_readAll_27 : decode cX8_readAll 27 = .ok (.invokevirtual 148, 3) := by decide +kernel
theorem dX8_readAll_30 : decode cX8_readAll 30 = .ok (.putfield 138, 3) := by decide +kernel
theorem dX8_readAll_33 : decode cX8_readAll 33 = .ok (.aload_n 0, 1) := by decide +kernel
theorem dX8_readAll_34 : decode cX8_readAll 34 = .ok (.getfield 138, 3) := by decide +kernel
theorem dX8_readAll_37 : decode cX8_readAll 37 = .ok (.bipush (-9), 2) := by decide +kernel
theorem dX8_readAll_39 : decode cX8_readAll 39 = .ok (.if_icmp .ne 5, 3) := by decide +kernel
theorem dX8_readAll_42 : decode cX8_readAll 42 = .ok (.iconst 0, 1) := by decide +kernel
theorem dX8_readAll_43 : decode cX8_readAll 43 = .ok (.ireturn, 1) := by decide +kernel
theorem dX8_readAll_44 : decode cX8_readAll 44 = .ok (.aload_n 0, 1) := by decide +kernel
theorem dX8_readAll_45 : decode cX8_readAll 45 = .ok (.getfield 141, 3) := by decide +kernel
theorem dX8_readAll_48 : decode cX8_readAll 48 = .ok (.iconst 5, 1) := by decide +kernel
theorem dX8_readAll_49 : decode cX8_readAll 49 = .ok (.if_icmp .ge 65, 3) := by decide +kernel
theorem dX8_readAll_52 : decode cX8_readAll 52 = .ok (.aload_n 0, 1) := by decide +kernel
theorem dX8_readAll_53 : decode cX8_readAll 53 = .ok (.getfield 98, 3) := by decide +kernel
theorem dX8_readAll_56 : decode cX8_readAll 56 = .ok (.iload_n 1, 1) := by decide +kernel
theorem dX8_readAll_57 : decode cX8_readAll 57 = .ok (.if_icmp .ge 57, 3) := by decide +kernel
theorem dX8_readAll_60 : decode cX8_readAll 60 = .ok (.aload_n 0, 1) := by decide +kernel
theorem dX8_readAll_61 : decode cX8_readAll 61 = .ok (.getfield 16, 3) := by decide +kernel
theorem dX8_readAll_64 : decode cX8_readAll 64 = .ok (.aload_n 0, 1) := by decide +kernel
theorem dX8_readAll_65 : decode cX8_readAll 65 = .ok (.getfield 98, 3) := by decide +kernel
theorem dX8_readAll_68 : decode cX8_readAll 68 = .ok (.iaload, 1) := by decide +kernel
theorem dX8_readAll_69 : decode cX8_readAll 69 = .ok (.bipush 59, 2) := by decide +kernel
theorem dX8_readAll_71 : decode cX8_readAll 71 = .ok (.if_icmp .ne 43, 3) := by decide +kernel
theorem dX8_readAll_74 : decode cX8_readAll 74 = .ok (.aload_n 0, 1) := by decide +kernel
theorem dX8_readAll_75 : decode cX8_readAll 75 = .ok (.dup, 1) := by decide +kernel
theorem dX8_readAll_76 : decode cX8_readAll 76 = .ok (.getfield 98, 3) := by decide +kernel
theorem dX8_readAll_79 : decode cX8_readAll 79 = .ok (.iconst 1, 1) := by decide +kernel
theorem dX8_readAll_80 : decode cX8_readAll 80 = .ok (.iadd, 1) := by decide +kernel
theorem dX8_readAll_81 : decode cX8_readAll 81 = .ok (.putfield 98, 3) := by decide +kernel
theorem dX8_readAll_84 : decode cX8_readAll 84 = .ok (.aload_n 0, 1) := by decide +kernel
theorem dX8_readAll_85 : decode cX8_readAll 85 = .ok (.iload_n 1, 1) := by decide +kernel
theorem dX8_readAll_86 : decode cX8_readAll 86 = .ok (.bipush 6, 2) := by decide +kernel
theorem dX8_readAll_88 : decode cX8_readAll 88 = .ok (.aload_n 0, 1) := by decide +kernel
theorem dX8_readAll_89 : decode cX8_readAll 89 = .ok (.getfield 141, 3) := by decide +kernel
theorem dX8_readAll_92 : decode cX8_readAll 92 = .ok (.imul, 1) := by decide +kernel
theorem dX8_readAll_93 : decode cX8_readAll 93 = .ok (.invokevirtual 152, 3) := by decide +kernel
theorem dX8_readAll_96 : decode cX8_readAll 96 = .ok (.ifCond .ne 5, 3) := by decide +kernel
theorem dX8_readAll_99 : decode cX8_readAll 99 = .ok (.iconst 0, 1) := by decide +kernel
theorem dX8_readAll_100 : decode cX8_readAll 100 = .ok (.ireturn, 1) := by decide +kernel
theorem dX8_readAll_101 : decode cX8_readAll 101 = .ok (.aload_n 0, 1) := by decide +kernel
theorem dX8_readAll_102 : decode cX8_readAll 102 = .ok (.dup, 1) := by decide +kernel
theorem dX8_readAll_103 : decode cX8_readAll 103 = .ok (.getfield 141, 3) := by decide +kernel
theorem dX8_readAll_106 : decode cX8_readAll 106 = .ok (.iconst 1, 1) := by decide +kernel
theorem dX8_readAll_107 : decode cX8_readAll 107 = .ok (.iadd, 1) := by decide +kernel
theorem dX8_readAll_108 : decode cX8_readAll 108 = .ok (.putfield 141, 3) := by decide +kernel
theorem dX8_readAll_111 : decode cX8_readAll 111 = .ok (.goto (-67), 3) := by decide +kernel
theorem dX8_readAll_114 : decode cX8_readAll 114 = .ok (.aload_n 0, 1) := by decide +kernel
theorem dX8_readAll_115 : decode cX8_readAll 115 = .ok (.getfield 132, 3) := by decide +kernel
theorem dX8_readAll_118 : decode cX8_readAll 118 = .ok (.iconst 5, 1) := by decide +kernel
theorem dX8_readAll_119 : decode cX8_readAll 119 = .ok (.if_icmp .ge 31, 3) := by decide +kernel
theorem dX8_readAll_122 : decode cX8_readAll 122 = .ok (.aload_n 0, 1) := by decide +kernel
theorem dX8_readAll_123 : decode cX8_readAll 123 = .ok (.getfield 98, 3) := by decide +kernel
theorem dX8_readAll_126 : decode cX8_readAll 126 = .ok (.iload_n 1, 1) := by decide +kernel
theorem dX8_readAll_127 : decode cX8_readAll 127 = .ok (.if_icmp .ge 23, 3) := by decide +kernel
theorem dX8_readAll_130 : decode cX8_readAll 130 = .ok (.aload_n 0, 1) := by decide +kernel
theorem dX8_readAll_131 : decode cX8_readAll 131 = .ok (.iload_n 1, 1) := by decide +kernel
theorem dX8_readAll_132 : decode cX8_readAll 132 = .ok (.bipush 44, 2) := by decide +kernel
theorem dX8_readAll_134 : decode cX8_readAll 134 = .ok (.invokevirtual 144, 3) := by decide +kernel
theorem dX8_readAll_137 : decode cX8_readAll 137 = .ok (.ifCond .eq 11, 3) := by decide +kernel
theorem dX8_readAll_140 : decode cX8_readAll 140 = .ok (.aload_n 0, 1) := by decide +kernel
theorem dX8_readAll_141 : decode cX8_readAll 141 = .ok (.iload_n 1, 1) := by decide +kernel
theorem dX8_readAll_142 : decode cX8_readAll 142 = .ok (.invokevirtual 155, 3) := by decide +kernel
theorem dX8_readAll_145 : decode cX8_readAll 145 = .ok (.ifCond .ne (-31), 3) := by decide +kernel
theorem dX8_readAll_148 : decode cX8_readAll 148 = .ok (.iconst 0, 1) := by decide +kernel
theorem dX8_readAll_149 : decode cX8_readAll 149 = .ok (.ireturn, 1) := by decide +kernel
theorem dX8_readAll_150 : decode cX8_readAll 150 = .ok (.aload_n 0, 1) := by decide +kernel
theorem dX8_readAll_151 : decode cX8_readAll 151 = .ok (.getfield 98, 3) := by decide +kernel
theorem dX8_readAll_154 : decode cX8_readAll 154 = .ok (.iload_n 1, 1) := by decide +kernel
theorem dX8_readAll_155 : decode cX8_readAll 155 = .ok (.if_icmp .ne 7, 3) := by decide +kernel
theorem dX8_readAll_158 : decode cX8_readAll 158 = .ok (.iconst 1, 1) := by decide +kernel
theorem dX8_readAll_159 : decode cX8_readAll 159 = .ok (.goto 4, 3) := by decide +kernel
theorem dX8_readAll_162 : decode cX8_readAll 162 = .ok (.iconst 0, 1) := by decide +kernel
theorem dX8_readAll_163 : decode cX8_readAll 163 = .ok (.ireturn, 1) := by decide +kernel
set_option maxRecDepth 20000 in
theorem ggX8_readRule_X8_digit : GoodIn wsX8_readRule wsX8_digit := goodIn_r _ [9, 1, 2, 10, 11, 8, 12, 13, 14, 15, 16, 17, 18, 19, 20, 21, 22, 23, 24, 25, 26, 27, 28, 29, 30, 31, 32, 33, 34, 35, 36, 37, 38, 39, 40, 41, 42, 43, 44, 45, 46] rfl aw_wsX8_digit
set_option maxRecDepth 20000 in
theorem gX8_readRule_X8_digit : GoodIn wsX8_readRule (wsV RX8 148 RX8 yX8_digit wsX8_digit) := goodIn_app (goodIn_r _ [5, 6, 7, 8] rfl (by decide +kernel)) ggX8_readRule_X8_digit
theorem dX8_readRule_0 : decode cX8_readRule 0 = .ok (.aload_n 0, 1) := by decide +kernel
theorem dX8_readRule_1 : decode cX8_readRule 1 = .ok (.getfield 98, 3) := by decide +kernel
theorem dX8_readRule_4 : decode cX8_readRule 4 = .ok (.iload_n 1, 1) := by decide +kernel
theorem dX8_readRule_5 : decode cX8_readRule 5 = .ok (.if_icmp .ge 15, 3) := by decide +kernel
theorem dX8_readRule_8 : decode cX8_readRule 8 = .ok (.aload_n 0, 1) := by decide +kernel
theorem dX8_readRule_9 : decode cX8_readRule 9 = .ok (.getfield 16, 3) := by decide +kernel
theorem dX8_readRule_12 : decode cX8_readRule 12 = .ok (.aload_n 0, 1) := by decide +kernel
theorem dX8_readRule_13 : decode cX8_readRule 13 = .ok (.getfield 98, 3) := by decide +kernel
theorem dX8_readRule_16 : decode cX8_readRule 16 = .ok (.iaload, 1) := by decide +kernel
theorem dX8_readRule_17 : decode cX8_readRule 17 = .ok (.goto 4, 3) := by decide +kernel
theorem dX8_readRule_20 : decode cX8_readRule 20 = .ok (.iconst 0, 1) := by decide +kernel
theorem dX8_readRule_21 : decode cX8_readRule 21 = .ok (.istore_n 3, 1) := by decide +kernel
theorem dX8_readRule_22 : decode cX8_readRule 22 = .ok (.aload_n 0, 1) := by decide +kernel
theorem dX8_readRule_23 : decode cX8_readRule 23 = .ok (.getfield 40, 3) := by decide +kernel
theorem dX8_readRule_26 : decode cX8_readRule 26 = .ok (.iload_n 2, 1) := by decide +kernel
theorem dX8_readRule_27 : decode cX8_readRule 27 = .ok (.iload_n 3, 1) := by decide +kernel
theorem dX8_readRule_28 : decode cX8_readRule 28 = .ok (.bipush 112, 2) := by decide +kernel
theorem dX8_readRule_30 : decode cX8_readRule 30 = .ok (.if_icmp .ne 7, 3) := by decide +kernel
theorem dX8_readRule_33 : decode cX8_readRule 33 = .ok (.iconst 0, 1) := by decide +kernel
theorem dX8_readRule_34 : decode cX8_readRule 34 = .ok (.goto 25, 3) := by decide +kernel
theorem dX8_readRule_37 : decode cX8_readRule 37 = .ok (.iload_n 3, 1) := by decide +kernel
theorem dX8_readRule_38 : decode cX8_readRule 38 = .ok (.bipush 98, 2) := by decide +kernel
theorem dX8_readRule_40 : decode cX8_readRule 40 = .ok (.if_icmp .ne 7, 3) := by decide +kernel
theorem dX8_readRule_43 : decode cX8_readRule 43 = .ok (.iconst 1, 1) := by decide +kernel
theorem dX8_readRule_44 : decode cX8_readRule 44 = .ok (.goto 15, 3) := by decide +kernel
theorem dX8_readRule_47 : decode cX8_readRule 47 = .ok (.iload_n 3, 1) := by decide +kernel
theorem dX8_readRule_48 : decode cX8_readRule 48 = .ok (.bipush 119, 2) := by decide +kernel
theorem dX8_readRule_50 : decode cX8_readRule 50 = .ok (.if_icmp .ne 7, 3) := by decide +kernel
theorem dX8_readRule_53 : decode cX8_readRule 53 = .ok (.iconst 2, 1) := by decide +kernel
theorem dX8_readRule_54 : decode cX8_readRule 54 = .ok (.goto 5, 3) := by decide +kernel
theorem dX8_readRule_57 : decode cX8_readRule 57 = .ok (.bipush (-9), 2) := by decide +kernel
theorem dX8_readRule_59 : decode cX8_readRule 59 = .ok (.iastore, 1) := by decide +kernel
theorem dX8_readRule_60 : decode cX8_readRule 60 = .ok (.aload_n 0, 1) := by decide +kernel
theorem dX8_readRule_61 : decode cX8_readRule 61 = .ok (.getfield 40, 3) := by decide +kernel
theorem dX8_readRule_64 : decode cX8_readRule 64 = .ok (.iload_n 2, 1) := by decide +kernel
theorem dX8_readRule_65 : decode cX8_readRule 65 = .ok (.iaload, 1) := by decide +kernel
theorem dX8_readRule_66 : decode cX8_readRule 66 = .ok (.bipush (-9), 2) := by decide +kernel
theorem dX8_readRule_68 : decode cX8_readRule 68 = .ok (.if_icmp .ne 5, 3) := by decide +kernel
theorem dX8_readRule_71 : decode cX8_readRule 71 = .ok (.iconst 0, 1) := by decide +kernel
theorem dX8_readRule_72 : decode cX8_readRule 72 = .ok (.ireturn, 1) := by decide +kernel
theorem dX8_readRule_73 : decode cX8_readRule 73 = .ok (.aload_n 0, 1) := by decide +kernel
theorem dX8_readRule_74 : decode cX8_readRule 74 = .ok (.dup, 1) := by decide +kernel
theorem dX8_readRule_75 : decode cX8_readRule 75 = .ok (.getfield 98, 3) := by decide +kernel
theorem dX8_readRule_78 : decode cX8_readRule 78 = .ok (.iconst 1, 1) := by decide +kernel
theorem dX8_readRule_79 : decode cX8_readRule 79 = .ok (.iadd, 1) := by decide +kernel
theorem dX8_readRule_80 : decode cX8_readRule 80 = .ok (.putfield 98, 3) := by decide +kernel
theorem dX8_readRule_83 : decode cX8_readRule 83 = .ok (.aload_n 0, 1) := by decide +kernel
theorem dX8_readRule_84 : decode cX8_readRule 84 = .ok (.getfield 40, 3) := by decide +kernel
theorem dX8_readRule_87 : decode cX8_readRule 87 = .ok (.iload_n 2, 1) := by decide +kernel
theorem dX8_readRule_88 : decode cX8_readRule 88 = .ok (.iconst 1, 1) := by decide +kernel
theorem dX8_readRule_89 : decode cX8_readRule 89 = .ok (.iadd, 1) := by decide +kernel
theorem dX8_readRule_90 : decode cX8_readRule 90 = .ok (.aload_n 0, 1) := by decide +kernel
theorem dX8_readRule_91 : decode cX8_readRule 91 = .ok (.iload_n 1, 1) := by decide +kernel
theorem dX8_readRule_92 : decode cX8_readRule 92 = .ok (.iconst 1, 1) := by decide +kernel
theorem dX8_readRule_93 : decode cX8_readRule 93 = .ok (.bipush 9, 2) := by decide +kernel
theorem dX8_readRule_95 : decode cX8_readRule 95 = .ok (.invokevirtual 148, 3) := by decide +kernel
theorem dX8_readRule_98 : decode cX8_readRule 98 = .ok (.iastore, 1) := by decide +kernel
theorem dX8_readRule_99 : decode cX8_readRule 99 = .ok (.aload_n 0, 1) := by decide +kernel
theorem dX8_readRule_100 : decode cX8_readRule 100 = .ok (.getfield 40, 3) := by decide +kernel
theorem dX8_readRule_103 : decode cX8_readRule 103 = .ok (.iload_n 2, 1) := by decide +kernel
theorem dX8_readRule_104 : decode cX8_readRule 104 = .ok (.iconst 1, 1) := by decide +kernel
theorem dX8_readRule_105 : decode cX8_readRule 105 = .ok (.iadd, 1) := by decide +kernel
theorem dX8_readRule_106 : decode cX8_readRule 106 = .ok (.iaload, 1) := by decide +kernel
theorem dX8_readRule_107 : decode cX8_readRule 107 = .ok (.bipush (-9), 2) := by decide +kernel
theorem dX8_readRule_109 : decode cX8_readRule 109 = .ok (.if_icmp .ne 5, 3) := by decide +kernel
theorem dX8_readRule_112 : decode cX8_readRule 112 = .ok (.iconst 0, 1) := by decide +kernel
theorem dX8_readRule_113 : decode cX8_readRule 113 = .ok (.ireturn, 1) := by decide +kernel
theorem dX8_readRule_114 : decode cX8_readRule 114 = .ok (.aload_n 0, 1) := by decide +kernel
theorem dX8_readRule_115 : decode cX8_readRule 115 = .ok (.getfield 98, 3) := by decide +kernel
theorem dX8_readRule_118 : decode cX8_readRule 118 = .ok (.iload_n 1, 1) := by decide +kernel
theorem dX8_readRule_119 : decode cX8_readRule 119 = .ok (.if_icmp .ge 15, 3) := by decide +kernel
theorem dX8_readRule_122 : decode cX8_readRule 122 = .ok (.aload_n 0, 1) := by decide +kernel
theorem dX8_readRule_123 : decode cX8_readRule 123 = .ok (.getfield 16, 3) := by decide +kernel
theorem dX8_readRule_126 : decode cX8_readRule 126 = .ok (.aload_n 0, 1) := by decide +kernel
theorem dX8_readRule_127 : decode cX8_readRule 127 = .ok (.getfield 98, 3) := by decide +kernel
theorem dX8_readRule_130 : decode cX8_readRule 130 = .ok (.iaload, 1) := by decide +kernel
theorem dX8_readRule_131 : decode cX8_readRule 131 = .ok (.goto 4, 3) := by decide +kernel
theorem dX8_readRule_134 : decode cX8_readRule 134 = .ok (.iconst 0, 1) := by decide +kernel
theorem dX8_readRule_135 : decode cX8_readRule 135 = .ok (.istore_n 3, 1) := by decide +kernel
theorem dX8_readRule_136 : decode cX8_readRule 136 = .ok (.aload_n 0, 1) := by decide +kernel
theorem dX8_readRule_137 : decode cX8_readRule 137 = .ok (.getfield 40, 3) := by decide +kernel
theorem dX8_readRule_140 : decode cX8_readRule 140 = .ok (.iload_n 2, 1) := by decide +kernel
theorem dX8_readRule_141 : decode cX8_readRule 141 = .ok (.iconst 2, 1) := by decide +kernel
theorem dX8_readRule_142 : decode cX8_readRule 142 = .ok (.iadd, 1) := by decide +kernel
theorem dX8_readRule_143 : decode cX8_readRule 143 = .ok (.iload_n 3, 1) := by decide +kernel
theorem dX8_readRule_144 : decode cX8_readRule 144 = .ok (.bipush 99, 2) := by decide +kernel
theorem dX8_readRule_146 : decode cX8_readRule 146 = .ok (.if_icmp .ne 7, 3) := by decide +kernel
theorem dX8_readRule_149 : decode cX8_readRule 149 = .ok (.iconst 0, 1) := by decide +kernel
theorem dX8_readRule_150 : decode cX8_readRule 150 = .ok (.goto 35, 3) := by decide +kernel
theorem dX8_readRule_153 : decode cX8_readRule 153 = .ok (.iload_n 3, 1) := by decide +kernel
theorem dX8_readRule_154 : decode cX8_readRule 154 = .ok (.bipush 116, 2) := by decide +kernel
theorem dX8_readRule_156 : decode cX8_readRule 156 = .ok (.if_icmp .ne 7, 3) := by decide +kernel
theorem dX8_readRule_159 : decode cX8_readRule 159 = .ok (.iconst 1, 1) := by decide +kernel
theorem dX8_readRule_160 : decode cX8_readRule 160 = .ok (.goto 25, 3) := by decide +kernel
theorem dX8_readRule_163 : decode cX8_readRule 163 = .ok (.iload_n 3, 1) := by decide +kernel
theorem dX8_readRule_164 : decode cX8_readRule 164 = .ok (.bipush 106, 2) := by decide +kernel
theorem dX8_readRule_166 : decode cX8_readRule 166 = .ok (.if_icmp .ne 7, 3) := by decide +kernel
theorem dX8_readRule_169 : decode cX8_readRule 169 = .ok (.iconst 2, 1) := by decide +kernel
theorem dX8_readRule_170 : decode cX8_readRule 170 = .ok (.goto 15, 3) := by decide +kernel
theorem dX8_readRule_173 : decode cX8_readRule 173 = .ok (.iload_n 3, 1) := by decide +kernel
theorem dX8_readRule_174 : decode cX8_readRule 174 = .ok (.bipush 110, 2) := by decide +kernel
theorem dX8_readRule_176 : decode cX8_readRule 176 = .ok (.if_icmp .ne 7, 3) := by decide +kernel
theorem dX8_readRule_179 : decode cX8_readRule 179 = .ok (.iconst 3, 1) := by decide +kernel
theorem dX8_readRule_180 : decode cX8_readRule 180 = .ok (.goto 5, 3) := by decide +kernel
theorem dX8_readRule_183 : decode cX8_readRule 183 = .ok (.bipush (-9), 2) := by decide +kernel
theorem dX8_readRule_185 : decode cX8_readRule 185 = .ok (.iastore, 1) := by decide +kernel
theorem dX8_readRule_186 : decode cX8_readRule 186 = .ok (.aload_n 0, 1) := by decide +kernel
theorem dX8_readRule_187 : decode cX8_readRule 187 = .ok (.getfield 40, 3) := by decide +kernel
theorem dX8_readRule_190 : decode cX8_readRule 190 = .ok (.iload_n 2, 1) := by decide +kernel
theorem dX8_readRule_191 : decode cX8_readRule 191 = .ok (.iconst 2, 1) := by decide +kernel
theorem dX8_readRule_192 : decode cX8_readRule 192 = .ok (.iadd, 1) := by decide +kernel
theorem dX8_readRule_193 : decode cX8_readRule 193 = .ok (.iaload, 1) := by decide +kernel
theorem dX8_readRule_194 : decode cX8_readRule 194 = .ok (.bipush (-9), 2) := by decide +kernel
theorem dX8_readRule_196 : decode cX8_readRule 196 = .ok (.if_icmp .ne 5, 3) := by decide +kernel
theorem dX8_readRule_199 : decode cX8_readRule 199 = .ok (.iconst 0, 1) := by decide +kernel
theorem dX8_readRule_200 : decode cX8_readRule 200 = .ok (.ireturn, 1) := by decide +kernel
theorem dX8_readRule_201 : decode cX8_readRule 201 = .ok (.aload_n 0, 1) := by decide +kernel
theorem dX8_readRule_202 : decode cX8_readRule 202 = .ok (.dup, 1) := by decide +kernel
theorem dX8_readRule_203 : decode cX8_readRule 203 = .ok (.getfield 98, 3) := by decide +kernel
theorem dX8_readRule_206 : decode cX8_readRule 206 = .ok (.iconst 1, 1) := by decide +kernel
theorem dX8_readRule_207 : decode cX8_readRule 207 = .ok (.iadd, 1) := by decide +kernel
theorem dX8_readRule_208 : decode cX8_readRule 208 = .ok (.putfield 98, 3) := by decide +kernel
theorem dX8_readRule_211 : decode cX8_readRule 211 = .ok (.aload_n 0, 1) := by decide +kernel
theorem dX8_readRule_212 : decode cX8_readRule 212 = .ok (.getfield 40, 3) := by decide +kernel
theorem dX8_readRule_215 : decode cX8_readRule 215 = .ok (.iload_n 2, 1) := by decide +kernel
theorem dX8_readRule_216 : decode cX8_readRule 216 = .ok (.iconst 2, 1) := by decide +kernel
theorem dX8_readRule_217 : decode cX8_readRule 217 = .ok (.iadd, 1) := by decide +kernel
theorem dX8_readRule_218 : decode cX8_readRule 218 = .ok (.iaload, 1) := by decide +kernel
theorem dX8_readRule_219 : decode cX8_readRule 219 = .ok (.iconst 2, 1) := by decide +kernel
theorem dX8_readRule_220 : decode cX8_readRule 220 = .ok (.if_icmp .ge 7, 3) := by decide +kernel
theorem dX8_readRule_223 : decode cX8_readRule 223 = .ok (.iconst 2, 1) := by decide +kernel
theorem dX8_readRule_224 : decode cX8_readRule 224 = .ok (.goto 4, 3) := by decide +kernel
theorem dX8_readRule_227 : decode cX8_readRule 227 = .ok (.iconst 3, 1) := by decide +kernel
theorem dX8_readRule_228 : decode cX8_readRule 228 = .ok (.istore 4, 2) := by decide +kernel
theorem dX8_readRule_230 : decode cX8_readRule 230 = .ok (.aload_n 0, 1) := by decide +kernel
theorem dX8_readRule_231 : decode cX8_readRule 231 = .ok (.getfield 40, 3) := by decide +kernel
theorem dX8_readRule_234 : decode cX8_readRule 234 = .ok (.iload_n 2, 1) := by decide +kernel
theorem dX8_readRule_235 : decode cX8_readRule 235 = .ok (.iconst 5, 1) := by decide +kernel
theorem dX8_readRule_236 : decode cX8_readRule 236 = .ok (.iadd, 1) := by decide +kernel
theorem dX8_readRule_237 : decode cX8_readRule 237 = .ok (.bipush (-9), 2) := by decide +kernel
theorem dX8_readRule_239 : decode cX8_readRule 239 = .ok (.iastore, 1) := by decide +kernel
theorem dX8_readRule_240 : decode cX8_readRule 240 = .ok (.iconst 0, 1) := by decide +kernel
theorem dX8_readRule_241 : decode cX8_readRule 241 = .ok (.istore 5, 2) := by decide +kernel
theorem dX8_readRule_243 : decode cX8_readRule 243 = .ok (.iload 5, 2) := by decide +kernel
theorem dX8_readRule_245 : decode cX8_readRule 245 = .ok (.iload 4, 2) := by decide +kernel
theorem dX8_readRule_247 : decode cX8_readRule 247 = .ok (.if_icmp .ge 50, 3) := by decide +kernel
theorem dX8_readRule_250 : decode cX8_readRule 250 = .ok (.aload_n 0, 1) := by decide +kernel
theorem dX8_readRule_251 : decode cX8_readRule 251 = .ok (.getfield 40, 3) := by decide +kernel
theorem dX8_readRule_254 : decode cX8_readRule 254 = .ok (.iload_n 2, 1) := by decide +kernel
theorem dX8_readRule_255 : decode cX8_readRule 255 = .ok (.iconst 3, 1) := by decide +kernel
theorem dX8_readRule_256 : decode cX8_readRule 256 = .ok (.iadd, 1) := by decide +kernel
theorem dX8_readRule_257 : decode cX8_readRule 257 = .ok (.iload 5, 2) := by decide +kernel
theorem dX8_readRule_259 : decode cX8_readRule 259 = .ok (.iadd, 1) := by decide +kernel
theorem dX8_readRule_260 : decode cX8_readRule 260 = .ok (.aload_n 0, 1) := by decide +kernel
theorem dX8_readRule_261 : decode cX8_readRule 261 = .ok (.iload_n 1, 1) := by decide +kernel
theorem dX8_readRule_262 : decode cX8_readRule 262 = .ok (.iconst 0, 1) := by decide +kernel
theorem dX8_readRule_263 : decode cX8_readRule 263 = .ok (.aload_n 0, 1) := by decide +kernel
theorem dX8_readRule_264 : decode cX8_readRule 264 = .ok (.getfield 138, 3) := by decide +kernel
theorem dX8_readRule_267 : decode cX8_readRule 267 = .ok (.iconst 1, 1) := by decide +kernel
theorem dX8_readRule_268 : decode cX8_readRule 268 = .ok (.isub, 1) := by decide +kernel
theorem dX8_readRule_269 : decode cX8_readRule 269 = .ok (.invokevirtual 148, 3) := by decide +kernel
theorem dX8_readRule_272 : decode cX8_readRule 272 = .ok (.iastore, 1) := by decide +kernel
theorem dX8_readRule_273 : decode cX8_readRule 273 = .ok (.aload_n 0, 1) := by decide +kernel
theorem dX8_readRule_274 : decode cX8_readRule 274 = .ok (.getfield 40, 3) := by decide +kernel
theorem dX8_readRule_277 : decode cX8_readRule 277 = .ok (.iload_n 2, 1) := by decide +kernel
theorem dX8_readRule_278 : decode cX8_readRule 278 = .ok (.iconst 3, 1) := by decide +kernel
theorem dX8_readRule_279 : decode cX8_readRule 279 = .ok (.iadd, 1) := by decide +kernel
theorem dX8_readRule_280 : decode cX8_readRule 280 = .ok (.iload 5, 2) := by decide +kernel
theorem dX8_readRule_282 : decode cX8_readRule 282 = .ok (.iadd, 1) := by decide +kernel
theorem dX8_readRule_283 : decode cX8_readRule 283 = .ok (.iaload, 1) := by decide +kernel
theorem dX8_readRule_284 : decode cX8_readRule 284 = .ok (.bipush (-9), 2) := by decide +kernel
theorem dX8_readRule_286 : decode cX8_readRule 286 = .ok (.if_icmp .ne 5, 3) := by decide +kernel
theorem dX8_readRule_289 : decode cX8_readRule 289 = .ok (.iconst 0, 1) := by decide +kernel
theorem dX8_readRule_290 : decode cX8_readRule 290 = .ok (.ireturn, 1) := by decide +kernel
theorem dX8_readRule_291 : decode cX8_readRule 291 = .ok (.iinc 5 1, 3) := by decide +kernel
theorem dX8_readRule_294 : decode cX8_readRule 294 = .ok (.goto (-51), 3) := by decide +kernel
theorem dX8_readRule_297 : decode cX8_readRule 297 = .ok (.iconst 1, 1) := by decide +kernel
theorem dX8_readRule_298 : decode cX8_readRule 298 = .ok (.ireturn, 1) := by decide +kernel
set_option maxRecDepth 20000 in
theorem ggX8_readFactNext_X8_digit : GoodIn wsX8_readFactNext wsX8_digit := goodIn_r _ [10, 2, 3, 11, 12, 9, 13, 14, 15, 16, 17, 18, 19, 20, 21, 22, 23, 24, 25, 26, 27, 28, 29, 30, 31, 32, 33, 34, 35, 36, 37, 38, 39, 40, 41, 42, 43, 44, 45, 46, 47] rfl aw_wsX8_digit
set_option maxRecDepth 20000 in
theorem gX8_readFactNext_X8_digit : GoodIn wsX8_readFactNext (wsV RX8 148 RX8 yX8_digit wsX8_digit) := goodIn_app (goodIn_r _ [6, 7, 8, 9] rfl (by decide +kernel)) ggX8_readFactNext_X8_digit
set_option maxRecDepth 20000 in
theorem ggX8_readFactNext_X8_within : GoodIn wsX8_readFactNext wsX8_within := goodIn_r _ [13] rfl aw_wsX8_within
set_option maxRecDepth 20000 in
theorem gX8_readFactNext_X8_within : GoodIn wsX8_readFactNext (va_wsS RX8 88 yX8_within wsX8_within) := goodIn_app (goodIn_r _ [11, 12, 9] rfl (by decide +kernel)) ggX8_readFactNext_X8_within
theorem dX8_readFactNext_0 : decode cX8_readFactNext 0 = .ok (.aload_n 0, 1) := by decide +kernel
theorem dX8_readFactNext_1 : decode cX8_readFactNext 1 = .ok (.iload_n 1, 1) := by decide +kernel
theorem dX8_readFactNext_2 : decode cX8_readFactNext 2 = .ok (.iconst 0, 1) := by decide +kernel
