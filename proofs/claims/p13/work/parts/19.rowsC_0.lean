theorem dJ6_bitCount_0f7a4_0 : decode cJ6_bitCount_0f7a4 0 = .ok (.iload_n 0, 1) := by decide +kernel
theorem dJ6_bitCount_0f7a4_1 : decode cJ6_bitCount_0f7a4 1 = .ok (.iload_n 0, 1) := by decide +kernel
theorem dJ6_bitCount_0f7a4_2 : decode cJ6_bitCount_0f7a4 2 = .ok (.iconst 1, 1) := by decide +kernel
theorem dJ6_bitCount_0f7a4_3 : decode cJ6_bitCount_0f7a4 3 = .ok (.iushr, 1) := by decide +kernel
theorem dJ6_bitCount_0f7a4_4 : decode cJ6_bitCount_0f7a4 4 = .ok (.ldc_w 265, 3) := by decide +kernel
theorem dJ6_bitCount_0f7a4_7 : decode cJ6_bitCount_0f7a4 7 = .ok (.iand, 1) := by decide +kernel
theorem dJ6_bitCount_0f7a4_8 : decode cJ6_bitCount_0f7a4 8 = .ok (.isub, 1) := by decide +kernel
theorem dJ6_bitCount_0f7a4_9 : decode cJ6_bitCount_0f7a4 9 = .ok (.istore_n 0, 1) := by decide +kernel
theorem dJ6_bitCount_0f7a4_10 : decode cJ6_bitCount_0f7a4 10 = .ok (.iload_n 0, 1) := by decide +kernel
theorem dJ6_bitCount_0f7a4_11 : decode cJ6_bitCount_0f7a4 11 = .ok (.ldc_w 266, 3) := by decide +kernel
theorem dJ6_bitCount_0f7a4_14 : decode cJ6_bitCount_0f7a4 14 = .ok (.iand, 1) := by decide +kernel
theorem dJ6_bitCount_0f7a4_15 : decode cJ6_bitCount_0f7a4 15 = .ok (.iload_n 0, 1) := by decide +kernel
theorem dJ6_bitCount_0f7a4_16 : decode cJ6_bitCount_0f7a4 16 = .ok (.iconst 2, 1) := by decide +kernel
theorem dJ6_bitCount_0f7a4_17 : decode cJ6_bitCount_0f7a4 17 = .ok (.iushr, 1) := by decide +kernel
theorem dJ6_bitCount_0f7a4_18 : decode cJ6_bitCount_0f7a4 18 = .ok (.ldc_w 266, 3) := by decide +kernel
theorem dJ6_bitCount_0f7a4_21 : decode cJ6_bitCount_0f7a4 21 = .ok (.iand, 1) := by decide +kernel
theorem dJ6_bitCount_0f7a4_22 : decode cJ6_bitCount_0f7a4 22 = .ok (.iadd, 1) := by decide +kernel
theorem dJ6_bitCount_0f7a4_23 : decode cJ6_bitCount_0f7a4 23 = .ok (.istore_n 0, 1) := by decide +kernel
theorem dJ6_bitCount_0f7a4_24 : decode cJ6_bitCount_0f7a4 24 = .ok (.iload_n 0, 1) := by decide +kernel
theorem dJ6_bitCount_0f7a4_25 : decode cJ6_bitCount_0f7a4 25 = .ok (.iload_n 0, 1) := by decide +kernel
theorem dJ6_bitCount_0f7a4_26 : decode cJ6_bitCount_0f7a4 26 = .ok (.iconst 4, 1) := by decide +kernel
theorem dJ6_bitCount_0f7a4_27 : decode cJ6_bitCount_0f7a4 27 = .ok (.iushr, 1) := by decide +kernel
theorem dJ6_bitCount_0f7a4_28 : decode cJ6_bitCount_0f7a4 28 = .ok (.iadd, 1) := by decide +kernel
theorem dJ6_bitCount_0f7a4_29 : decode cJ6_bitCount_0f7a4 29 = .ok (.ldc_w 267, 3) := by decide +kernel
theorem dJ6_bitCount_0f7a4_32 : decode cJ6_bitCount_0f7a4 32 = .ok (.iand, 1) := by decide +kernel
theorem dJ6_bitCount_0f7a4_33 : decode cJ6_bitCount_0f7a4 33 = .ok (.istore_n 0, 1) := by decide +kernel
theorem dJ6_bitCount_0f7a4_34 : decode cJ6_bitCount_0f7a4 34 = .ok (.iload_n 0, 1) := by decide +kernel
theorem dJ6_bitCount_0f7a4_35 : decode cJ6_bitCount_0f7a4 35 = .ok (.iload_n 0, 1) := by decide +kernel
theorem dJ6_bitCount_0f7a4_36 : decode cJ6_bitCount_0f7a4 36 = .ok (.bipush 8, 2) := by decide +kernel
theorem dJ6_bitCount_0f7a4_38 : decode cJ6_bitCount_0f7a4 38 = .ok (.iushr, 1) := by decide +kernel
theorem dJ6_bitCount_0f7a4_39 : decode cJ6_bitCount_0f7a4 39 = .ok (.iadd, 1) := by decide +kernel
theorem dJ6_bitCount_0f7a4_40 : decode cJ6_bitCount_0f7a4 40 = .ok (.istore_n 0, 1) := by decide +kernel
theorem dJ6_bitCount_0f7a4_41 : decode cJ6_bitCount_0f7a4 41 = .ok (.iload_n 0, 1) := by decide +kernel
theorem dJ6_bitCount_0f7a4_42 : decode cJ6_bitCount_0f7a4 42 = .ok (.iload_n 0, 1) := by decide +kernel
theorem dJ6_bitCount_0f7a4_43 : decode cJ6_bitCount_0f7a4 43 = .ok (.bipush 16, 2) := by decide +kernel
theorem dJ6_bitCount_0f7a4_45 : decode cJ6_bitCount_0f7a4 45 = .ok (.iushr, 1) := by decide +kernel
theorem dJ6_bitCount_0f7a4_46 : decode cJ6_bitCount_0f7a4 46 = .ok (.iadd, 1) := by decide +kernel
theorem dJ6_bitCount_0f7a4_47 : decode cJ6_bitCount_0f7a4 47 = .ok (.istore_n 0, 1) := by decide +kernel
theorem dJ6_bitCount_0f7a4_48 : decode cJ6_bitCount_0f7a4 48 = .ok (.iload_n 0, 1) := by decide +kernel
theorem dJ6_bitCount_0f7a4_49 : decode cJ6_bitCount_0f7a4 49 = .ok (.bipush 63, 2) := by decide +kernel
theorem dJ6_bitCount_0f7a4_51 : decode cJ6_bitCount_0f7a4 51 = .ok (.iand, 1) := by decide +kernel
theorem dJ6_bitCount_0f7a4_52 : decode cJ6_bitCount_0f7a4 52 = .ok (.ireturn, 1) := by decide +kernel
theorem dJ7_fill_53178_0 : decode cJ7_fill_53178 0 = .ok (.iconst 0, 1) := by decide +kernel
theorem dJ7_fill_53178_1 : decode cJ7_fill_53178 1 = .ok (.istore_n 2, 1) := by decide +kernel
theorem dJ7_fill_53178_2 : decode cJ7_fill_53178 2 = .ok (.aload_n 0, 1) := by decide +kernel
theorem dJ7_fill_53178_3 : decode cJ7_fill_53178 3 = .ok (.arraylength, 1) := by decide +kernel
theorem dJ7_fill_53178_4 : decode cJ7_fill_53178 4 = .ok (.istore_n 3, 1) := by decide +kernel
theorem dJ7_fill_53178_5 : decode cJ7_fill_53178 5 = .ok (.iload_n 2, 1) := by decide +kernel
theorem dJ7_fill_53178_6 : decode cJ7_fill_53178 6 = .ok (.iload_n 3, 1) := by decide +kernel
theorem dJ7_fill_53178_7 : decode cJ7_fill_53178 7 = .ok (.if_icmp .ge 13, 3) := by decide +kernel
theorem dJ7_fill_53178_10 : decode cJ7_fill_53178 10 = .ok (.aload_n 0, 1) := by decide +kernel
theorem dJ7_fill_53178_11 : decode cJ7_fill_53178 11 = .ok (.iload_n 2, 1) := by decide +kernel
theorem dJ7_fill_53178_12 : decode cJ7_fill_53178 12 = .ok (.iload_n 1, 1) := by decide +kernel
theorem dJ7_fill_53178_13 : decode cJ7_fill_53178 13 = .ok (.iastore, 1) := by decide +kernel
theorem dJ7_fill_53178_14 : decode cJ7_fill_53178 14 = .ok (.iinc 2 1, 3) := by decide +kernel
theorem dJ7_fill_53178_17 : decode cJ7_fill_53178 17 = .ok (.goto (-12), 3) := by decide +kernel
theorem dJ7_fill_53178_20 : decode cJ7_fill_53178 20 = .ok (.return_, 1) := by decide +kernel
theorem dX2_init_0 : decode cX2_init 0 = .ok (.aload_n 0, 1) := by decide +kernel
theorem dX2_init_1 : decode cX2_init 1 = .ok (.invokespecial 3, 3) := by decide +kernel
theorem dX2_init_4 : decode cX2_init 4 = .ok (.aload_n 0, 1) := by decide +kernel
theorem dX2_init_5 : decode cX2_init 5 = .ok (.iconst 5, 1) := by decide +kernel
theorem dX2_init_6 : decode cX2_init 6 = .ok (.newarray .int, 2) := by decide +kernel
theorem dX2_init_8 : decode cX2_init 8 = .ok (.putfield 9, 3) := by decide +kernel
theorem dX2_init_11 : decode cX2_init 11 = .ok (.aload_n 0, 1) := by decide +kernel
theorem dX2_init_12 : decode cX2_init 12 = .ok (.iconst 5, 1) := by decide +kernel
theorem dX2_init_13 : decode cX2_init 13 = .ok (.newarray .int, 2) := by decide +kernel
theorem dX2_init_15 : decode cX2_init 15 = .ok (.putfield 15, 3) := by decide +kernel
theorem dX2_init_18 : decode cX2_init 18 = .ok (.aload_n 0, 1) := by decide +kernel
theorem dX2_init_19 : decode cX2_init 19 = .ok (.iconst 5, 1) := by decide +kernel
theorem dX2_init_20 : decode cX2_init 20 = .ok (.newarray .int, 2) := by decide +kernel
theorem dX2_init_22 : decode cX2_init 22 = .ok (.putfield 18, 3) := by decide +kernel
theorem dX2_init_25 : decode cX2_init 25 = .ok (.aload_n 0, 1) := by decide +kernel
theorem dX2_init_26 : decode cX2_init 26 = .ok (.iconst 5, 1) := by decide +kernel
theorem dX2_init_27 : decode cX2_init 27 = .ok (.newarray .int, 2) := by decide +kernel
theorem dX2_init_29 : decode cX2_init 29 = .ok (.putfield 21, 3) := by decide +kernel
theorem dX2_init_32 : decode cX2_init 32 = .ok (.aload_n 0, 1) := by decide +kernel
theorem dX2_init_33 : decode cX2_init 33 = .ok (.iconst 5, 1) := by decide +kernel
theorem dX2_init_34 : decode cX2_init 34 = .ok (.newarray .int, 2) := by decide +kernel
theorem dX2_init_36 : decode cX2_init 36 = .ok (.putfield 24, 3) := by decide +kernel
theorem dX2_init_39 : decode cX2_init 39 = .ok (.aload_n 0, 1) := by decide +kernel
theorem dX2_init_40 : decode cX2_init 40 = .ok (.iconst 5, 1) := by decide +kernel
theorem dX2_init_41 : decode cX2_init 41 = .ok (.newarray .int, 2) := by decide +kernel
theorem dX2_init_43 : decode cX2_init 43 = .ok (.putfield 27, 3) := by decide +kernel
theorem dX2_init_46 : decode cX2_init 46 = .ok (.aload_n 0, 1) := by decide +kernel
theorem dX2_init_47 : decode cX2_init 47 = .ok (.iconst 4, 1) := by decide +kernel
theorem dX2_init_48 : decode cX2_init 48 = .ok (.newarray .int, 2) := by decide +kernel
theorem dX2_init_50 : decode cX2_init 50 = .ok (.putfield 30, 3) := by decide +kernel
theorem dX2_init_53 : decode cX2_init 53 = .ok (.return_, 1) := by decide +kernel
set_option maxRecDepth 20000 in
theorem aw_wsJ7_fill_53178 : wsJ7_fill_53178.all goodWord = true := by decide +kernel
set_option maxRecDepth 20000 in
theorem ggX2_clear_J7_fill_53178 : GoodIn wsX2_clear wsJ7_fill_53178 := goodIn_r _ [7] rfl aw_wsJ7_fill_53178
set_option maxRecDepth 20000 in
theorem gX2_clear_J7_fill_53178 : GoodIn wsX2_clear (va_wsS RX2 33 yJ7_fill_53178 wsJ7_fill_53178) := goodIn_app (goodIn_r _ [4, 5, 6] rfl (by decide +kernel)) ggX2_clear_J7_fill_53178
theorem dX2_clear_0 : decode cX2_clear 0 = .ok (.aload_n 0, 1) := by decide +kernel
theorem dX2_clear_1 : decode cX2_clear 1 = .ok (.getfield 30, 3) := by decide +kernel
theorem dX2_clear_4 : decode cX2_clear 4 = .ok (.iconst 0, 1) := by decide +kernel
theorem dX2_clear_5 : decode cX2_clear 5 = .ok (.invokestatic 33, 3) := by decide +kernel
theorem dX2_clear_8 : decode cX2_clear 8 = .ok (.aload_n 0, 1) := by decide +kernel
theorem dX2_clear_9 : decode cX2_clear 9 = .ok (.iconst 0, 1) := by decide +kernel
theorem dX2_clear_10 : decode cX2_clear 10 = .ok (.putfield 39, 3) := by decide +kernel
theorem dX2_clear_13 : decode cX2_clear 13 = .ok (.aload_n 0, 1) := by decide +kernel
theorem dX2_clear_14 : decode cX2_clear 14 = .ok (.iconst 0, 1) := by decide +kernel
theorem dX2_clear_15 : decode cX2_clear 15 = .ok (.putfield 43, 3) := by decide +kernel
theorem dX2_clear_18 : decode cX2_clear 18 = .ok (.return_, 1) := by decide +kernel
theorem dX2_take_0 : decode cX2_take 0 = .ok (.aload_n 1, 1) := by decide +kernel
theorem dX2_take_1 : decode cX2_take 1 = .ok (.getfield 9, 3) := by decide +kernel
theorem dX2_take_4 : decode cX2_take 4 = .ok (.iconst 0, 1) := by decide +kernel
theorem dX2_take_5 : decode cX2_take 5 = .ok (.aload_n 0, 1) := by decide +kernel
theorem dX2_take_6 : decode cX2_take 6 = .ok (.getfield 9, 3) := by decide +kernel
theorem dX2_take_9 : decode cX2_take 9 = .ok (.iconst 0, 1) := by decide +kernel
theorem dX2_take_10 : decode cX2_take 10 = .ok (.iconst 5, 1) := by decide +kernel
theorem dX2_take_11 : decode cX2_take 11 = .ok (.invokestatic 46, 3) := by decide +kernel
theorem dX2_take_14 : decode cX2_take 14 = .ok (.aload_n 1, 1) := by decide +kernel
theorem dX2_take_15 : decode cX2_take 15 = .ok (.getfield 15, 3) := by decide +kernel
theorem dX2_take_18 : decode cX2_take 18 = .ok (.iconst 0, 1) := by decide +kernel
theorem dX2_take_19 : decode cX2_take 19 = .ok (.aload_n 0, 1) := by decide +kernel
theorem dX2_take_20 : decode cX2_take 20 = .ok (.getfield 15, 3) := by decide +kernel
theorem dX2_take_23 : decode cX2_take 23 = .ok (.iconst 0, 1) := by decide +kernel
theorem dX2_take_24 : decode cX2_take 24 = .ok (.iconst 5, 1) := by decide +kernel
theorem dX2_take_25 : decode cX2_take 25 = .ok (.invokestatic 46, 3) := by decide +kernel
theorem dX2_take_28 : decode cX2_take 28 = .ok (.aload_n 1, 1) := by decide +kernel
theorem dX2_take_29 : decode cX2_take 29 = .ok (.getfield 18, 3) := by decide +kernel
theorem dX2_take_32 : decode cX2_take 32 = .ok (.iconst 0, 1) := by decide +kernel
theorem dX2_take_33 : decode cX2_take 33 = .ok (.aload_n 0, 1) := by decide +kernel
theorem dX2_take_34 : decode cX2_take 34 = .ok (.getfield 18, 3) := by decide +kernel
theorem dX2_take_37 : decode cX2_take 37 = .ok (.iconst 0, 1) := by decide +kernel
theorem dX2_take_38 : decode cX2_take 38 = .ok (.iconst 5, 1) := by decide +kernel
theorem dX2_take_39 : decode cX2_take 39 = .ok (.invokestatic 46, 3) := by decide +kernel
theorem dX2_take_42 : decode cX2_take 42 = .ok (.aload_n 1, 1) := by decide +kernel
theorem dX2_take_43 : decode cX2_take 43 = .ok (.getfield 21, 3) := by decide +kernel
theorem dX2_take_46 : decode cX2_take 46 = .ok (.iconst 0, 1) := by decide +kernel
theorem dX2_take_47 : decode cX2_take 47 = .ok (.aload_n 0, 1) := by decide +kernel
theorem dX2_take_48 : decode cX2_take 48 = .ok (.getfield 21, 3) := by decide +kernel
theorem dX2_take_51 : decode cX2_take 51 = .ok (.iconst 0, 1) := by decide +kernel
theorem dX2_take_52 : decode cX2_take 52 = .ok (.iconst 5, 1) := by decide +kernel
theorem dX2_take_53 : decode cX2_take 53 = .ok (.invokestatic 46, 3) := by decide +kernel
theorem dX2_take_56 : decode cX2_take 56 = .ok (.aload_n 1, 1) := by decide +kernel
theorem dX2_take_57 : decode cX2_take 57 = .ok (.getfield 24, 3) := by decide +kernel
theorem dX2_take_60 : decode cX2_take 60 = .ok (.iconst 0, 1) := by decide +kernel
theorem dX2_take_61 : decode cX2_take 61 = .ok (.aload_n 0, 1) := by decide +kernel
theorem dX2_take_62 : decode cX2_take 62 = .ok (.getfield 24, 3) := by decide +kernel
theorem dX2_take_65 : decode cX2_take 65 = .ok (.iconst 0, 1) := by decide +kernel
theorem dX2_take_66 : decode cX2_take 66 = .ok (.iconst 5, 1) := by decide +kernel
theorem dX2_take_67 : decode cX2_take 67 = .ok (.invokestatic 46, 3) := by decide +kernel
theorem dX2_take_70 : decode cX2_take 70 = .ok (.aload_n 1, 1) := by decide +kernel
theorem dX2_take_71 : decode cX2_take 71 = .ok (.getfield 27, 3) := by decide +kernel
theorem dX2_take_74 : decode cX2_take 74 = .ok (.iconst 0, 1) := by decide +kernel
theorem dX2_take_75 : decode cX2_take 75 = .ok (.aload_n 0, 1) := by decide +kernel
theorem dX2_take_76 : decode cX2_take 76 = .ok (.getfield 27, 3) := by decide +kernel
theorem dX2_take_79 : decode cX2_take 79 = .ok (.iconst 0, 1) := by decide +kernel
theorem dX2_take_80 : decode cX2_take 80 = .ok (.iconst 5, 1) := by decide +kernel
theorem dX2_take_81 : decode cX2_take 81 = .ok (.invokestatic 46, 3) := by decide +kernel
theorem dX2_take_84 : decode cX2_take 84 = .ok (.aload_n 1, 1) := by decide +kernel
theorem dX2_take_85 : decode cX2_take 85 = .ok (.getfield 30, 3) := by decide +kernel
theorem dX2_take_88 : decode cX2_take 88 = .ok (.iconst 0, 1) := by decide +kernel
theorem dX2_take_89 : decode cX2_take 89 = .ok (.aload_n 0, 1) := by decide +kernel
theorem dX2_take_90 : decode cX2_take 90 = .ok (.getfield 30, 3) := by decide +kernel
theorem dX2_take_93 : decode cX2_take 93 = .ok (.iconst 0, 1) := by decide +kernel
theorem dX2_take_94 : decode cX2_take 94 = .ok (.iconst 4, 1) := by decide +kernel
theorem dX2_take_95 : decode cX2_take 95 = .ok (.invokestatic 46, 3) := by decide +kernel
theorem dX2_take_98 : decode cX2_take 98 = .ok (.aload_n 0, 1) := by decide +kernel
theorem dX2_take_99 : decode cX2_take 99 = .ok (.aload_n 1, 1) := by decide +kernel
theorem dX2_take_100 : decode cX2_take 100 = .ok (.getfield 39, 3) := by decide +kernel
theorem dX2_take_103 : decode cX2_take 103 = .ok (.putfield 39, 3) := by decide +kernel
theorem dX2_take_106 : decode cX2_take 106 = .ok (.aload_n 0, 1) := by decide +kernel
theorem dX2_take_107 : decode cX2_take 107 = .ok (.aload_n 1, 1) := by decide +kernel
theorem dX2_take_108 : decode cX2_take 108 = .ok (.getfield 43, 3) := by decide +kernel
theorem dX2_take_111 : decode cX2_take 111 = .ok (.putfield 43, 3) := by decide +kernel
theorem dX2_take_114 : decode cX2_take 114 = .ok (.return_, 1) := by decide +kernel
theorem dX2_isThere_0 : decode cX2_isThere 0 = .ok (.aload_n 0, 1) := by decide +kernel
theorem dX2_isThere_1 : decode cX2_isThere 1 = .ok (.getfield 39, 3) := by decide +kernel
theorem dX2_isThere_4 : decode cX2_isThere 4 = .ok (.ifCond .le 7, 3) := by decide +kernel
theorem dX2_isThere_7 : decode cX2_isThere 7 = .ok (.iconst 1, 1) := by decide +kernel
theorem dX2_isThere_8 : decode cX2_isThere 8 = .ok (.goto 4, 3) := by decide +kernel
theorem dX2_isThere_11 : decode cX2_isThere 11 = .ok (.iconst 0, 1) := by decide +kernel
theorem dX2_isThere_12 : decode cX2_isThere 12 = .ok (.ireturn, 1) := by decide +kernel
theorem dX2_hasOther_0 : decode cX2_hasOther 0 = .ok (.aload_n 0, 1) := by decide +kernel
theorem dX2_hasOther_1 : decode cX2_hasOther 1 = .ok (.getfield 18, 3) := by decide +kernel
theorem dX2_hasOther_4 : decode cX2_hasOther 4 = .ok (.iload_n 1, 1) := by decide +kernel
theorem dX2_hasOther_5 : decode cX2_hasOther 5 = .ok (.iaload, 1) := by decide +kernel
theorem dX2_hasOther_6 : decode cX2_hasOther 6 = .ok (.iconst 2, 1) := by decide +kernel
theorem dX2_hasOther_7 : decode cX2_hasOther 7 = .ok (.if_icmp .lt 7, 3) := by decide +kernel
theorem dX2_hasOther_10 : decode cX2_hasOther 10 = .ok (.iconst 1, 1) := by decide +kernel
theorem dX2_hasOther_11 : decode cX2_hasOther 11 = .ok (.goto 4, 3) := by decide +kernel
theorem dX2_hasOther_14 : decode cX2_hasOther 14 = .ok (.iconst 0, 1) := by decide +kernel
theorem dX2_hasOther_15 : decode cX2_hasOther 15 = .ok (.ireturn, 1) := by decide +kernel
set_option maxRecDepth 20000 in
theorem aw_wsX2_hasOther : wsX2_hasOther.all goodWord = true := by decide +kernel
set_option maxRecDepth 20000 in
theorem ggX2_fits_X2_hasOther : GoodIn wsX2_fits wsX2_hasOther := goodIn_r _ [5, 6, 7, 8, 9, 10, 11, 12, 13, 14, 15] rfl aw_wsX2_hasOther
set_option maxRecDepth 20000 in
theorem gX2_fits_X2_hasOther : GoodIn wsX2_fits (wsV RX2 52 RX2 yX2_hasOther wsX2_hasOther) := goodIn_app (goodIn_r _ [1, 2, 3, 4] rfl (by decide +kernel)) ggX2_fits_X2_hasOther
theorem dX2_fits_0 : decode cX2_fits 0 = .ok (.iload_n 2, 1) := by decide +kernel
theorem dX2_fits_1 : decode cX2_fits 1 = .ok (.ifCond .lt 30, 3) := by decide +kernel
theorem dX2_fits_4 : decode cX2_fits 4 = .ok (.iload_n 2, 1) := by decide +kernel
theorem dX2_fits_5 : decode cX2_fits 5 = .ok (.iconst 4, 1) := by decide +kernel
theorem dX2_fits_6 : decode cX2_fits 6 = .ok (.if_icmp .ge 25, 3) := by decide +kernel
theorem dX2_fits_9 : decode cX2_fits 9 = .ok (.iload_n 2, 1) := by decide +kernel
theorem dX2_fits_10 : decode cX2_fits 10 = .ok (.iconst 2, 1) := by decide +kernel
theorem dX2_fits_11 : decode cX2_fits 11 = .ok (.if_icmp .lt 7, 3) := by decide +kernel
theorem dX2_fits_14 : decode cX2_fits 14 = .ok (.iconst 1, 1) := by decide +kernel
theorem dX2_fits_15 : decode cX2_fits 15 = .ok (.goto 4, 3) := by decide +kernel
theorem dX2_fits_18 : decode cX2_fits 18 = .ok (.iconst 0, 1) := by decide +kernel
theorem dX2_fits_19 : decode cX2_fits 19 = .ok (.aload_n 0, 1) := by decide +kernel
theorem dX2_fits_20 : decode cX2_fits 20 = .ok (.iload_n 1, 1) := by decide +kernel
theorem dX2_fits_21 : decode cX2_fits 21 = .ok (.invokevirtual 52, 3) := by decide +kernel
theorem dX2_fits_24 : decode cX2_fits 24 = .ok (.if_icmp .ne 7, 3) := by decide +kernel
theorem dX2_fits_27 : decode cX2_fits 27 = .ok (.iconst 1, 1) := by decide +kernel
theorem dX2_fits_28 : decode cX2_fits 28 = .ok (.goto 4, 3) := by decide +kernel
theorem dX2_fits_31 : decode cX2_fits 31 = .ok (.iconst 0, 1) := by decide +kernel
theorem dX2_fits_32 : decode cX2_fits 32 = .ok (.ireturn, 1) := by decide +kernel
theorem dX2_cost_0 : decode cX2_cost 0 = .ok (.aload_n 0, 1) := by decide +kernel
theorem dX2_cost_1 : decode cX2_cost 1 = .ok (.getfield 9, 3) := by decide +kernel
theorem dX2_cost_4 : decode cX2_cost 4 = .ok (.iload_n 1, 1) := by decide +kernel
theorem dX2_cost_5 : decode cX2_cost 5 = .ok (.iaload, 1) := by decide +kernel
theorem dX2_cost_6 : decode cX2_cost 6 = .ok (.lookupswitch 44 #[(1, 26), (2, 35)], 26) := by decide +kernel
theorem dX2_cost_32 : decode cX2_cost 32 = .ok (.aload_n 0, 1) := by decide +kernel
theorem dX2_cost_33 : decode cX2_cost 33 = .ok (.getfield 15, 3) := by decide +kernel
theorem dX2_cost_36 : decode cX2_cost 36 = .ok (.iload_n 1, 1) := by decide +kernel
theorem dX2_cost_37 : decode cX2_cost 37 = .ok (.iaload, 1) := by decide +kernel
theorem dX2_cost_38 : decode cX2_cost 38 = .ok (.iconst 1, 1) := by decide +kernel
theorem dX2_cost_39 : decode cX2_cost 39 = .ok (.iadd, 1) := by decide +kernel
theorem dX2_cost_40 : decode cX2_cost 40 = .ok (.ireturn, 1) := by decide +kernel
theorem dX2_cost_41 : decode cX2_cost 41 = .ok (.iconst 2, 1) := by decide +kernel
theorem dX2_cost_42 : decode cX2_cost 42 = .ok (.aload_n 0, 1) := by decide +kernel
theorem dX2_cost_43 : decode cX2_cost 43 = .ok (.getfield 15, 3) := by decide +kernel
theorem dX2_cost_46 : decode cX2_cost 46 = .ok (.iload_n 1, 1) := by decide +kernel
theorem dX2_cost_47 : decode cX2_cost 47 = .ok (.iaload, 1) := by decide +kernel
theorem dX2_cost_48 : decode cX2_cost 48 = .ok (.imul, 1) := by decide +kernel
theorem dX2_cost_49 : decode cX2_cost 49 = .ok (.ireturn, 1) := by decide +kernel
theorem dX2_cost_50 : decode cX2_cost 50 = .ok (.aload_n 0, 1) := by decide +kernel
theorem dX2_cost_51 : decode cX2_cost 51 = .ok (.getfield 15, 3) := by decide +kernel
theorem dX2_cost_54 : decode cX2_cost 54 = .ok (.iload_n 1, 1) := by decide +kernel
theorem dX2_cost_55 : decode cX2_cost 55 = .ok (.iaload, 1) := by decide +kernel
theorem dX2_cost_56 : decode cX2_cost 56 = .ok (.ireturn, 1) := by decide +kernel
theorem dX2_rulesOfHead_0 : decode cX2_rulesOfHead 0 = .ok (.iconst 0, 1) := by decide +kernel
theorem dX2_rulesOfHead_1 : decode cX2_rulesOfHead 1 = .ok (.istore_n 2, 1) := by decide +kernel
theorem dX2_rulesOfHead_2 : decode cX2_rulesOfHead 2 = .ok (.iconst 0, 1) := by decide +kernel
theorem dX2_rulesOfHead_3 : decode cX2_rulesOfHead 3 = .ok (.istore_n 3, 1) := by decide +kernel
theorem dX2_rulesOfHead_4 : decode cX2_rulesOfHead 4 = .ok (.iload_n 3, 1) := by decide +kernel
theorem dX2_rulesOfHead_5 : decode cX2_rulesOfHead 5 = .ok (.aload_n 0, 1) := by decide +kernel
theorem dX2_rulesOfHead_6 : decode cX2_rulesOfHead 6 = .ok (.getfield 43, 3) := by decide +kernel
theorem dX2_rulesOfHead_9 : decode cX2_rulesOfHead 9 = .ok (.if_icmp .ge 25, 3) := by decide +kernel
theorem dX2_rulesOfHead_12 : decode cX2_rulesOfHead 12 = .ok (.aload_n 0, 1) := by decide +kernel
theorem dX2_rulesOfHead_13 : decode cX2_rulesOfHead 13 = .ok (.getfield 21, 3) := by decide +kernel
theorem dX2_rulesOfHead_16 : decode cX2_rulesOfHead 16 = .ok (.iload_n 3, 1) := by decide +kernel
theorem dX2_rulesOfHead_17 : decode cX2_rulesOfHead 17 = .ok (.iaload, 1) := by decide +kernel
theorem dX2_rulesOfHead_18 : decode cX2_rulesOfHead 18 = .ok (.iload_n 1, 1) := by decide +kernel
theorem dX2_rulesOfHead_19 : decode cX2_rulesOfHead 19 = .ok (.if_icmp .ne 9, 3) := by decide +kernel
theorem dX2_rulesOfHead_22 : decode cX2_rulesOfHead 22 = .ok (.iload_n 2, 1) := by decide +kernel
theorem dX2_rulesOfHead_23 : decode cX2_rulesOfHead 23 = .ok (.iconst 1, 1) := by decide +kernel
theorem dX2_rulesOfHead_24 : decode cX2_rulesOfHead 24 = .ok (.iload_n 3, 1) := by decide +kernel
theorem dX2_rulesOfHead_25 : decode cX2_rulesOfHead 25 = .ok (.ishl, 1) := by decide +kernel
theorem dX2_rulesOfHead_26 : decode cX2_rulesOfHead 26 = .ok (.ior, 1) := by decide +kernel
theorem dX2_rulesOfHead_27 : decode cX2_rulesOfHead 27 = .ok (.istore_n 2, 1) := by decide +kernel
theorem dX2_rulesOfHead_28 : decode cX2_rulesOfHead 28 = .ok (.iinc 3 1, 3) := by decide +kernel
theorem dX2_rulesOfHead_31 : decode cX2_rulesOfHead 31 = .ok (.goto (-27), 3) := by decide +kernel
theorem dX2_rulesOfHead_34 : decode cX2_rulesOfHead 34 = .ok (.iload_n 2, 1) := by decide +kernel
theorem dX2_rulesOfHead_35 : decode cX2_rulesOfHead 35 = .ok (.ireturn, 1) := by decide +kernel
theorem dX2_isTold_0 : decode cX2_isTold 0 = .ok (.aload_n 0, 1) := by decide +kernel
theorem dX2_isTold_1 : decode cX2_isTold 1 = .ok (.getfield 30, 3) := by decide +kernel
theorem dX2_isTold_4 : decode cX2_isTold 4 = .ok (.iload_n 1, 1) := by decide +kernel
theorem dX2_isTold_5 : decode cX2_isTold 5 = .ok (.bipush 16, 2) := by decide +kernel
theorem dX2_isTold_7 : decode cX2_isTold 7 = .ok (.idiv, 1) := by decide +kernel
theorem dX2_isTold_8 : decode cX2_isTold 8 = .ok (.iaload, 1) := by decide +kernel
theorem dX2_isTold_9 : decode cX2_isTold 9 = .ok (.iload_n 1, 1) := by decide +kernel
theorem dX2_isTold_10 : decode cX2_isTold 10 = .ok (.bipush 16, 2) := by decide +kernel
theorem dX2_isTold_12 : decode cX2_isTold 12 = .ok (.irem, 1) := by decide +kernel
theorem dX2_isTold_13 : decode cX2_isTold 13 = .ok (.ishr, 1) := by decide +kernel
theorem dX2_isTold_14 : decode cX2_isTold 14 = .ok (.iconst 1, 1) := by decide +kernel
theorem dX2_isTold_15 : decode cX2_isTold 15 = .ok (.iand, 1) := by decide +kernel
theorem dX2_isTold_16 : decode cX2_isTold 16 = .ok (.ifCond .eq 7, 3) := by decide +kernel
theorem dX2_isTold_19 : decode cX2_isTold 19 = .ok (.iconst 1, 1) := by decide +kernel
theorem dX2_isTold_20 : decode cX2_isTold 20 = .ok (.goto 4, 3) := by decide +kernel
theorem dX2_isTold_23 : decode cX2_isTold 23 = .ok (.iconst 0, 1) := by decide +kernel
theorem dX2_isTold_24 : decode cX2_isTold 24 = .ok (.ireturn, 1) := by decide +kernel
set_option maxRecDepth 20000 in
theorem aw_wsJ6_bitCount_0f7a4 : wsJ6_bitCount_0f7a4.all goodWord = true := by decide +kernel
set_option maxRecDepth 20000 in
theorem ggX2_toldCount_J6_bitCount_0f7a4 : GoodIn wsX2_toldCount wsJ6_bitCount_0f7a4 := goodIn_r _ [6, 7, 8, 9] rfl aw_wsJ6_bitCount_0f7a4
set_option maxRecDepth 20000 in
theorem gX2_toldCount_J6_bitCount_0f7a4 : GoodIn wsX2_toldCount (va_wsS RX2 56 yJ6_bitCount_0f7a4 wsJ6_bitCount_0f7a4) := goodIn_app (goodIn_r _ [3, 4, 5] rfl (by decide +kernel)) ggX2_toldCount_J6_bitCount_0f7a4
theorem dX2_toldCount_0 : decode cX2_toldCount 0 = .ok (.iconst 0, 1) := by decide +kernel
theorem dX2_toldCount_1 : decode cX2_toldCount 1 = .ok (.istore_n 1, 1) := by decide +kernel
theorem dX2_toldCount_2 : decode cX2_toldCount 2 = .ok (.iconst 0, 1) := by decide +kernel
theorem dX2_toldCount_3 : decode cX2_toldCount 3 = .ok (.istore_n 2, 1) := by decide +kernel
theorem dX2_toldCount_4 : decode cX2_toldCount 4 = .ok (.iload_n 2, 1) := by decide +kernel
theorem dX2_toldCount_5 : decode cX2_toldCount 5 = .ok (.aload_n 0, 1) := by decide +kernel
theorem dX2_toldCount_6 : decode cX2_toldCount 6 = .ok (.getfield 39, 3) := by decide +kernel
theorem dX2_toldCount_9 : decode cX2_toldCount 9 = .ok (.if_icmp .ge 21, 3) := by decide +kernel
theorem dX2_toldCount_12 : decode cX2_toldCount 12 = .ok (.iload_n 1, 1) := by decide +kernel
theorem dX2_toldCount_13 : decode cX2_toldCount 13 = .ok (.aload_n 0, 1) := by decide +kernel
theorem dX2_toldCount_14 : decode cX2_toldCount 14 = .ok (.getfield 30, 3) := by decide +kernel
theorem dX2_toldCount_17 : decode cX2_toldCount 17 = .ok (.iload_n 2, 1) := by decide +kernel
theorem dX2_toldCount_18 : decode cX2_toldCount 18 = .ok (.iaload, 1) := by decide +kernel
theorem dX2_toldCount_19 : decode cX2_toldCount 19 = .ok (.invokestatic 56, 3) := by decide +kernel
theorem dX2_toldCount_22 : decode cX2_toldCount 22 = .ok (.iadd, 1) := by decide +kernel
theorem dX2_toldCount_23 : decode cX2_toldCount 23 = .ok (.istore_n 1, 1) := by decide +kernel
theorem dX2_toldCount_24 : decode cX2_toldCount 24 = .ok (.iinc 2 1, 3) := by decide +kernel
theorem dX2_toldCount_27 : decode cX2_toldCount 27 = .ok (.goto (-23), 3) := by decide +kernel
theorem dX2_toldCount_30 : decode cX2_toldCount 30 = .ok (.iload_n 1, 1) := by decide +kernel
theorem dX2_toldCount_31 : decode cX2_toldCount 31 = .ok (.ireturn, 1) := by decide +kernel
theorem dX4_init_0 : decode cX4_init 0 = .ok (.aload_n 0, 1) := by decide +kernel
theorem dX4_init_1 : decode cX4_init 1 = .ok (.invokespecial 3, 3) := by decide +kernel
theorem dX4_init_4 : decode cX4_init 4 = .ok (.aload_n 0, 1) := by decide +kernel
theorem dX4_init_5 : decode cX4_init 5 = .ok (.bipush 60, 2) := by decide +kernel
theorem dX4_init_7 : decode cX4_init 7 = .ok (.newarray .int, 2) := by decide +kernel
theorem dX4_init_9 : decode cX4_init 9 = .ok (.putfield 9, 3) := by decide +kernel
theorem dX4_init_12 : decode cX4_init 12 = .ok (.return_, 1) := by decide +kernel
set_option maxRecDepth 20000 in
theorem ggX4_renew_J7_fill_53178 : GoodIn wsX4_renew wsJ7_fill_53178 := goodIn_r _ [8] rfl aw_wsJ7_fill_53178
set_option maxRecDepth 20000 in
theorem gX4_renew_J7_fill_53178 : GoodIn wsX4_renew (va_wsS RX4 15 yJ7_fill_53178 wsJ7_fill_53178) := goodIn_app (goodIn_r _ [5, 6, 7] rfl (by decide +kernel)) ggX4_renew_J7_fill_53178
theorem dX4_renew_0 : decode cX4_renew 0 = .ok (.aload_n 0, 1) := by decide +kernel
theorem dX4_renew_1 : decode cX4_renew 1 = .ok (.getfield 9, 3) := by decide +kernel
theorem dX4_renew_4 : decode cX4_renew 4 = .ok (.iconst 0, 1) := by decide +kernel
theorem dX4_renew_5 : decode cX4_renew 5 = .ok (.invokestatic 15, 3) := by decide +kernel
theorem dX4_renew_8 : decode cX4_renew 8 = .ok (.aload_n 0, 1) := by decide +kernel
theorem dX4_renew_9 : decode cX4_renew 9 = .ok (.iconst 1, 1) := by decide +kernel
theorem dX4_renew_10 : decode cX4_renew 10 = .ok (.putfield 21, 3) := by decide +kernel
theorem dX4_renew_13 : decode cX4_renew 13 = .ok (.aload_n 0, 1) := by decide +kernel
theorem dX4_renew_14 : decode cX4_renew 14 = .ok (.iload_n 1, 1) := by decide +kernel
theorem dX4_renew_15 : decode cX4_renew 15 = .ok (.putfield 25, 3) := by decide +kernel
theorem dX4_renew_18 : decode cX4_renew 18 = .ok (.aload_n 0, 1) := by decide +kernel
theorem dX4_renew_19 : decode cX4_renew 19 = .ok (.iload_n 2, 1) := by decide +kernel
theorem dX4_renew_20 : decode cX4_renew 20 = .ok (.putfield 29, 3) := by decide +kernel
theorem dX4_renew_23 : decode cX4_renew 23 = .ok (.return_, 1) := by decide +kernel
theorem dX4_clear_0 : decode cX4_clear 0 = .ok (.aload_n 0, 1) := by decide +kernel
theorem dX4_clear_1 : decode cX4_clear 1 = .ok (.getfield 21, 3) := by decide +kernel
theorem dX4_clear_4 : decode cX4_clear 4 = .ok (.istore_n 1, 1) := by decide +kernel
theorem dX4_clear_5 : decode cX4_clear 5 = .ok (.aload_n 0, 1) := by decide +kernel
theorem dX4_clear_6 : decode cX4_clear 6 = .ok (.iconst 0, 1) := by decide +kernel
theorem dX4_clear_7 : decode cX4_clear 7 = .ok (.putfield 21, 3) := by decide +kernel
theorem dX4_clear_10 : decode cX4_clear 10 = .ok (.aload_n 0, 1) := by decide +kernel
theorem dX4_clear_11 : decode cX4_clear 11 = .ok (.iconst 0, 1) := by decide +kernel
theorem dX4_clear_12 : decode cX4_clear 12 = .ok (.putfield 29, 3) := by decide +kernel
theorem dX4_clear_15 : decode cX4_clear 15 = .ok (.iload_n 1, 1) := by decide +kernel
theorem dX4_clear_16 : decode cX4_clear 16 = .ok (.ireturn, 1) := by decide +kernel
theorem dX4_faultAs_0 : decode cX4_faultAs 0 = .ok (.aload_n 0, 1) := by decide +kernel
theorem dX4_faultAs_1 : decode cX4_faultAs 1 = .ok (.getfield 21, 3) := by decide +kernel
theorem dX4_faultAs_4 : decode cX4_faultAs 4 = .ok (.ifCond .ne 5, 3) := by decide +kernel
theorem dX4_faultAs_7 : decode cX4_faultAs 7 = .ok (.iconst 1, 1) := by decide +kernel
theorem dX4_faultAs_8 : decode cX4_faultAs 8 = .ok (.ireturn, 1) := by decide +kernel
theorem dX4_faultAs_9 : decode cX4_faultAs 9 = .ok (.aload_n 0, 1) := by decide +kernel
theorem dX4_faultAs_10 : decode cX4_faultAs 10 = .ok (.getfield 25, 3) := by decide +kernel
theorem dX4_faultAs_13 : decode cX4_faultAs 13 = .ok (.iload_n 1, 1) := by decide +kernel
theorem dX4_faultAs_14 : decode cX4_faultAs 14 = .ok (.if_icmp .ne 7, 3) := by decide +kernel
theorem dX4_faultAs_17 : decode cX4_faultAs 17 = .ok (.iconst 0, 1) := by decide +kernel
theorem dX4_faultAs_18 : decode cX4_faultAs 18 = .ok (.goto 4, 3) := by decide +kernel
theorem dX4_faultAs_21 : decode cX4_faultAs 21 = .ok (.iconst 2, 1) := by decide +kernel
theorem dX4_faultAs_22 : decode cX4_faultAs 22 = .ok (.ireturn, 1) := by decide +kernel
theorem dX4_hasCell_0 : decode cX4_hasCell 0 = .ok (.iload_n 1, 1) := by decide +kernel
theorem dX4_hasCell_1 : decode cX4_hasCell 1 = .ok (.ifCond .lt 15, 3) := by decide +kernel
theorem dX4_hasCell_4 : decode cX4_hasCell 4 = .ok (.iload_n 1, 1) := by decide +kernel
theorem dX4_hasCell_5 : decode cX4_hasCell 5 = .ok (.aload_n 0, 1) := by decide +kernel
theorem dX4_hasCell_6 : decode cX4_hasCell 6 = .ok (.getfield 29, 3) := by decide +kernel
theorem dX4_hasCell_9 : decode cX4_hasCell 9 = .ok (.if_icmp .ge 7, 3) := by decide +kernel
theorem dX4_hasCell_12 : decode cX4_hasCell 12 = .ok (.iconst 1, 1) := by decide +kernel
theorem dX4_hasCell_13 : decode cX4_hasCell 13 = .ok (.goto 4, 3) := by decide +kernel
theorem dX4_hasCell_16 : decode cX4_hasCell 16 = .ok (.iconst 0, 1) := by decide +kernel
theorem dX4_hasCell_17 : decode cX4_hasCell 17 = .ok (.ireturn, 1) := by decide +kernel
theorem dX4_has_0 : decode cX4_has 0 = .ok (.iload_n 1, 1) := by decide +kernel
theorem dX4_has_1 : decode cX4_has 1 = .ok (.ifCond .lt 29, 3) := by decide +kernel
theorem dX4_has_4 : decode cX4_has 4 = .ok (.iload_n 1, 1) := by decide +kernel
theorem dX4_has_5 : decode cX4_has 5 = .ok (.aload_n 0, 1) := by decide +kernel
theorem dX4_has_6 : decode cX4_has 6 = .ok (.getfield 29, 3) := by decide +kernel
theorem dX4_has_9 : decode cX4_has 9 = .ok (.if_icmp .gt 21, 3) := by decide +kernel
theorem dX4_has_12 : decode cX4_has 12 = .ok (.iload_n 2, 1) := by decide +kernel
theorem dX4_has_13 : decode cX4_has 13 = .ok (.ifCond .lt 17, 3) := by decide +kernel
theorem dX4_has_16 : decode cX4_has 16 = .ok (.iload_n 2, 1) := by decide +kernel
theorem dX4_has_17 : decode cX4_has 17 = .ok (.aload_n 0, 1) := by decide +kernel
theorem dX4_has_18 : decode cX4_has 18 = .ok (.getfield 29, 3) := by decide +kernel
theorem dX4_has_21 : decode cX4_has 21 = .ok (.iload_n 1, 1) := by decide +kernel
theorem dX4_has_22 : decode cX4_has 22 = .ok (.isub, 1) := by decide +kernel
theorem dX4_has_23 : decode cX4_has 23 = .ok (.if_icmp .gt 7, 3) := by decide +kernel
theorem dX4_has_26 : decode cX4_has 26 = .ok (.iconst 1, 1) := by decide +kernel
theorem dX4_has_27 : decode cX4_has 27 = .ok (.goto 4, 3) := by decide +kernel
theorem dX4_has_30 : decode cX4_has 30 = .ok (.iconst 0, 1) := by decide +kernel
theorem dX4_has_31 : decode cX4_has 31 = .ok (.ireturn, 1) := by decide +kernel
theorem dX4_cut_0 : decode cX4_cut 0 = .ok (.aload_n 0, 1) := by decide +kernel
theorem dX4_cut_1 : decode cX4_cut 1 = .ok (.getfield 25, 3) := by decide +kernel
theorem dX4_cut_4 : decode cX4_cut 4 = .ok (.lookupswitch 34 #[(0, 28), (1, 31)], 28) := by decide +kernel
theorem dX4_cut_32 : decode cX4_cut 32 = .ok (.iload_n 1, 1) := by decide +kernel
theorem dX4_cut_33 : decode cX4_cut 33 = .ok (.i2b, 1) := by decide +kernel
theorem dX4_cut_34 : decode cX4_cut 34 = .ok (.ireturn, 1) := by decide +kernel
theorem dX4_cut_35 : decode cX4_cut 35 = .ok (.iload_n 1, 1) := by decide +kernel
theorem dX4_cut_36 : decode cX4_cut 36 = .ok (.i2s, 1) := by decide +kernel
theorem dX4_cut_37 : decode cX4_cut 37 = .ok (.ireturn, 1) := by decide +kernel
theorem dX4_cut_38 : decode cX4_cut 38 = .ok (.iload_n 1, 1) := by decide +kernel
theorem dX4_cut_39 : decode cX4_cut 39 = .ok (.ireturn, 1) := by decide +kernel
theorem dX1_init_0 : decode cX1_init 0 = .ok (.aload_n 0, 1) := by decide +kernel
theorem dX1_init_1 : decode cX1_init 1 = .ok (.invokespecial 3, 3) := by decide +kernel
theorem dX1_init_4 : decode cX1_init 4 = .ok (.aload_n 0, 1) := by decide +kernel
theorem dX1_init_5 : decode cX1_init 5 = .ok (.iconst 4, 1) := by decide +kernel
theorem dX1_init_6 : decode cX1_init 6 = .ok (.newarray .int, 2) := by decide +kernel
theorem dX1_init_8 : decode cX1_init 8 = .ok (.putfield 9, 3) := by decide +kernel
theorem dX1_init_11 : decode cX1_init 11 = .ok (.aload_n 0, 1) := by decide +kernel
theorem dX1_init_12 : decode cX1_init 12 = .ok (.iconst 4, 1) := by decide +kernel
theorem dX1_init_13 : decode cX1_init 13 = .ok (.newarray .int, 2) := by decide +kernel
theorem dX1_init_15 : decode cX1_init 15 = .ok (.putfield 15, 3) := by decide +kernel
theorem dX1_init_18 : decode cX1_init 18 = .ok (.aload_n 0, 1) := by decide +kernel
theorem dX1_init_19 : decode cX1_init 19 = .ok (.aload_n 1, 1) := by decide +kernel
theorem dX1_init_20 : decode cX1_init 20 = .ok (.putfield 18, 3) := by decide +kernel
theorem dX1_init_23 : decode cX1_init 23 = .ok (.return_, 1) := by decide +kernel
set_option maxRecDepth 20000 in
theorem ggX1_find_J7_fill_53178 : GoodIn wsX1_find wsJ7_fill_53178 := goodIn_r _ [5] rfl aw_wsJ7_fill_53178
set_option maxRecDepth 20000 in
theorem gX1_find_J7_fill_53178 : GoodIn wsX1_find (va_wsS RX1 22 yJ7_fill_53178 wsJ7_fill_53178) := goodIn_app (goodIn_r _ [2, 3, 4] rfl (by decide +kernel)) ggX1_find_J7_fill_53178
set_option maxRecDepth 20000 in
theorem aw_wsX1_isRaised : wsX1_isRaised.all goodWord = true := by decide +kernel
set_option maxRecDepth 20000 in
theorem ggX1_find_X1_isRaised : GoodIn wsX1_find wsX1_isRaised := goodIn_r _ [10, 11, 12, 13, 1, 14, 15, 16, 9, 17, 18, 19, 20, 21, 22, 23, 24, 25, 26, 27, 28, 29, 30, 31, 32, 33, 34, 35, 36, 37, 38, 39, 40, 41, 42] rfl aw_wsX1_isRaised
set_option maxRecDepth 20000 in
theorem gX1_find_X1_isRaised : GoodIn wsX1_find (wsV RX1 28 RX1 yX1_isRaised wsX1_isRaised) := goodIn_app (goodIn_r _ [6, 7, 8, 9] rfl (by decide +kernel)) ggX1_find_X1_isRaised
theorem dX1_find_0 : decode cX1_find 0 = .ok (.aload_n 0, 1) := by decide +kernel
theorem dX1_find_1 : decode cX1_find 1 = .ok (.getfield 9, 3) := by decide +kernel
theorem dX1_find_4 : decode cX1_find 4 = .ok (.iconst 0, 1) := by decide +kernel
theorem dX1_find_5 : decode cX1_find 5 = .ok (.invokestatic 22, 3) := by decide +kernel
theorem dX1_find_8 : decode cX1_find 8 = .ok (.iconst 0, 1) := by decide +kernel
theorem dX1_find_9 : decode cX1_find 9 = .ok (.istore_n 1, 1) := by decide +kernel
theorem dX1_find_10 : decode cX1_find 10 = .ok (.iload_n 1, 1) := by decide +kernel
theorem dX1_find_11 : decode cX1_find 11 = .ok (.iconst 4, 1) := by decide +kernel
theorem dX1_find_12 : decode cX1_find 12 = .ok (.if_icmp .ge 18, 3) := by decide +kernel
theorem dX1_find_15 : decode cX1_find 15 = .ok (.aload_n 0, 1) := by decide +kernel
theorem dX1_find_16 : decode cX1_find 16 = .ok (.invokevirtual 28, 3) := by decide +kernel
theorem dX1_find_19 : decode cX1_find 19 = .ok (.ifCond .ne 5, 3) := by decide +kernel
theorem dX1_find_22 : decode cX1_find 22 = .ok (.iconst 1, 1) := by decide +kernel
theorem dX1_find_23 : decode cX1_find 23 = .ok (.ireturn, 1) := by decide +kernel
theorem dX1_find_24 : decode cX1_find 24 = .ok (.iinc 1 1, 3) := by decide +kernel
theorem dX1_find_27 : decode cX1_find 27 = .ok (.goto (-17), 3) := by decide +kernel
theorem dX1_find_30 : decode cX1_find 30 = .ok (.iconst 0, 1) := by decide +kernel
theorem dX1_find_31 : decode cX1_find 31 = .ok (.ireturn, 1) := by decide +kernel
set_option maxRecDepth 20000 in
theorem aw_wsX1_leastOfHead : wsX1_leastOfHead.all goodWord = true := by decide +kernel
set_option maxRecDepth 20000 in
theorem ggX1_isRaised_X1_leastOfHead : GoodIn wsX1_isRaised wsX1_leastOfHead := goodIn_r _ [9, 4, 1, 10, 11, 12, 13, 14, 15, 16, 17, 18, 19, 20, 21, 22, 23, 24, 25, 26, 27, 28, 29, 30, 31, 32, 33, 34] rfl aw_wsX1_leastOfHead
set_option maxRecDepth 20000 in
theorem gX1_isRaised_X1_leastOfHead : GoodIn wsX1_isRaised (wsV RX1 38 RX1 yX1_leastOfHead wsX1_leastOfHead) := goodIn_app (goodIn_r _ [5, 6, 7, 8] rfl (by decide +kernel)) ggX1_isRaised_X1_leastOfHead
theorem dX1_isRaised_0 : decode cX1_isRaised 0 = .ok (.iconst 0, 1) := by decide +kernel
theorem dX1_isRaised_1 : decode cX1_isRaised 1 = .ok (.istore_n 1, 1) := by decide +kernel
theorem dX1_isRaised_2 : decode cX1_isRaised 2 = .ok (.iconst 0, 1) := by decide +kernel
theorem dX1_isRaised_3 : decode cX1_isRaised 3 = .ok (.istore_n 2, 1) := by decide +kernel
theorem dX1_isRaised_4 : decode cX1_isRaised 4 = .ok (.iload_n 2, 1) := by decide +kernel
theorem dX1_isRaised_5 : decode cX1_isRaised 5 = .ok (.aload_n 0, 1) := by decide +kernel
theorem dX1_isRaised_6 : decode cX1_isRaised 6 = .ok (.getfield 18, 3) := by decide +kernel
theorem dX1_isRaised_9 : decode cX1_isRaised 9 = .ok (.getfield 32, 3) := by decide +kernel
theorem dX1_isRaised_12 : decode cX1_isRaised 12 = .ok (.if_icmp .ge 47, 3) := by decide +kernel
theorem dX1_isRaised_15 : decode cX1_isRaised 15 = .ok (.aload_n 0, 1) := by decide +kernel
theorem dX1_isRaised_16 : decode cX1_isRaised 16 = .ok (.iload_n 2, 1) := by decide +kernel
theorem dX1_isRaised_17 : decode cX1_isRaised 17 = .ok (.invokevirtual 38, 3) := by decide +kernel
theorem dX1_isRaised_20 : decode cX1_isRaised 20 = .ok (.istore_n 3, 1) := by decide +kernel
theorem dX1_isRaised_21 : decode cX1_isRaised 21 = .ok (.aload_n 0, 1) := by decide +kernel
theorem dX1_isRaised_22 : decode cX1_isRaised 22 = .ok (.getfield 18, 3) := by decide +kernel
theorem dX1_isRaised_25 : decode cX1_isRaised 25 = .ok (.getfield 42, 3) := by decide +kernel
theorem dX1_isRaised_28 : decode cX1_isRaised 28 = .ok (.iload_n 2, 1) := by decide +kernel
theorem dX1_isRaised_29 : decode cX1_isRaised 29 = .ok (.iaload, 1) := by decide +kernel
theorem dX1_isRaised_30 : decode cX1_isRaised 30 = .ok (.istore 4, 2) := by decide +kernel
theorem dX1_isRaised_32 : decode cX1_isRaised 32 = .ok (.aload_n 0, 1) := by decide +kernel
theorem dX1_isRaised_33 : decode cX1_isRaised 33 = .ok (.getfield 9, 3) := by decide +kernel
theorem dX1_isRaised_36 : decode cX1_isRaised 36 = .ok (.iload 4, 2) := by decide +kernel
theorem dX1_isRaised_38 : decode cX1_isRaised 38 = .ok (.iaload, 1) := by decide +kernel
theorem dX1_isRaised_39 : decode cX1_isRaised 39 = .ok (.iload_n 3, 1) := by decide +kernel
theorem dX1_isRaised_40 : decode cX1_isRaised 40 = .ok (.if_icmp .ge 13, 3) := by decide +kernel
theorem dX1_isRaised_43 : decode cX1_isRaised 43 = .ok (.aload_n 0, 1) := by decide +kernel
theorem dX1_isRaised_44 : decode cX1_isRaised 44 = .ok (.getfield 9, 3) := by decide +kernel
theorem dX1_isRaised_47 : decode cX1_isRaised 47 = .ok (.iload 4, 2) := by decide +kernel
theorem dX1_isRaised_49 : decode cX1_isRaised 49 = .ok (.iload_n 3, 1) := by decide +kernel
theorem dX1_isRaised_50 : decode cX1_isRaised 50 = .ok (.iastore, 1) := by decide +kernel
theorem dX1_isRaised_51 : decode cX1_isRaised 51 = .ok (.iconst 1, 1) := by decide +kernel
theorem dX1_isRaised_52 : decode cX1_isRaised 52 = .ok (.istore_n 1, 1) := by decide +kernel
theorem dX1_isRaised_53 : decode cX1_isRaised 53 = .ok (.iinc 2 1, 3) := by decide +kernel
theorem dX1_isRaised_56 : decode cX1_isRaised 56 = .ok (.goto (-52), 3) := by decide +kernel
theorem dX1_isRaised_59 : decode cX1_isRaised 59 = .ok (.iload_n 1, 1) := by decide +kernel
theorem dX1_isRaised_60 : decode cX1_isRaised 60 = .ok (.ireturn, 1) := by decide +kernel
set_option maxRecDepth 20000 in
theorem ggX1_leastOfHead_X2_hasOther : GoodIn wsX1_leastOfHead wsX2_hasOther := goodIn_r _ [14, 15, 19, 20, 21, 22, 23, 24, 25, 26, 27] rfl aw_wsX2_hasOther
set_option maxRecDepth 20000 in
theorem gX1_leastOfHead_X2_hasOther : GoodIn wsX1_leastOfHead (wsV RX1 48 RX2 yX2_hasOther wsX2_hasOther) := goodIn_app (goodIn_r _ [10, 11, 12, 13] rfl (by decide +kernel)) ggX1_leastOfHead_X2_hasOther
theorem dX1_leastOfHead_0 : decode cX1_leastOfHead 0 = .ok (.aload_n 0, 1) := by decide +kernel
theorem dX1_leastOfHead_1 : decode cX1_leastOfHead 1 = .ok (.getfield 9, 3) := by decide +kernel
theorem dX1_leastOfHead_4 : decode cX1_leastOfHead 4 = .ok (.aload_n 0, 1) := by decide +kernel
theorem dX1_leastOfHead_5 : decode cX1_leastOfHead 5 = .ok (.getfield 18, 3) := by decide +kernel
theorem dX1_leastOfHead_8 : decode cX1_leastOfHead 8 = .ok (.getfield 45, 3) := by decide +kernel
theorem dX1_leastOfHead_11 : decode cX1_leastOfHead 11 = .ok (.iload_n 1, 1) := by decide +kernel
theorem dX1_leastOfHead_12 : decode cX1_leastOfHead 12 = .ok (.iaload, 1) := by decide +kernel
theorem dX1_leastOfHead_13 : decode cX1_leastOfHead 13 = .ok (.iaload, 1) := by decide +kernel
theorem dX1_leastOfHead_14 : decode cX1_leastOfHead 14 = .ok (.istore_n 2, 1) := by decide +kernel
theorem dX1_leastOfHead_15 : decode cX1_leastOfHead 15 = .ok (.aload_n 0, 1) := by decide +kernel
theorem dX1_leastOfHead_16 : decode cX1_leastOfHead 16 = .ok (.getfield 18, 3) := by decide +kernel
theorem dX1_leastOfHead_19 : decode cX1_leastOfHead 19 = .ok (.iload_n 1, 1) := by decide +kernel
theorem dX1_leastOfHead_20 : decode cX1_leastOfHead 20 = .ok (.invokevirtual 48, 3) := by decide +kernel
theorem dX1_leastOfHead_23 : decode cX1_leastOfHead 23 = .ok (.ifCond .ne 5, 3) := by decide +kernel
theorem dX1_leastOfHead_26 : decode cX1_leastOfHead 26 = .ok (.iload_n 2, 1) := by decide +kernel
theorem dX1_leastOfHead_27 : decode cX1_leastOfHead 27 = .ok (.ireturn, 1) := by decide +kernel
theorem dX1_leastOfHead_28 : decode cX1_leastOfHead 28 = .ok (.aload_n 0, 1) := by decide +kernel
theorem dX1_leastOfHead_29 : decode cX1_leastOfHead 29 = .ok (.getfield 9, 3) := by decide +kernel
theorem dX1_leastOfHead_32 : decode cX1_leastOfHead 32 = .ok (.aload_n 0, 1) := by decide +kernel
theorem dX1_leastOfHead_33 : decode cX1_leastOfHead 33 = .ok (.getfield 18, 3) := by decide +kernel
theorem dX1_leastOfHead_36 : decode cX1_leastOfHead 36 = .ok (.getfield 52, 3) := by decide +kernel
theorem dX1_leastOfHead_39 : decode cX1_leastOfHead 39 = .ok (.iload_n 1, 1) := by decide +kernel
theorem dX1_leastOfHead_40 : decode cX1_leastOfHead 40 = .ok (.iaload, 1) := by decide +kernel
theorem dX1_leastOfHead_41 : decode cX1_leastOfHead 41 = .ok (.iaload, 1) := by decide +kernel
theorem dX1_leastOfHead_42 : decode cX1_leastOfHead 42 = .ok (.istore_n 3, 1) := by decide +kernel
theorem dX1_leastOfHead_43 : decode cX1_leastOfHead 43 = .ok (.iload_n 2, 1) := by decide +kernel
theorem dX1_leastOfHead_44 : decode cX1_leastOfHead 44 = .ok (.aload_n 0, 1) := by decide +kernel
theorem dX1_leastOfHead_45 : decode cX1_leastOfHead 45 = .ok (.getfield 18, 3) := by decide +kernel
theorem dX1_leastOfHead_48 : decode cX1_leastOfHead 48 = .ok (.getfield 55, 3) := by decide +kernel
theorem dX1_leastOfHead_51 : decode cX1_leastOfHead 51 = .ok (.iload_n 1, 1) := by decide +kernel
theorem dX1_leastOfHead_52 : decode cX1_leastOfHead 52 = .ok (.iaload, 1) := by decide +kernel
theorem dX1_leastOfHead_53 : decode cX1_leastOfHead 53 = .ok (.iconst 3, 1) := by decide +kernel
theorem dX1_leastOfHead_54 : decode cX1_leastOfHead 54 = .ok (.if_icmp .ne 9, 3) := by decide +kernel
theorem dX1_leastOfHead_57 : decode cX1_leastOfHead 57 = .ok (.iload_n 3, 1) := by decide +kernel
theorem dX1_leastOfHead_58 : decode cX1_leastOfHead 58 = .ok (.iconst 1, 1) := by decide +kernel
theorem dX1_leastOfHead_59 : decode cX1_leastOfHead 59 = .ok (.iadd, 1) := by decide +kernel
theorem dX1_leastOfHead_60 : decode cX1_leastOfHead 60 = .ok (.goto 4, 3) := by decide +kernel
theorem dX1_leastOfHead_63 : decode cX1_leastOfHead 63 = .ok (.iload_n 3, 1) := by decide +kernel
theorem dX1_leastOfHead_64 : decode cX1_leastOfHead 64 = .ok (.invokestatic 58, 3) := by decide +kernel
theorem dX1_leastOfHead_67 : decode cX1_leastOfHead 67 = .ok (.ireturn, 1) := by decide +kernel
set_option maxRecDepth 20000 in
theorem aw_wsX1_findReach : wsX1_findReach.all goodWord = true := by decide +kernel
set_option maxRecDepth 20000 in
theorem ggX1_goingRound_X1_findReach : GoodIn wsX1_goingRound wsX1_findReach := goodIn_r _ [11, 12, 1, 2, 3, 5, 13, 6, 14, 15, 16, 17, 18, 19, 20, 21, 22, 10, 23, 24, 25, 26, 27, 28, 29, 30, 31, 32, 33, 34, 35] rfl aw_wsX1_findReach
set_option maxRecDepth 20000 in
theorem gX1_goingRound_X1_findReach : GoodIn wsX1_goingRound (wsV RX1 64 RX1 yX1_findReach wsX1_findReach) := goodIn_app (goodIn_r _ [7, 8, 9, 10] rfl (by decide +kernel)) ggX1_goingRound_X1_findReach
set_option maxRecDepth 20000 in
theorem aw_wsX1_leads : wsX1_leads.all goodWord = true := by decide +kernel
set_option maxRecDepth 20000 in
theorem ggX1_goingRound_X1_leads : GoodIn wsX1_goingRound wsX1_leads := goodIn_r _ [23, 12, 24, 25, 26] rfl aw_wsX1_leads
set_option maxRecDepth 20000 in
theorem gX1_goingRound_X1_leads : GoodIn wsX1_goingRound (wsV RX1 70 RX1 yX1_leads wsX1_leads) := goodIn_app (goodIn_r _ [20, 21, 22, 10] rfl (by decide +kernel)) ggX1_goingRound_X1_leads
theorem dX1_goingRound_0 : decode cX1_goingRound 0 = .ok (.aload_n 0, 1) := by decide +kernel
theorem dX1_goingRound_1 : decode cX1_goingRound 1 = .ok (.invokevirtual 64, 3) := by decide +kernel
theorem dX1_goingRound_4 : decode cX1_goingRound 4 = .ok (.iconst 0, 1) := by decide +kernel
theorem dX1_goingRound_5 : decode cX1_goingRound 5 = .ok (.istore_n 1, 1) := by decide +kernel
theorem dX1_goingRound_6 : decode cX1_goingRound 6 = .ok (.iload_n 1, 1) := by decide +kernel
theorem dX1_goingRound_7 : decode cX1_goingRound 7 = .ok (.aload_n 0, 1) := by decide +kernel
theorem dX1_goingRound_8 : decode cX1_goingRound 8 = .ok (.getfield 18, 3) := by decide +kernel
theorem dX1_goingRound_11 : decode cX1_goingRound 11 = .ok (.getfield 67, 3) := by decide +kernel
theorem dX1_goingRound_14 : decode cX1_goingRound 14 = .ok (.if_icmp .ge 77, 3) := by decide +kernel
theorem dX1_goingRound_17 : decode cX1_goingRound 17 = .ok (.iconst 0, 1) := by decide +kernel
theorem dX1_goingRound_18 : decode cX1_goingRound 18 = .ok (.istore_n 2, 1) := by decide +kernel
theorem dX1_goingRound_19 : decode cX1_goingRound 19 = .ok (.iload_n 2, 1) := by decide +kernel
theorem dX1_goingRound_20 : decode cX1_goingRound 20 = .ok (.aload_n 0, 1) := by decide +kernel
theorem dX1_goingRound_21 : decode cX1_goingRound 21 = .ok (.getfield 18, 3) := by decide +kernel
theorem dX1_goingRound_24 : decode cX1_goingRound 24 = .ok (.getfield 32, 3) := by decide +kernel
theorem dX1_goingRound_27 : decode cX1_goingRound 27 = .ok (.if_icmp .ge 58, 3) := by decide +kernel
theorem dX1_goingRound_30 : decode cX1_goingRound 30 = .ok (.aload_n 0, 1) := by decide +kernel
theorem dX1_goingRound_31 : decode cX1_goingRound 31 = .ok (.getfield 18, 3) := by decide +kernel
theorem dX1_goingRound_34 : decode cX1_goingRound 34 = .ok (.getfield 55, 3) := by decide +kernel
theorem dX1_goingRound_37 : decode cX1_goingRound 37 = .ok (.iload_n 2, 1) := by decide +kernel
theorem dX1_goingRound_38 : decode cX1_goingRound 38 = .ok (.iaload, 1) := by decide +kernel
theorem dX1_goingRound_39 : decode cX1_goingRound 39 = .ok (.iconst 3, 1) := by decide +kernel
theorem dX1_goingRound_40 : decode cX1_goingRound 40 = .ok (.if_icmp .ne 39, 3) := by decide +kernel
theorem dX1_goingRound_43 : decode cX1_goingRound 43 = .ok (.aload_n 0, 1) := by decide +kernel
theorem dX1_goingRound_44 : decode cX1_goingRound 44 = .ok (.iload_n 1, 1) := by decide +kernel
theorem dX1_goingRound_45 : decode cX1_goingRound 45 = .ok (.aload_n 0, 1) := by decide +kernel
theorem dX1_goingRound_46 : decode cX1_goingRound 46 = .ok (.getfield 18, 3) := by decide +kernel
theorem dX1_goingRound_49 : decode cX1_goingRound 49 = .ok (.getfield 52, 3) := by decide +kernel
theorem dX1_goingRound_52 : decode cX1_goingRound 52 = .ok (.iload_n 2, 1) := by decide +kernel
theorem dX1_goingRound_53 : decode cX1_goingRound 53 = .ok (.iaload, 1) := by decide +kernel
theorem dX1_goingRound_54 : decode cX1_goingRound 54 = .ok (.invokevirtual 70, 3) := by decide +kernel
theorem dX1_goingRound_57 : decode cX1_goingRound 57 = .ok (.ifCond .eq 22, 3) := by decide +kernel
theorem dX1_goingRound_60 : decode cX1_goingRound 60 = .ok (.aload_n 0, 1) := by decide +kernel
theorem dX1_goingRound_61 : decode cX1_goingRound 61 = .ok (.aload_n 0, 1) := by decide +kernel
theorem dX1_goingRound_62 : decode cX1_goingRound 62 = .ok (.getfield 18, 3) := by decide +kernel
theorem dX1_goingRound_65 : decode cX1_goingRound 65 = .ok (.getfield 42, 3) := by decide +kernel
theorem dX1_goingRound_68 : decode cX1_goingRound 68 = .ok (.iload_n 2, 1) := by decide +kernel
theorem dX1_goingRound_69 : decode cX1_goingRound 69 = .ok (.iaload, 1) := by decide +kernel
theorem dX1_goingRound_70 : decode cX1_goingRound 70 = .ok (.iload_n 1, 1) := by decide +kernel
theorem dX1_goingRound_71 : decode cX1_goingRound 71 = .ok (.invokevirtual 70, 3) := by decide +kernel
theorem dX1_goingRound_74 : decode cX1_goingRound 74 = .ok (.ifCond .eq 5, 3) := by decide +kernel
theorem dX1_goingRound_77 : decode cX1_goingRound 77 = .ok (.iload_n 1, 1) := by decide +kernel
theorem dX1_goingRound_78 : decode cX1_goingRound 78 = .ok (.ireturn, 1) := by decide +kernel
theorem dX1_goingRound_79 : decode cX1_goingRound 79 = .ok (.iinc 2 1, 3) := by decide +kernel
theorem dX1_goingRound_82 : decode cX1_goingRound 82 = .ok (.goto (-63), 3) := by decide +kernel
theorem dX1_goingRound_85 : decode cX1_goingRound 85 = .ok (.iinc 1 1, 3) := by decide +kernel
theorem dX1_goingRound_88 : decode cX1_goingRound 88 = .ok (.goto (-82), 3) := by decide +kernel
theorem dX1_goingRound_91 : decode cX1_goingRound 91 = .ok (.iconst 0, 1) := by decide +kernel
theorem dX1_goingRound_92 : decode cX1_goingRound 92 = .ok (.ireturn, 1) := by decide +kernel
theorem dX1_leads_0 : decode cX1_leads 0 = .ok (.aload_n 0, 1) := by decide +kernel
theorem dX1_leads_1 : decode cX1_leads 1 = .ok (.getfield 15, 3) := by decide +kernel
theorem dX1_leads_4 : decode cX1_leads 4 = .ok (.iload_n 1, 1) := by decide +kernel
theorem dX1_leads_5 : decode cX1_leads 5 = .ok (.iaload, 1) := by decide +kernel
theorem dX1_leads_6 : decode cX1_leads 6 = .ok (.iload_n 2, 1) := by decide +kernel
theorem dX1_leads_7 : decode cX1_leads 7 = .ok (.ishr, 1) := by decide +kernel
theorem dX1_leads_8 : decode cX1_leads 8 = .ok (.iconst 1, 1) := by decide +kernel
theorem dX1_leads_9 : decode cX1_leads 9 = .ok (.iand, 1) := by decide +kernel
theorem dX1_leads_10 : decode cX1_leads 10 = .ok (.ifCond .eq 7, 3) := by decide +kernel
theorem dX1_leads_13 : decode cX1_leads 13 = .ok (.iconst 1, 1) := by decide +kernel
theorem dX1_leads_14 : decode cX1_leads 14 = .ok (.goto 4, 3) := by decide +kernel
theorem dX1_leads_17 : decode cX1_leads 17 = .ok (.iconst 0, 1) := by decide +kernel
theorem dX1_leads_18 : decode cX1_leads 18 = .ok (.ireturn, 1) := by decide +kernel
set_option maxRecDepth 20000 in
theorem ggX1_findReach_X2_hasOther : GoodIn wsX1_findReach wsX2_hasOther := goodIn_r _ [12, 13, 22, 23, 24, 25, 26, 27, 28, 29, 30] rfl aw_wsX2_hasOther
set_option maxRecDepth 20000 in
theorem gX1_findReach_X2_hasOther : GoodIn wsX1_findReach (wsV RX1 48 RX2 yX2_hasOther wsX2_hasOther) := goodIn_app (goodIn_r _ [8, 9, 10, 11] rfl (by decide +kernel)) ggX1_findReach_X2_hasOther
set_option maxRecDepth 20000 in
theorem ggX1_findReach_X1_leads : GoodIn wsX1_findReach wsX1_leads := goodIn_r _ [18, 1, 19, 20, 21] rfl aw_wsX1_leads
set_option maxRecDepth 20000 in
theorem gX1_findReach_X1_leads : GoodIn wsX1_findReach (wsV RX1 70 RX1 yX1_leads wsX1_leads) := goodIn_app (goodIn_r _ [14, 15, 16, 17] rfl (by decide +kernel)) ggX1_findReach_X1_leads
theorem dX1_findReach_0 : decode cX1_findReach 0 = .ok (.iconst 0, 1) := by decide +kernel
theorem dX1_findReach_1 : decode cX1_findReach 1 = .ok (.istore_n 1, 1) := by decide +kernel
theorem dX1_findReach_2 : decode cX1_findReach 2 = .ok (.iload_n 1, 1) := by decide +kernel
theorem dX1_findReach_3 : decode cX1_findReach 3 = .ok (.iconst 4, 1) := by decide +kernel
theorem dX1_findReach_4 : decode cX1_findReach 4 = .ok (.if_icmp .ge 18, 3) := by decide +kernel
theorem dX1_findReach_7 : decode cX1_findReach 7 = .ok (.aload_n 0, 1) := by decide +kernel
theorem dX1_findReach_8 : decode cX1_findReach 8 = .ok (.getfield 15, 3) := by decide +kernel
theorem dX1_findReach_11 : decode cX1_findReach 11 = .ok (.iload_n 1, 1) := by decide +kernel
theorem dX1_findReach_12 : decode cX1_findReach 12 = .ok (.iconst 1, 1) := by decide +kernel
theorem dX1_findReach_13 : decode cX1_findReach 13 = .ok (.iload_n 1, 1) := by decide +kernel
theorem dX1_findReach_14 : decode cX1_findReach 14 = .ok (.ishl, 1) := by decide +kernel
theorem dX1_findReach_15 : decode cX1_findReach 15 = .ok (.iastore, 1) := by decide +kernel
theorem dX1_findReach_16 : decode cX1_findReach 16 = .ok (.iinc 1 1, 3) := by decide +kernel
theorem dX1_findReach_19 : decode cX1_findReach 19 = .ok (.goto (-17), 3) := by decide +kernel
theorem dX1_findReach_22 : decode cX1_findReach 22 = .ok (.iconst 0, 1) := by decide +kernel
theorem dX1_findReach_23 : decode cX1_findReach 23 = .ok (.istore_n 1, 1) := by decide +kernel
theorem dX1_findReach_24 : decode cX1_findReach 24 = .ok (.iload_n 1, 1) := by decide +kernel
theorem dX1_findReach_25 : decode cX1_findReach 25 = .ok (.iconst 4, 1) := by decide +kernel
theorem dX1_findReach_26 : decode cX1_findReach 26 = .ok (.if_icmp .ge 124, 3) := by decide +kernel
theorem dX1_findReach_29 : decode cX1_findReach 29 = .ok (.iconst 0, 1) := by decide +kernel
theorem dX1_findReach_30 : decode cX1_findReach 30 = .ok (.istore_n 2, 1) := by decide +kernel
theorem dX1_findReach_31 : decode cX1_findReach 31 = .ok (.iload_n 2, 1) := by decide +kernel
theorem dX1_findReach_32 : decode cX1_findReach 32 = .ok (.aload_n 0, 1) := by decide +kernel
theorem dX1_findReach_33 : decode cX1_findReach 33 = .ok (.getfield 18, 3) := by decide +kernel
theorem dX1_findReach_36 : decode cX1_findReach 36 = .ok (.getfield 67, 3) := by decide +kernel
theorem dX1_findReach_39 : decode cX1_findReach 39 = .ok (.if_icmp .ge 105, 3) := by decide +kernel
theorem dX1_findReach_42 : decode cX1_findReach 42 = .ok (.iconst 0, 1) := by decide +kernel
theorem dX1_findReach_43 : decode cX1_findReach 43 = .ok (.istore_n 3, 1) := by decide +kernel
theorem dX1_findReach_44 : decode cX1_findReach 44 = .ok (.iload_n 3, 1) := by decide +kernel
theorem dX1_findReach_45 : decode cX1_findReach 45 = .ok (.aload_n 0, 1) := by decide +kernel
theorem dX1_findReach_46 : decode cX1_findReach 46 = .ok (.getfield 18, 3) := by decide +kernel
theorem dX1_findReach_49 : decode cX1_findReach 49 = .ok (.getfield 32, 3) := by decide +kernel
theorem dX1_findReach_52 : decode cX1_findReach 52 = .ok (.if_icmp .ge 86, 3) := by decide +kernel
theorem dX1_findReach_55 : decode cX1_findReach 55 = .ok (.aload_n 0, 1) := by decide +kernel
theorem dX1_findReach_56 : decode cX1_findReach 56 = .ok (.getfield 18, 3) := by decide +kernel
theorem dX1_findReach_59 : decode cX1_findReach 59 = .ok (.iload_n 3, 1) := by decide +kernel
theorem dX1_findReach_60 : decode cX1_findReach 60 = .ok (.invokevirtual 48, 3) := by decide +kernel
theorem dX1_findReach_63 : decode cX1_findReach 63 = .ok (.ifCond .eq 24, 3) := by decide +kernel
theorem dX1_findReach_66 : decode cX1_findReach 66 = .ok (.aload_n 0, 1) := by decide +kernel
theorem dX1_findReach_67 : decode cX1_findReach 67 = .ok (.iload_n 2, 1) := by decide +kernel
theorem dX1_findReach_68 : decode cX1_findReach 68 = .ok (.aload_n 0, 1) := by decide +kernel
theorem dX1_findReach_69 : decode cX1_findReach 69 = .ok (.getfield 18, 3) := by decide +kernel
theorem dX1_findReach_72 : decode cX1_findReach 72 = .ok (.getfield 52, 3) := by decide +kernel
theorem dX1_findReach_75 : decode cX1_findReach 75 = .ok (.iload_n 3, 1) := by decide +kernel
theorem dX1_findReach_76 : decode cX1_findReach 76 = .ok (.iaload, 1) := by decide +kernel
theorem dX1_findReach_77 : decode cX1_findReach 77 = .ok (.invokevirtual 70, 3) := by decide +kernel
theorem dX1_findReach_80 : decode cX1_findReach 80 = .ok (.ifCond .eq 7, 3) := by decide +kernel
theorem dX1_findReach_83 : decode cX1_findReach 83 = .ok (.iconst 1, 1) := by decide +kernel
theorem dX1_findReach_84 : decode cX1_findReach 84 = .ok (.goto 4, 3) := by decide +kernel
theorem dX1_findReach_87 : decode cX1_findReach 87 = .ok (.iconst 0, 1) := by decide +kernel
theorem dX1_findReach_88 : decode cX1_findReach 88 = .ok (.istore 4, 2) := by decide +kernel
theorem dX1_findReach_90 : decode cX1_findReach 90 = .ok (.iload 4, 2) := by decide +kernel
theorem dX1_findReach_92 : decode cX1_findReach 92 = .ok (.ifCond .ne 20, 3) := by decide +kernel
theorem dX1_findReach_95 : decode cX1_findReach 95 = .ok (.aload_n 0, 1) := by decide +kernel
theorem dX1_findReach_96 : decode cX1_findReach 96 = .ok (.iload_n 2, 1) := by decide +kernel
theorem dX1_findReach_97 : decode cX1_findReach 97 = .ok (.aload_n 0, 1) := by decide +kernel
theorem dX1_findReach_98 : decode cX1_findReach 98 = .ok (.getfield 18, 3) := by decide +kernel
theorem dX1_findReach_101 : decode cX1_findReach 101 = .ok (.getfield 45, 3) := by decide +kernel
theorem dX1_findReach_104 : decode cX1_findReach 104 = .ok (.iload_n 3, 1) := by decide +kernel
theorem dX1_findReach_105 : decode cX1_findReach 105 = .ok (.iaload, 1) := by decide +kernel
theorem dX1_findReach_106 : decode cX1_findReach 106 = .ok (.invokevirtual 70, 3) := by decide +kernel
theorem dX1_findReach_109 : decode cX1_findReach 109 = .ok (.ifCond .eq 23, 3) := by decide +kernel
theorem dX1_findReach_112 : decode cX1_findReach 112 = .ok (.aload_n 0, 1) := by decide +kernel
theorem dX1_findReach_113 : decode cX1_findReach 113 = .ok (.getfield 15, 3) := by decide +kernel
theorem dX1_findReach_116 : decode cX1_findReach 116 = .ok (.iload_n 2, 1) := by decide +kernel
theorem dX1_findReach_117 : decode cX1_findReach 117 = .ok (.dup2, 1) := by decide +kernel
theorem dX1_findReach_118 : decode cX1_findReach 118 = .ok (.iaload, 1) := by decide +kernel
theorem dX1_findReach_119 : decode cX1_findReach 119 = .ok (.iconst 1, 1) := by decide +kernel
theorem dX1_findReach_120 : decode cX1_findReach 120 = .ok (.aload_n 0, 1) := by decide +kernel
theorem dX1_findReach_121 : decode cX1_findReach 121 = .ok (.getfield 18, 3) := by decide +kernel
theorem dX1_findReach_124 : decode cX1_findReach 124 = .ok (.getfield 42, 3) := by decide +kernel
theorem dX1_findReach_127 : decode cX1_findReach 127 = .ok (.iload_n 3, 1) := by decide +kernel
theorem dX1_findReach_128 : decode cX1_findReach 128 = .ok (.iaload, 1) := by decide +kernel
theorem dX1_findReach_129 : decode cX1_findReach 129 = .ok (.ishl, 1) := by decide +kernel
theorem dX1_findReach_130 : decode cX1_findReach 130 = .ok (.ior, 1) := by decide +kernel
theorem dX1_findReach_131 : decode cX1_findReach 131 = .ok (.iastore, 1) := by decide +kernel
theorem dX1_findReach_132 : decode cX1_findReach 132 = .ok (.iinc 3 1, 3) := by decide +kernel
theorem dX1_findReach_135 : decode cX1_findReach 135 = .ok (.goto (-91), 3) := by decide +kernel
theorem dX1_findReach_138 : decode cX1_findReach 138 = .ok (.iinc 2 1, 3) := by decide +kernel
theorem dX1_findReach_141 : decode cX1_findReach 141 = .ok (.goto (-110), 3) := by decide +kernel
theorem dX1_findReach_144 : decode cX1_findReach 144 = .ok (.iinc 1 1, 3) := by decide +kernel
theorem dX1_findReach_147 : decode cX1_findReach 147 = .ok (.goto (-123), 3) := by decide +kernel
theorem dX1_findReach_150 : decode cX1_findReach 150 = .ok (.return_, 1) := by decide +kernel
theorem dX3_init_0 : decode cX3_init 0 = .ok (.aload_n 0, 1) := by decide +kernel
theorem dX3_init_1 : decode cX3_init 1 = .ok (.invokespecial 3, 3) := by decide +kernel
theorem dX3_init_4 : decode cX3_init 4 = .ok (.aload_n 0, 1) := by decide +kernel
theorem dX3_init_5 : decode cX3_init 5 = .ok (.iconst 4, 1) := by decide +kernel
theorem dX3_init_6 : decode cX3_init 6 = .ok (.newarray .int, 2) := by decide +kernel
theorem dX3_init_8 : decode cX3_init 8 = .ok (.putfield 9, 3) := by decide +kernel
theorem dX3_init_11 : decode cX3_init 11 = .ok (.aload_n 0, 1) := by decide +kernel
theorem dX3_init_12 : decode cX3_init 12 = .ok (.iconst 4, 1) := by decide +kernel
theorem dX3_init_13 : decode cX3_init 13 = .ok (.newarray .int, 2) := by decide +kernel
theorem dX3_init_15 : decode cX3_init 15 = .ok (.putfield 15, 3) := by decide +kernel
theorem dX3_init_18 : decode cX3_init 18 = .ok (.aload_n 0, 1) := by decide +kernel
theorem dX3_init_19 : decode cX3_init 19 = .ok (.bipush 64, 2) := by decide +kernel
theorem dX3_init_21 : decode cX3_init 21 = .ok (.newarray .int, 2) := by decide +kernel
theorem dX3_init_23 : decode cX3_init 23 = .ok (.putfield 18, 3) := by decide +kernel
theorem dX3_init_26 : decode cX3_init 26 = .ok (.aload_n 0, 1) := by decide +kernel
theorem dX3_init_27 : decode cX3_init 27 = .ok (.aload_n 1, 1) := by decide +kernel
theorem dX3_init_28 : decode cX3_init 28 = .ok (.putfield 21, 3) := by decide +kernel
theorem dX3_init_31 : decode cX3_init 31 = .ok (.aload_n 0, 1) := by decide +kernel
theorem dX3_init_32 : decode cX3_init 32 = .ok (.aload_n 2, 1) := by decide +kernel
theorem dX3_init_33 : decode cX3_init 33 = .ok (.putfield 25, 3) := by decide +kernel
theorem dX3_init_36 : decode cX3_init 36 = .ok (.return_, 1) := by decide +kernel
set_option maxRecDepth 20000 in
theorem ggX3_run_J7_fill_53178 : GoodIn wsX3_run wsJ7_fill_53178 := goodIn_r _ [10] rfl aw_wsJ7_fill_53178
set_option maxRecDepth 20000 in
theorem gX3_run_J7_fill_53178 : GoodIn wsX3_run (va_wsS RX3 29 yJ7_fill_53178 wsJ7_fill_53178) := goodIn_app (goodIn_r _ [7, 8, 9] rfl (by decide +kernel)) ggX3_run_J7_fill_53178
set_option maxRecDepth 20000 in
theorem aw_wsX3_hold : wsX3_hold.all goodWord = true := by decide +kernel
set_option maxRecDepth 20000 in
theorem ggX3_run_X3_hold : GoodIn wsX3_run wsX3_hold := goodIn_r _ [15, 2, 1, 43, 44, 45, 46, 47, 48] rfl aw_wsX3_hold
set_option maxRecDepth 20000 in
theorem gX3_run_X3_hold : GoodIn wsX3_run (wsV RX3 47 RX3 yX3_hold wsX3_hold) := goodIn_app (goodIn_r _ [11, 12, 13, 14] rfl (by decide +kernel)) ggX3_run_X3_hold
set_option maxRecDepth 20000 in
theorem aw_wsX3_isRoundIn : wsX3_isRoundIn.all goodWord = true := by decide +kernel
set_option maxRecDepth 20000 in
theorem ggX3_run_X3_isRoundIn : GoodIn wsX3_run wsX3_isRoundIn := goodIn_r _ [19, 20, 4, 21, 22, 23, 24, 2, 5, 3, 7, 8, 9, 10, 25, 26, 27, 14, 28, 29, 30, 31, 32, 33, 34, 35, 36, 37, 38, 39, 40, 41, 42, 11, 12, 13, 15, 1, 43, 44, 45, 46, 47, 48, 49, 50, 51, 52, 53, 54, 55, 56, 57, 58, 59, 60] rfl aw_wsX3_isRoundIn
set_option maxRecDepth 20000 in
theorem gX3_run_X3_isRoundIn : GoodIn wsX3_run (wsV RX3 51 RX3 yX3_isRoundIn wsX3_isRoundIn) := goodIn_app (goodIn_r _ [16, 17, 18, 14] rfl (by decide +kernel)) ggX3_run_X3_isRoundIn
theorem dX3_run_0 : decode cX3_run 0 = .ok (.aload_n 0, 1) := by decide +kernel
theorem dX3_run_1 : decode cX3_run 1 = .ok (.getfield 18, 3) := by decide +kernel
theorem dX3_run_4 : decode cX3_run 4 = .ok (.bipush (-9), 2) := by decide +kernel
theorem dX3_run_6 : decode cX3_run 6 = .ok (.invokestatic 29, 3) := by decide +kernel
theorem dX3_run_9 : decode cX3_run 9 = .ok (.aload_n 0, 1) := by decide +kernel
theorem dX3_run_10 : decode cX3_run 10 = .ok (.getfield 9, 3) := by decide +kernel
theorem dX3_run_13 : decode cX3_run 13 = .ok (.iconst 0, 1) := by decide +kernel
theorem dX3_run_14 : decode cX3_run 14 = .ok (.invokestatic 29, 3) := by decide +kernel
theorem dX3_run_17 : decode cX3_run 17 = .ok (.aload_n 0, 1) := by decide +kernel
theorem dX3_run_18 : decode cX3_run 18 = .ok (.iconst 0, 1) := by decide +kernel
theorem dX3_run_19 : decode cX3_run 19 = .ok (.putfield 35, 3) := by decide +kernel
theorem dX3_run_22 : decode cX3_run 22 = .ok (.iconst 0, 1) := by decide +kernel
theorem dX3_run_23 : decode cX3_run 23 = .ok (.istore_n 1, 1) := by decide +kernel
theorem dX3_run_24 : decode cX3_run 24 = .ok (.iload_n 1, 1) := by decide +kernel
theorem dX3_run_25 : decode cX3_run 25 = .ok (.aload_n 0, 1) := by decide +kernel
theorem dX3_run_26 : decode cX3_run 26 = .ok (.getfield 21, 3) := by decide +kernel
theorem dX3_run_29 : decode cX3_run 29 = .ok (.getfield 39, 3) := by decide +kernel
theorem dX3_run_32 : decode cX3_run 32 = .ok (.if_icmp .ge 24, 3) := by decide +kernel
theorem dX3_run_35 : decode cX3_run 35 = .ok (.aload_n 0, 1) := by decide +kernel
theorem dX3_run_36 : decode cX3_run 36 = .ok (.iload_n 1, 1) := by decide +kernel
theorem dX3_run_37 : decode cX3_run 37 = .ok (.aload_n 0, 1) := by decide +kernel
theorem dX3_run_38 : decode cX3_run 38 = .ok (.getfield 21, 3) := by decide +kernel
theorem dX3_run_41 : decode cX3_run 41 = .ok (.getfield 44, 3) := by decide +kernel
theorem dX3_run_44 : decode cX3_run 44 = .ok (.iload_n 1, 1) := by decide +kernel
theorem dX3_run_45 : decode cX3_run 45 = .ok (.iaload, 1) := by decide +kernel
theorem dX3_run_46 : decode cX3_run 46 = .ok (.iconst 0, 1) := by decide +kernel
theorem dX3_run_47 : decode cX3_run 47 = .ok (.invokevirtual 47, 3) := by decide +kernel
theorem dX3_run_50 : decode cX3_run 50 = .ok (.iinc 1 1, 3) := by decide +kernel
theorem dX3_run_53 : decode cX3_run 53 = .ok (.goto (-29), 3) := by decide +kernel
theorem dX3_run_56 : decode cX3_run 56 = .ok (.iconst 0, 1) := by decide +kernel
theorem dX3_run_57 : decode cX3_run 57 = .ok (.istore_n 1, 1) := by decide +kernel
theorem dX3_run_58 : decode cX3_run 58 = .ok (.iload_n 1, 1) := by decide +kernel
theorem dX3_run_59 : decode cX3_run 59 = .ok (.iconst 4, 1) := by decide +kernel
theorem dX3_run_60 : decode cX3_run 60 = .ok (.if_icmp .ge 35, 3) := by decide +kernel
theorem dX3_run_63 : decode cX3_run 63 = .ok (.iconst 1, 1) := by decide +kernel
theorem dX3_run_64 : decode cX3_run 64 = .ok (.istore_n 2, 1) := by decide +kernel
theorem dX3_run_65 : decode cX3_run 65 = .ok (.iconst 0, 1) := by decide +kernel
theorem dX3_run_66 : decode cX3_run 66 = .ok (.istore_n 3, 1) := by decide +kernel
theorem dX3_run_67 : decode cX3_run 67 = .ok (.iload_n 3, 1) := by decide +kernel
theorem dX3_run_68 : decode cX3_run 68 = .ok (.bipush 64, 2) := by decide +kernel
theorem dX3_run_70 : decode cX3_run 70 = .ok (.if_icmp .gt 19, 3) := by decide +kernel
theorem dX3_run_73 : decode cX3_run 73 = .ok (.iload_n 2, 1) := by decide +kernel
theorem dX3_run_74 : decode cX3_run 74 = .ok (.ifCond .eq 15, 3) := by decide +kernel
theorem dX3_run_77 : decode cX3_run 77 = .ok (.aload_n 0, 1) := by decide +kernel
theorem dX3_run_78 : decode cX3_run 78 = .ok (.iload_n 1, 1) := by decide +kernel
theorem dX3_run_79 : decode cX3_run 79 = .ok (.invokevirtual 51, 3) := by decide +kernel
theorem dX3_run_82 : decode cX3_run 82 = .ok (.istore_n 2, 1) := by decide +kernel
theorem dX3_run_83 : decode cX3_run 83 = .ok (.iinc 3 1, 3) := by decide +kernel
theorem dX3_run_86 : decode cX3_run 86 = .ok (.goto (-19), 3) := by decide +kernel
theorem dX3_run_89 : decode cX3_run 89 = .ok (.iinc 1 1, 3) := by decide +kernel
theorem dX3_run_92 : decode cX3_run 92 = .ok (.goto (-34), 3) := by decide +kernel
theorem dX3_run_95 : decode cX3_run 95 = .ok (.return_, 1) := by decide +kernel
theorem dX3_hold_0 : decode cX3_hold 0 = .ok (.aload_n 0, 1) := by decide +kernel
theorem dX3_hold_1 : decode cX3_hold 1 = .ok (.getfield 9, 3) := by decide +kernel
theorem dX3_hold_4 : decode cX3_hold 4 = .ok (.iload_n 1, 1) := by decide +kernel
theorem dX3_hold_5 : decode cX3_hold 5 = .ok (.dup2, 1) := by decide +kernel
theorem dX3_hold_6 : decode cX3_hold 6 = .ok (.iaload, 1) := by decide +kernel
theorem dX3_hold_7 : decode cX3_hold 7 = .ok (.iload_n 2, 1) := by decide +kernel
theorem dX3_hold_8 : decode cX3_hold 8 = .ok (.ior, 1) := by decide +kernel
theorem dX3_hold_9 : decode cX3_hold 9 = .ok (.iastore, 1) := by decide +kernel
theorem dX3_hold_10 : decode cX3_hold 10 = .ok (.iconst 0, 1) := by decide +kernel
theorem dX3_hold_11 : decode cX3_hold 11 = .ok (.istore 4, 2) := by decide +kernel
theorem dX3_hold_13 : decode cX3_hold 13 = .ok (.iload 4, 2) := by decide +kernel
theorem dX3_hold_15 : decode cX3_hold 15 = .ok (.bipush 16, 2) := by decide +kernel
theorem dX3_hold_17 : decode cX3_hold 17 = .ok (.if_icmp .ge 31, 3) := by decide +kernel
theorem dX3_hold_20 : decode cX3_hold 20 = .ok (.iload_n 2, 1) := by decide +kernel
theorem dX3_hold_21 : decode cX3_hold 21 = .ok (.iload 4, 2) := by decide +kernel
theorem dX3_hold_23 : decode cX3_hold 23 = .ok (.ishr, 1) := by decide +kernel
theorem dX3_hold_24 : decode cX3_hold 24 = .ok (.iconst 1, 1) := by decide +kernel
theorem dX3_hold_25 : decode cX3_hold 25 = .ok (.iand, 1) := by decide +kernel
theorem dX3_hold_26 : decode cX3_hold 26 = .ok (.ifCond .eq 16, 3) := by decide +kernel
theorem dX3_hold_29 : decode cX3_hold 29 = .ok (.aload_n 0, 1) := by decide +kernel
theorem dX3_hold_30 : decode cX3_hold 30 = .ok (.getfield 18, 3) := by decide +kernel
theorem dX3_hold_33 : decode cX3_hold 33 = .ok (.bipush 16, 2) := by decide +kernel
theorem dX3_hold_35 : decode cX3_hold 35 = .ok (.iload_n 1, 1) := by decide +kernel
theorem dX3_hold_36 : decode cX3_hold 36 = .ok (.imul, 1) := by decide +kernel
theorem dX3_hold_37 : decode cX3_hold 37 = .ok (.iload 4, 2) := by decide +kernel
theorem dX3_hold_39 : decode cX3_hold 39 = .ok (.iadd, 1) := by decide +kernel
theorem dX3_hold_40 : decode cX3_hold 40 = .ok (.iload_n 3, 1) := by decide +kernel
theorem dX3_hold_41 : decode cX3_hold 41 = .ok (.iastore, 1) := by decide +kernel
theorem dX3_hold_42 : decode cX3_hold 42 = .ok (.iinc 4 1, 3) := by decide +kernel
theorem dX3_hold_45 : decode cX3_hold 45 = .ok (.goto (-32), 3) := by decide +kernel
theorem dX3_hold_48 : decode cX3_hold 48 = .ok (.return_, 1) := by decide +kernel
set_option maxRecDepth 20000 in
theorem ggX3_isRoundIn_J7_fill_53178 : GoodIn wsX3_isRoundIn wsJ7_fill_53178 := goodIn_r _ [13] rfl aw_wsJ7_fill_53178
set_option maxRecDepth 20000 in
theorem gX3_isRoundIn_J7_fill_53178 : GoodIn wsX3_isRoundIn (va_wsS RX3 29 yJ7_fill_53178 wsJ7_fill_53178) := goodIn_app (goodIn_r _ [10, 11, 12] rfl (by decide +kernel)) ggX3_isRoundIn_J7_fill_53178
set_option maxRecDepth 20000 in
theorem aw_wsX3_followBy : wsX3_followBy.all goodWord = true := by decide +kernel
set_option maxRecDepth 20000 in
theorem ggX3_isRoundIn_X3_followBy : GoodIn wsX3_isRoundIn wsX3_followBy := goodIn_r _ [18, 7, 2, 19, 20, 21, 22, 23, 17, 24, 25, 26, 27, 28, 29, 30, 31, 32, 38, 39, 40, 41, 42, 43, 44, 45, 46, 47, 48, 49, 50, 51, 52] rfl aw_wsX3_followBy
set_option maxRecDepth 20000 in
theorem gX3_isRoundIn_X3_followBy : GoodIn wsX3_isRoundIn (wsV RX3 66 RX3 yX3_followBy wsX3_followBy) := goodIn_app (goodIn_r _ [14, 15, 16, 17] rfl (by decide +kernel)) ggX3_isRoundIn_X3_followBy
set_option maxRecDepth 20000 in
theorem ggX3_isRoundIn_X3_hold : GoodIn wsX3_isRoundIn wsX3_hold := goodIn_r _ [36, 7, 37, 38, 39, 40, 41, 42, 43] rfl aw_wsX3_hold
set_option maxRecDepth 20000 in
theorem gX3_isRoundIn_X3_hold : GoodIn wsX3_isRoundIn (wsV RX3 47 RX3 yX3_hold wsX3_hold) := goodIn_app (goodIn_r _ [33, 34, 35, 17] rfl (by decide +kernel)) ggX3_isRoundIn_X3_hold
theorem dX3_isRoundIn_0 : decode cX3_isRoundIn 0 = .ok (.aload_n 0, 1) := by decide +kernel
theorem dX3_isRoundIn_1 : decode cX3_isRoundIn 1 = .ok (.getfield 15, 3) := by decide +kernel
theorem dX3_isRoundIn_4 : decode cX3_isRoundIn 4 = .ok (.iconst 0, 1) := by decide +kernel
theorem dX3_isRoundIn_5 : decode cX3_isRoundIn 5 = .ok (.invokestatic 29, 3) := by decide +kernel
theorem dX3_isRoundIn_8 : decode cX3_isRoundIn 8 = .ok (.iconst 0, 1) := by decide +kernel
theorem dX3_isRoundIn_9 : decode cX3_isRoundIn 9 = .ok (.istore_n 2, 1) := by decide +kernel
theorem dX3_isRoundIn_10 : decode cX3_isRoundIn 10 = .ok (.iload_n 2, 1) := by decide +kernel
theorem dX3_isRoundIn_11 : decode cX3_isRoundIn 11 = .ok (.aload_n 0, 1) := by decide +kernel
theorem dX3_isRoundIn_12 : decode cX3_isRoundIn 12 = .ok (.getfield 21, 3) := by decide +kernel
theorem dX3_isRoundIn_15 : decode cX3_isRoundIn 15 = .ok (.getfield 55, 3) := by decide +kernel
theorem dX3_isRoundIn_18 : decode cX3_isRoundIn 18 = .ok (.if_icmp .ge 55, 3) := by decide +kernel
theorem dX3_isRoundIn_21 : decode cX3_isRoundIn 21 = .ok (.aload_n 0, 1) := by decide +kernel
theorem dX3_isRoundIn_22 : decode cX3_isRoundIn 22 = .ok (.getfield 21, 3) := by decide +kernel
theorem dX3_isRoundIn_25 : decode cX3_isRoundIn 25 = .ok (.getfield 58, 3) := by decide +kernel
theorem dX3_isRoundIn_28 : decode cX3_isRoundIn 28 = .ok (.iload_n 2, 1) := by decide +kernel
theorem dX3_isRoundIn_29 : decode cX3_isRoundIn 29 = .ok (.iaload, 1) := by decide +kernel
theorem dX3_isRoundIn_30 : decode cX3_isRoundIn 30 = .ok (.istore_n 3, 1) := by decide +kernel
theorem dX3_isRoundIn_31 : decode cX3_isRoundIn 31 = .ok (.aload_n 0, 1) := by decide +kernel
theorem dX3_isRoundIn_32 : decode cX3_isRoundIn 32 = .ok (.getfield 25, 3) := by decide +kernel
theorem dX3_isRoundIn_35 : decode cX3_isRoundIn 35 = .ok (.getfield 61, 3) := by decide +kernel
theorem dX3_isRoundIn_38 : decode cX3_isRoundIn 38 = .ok (.iload_n 3, 1) := by decide +kernel
theorem dX3_isRoundIn_39 : decode cX3_isRoundIn 39 = .ok (.iaload, 1) := by decide +kernel
theorem dX3_isRoundIn_40 : decode cX3_isRoundIn 40 = .ok (.iload_n 1, 1) := by decide +kernel
theorem dX3_isRoundIn_41 : decode cX3_isRoundIn 41 = .ok (.if_icmp .ne 26, 3) := by decide +kernel
theorem dX3_isRoundIn_44 : decode cX3_isRoundIn 44 = .ok (.aload_n 0, 1) := by decide +kernel
theorem dX3_isRoundIn_45 : decode cX3_isRoundIn 45 = .ok (.getfield 15, 3) := by decide +kernel
theorem dX3_isRoundIn_48 : decode cX3_isRoundIn 48 = .ok (.iload_n 3, 1) := by decide +kernel
theorem dX3_isRoundIn_49 : decode cX3_isRoundIn 49 = .ok (.dup2, 1) := by decide +kernel
theorem dX3_isRoundIn_50 : decode cX3_isRoundIn 50 = .ok (.iaload, 1) := by decide +kernel
theorem dX3_isRoundIn_51 : decode cX3_isRoundIn 51 = .ok (.aload_n 0, 1) := by decide +kernel
theorem dX3_isRoundIn_52 : decode cX3_isRoundIn 52 = .ok (.iload_n 2, 1) := by decide +kernel
theorem dX3_isRoundIn_53 : decode cX3_isRoundIn 53 = .ok (.invokevirtual 66, 3) := by decide +kernel
theorem dX3_isRoundIn_56 : decode cX3_isRoundIn 56 = .ok (.aload_n 0, 1) := by decide +kernel
theorem dX3_isRoundIn_57 : decode cX3_isRoundIn 57 = .ok (.getfield 9, 3) := by decide +kernel
theorem dX3_isRoundIn_60 : decode cX3_isRoundIn 60 = .ok (.iload_n 3, 1) := by decide +kernel
theorem dX3_isRoundIn_61 : decode cX3_isRoundIn 61 = .ok (.iaload, 1) := by decide +kernel
theorem dX3_isRoundIn_62 : decode cX3_isRoundIn 62 = .ok (.iconst (-1), 1) := by decide +kernel
theorem dX3_isRoundIn_63 : decode cX3_isRoundIn 63 = .ok (.ixor, 1) := by decide +kernel
theorem dX3_isRoundIn_64 : decode cX3_isRoundIn 64 = .ok (.iand, 1) := by decide +kernel
theorem dX3_isRoundIn_65 : decode cX3_isRoundIn 65 = .ok (.ior, 1) := by decide +kernel
theorem dX3_isRoundIn_66 : decode cX3_isRoundIn 66 = .ok (.iastore, 1) := by decide +kernel
theorem dX3_isRoundIn_67 : decode cX3_isRoundIn 67 = .ok (.iinc 2 1, 3) := by decide +kernel
theorem dX3_isRoundIn_70 : decode cX3_isRoundIn 70 = .ok (.goto (-60), 3) := by decide +kernel
theorem dX3_isRoundIn_73 : decode cX3_isRoundIn 73 = .ok (.iconst 0, 1) := by decide +kernel
theorem dX3_isRoundIn_74 : decode cX3_isRoundIn 74 = .ok (.istore_n 2, 1) := by decide +kernel
theorem dX3_isRoundIn_75 : decode cX3_isRoundIn 75 = .ok (.iconst 0, 1) := by decide +kernel
theorem dX3_isRoundIn_76 : decode cX3_isRoundIn 76 = .ok (.istore_n 3, 1) := by decide +kernel
