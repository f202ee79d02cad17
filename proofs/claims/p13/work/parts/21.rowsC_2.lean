theorem dX6_init_47 : decode cX6_init 47 = .ok (.putfield 33, 3) := by decide +kernel
theorem dX6_init_50 : decode cX6_init 50 = .ok (.aload_n 0, 1) := by decide +kernel
theorem dX6_init_51 : decode cX6_init 51 = .ok (.aload_n 2, 1) := by decide +kernel
theorem dX6_init_52 : decode cX6_init 52 = .ok (.putfield 37, 3) := by decide +kernel
theorem dX6_init_55 : decode cX6_init 55 = .ok (.aload_n 0, 1) := by decide +kernel
theorem dX6_init_56 : decode cX6_init 56 = .ok (.aload_n 1, 1) := by decide +kernel
theorem dX6_init_57 : decode cX6_init 57 = .ok (.putfield 41, 3) := by decide +kernel
theorem dX6_init_60 : decode cX6_init 60 = .ok (.return_, 1) := by decide +kernel
set_option maxRecDepth 20000 in
theorem aw_wsX2_take : wsX2_take.all goodWord = true := by decide +kernel
set_option maxRecDepth 20000 in
theorem ggX6_take_X2_take : GoodIn wsX6_take wsX2_take := goodIn_r _ [7, 8, 9, 10, 11, 12, 13, 14, 15, 16, 17, 18, 19, 20, 26, 27, 28, 29, 30, 31, 32, 33, 34] rfl aw_wsX2_take
set_option maxRecDepth 20000 in
theorem gX6_take_X2_take : GoodIn wsX6_take (wsV RX6 45 RX2 yX2_take wsX2_take) := goodIn_app (goodIn_r _ [3, 4, 5, 6] rfl (by decide +kernel)) ggX6_take_X2_take
theorem dX6_take_0 : decode cX6_take 0 = .ok (.aload_n 0, 1) := by decide +kernel
theorem dX6_take_1 : decode cX6_take 1 = .ok (.getfield 41, 3) := by decide +kernel
theorem dX6_take_4 : decode cX6_take 4 = .ok (.aload_n 1, 1) := by decide +kernel
theorem dX6_take_5 : decode cX6_take 5 = .ok (.invokevirtual 45, 3) := by decide +kernel
theorem dX6_take_8 : decode cX6_take 8 = .ok (.aload_n 0, 1) := by decide +kernel
theorem dX6_take_9 : decode cX6_take 9 = .ok (.iconst 0, 1) := by decide +kernel
theorem dX6_take_10 : decode cX6_take 10 = .ok (.putfield 48, 3) := by decide +kernel
theorem dX6_take_13 : decode cX6_take 13 = .ok (.return_, 1) := by decide +kernel
set_option maxRecDepth 20000 in
theorem aw_wsX1_find : wsX1_find.all goodWord = true := by decide +kernel
set_option maxRecDepth 20000 in
theorem ggX6_settle_X1_find : GoodIn wsX6_settle wsX1_find := goodIn_r _ [9, 10, 11, 12, 13, 14, 15, 16, 17, 8, 18, 19, 20, 21, 22, 23, 24, 25, 26, 27, 28, 29, 30, 31, 32, 33, 34, 35, 36, 37, 38, 134, 135, 136, 137, 138, 139, 140, 141, 142, 143, 144, 145] rfl aw_wsX1_find
set_option maxRecDepth 20000 in
theorem gX6_settle_X1_find : GoodIn wsX6_settle (wsV RX6 52 RX1 yX1_find wsX1_find) := goodIn_app (goodIn_r _ [5, 6, 7, 8] rfl (by decide +kernel)) ggX6_settle_X1_find
set_option maxRecDepth 20000 in
theorem aw_wsX3_run : wsX3_run.all goodWord = true := by decide +kernel
set_option maxRecDepth 20000 in
theorem ggX6_settle_X3_run : GoodIn wsX6_settle wsX3_run := goodIn_r _ [43, 44, 45, 46, 47, 48, 49, 50, 12, 13, 14, 51, 52, 53, 42, 54, 55, 56, 57, 58, 59, 60, 61, 62, 63, 64, 65, 66, 67, 68, 69, 70, 71, 72, 73, 74, 75, 76, 77, 78, 79, 80, 81, 146, 147, 148, 149, 150, 151, 137, 138, 139, 140, 141, 142, 143, 144, 145, 134, 135, 136] rfl aw_wsX3_run
set_option maxRecDepth 20000 in
theorem gX6_settle_X3_run : GoodIn wsX6_settle (wsV RX6 56 RX3 yX3_run wsX3_run) := goodIn_app (goodIn_r _ [39, 40, 41, 42] rfl (by decide +kernel)) ggX6_settle_X3_run
set_option maxRecDepth 20000 in
theorem aw_wsX0_run : wsX0_run.all goodWord = true := by decide +kernel
set_option maxRecDepth 20000 in
theorem ggX6_settle_X0_run : GoodIn wsX6_settle wsX0_run := goodIn_r _ [86, 87, 88, 89, 90, 91, 92, 93, 36, 94, 95, 96, 97, 98, 85, 99, 100, 101, 102, 103, 104, 105, 106, 107, 108, 109, 110, 111, 31, 112, 113, 114, 115, 116, 117, 118, 119, 120, 121, 122, 123, 124, 125, 126, 127, 42, 128, 45, 74, 75, 76, 152, 153, 154, 155, 156, 157, 158, 137, 138, 139, 140, 141, 142, 143, 144, 145, 146, 147, 148, 149, 150, 151] rfl aw_wsX0_run
set_option maxRecDepth 20000 in
theorem gX6_settle_X0_run : GoodIn wsX6_settle (wsV RX6 59 RX0 yX0_run wsX0_run) := goodIn_app (goodIn_r _ [82, 83, 84, 85] rfl (by decide +kernel)) ggX6_settle_X0_run
theorem dX6_settle_0 : decode cX6_settle 0 = .ok (.aload_n 0, 1) := by decide +kernel
theorem dX6_settle_1 : decode cX6_settle 1 = .ok (.getfield 48, 3) := by decide +kernel
theorem dX6_settle_4 : decode cX6_settle 4 = .ok (.ifCond .eq 4, 3) := by decide +kernel
theorem dX6_settle_7 : decode cX6_settle 7 = .ok (.return_, 1) := by decide +kernel
theorem dX6_settle_8 : decode cX6_settle 8 = .ok (.aload_n 0, 1) := by decide +kernel
theorem dX6_settle_9 : decode cX6_settle 9 = .ok (.getfield 37, 3) := by decide +kernel
theorem dX6_settle_12 : decode cX6_settle 12 = .ok (.invokevirtual 52, 3) := by decide +kernel
theorem dX6_settle_15 : decode cX6_settle 15 = .ok (.pop, 1) := by decide +kernel
theorem dX6_settle_16 : decode cX6_settle 16 = .ok (.aload_n 0, 1) := by decide +kernel
theorem dX6_settle_17 : decode cX6_settle 17 = .ok (.getfield 33, 3) := by decide +kernel
theorem dX6_settle_20 : decode cX6_settle 20 = .ok (.invokevirtual 56, 3) := by decide +kernel
theorem dX6_settle_23 : decode cX6_settle 23 = .ok (.aload_n 0, 1) := by decide +kernel
theorem dX6_settle_24 : decode cX6_settle 24 = .ok (.getfield 27, 3) := by decide +kernel
theorem dX6_settle_27 : decode cX6_settle 27 = .ok (.invokevirtual 59, 3) := by decide +kernel
theorem dX6_settle_30 : decode cX6_settle 30 = .ok (.aload_n 0, 1) := by decide +kernel
theorem dX6_settle_31 : decode cX6_settle 31 = .ok (.iconst 1, 1) := by decide +kernel
theorem dX6_settle_32 : decode cX6_settle 32 = .ok (.putfield 48, 3) := by decide +kernel
theorem dX6_settle_35 : decode cX6_settle 35 = .ok (.return_, 1) := by decide +kernel
set_option maxRecDepth 20000 in
theorem ggX6_reforms_X1_find : GoodIn wsX6_reforms wsX1_find := goodIn_r _ [9, 10, 11, 12, 13, 14, 15, 16, 17, 8, 18, 19, 20, 21, 22, 23, 24, 25, 26, 27, 28, 29, 30, 31, 32, 33, 34, 35, 36, 37, 38, 53, 54, 55, 44, 45, 46, 47, 48, 49, 50, 51, 52] rfl aw_wsX1_find
set_option maxRecDepth 20000 in
theorem gX6_reforms_X1_find : GoodIn wsX6_reforms (wsV RX6 52 RX1 yX1_find wsX1_find) := goodIn_app (goodIn_r _ [5, 6, 7, 8] rfl (by decide +kernel)) ggX6_reforms_X1_find
theorem dX6_reforms_0 : decode cX6_reforms 0 = .ok (.aload_n 0, 1) := by decide +kernel
theorem dX6_reforms_1 : decode cX6_reforms 1 = .ok (.getfield 41, 3) := by decide +kernel
theorem dX6_reforms_4 : decode cX6_reforms 4 = .ok (.getfield 60, 3) := by decide +kernel
theorem dX6_reforms_7 : decode cX6_reforms 7 = .ok (.iload_n 1, 1) := by decide +kernel
theorem dX6_reforms_8 : decode cX6_reforms 8 = .ok (.iaload, 1) := by decide +kernel
theorem dX6_reforms_9 : decode cX6_reforms 9 = .ok (.istore_n 3, 1) := by decide +kernel
theorem dX6_reforms_10 : decode cX6_reforms 10 = .ok (.aload_n 0, 1) := by decide +kernel
theorem dX6_reforms_11 : decode cX6_reforms 11 = .ok (.getfield 41, 3) := by decide +kernel
theorem dX6_reforms_14 : decode cX6_reforms 14 = .ok (.getfield 60, 3) := by decide +kernel
theorem dX6_reforms_17 : decode cX6_reforms 17 = .ok (.iload_n 1, 1) := by decide +kernel
theorem dX6_reforms_18 : decode cX6_reforms 18 = .ok (.iload_n 2, 1) := by decide +kernel
theorem dX6_reforms_19 : decode cX6_reforms 19 = .ok (.iastore, 1) := by decide +kernel
theorem dX6_reforms_20 : decode cX6_reforms 20 = .ok (.aload_n 0, 1) := by decide +kernel
theorem dX6_reforms_21 : decode cX6_reforms 21 = .ok (.iconst 0, 1) := by decide +kernel
theorem dX6_reforms_22 : decode cX6_reforms 22 = .ok (.putfield 48, 3) := by decide +kernel
theorem dX6_reforms_25 : decode cX6_reforms 25 = .ok (.aload_n 0, 1) := by decide +kernel
theorem dX6_reforms_26 : decode cX6_reforms 26 = .ok (.getfield 37, 3) := by decide +kernel
theorem dX6_reforms_29 : decode cX6_reforms 29 = .ok (.invokevirtual 52, 3) := by decide +kernel
theorem dX6_reforms_32 : decode cX6_reforms 32 = .ok (.ifCond .eq 5, 3) := by decide +kernel
theorem dX6_reforms_35 : decode cX6_reforms 35 = .ok (.iconst 1, 1) := by decide +kernel
theorem dX6_reforms_36 : decode cX6_reforms 36 = .ok (.ireturn, 1) := by decide +kernel
theorem dX6_reforms_37 : decode cX6_reforms 37 = .ok (.aload_n 0, 1) := by decide +kernel
theorem dX6_reforms_38 : decode cX6_reforms 38 = .ok (.getfield 41, 3) := by decide +kernel
theorem dX6_reforms_41 : decode cX6_reforms 41 = .ok (.getfield 60, 3) := by decide +kernel
theorem dX6_reforms_44 : decode cX6_reforms 44 = .ok (.iload_n 1, 1) := by decide +kernel
theorem dX6_reforms_45 : decode cX6_reforms 45 = .ok (.iload_n 3, 1) := by decide +kernel
theorem dX6_reforms_46 : decode cX6_reforms 46 = .ok (.iastore, 1) := by decide +kernel
theorem dX6_reforms_47 : decode cX6_reforms 47 = .ok (.iconst 0, 1) := by decide +kernel
theorem dX6_reforms_48 : decode cX6_reforms 48 = .ok (.ireturn, 1) := by decide +kernel
theorem dX6_toggle_0 : decode cX6_toggle 0 = .ok (.iconst 1, 1) := by decide +kernel
theorem dX6_toggle_1 : decode cX6_toggle 1 = .ok (.iconst 4, 1) := by decide +kernel
theorem dX6_toggle_2 : decode cX6_toggle 2 = .ok (.iload_n 2, 1) := by decide +kernel
theorem dX6_toggle_3 : decode cX6_toggle 3 = .ok (.imul, 1) := by decide +kernel
theorem dX6_toggle_4 : decode cX6_toggle 4 = .ok (.iload_n 3, 1) := by decide +kernel
theorem dX6_toggle_5 : decode cX6_toggle 5 = .ok (.iadd, 1) := by decide +kernel
theorem dX6_toggle_6 : decode cX6_toggle 6 = .ok (.ishl, 1) := by decide +kernel
theorem dX6_toggle_7 : decode cX6_toggle 7 = .ok (.istore 4, 2) := by decide +kernel
theorem dX6_toggle_9 : decode cX6_toggle 9 = .ok (.aload_n 0, 1) := by decide +kernel
theorem dX6_toggle_10 : decode cX6_toggle 10 = .ok (.getfield 41, 3) := by decide +kernel
theorem dX6_toggle_13 : decode cX6_toggle 13 = .ok (.getfield 64, 3) := by decide +kernel
theorem dX6_toggle_16 : decode cX6_toggle 16 = .ok (.iload_n 1, 1) := by decide +kernel
theorem dX6_toggle_17 : decode cX6_toggle 17 = .ok (.dup2, 1) := by decide +kernel
theorem dX6_toggle_18 : decode cX6_toggle 18 = .ok (.iaload, 1) := by decide +kernel
theorem dX6_toggle_19 : decode cX6_toggle 19 = .ok (.iload 4, 2) := by decide +kernel
theorem dX6_toggle_21 : decode cX6_toggle 21 = .ok (.ixor, 1) := by decide +kernel
theorem dX6_toggle_22 : decode cX6_toggle 22 = .ok (.iastore, 1) := by decide +kernel
theorem dX6_toggle_23 : decode cX6_toggle 23 = .ok (.aload_n 0, 1) := by decide +kernel
theorem dX6_toggle_24 : decode cX6_toggle 24 = .ok (.iconst 0, 1) := by decide +kernel
theorem dX6_toggle_25 : decode cX6_toggle 25 = .ok (.putfield 48, 3) := by decide +kernel
theorem dX6_toggle_28 : decode cX6_toggle 28 = .ok (.aload_n 0, 1) := by decide +kernel
theorem dX6_toggle_29 : decode cX6_toggle 29 = .ok (.getfield 41, 3) := by decide +kernel
theorem dX6_toggle_32 : decode cX6_toggle 32 = .ok (.getfield 64, 3) := by decide +kernel
theorem dX6_toggle_35 : decode cX6_toggle 35 = .ok (.iload_n 1, 1) := by decide +kernel
theorem dX6_toggle_36 : decode cX6_toggle 36 = .ok (.iaload, 1) := by decide +kernel
theorem dX6_toggle_37 : decode cX6_toggle 37 = .ok (.iload 4, 2) := by decide +kernel
theorem dX6_toggle_39 : decode cX6_toggle 39 = .ok (.iand, 1) := by decide +kernel
theorem dX6_toggle_40 : decode cX6_toggle 40 = .ok (.ifCond .eq 7, 3) := by decide +kernel
theorem dX6_toggle_43 : decode cX6_toggle 43 = .ok (.iconst 1, 1) := by decide +kernel
theorem dX6_toggle_44 : decode cX6_toggle 44 = .ok (.goto 4, 3) := by decide +kernel
theorem dX6_toggle_47 : decode cX6_toggle 47 = .ok (.iconst 0, 1) := by decide +kernel
theorem dX6_toggle_48 : decode cX6_toggle 48 = .ok (.ireturn, 1) := by decide +kernel
set_option maxRecDepth 20000 in
theorem aw_wsX6_demandsBy : wsX6_demandsBy.all goodWord = true := by decide +kernel
set_option maxRecDepth 20000 in
theorem ggX6_demandsOf_X6_demandsBy : GoodIn wsX6_demandsOf wsX6_demandsBy := goodIn_r _ [7, 1, 8, 9, 10, 11, 12, 13, 14, 15, 16, 17, 6, 18, 19, 20, 21, 22, 23, 24, 25, 26, 27, 28, 29, 30, 31, 32, 33, 34, 35, 36, 37, 38, 39, 40] rfl aw_wsX6_demandsBy
set_option maxRecDepth 20000 in
theorem gX6_demandsOf_X6_demandsBy : GoodIn wsX6_demandsOf (wsV RX6 71 RX6 yX6_demandsBy wsX6_demandsBy) := goodIn_app (goodIn_r _ [3, 4, 5, 6] rfl (by decide +kernel)) ggX6_demandsOf_X6_demandsBy
theorem dX6_demandsOf_0 : decode cX6_demandsOf 0 = .ok (.iconst 1, 1) := by decide +kernel
theorem dX6_demandsOf_1 : decode cX6_demandsOf 1 = .ok (.iconst 4, 1) := by decide +kernel
theorem dX6_demandsOf_2 : decode cX6_demandsOf 2 = .ok (.iload_n 1, 1) := by decide +kernel
theorem dX6_demandsOf_3 : decode cX6_demandsOf 3 = .ok (.imul, 1) := by decide +kernel
theorem dX6_demandsOf_4 : decode cX6_demandsOf 4 = .ok (.iload_n 2, 1) := by decide +kernel
theorem dX6_demandsOf_5 : decode cX6_demandsOf 5 = .ok (.iadd, 1) := by decide +kernel
theorem dX6_demandsOf_6 : decode cX6_demandsOf 6 = .ok (.ishl, 1) := by decide +kernel
theorem dX6_demandsOf_7 : decode cX6_demandsOf 7 = .ok (.istore_n 3, 1) := by decide +kernel
theorem dX6_demandsOf_8 : decode cX6_demandsOf 8 = .ok (.iconst 1, 1) := by decide +kernel
theorem dX6_demandsOf_9 : decode cX6_demandsOf 9 = .ok (.istore 4, 2) := by decide +kernel
theorem dX6_demandsOf_11 : decode cX6_demandsOf 11 = .ok (.iconst 0, 1) := by decide +kernel
theorem dX6_demandsOf_12 : decode cX6_demandsOf 12 = .ok (.istore 5, 2) := by decide +kernel
theorem dX6_demandsOf_14 : decode cX6_demandsOf 14 = .ok (.iload 5, 2) := by decide +kernel
theorem dX6_demandsOf_16 : decode cX6_demandsOf 16 = .ok (.bipush 16, 2) := by decide +kernel
theorem dX6_demandsOf_18 : decode cX6_demandsOf 18 = .ok (.if_icmp .gt 66, 3) := by decide +kernel
theorem dX6_demandsOf_21 : decode cX6_demandsOf 21 = .ok (.iload 4, 2) := by decide +kernel
theorem dX6_demandsOf_23 : decode cX6_demandsOf 23 = .ok (.ifCond .eq 61, 3) := by decide +kernel
theorem dX6_demandsOf_26 : decode cX6_demandsOf 26 = .ok (.iload_n 3, 1) := by decide +kernel
theorem dX6_demandsOf_27 : decode cX6_demandsOf 27 = .ok (.istore 6, 2) := by decide +kernel
theorem dX6_demandsOf_29 : decode cX6_demandsOf 29 = .ok (.iconst 0, 1) := by decide +kernel
theorem dX6_demandsOf_30 : decode cX6_demandsOf 30 = .ok (.istore 7, 2) := by decide +kernel
theorem dX6_demandsOf_32 : decode cX6_demandsOf 32 = .ok (.iload 7, 2) := by decide +kernel
theorem dX6_demandsOf_34 : decode cX6_demandsOf 34 = .ok (.aload_n 0, 1) := by decide +kernel
theorem dX6_demandsOf_35 : decode cX6_demandsOf 35 = .ok (.getfield 41, 3) := by decide +kernel
theorem dX6_demandsOf_38 : decode cX6_demandsOf 38 = .ok (.getfield 67, 3) := by decide +kernel
theorem dX6_demandsOf_41 : decode cX6_demandsOf 41 = .ok (.if_icmp .ge 21, 3) := by decide +kernel
theorem dX6_demandsOf_44 : decode cX6_demandsOf 44 = .ok (.iload 6, 2) := by decide +kernel
theorem dX6_demandsOf_46 : decode cX6_demandsOf 46 = .ok (.aload_n 0, 1) := by decide +kernel
theorem dX6_demandsOf_47 : decode cX6_demandsOf 47 = .ok (.iload 7, 2) := by decide +kernel
theorem dX6_demandsOf_49 : decode cX6_demandsOf 49 = .ok (.iload_n 3, 1) := by decide +kernel
theorem dX6_demandsOf_50 : decode cX6_demandsOf 50 = .ok (.invokevirtual 71, 3) := by decide +kernel
theorem dX6_demandsOf_53 : decode cX6_demandsOf 53 = .ok (.ior, 1) := by decide +kernel
theorem dX6_demandsOf_54 : decode cX6_demandsOf 54 = .ok (.istore 6, 2) := by decide +kernel
theorem dX6_demandsOf_56 : decode cX6_demandsOf 56 = .ok (.iinc 7 1, 3) := by decide +kernel
theorem dX6_demandsOf_59 : decode cX6_demandsOf 59 = .ok (.goto (-27), 3) := by decide +kernel
theorem dX6_demandsOf_62 : decode cX6_demandsOf 62 = .ok (.iload 6, 2) := by decide +kernel
theorem dX6_demandsOf_64 : decode cX6_demandsOf 64 = .ok (.iload_n 3, 1) := by decide +kernel
theorem dX6_demandsOf_65 : decode cX6_demandsOf 65 = .ok (.if_icmp .eq 7, 3) := by decide +kernel
theorem dX6_demandsOf_68 : decode cX6_demandsOf 68 = .ok (.iconst 1, 1) := by decide +kernel
theorem dX6_demandsOf_69 : decode cX6_demandsOf 69 = .ok (.goto 4, 3) := by decide +kernel
theorem dX6_demandsOf_72 : decode cX6_demandsOf 72 = .ok (.iconst 0, 1) := by decide +kernel
theorem dX6_demandsOf_73 : decode cX6_demandsOf 73 = .ok (.istore 4, 2) := by decide +kernel
theorem dX6_demandsOf_75 : decode cX6_demandsOf 75 = .ok (.iload 6, 2) := by decide +kernel
theorem dX6_demandsOf_77 : decode cX6_demandsOf 77 = .ok (.istore_n 3, 1) := by decide +kernel
theorem dX6_demandsOf_78 : decode cX6_demandsOf 78 = .ok (.iinc 5 1, 3) := by decide +kernel
theorem dX6_demandsOf_81 : decode cX6_demandsOf 81 = .ok (.goto (-67), 3) := by decide +kernel
theorem dX6_demandsOf_84 : decode cX6_demandsOf 84 = .ok (.iload_n 3, 1) := by decide +kernel
theorem dX6_demandsOf_85 : decode cX6_demandsOf 85 = .ok (.ireturn, 1) := by decide +kernel
set_option maxRecDepth 20000 in
theorem ggX6_demandsBy_X7_rowOf : GoodIn wsX6_demandsBy wsX7_rowOf := goodIn_r _ [8] rfl aw_wsX7_rowOf
set_option maxRecDepth 20000 in
theorem gX6_demandsBy_X7_rowOf_n78 : GoodIn wsX6_demandsBy (wsX7_rowOf) := ggX6_demandsBy_X7_rowOf
set_option maxRecDepth 20000 in
theorem aw_wsX6_middles : wsX6_middles.all goodWord = true := by decide +kernel
set_option maxRecDepth 20000 in
theorem ggX6_demandsBy_X6_middles : GoodIn wsX6_demandsBy wsX6_middles := goodIn_r _ [13, 14, 15, 6, 7, 8, 16, 17, 18, 19, 20, 30, 31, 32, 33, 34, 35] rfl aw_wsX6_middles
set_option maxRecDepth 20000 in
theorem gX6_demandsBy_X6_middles : GoodIn wsX6_demandsBy (wsV RX6 87 RX6 yX6_middles wsX6_middles) := goodIn_app (goodIn_r _ [9, 10, 11, 12] rfl (by decide +kernel)) ggX6_demandsBy_X6_middles
theorem dX6_demandsBy_0 : decode cX6_demandsBy 0 = .ok (.iload_n 2, 1) := by decide +kernel
theorem dX6_demandsBy_1 : decode cX6_demandsBy 1 = .ok (.aload_n 0, 1) := by decide +kernel
theorem dX6_demandsBy_2 : decode cX6_demandsBy 2 = .ok (.getfield 41, 3) := by decide +kernel
theorem dX6_demandsBy_5 : decode cX6_demandsBy 5 = .ok (.getfield 75, 3) := by decide +kernel
theorem dX6_demandsBy_8 : decode cX6_demandsBy 8 = .ok (.iload_n 1, 1) := by decide +kernel
theorem dX6_demandsBy_9 : decode cX6_demandsBy 9 = .ok (.iaload, 1) := by decide +kernel
theorem dX6_demandsBy_10 : decode cX6_demandsBy 10 = .ok (.invokestatic 78, 3) := by decide +kernel
theorem dX6_demandsBy_13 : decode cX6_demandsBy 13 = .ok (.istore_n 3, 1) := by decide +kernel
theorem dX6_demandsBy_14 : decode cX6_demandsBy 14 = .ok (.iconst 4, 1) := by decide +kernel
theorem dX6_demandsBy_15 : decode cX6_demandsBy 15 = .ok (.aload_n 0, 1) := by decide +kernel
theorem dX6_demandsBy_16 : decode cX6_demandsBy 16 = .ok (.getfield 41, 3) := by decide +kernel
theorem dX6_demandsBy_19 : decode cX6_demandsBy 19 = .ok (.getfield 81, 3) := by decide +kernel
theorem dX6_demandsBy_22 : decode cX6_demandsBy 22 = .ok (.iload_n 1, 1) := by decide +kernel
theorem dX6_demandsBy_23 : decode cX6_demandsBy 23 = .ok (.iaload, 1) := by decide +kernel
theorem dX6_demandsBy_24 : decode cX6_demandsBy 24 = .ok (.imul, 1) := by decide +kernel
theorem dX6_demandsBy_25 : decode cX6_demandsBy 25 = .ok (.istore 4, 2) := by decide +kernel
theorem dX6_demandsBy_27 : decode cX6_demandsBy 27 = .ok (.iconst 4, 1) := by decide +kernel
theorem dX6_demandsBy_28 : decode cX6_demandsBy 28 = .ok (.aload_n 0, 1) := by decide +kernel
theorem dX6_demandsBy_29 : decode cX6_demandsBy 29 = .ok (.getfield 41, 3) := by decide +kernel
theorem dX6_demandsBy_32 : decode cX6_demandsBy 32 = .ok (.getfield 84, 3) := by decide +kernel
theorem dX6_demandsBy_35 : decode cX6_demandsBy 35 = .ok (.iload_n 1, 1) := by decide +kernel
theorem dX6_demandsBy_36 : decode cX6_demandsBy 36 = .ok (.iaload, 1) := by decide +kernel
theorem dX6_demandsBy_37 : decode cX6_demandsBy 37 = .ok (.imul, 1) := by decide +kernel
theorem dX6_demandsBy_38 : decode cX6_demandsBy 38 = .ok (.istore 5, 2) := by decide +kernel
theorem dX6_demandsBy_40 : decode cX6_demandsBy 40 = .ok (.iload_n 3, 1) := by decide +kernel
theorem dX6_demandsBy_41 : decode cX6_demandsBy 41 = .ok (.ifCond .ne 5, 3) := by decide +kernel
theorem dX6_demandsBy_44 : decode cX6_demandsBy 44 = .ok (.iconst 0, 1) := by decide +kernel
theorem dX6_demandsBy_45 : decode cX6_demandsBy 45 = .ok (.ireturn, 1) := by decide +kernel
theorem dX6_demandsBy_46 : decode cX6_demandsBy 46 = .ok (.aload_n 0, 1) := by decide +kernel
theorem dX6_demandsBy_47 : decode cX6_demandsBy 47 = .ok (.getfield 41, 3) := by decide +kernel
theorem dX6_demandsBy_50 : decode cX6_demandsBy 50 = .ok (.getfield 60, 3) := by decide +kernel
theorem dX6_demandsBy_53 : decode cX6_demandsBy 53 = .ok (.iload_n 1, 1) := by decide +kernel
theorem dX6_demandsBy_54 : decode cX6_demandsBy 54 = .ok (.iaload, 1) := by decide +kernel
theorem dX6_demandsBy_55 : decode cX6_demandsBy 55 = .ok (.tableswitch 64 1 3 #[25, 31, 54], 25) := by decide +kernel
theorem dX6_demandsBy_80 : decode cX6_demandsBy 80 = .ok (.bipush 15, 2) := by decide +kernel
theorem dX6_demandsBy_82 : decode cX6_demandsBy 82 = .ok (.iload 4, 2) := by decide +kernel
theorem dX6_demandsBy_84 : decode cX6_demandsBy 84 = .ok (.ishl, 1) := by decide +kernel
theorem dX6_demandsBy_85 : decode cX6_demandsBy 85 = .ok (.ireturn, 1) := by decide +kernel
theorem dX6_demandsBy_86 : decode cX6_demandsBy 86 = .ok (.iload_n 3, 1) := by decide +kernel
theorem dX6_demandsBy_87 : decode cX6_demandsBy 87 = .ok (.iload 4, 2) := by decide +kernel
theorem dX6_demandsBy_89 : decode cX6_demandsBy 89 = .ok (.ishl, 1) := by decide +kernel
theorem dX6_demandsBy_90 : decode cX6_demandsBy 90 = .ok (.aload_n 0, 1) := by decide +kernel
theorem dX6_demandsBy_91 : decode cX6_demandsBy 91 = .ok (.aload_n 0, 1) := by decide +kernel
theorem dX6_demandsBy_92 : decode cX6_demandsBy 92 = .ok (.getfield 41, 3) := by decide +kernel
theorem dX6_demandsBy_95 : decode cX6_demandsBy 95 = .ok (.getfield 81, 3) := by decide +kernel
theorem dX6_demandsBy_98 : decode cX6_demandsBy 98 = .ok (.iload_n 1, 1) := by decide +kernel
theorem dX6_demandsBy_99 : decode cX6_demandsBy 99 = .ok (.iaload, 1) := by decide +kernel
theorem dX6_demandsBy_100 : decode cX6_demandsBy 100 = .ok (.iload_n 3, 1) := by decide +kernel
theorem dX6_demandsBy_101 : decode cX6_demandsBy 101 = .ok (.invokevirtual 87, 3) := by decide +kernel
theorem dX6_demandsBy_104 : decode cX6_demandsBy 104 = .ok (.iload 5, 2) := by decide +kernel
theorem dX6_demandsBy_106 : decode cX6_demandsBy 106 = .ok (.ishl, 1) := by decide +kernel
theorem dX6_demandsBy_107 : decode cX6_demandsBy 107 = .ok (.ior, 1) := by decide +kernel
theorem dX6_demandsBy_108 : decode cX6_demandsBy 108 = .ok (.ireturn, 1) := by decide +kernel
theorem dX6_demandsBy_109 : decode cX6_demandsBy 109 = .ok (.iload_n 3, 1) := by decide +kernel
theorem dX6_demandsBy_110 : decode cX6_demandsBy 110 = .ok (.iload 4, 2) := by decide +kernel
theorem dX6_demandsBy_112 : decode cX6_demandsBy 112 = .ok (.ishl, 1) := by decide +kernel
theorem dX6_demandsBy_113 : decode cX6_demandsBy 113 = .ok (.iload_n 3, 1) := by decide +kernel
theorem dX6_demandsBy_114 : decode cX6_demandsBy 114 = .ok (.iload 5, 2) := by decide +kernel
theorem dX6_demandsBy_116 : decode cX6_demandsBy 116 = .ok (.ishl, 1) := by decide +kernel
theorem dX6_demandsBy_117 : decode cX6_demandsBy 117 = .ok (.ior, 1) := by decide +kernel
theorem dX6_demandsBy_118 : decode cX6_demandsBy 118 = .ok (.ireturn, 1) := by decide +kernel
theorem dX6_demandsBy_119 : decode cX6_demandsBy 119 = .ok (.iload_n 3, 1) := by decide +kernel
theorem dX6_demandsBy_120 : decode cX6_demandsBy 120 = .ok (.iload 4, 2) := by decide +kernel
theorem dX6_demandsBy_122 : decode cX6_demandsBy 122 = .ok (.ishl, 1) := by decide +kernel
theorem dX6_demandsBy_123 : decode cX6_demandsBy 123 = .ok (.ireturn, 1) := by decide +kernel
set_option maxRecDepth 20000 in
theorem ggX6_middles_X7_rowOf : GoodIn wsX6_middles wsX7_rowOf := goodIn_r _ [5] rfl aw_wsX7_rowOf
set_option maxRecDepth 20000 in
theorem gX6_middles_X7_rowOf_n78 : GoodIn wsX6_middles (wsX7_rowOf) := ggX6_middles_X7_rowOf
theorem dX6_middles_0 : decode cX6_middles 0 = .ok (.iconst 0, 1) := by decide +kernel
theorem dX6_middles_1 : decode cX6_middles 1 = .ok (.istore_n 3, 1) := by decide +kernel
theorem dX6_middles_2 : decode cX6_middles 2 = .ok (.iconst 0, 1) := by decide +kernel
theorem dX6_middles_3 : decode cX6_middles 3 = .ok (.istore 4, 2) := by decide +kernel
theorem dX6_middles_5 : decode cX6_middles 5 = .ok (.iload 4, 2) := by decide +kernel
theorem dX6_middles_7 : decode cX6_middles 7 = .ok (.iconst 4, 1) := by decide +kernel
theorem dX6_middles_8 : decode cX6_middles 8 = .ok (.if_icmp .ge 35, 3) := by decide +kernel
theorem dX6_middles_11 : decode cX6_middles 11 = .ok (.iload_n 2, 1) := by decide +kernel
theorem dX6_middles_12 : decode cX6_middles 12 = .ok (.iload 4, 2) := by decide +kernel
theorem dX6_middles_14 : decode cX6_middles 14 = .ok (.ishr, 1) := by decide +kernel
theorem dX6_middles_15 : decode cX6_middles 15 = .ok (.iconst 1, 1) := by decide +kernel
theorem dX6_middles_16 : decode cX6_middles 16 = .ok (.iand, 1) := by decide +kernel
theorem dX6_middles_17 : decode cX6_middles 17 = .ok (.ifCond .eq 20, 3) := by decide +kernel
theorem dX6_middles_20 : decode cX6_middles 20 = .ok (.iload_n 3, 1) := by decide +kernel
theorem dX6_middles_21 : decode cX6_middles 21 = .ok (.aload_n 0, 1) := by decide +kernel
theorem dX6_middles_22 : decode cX6_middles 22 = .ok (.getfield 33, 3) := by decide +kernel
theorem dX6_middles_25 : decode cX6_middles 25 = .ok (.getfield 90, 3) := by decide +kernel
theorem dX6_middles_28 : decode cX6_middles 28 = .ok (.iload_n 1, 1) := by decide +kernel
theorem dX6_middles_29 : decode cX6_middles 29 = .ok (.iaload, 1) := by decide +kernel
theorem dX6_middles_30 : decode cX6_middles 30 = .ok (.iload 4, 2) := by decide +kernel
theorem dX6_middles_32 : decode cX6_middles 32 = .ok (.invokestatic 78, 3) := by decide +kernel
theorem dX6_middles_35 : decode cX6_middles 35 = .ok (.ior, 1) := by decide +kernel
theorem dX6_middles_36 : decode cX6_middles 36 = .ok (.istore_n 3, 1) := by decide +kernel
theorem dX6_middles_37 : decode cX6_middles 37 = .ok (.iinc 4 1, 3) := by decide +kernel
theorem dX6_middles_40 : decode cX6_middles 40 = .ok (.goto (-35), 3) := by decide +kernel
theorem dX6_middles_43 : decode cX6_middles 43 = .ok (.iload_n 3, 1) := by decide +kernel
theorem dX6_middles_44 : decode cX6_middles 44 = .ok (.ireturn, 1) := by decide +kernel
theorem dX5_init_0 : decode cX5_init 0 = .ok (.aload_n 0, 1) := by decide +kernel
theorem dX5_init_1 : decode cX5_init 1 = .ok (.invokespecial 3, 3) := by decide +kernel
theorem dX5_init_4 : decode cX5_init 4 = .ok (.aload_n 0, 1) := by decide +kernel
theorem dX5_init_5 : decode cX5_init 5 = .ok (.bipush 60, 2) := by decide +kernel
theorem dX5_init_7 : decode cX5_init 7 = .ok (.newarray .int, 2) := by decide +kernel
theorem dX5_init_9 : decode cX5_init 9 = .ok (.putfield 9, 3) := by decide +kernel
theorem dX5_init_12 : decode cX5_init 12 = .ok (.return_, 1) := by decide +kernel
set_option maxRecDepth 20000 in
theorem aw_wsX2_clear : wsX2_clear.all goodWord = true := by decide +kernel
set_option maxRecDepth 20000 in
theorem ggX5_reads_X2_clear : GoodIn wsX5_reads wsX2_clear := goodIn_r _ [15, 16, 17, 18, 19, 20, 21, 22, 114, 115, 116, 117, 118, 119, 120, 121, 122] rfl aw_wsX2_clear
set_option maxRecDepth 20000 in
theorem gX5_reads_X2_clear : GoodIn wsX5_reads (wsV RX5 37 RX2 yX2_clear wsX2_clear) := goodIn_app (goodIn_r _ [11, 12, 13, 14] rfl (by decide +kernel)) ggX5_reads_X2_clear
set_option maxRecDepth 20000 in
theorem aw_wsX5_letter : wsX5_letter.all goodWord = true := by decide +kernel
set_option maxRecDepth 20000 in
theorem ggX5_reads_X5_letter : GoodIn wsX5_reads wsX5_letter := goodIn_r _ [27, 8, 9, 28, 29, 30, 31, 32, 33, 34, 35, 36, 37, 38, 39, 40, 41, 42, 43, 44, 45, 46, 47, 48, 49, 50, 51, 52, 53, 54, 55, 56, 57, 58, 59, 60, 61, 62, 63, 64, 65, 66, 67, 68, 69, 70, 71, 72, 73, 74, 75, 76, 77, 78, 79, 26, 80, 7, 2, 110, 111, 112, 113] rfl aw_wsX5_letter
set_option maxRecDepth 20000 in
theorem gX5_reads_X5_letter : GoodIn wsX5_reads (wsV RX5 44 RX5 yX5_letter wsX5_letter) := goodIn_app (goodIn_r _ [23, 24, 25, 26] rfl (by decide +kernel)) ggX5_reads_X5_letter
set_option maxRecDepth 20000 in
theorem aw_wsX5_digit : wsX5_digit.all goodWord = true := by decide +kernel
set_option maxRecDepth 20000 in
theorem ggX5_reads_X5_digit : GoodIn wsX5_reads wsX5_digit := goodIn_r _ [84, 9, 8, 7, 2, 110, 111, 112, 113] rfl aw_wsX5_digit
set_option maxRecDepth 20000 in
theorem gX5_reads_X5_digit : GoodIn wsX5_reads (wsV RX5 48 RX5 yX5_digit wsX5_digit) := goodIn_app (goodIn_r _ [81, 82, 83, 26] rfl (by decide +kernel)) ggX5_reads_X5_digit
set_option maxRecDepth 20000 in
theorem aw_wsX5_isNext : wsX5_isNext.all goodWord = true := by decide +kernel
set_option maxRecDepth 20000 in
theorem ggX5_reads_X5_isNext : GoodIn wsX5_reads wsX5_isNext := goodIn_r _ [80, 9, 8, 7, 2, 110, 111, 112, 113] rfl aw_wsX5_isNext
set_option maxRecDepth 20000 in
theorem gX5_reads_X5_isNext : GoodIn wsX5_reads (wsV RX5 55 RX5 yX5_isNext wsX5_isNext) := goodIn_app (goodIn_r _ [77, 78, 79, 26] rfl (by decide +kernel)) ggX5_reads_X5_isNext
set_option maxRecDepth 20000 in
theorem aw_wsX5_readRule : wsX5_readRule.all goodWord = true := by decide +kernel
set_option maxRecDepth 20000 in
theorem ggX5_reads_X5_readRule : GoodIn wsX5_reads wsX5_readRule := goodIn_r _ [88, 8, 89, 90, 91, 92, 93, 10, 94, 95, 23, 24, 25, 26, 27, 9, 28, 29, 30, 31, 32, 33, 34, 35, 36, 37, 38, 39, 40, 41, 42, 43, 44, 45, 46, 47, 48, 49, 50, 51, 52, 53, 54, 55, 56, 57, 58, 59, 60, 61, 62, 63, 64, 65, 66, 67, 68, 69, 70, 71, 72, 73, 74, 75, 76, 77, 78, 79, 80, 7, 2, 81, 82, 83, 84, 96, 97, 98, 14, 99, 100, 110, 111, 112, 113, 114, 115, 116, 117, 118, 119, 120, 121, 122] rfl aw_wsX5_readRule
set_option maxRecDepth 20000 in
theorem gX5_reads_X5_readRule : GoodIn wsX5_reads (wsV RX5 59 RX5 yX5_readRule wsX5_readRule) := goodIn_app (goodIn_r _ [85, 86, 87, 26] rfl (by decide +kernel)) ggX5_reads_X5_readRule
set_option maxRecDepth 20000 in
theorem aw_wsX5_readTold : wsX5_readTold.all goodWord = true := by decide +kernel
set_option maxRecDepth 20000 in
theorem ggX5_reads_X5_readTold : GoodIn wsX5_reads wsX5_readTold := goodIn_r _ [104, 8, 10, 9, 105, 81, 82, 83, 26, 84, 7, 2, 110, 111, 112, 113, 114, 115, 116, 117, 118, 119, 120, 121, 122] rfl aw_wsX5_readTold
set_option maxRecDepth 20000 in
theorem gX5_reads_X5_readTold : GoodIn wsX5_reads (wsV RX5 63 RX5 yX5_readTold wsX5_readTold) := goodIn_app (goodIn_r _ [101, 102, 103, 26] rfl (by decide +kernel)) ggX5_reads_X5_readTold
theorem dX5_reads_0 : decode cX5_reads 0 = .ok (.aload_n 1, 1) := by decide +kernel
theorem dX5_reads_1 : decode cX5_reads 1 = .ok (.getfield 15, 3) := by decide +kernel
theorem dX5_reads_4 : decode cX5_reads 4 = .ok (.iload_n 2, 1) := by decide +kernel
theorem dX5_reads_5 : decode cX5_reads 5 = .ok (.aload_n 0, 1) := by decide +kernel
theorem dX5_reads_6 : decode cX5_reads 6 = .ok (.getfield 9, 3) := by decide +kernel
theorem dX5_reads_9 : decode cX5_reads 9 = .ok (.iconst 0, 1) := by decide +kernel
theorem dX5_reads_10 : decode cX5_reads 10 = .ok (.iload_n 3, 1) := by decide +kernel
theorem dX5_reads_11 : decode cX5_reads 11 = .ok (.invokestatic 20, 3) := by decide +kernel
theorem dX5_reads_14 : decode cX5_reads 14 = .ok (.aload_n 0, 1) := by decide +kernel
theorem dX5_reads_15 : decode cX5_reads 15 = .ok (.iload_n 3, 1) := by decide +kernel
theorem dX5_reads_16 : decode cX5_reads 16 = .ok (.putfield 26, 3) := by decide +kernel
theorem dX5_reads_19 : decode cX5_reads 19 = .ok (.aload_n 0, 1) := by decide +kernel
theorem dX5_reads_20 : decode cX5_reads 20 = .ok (.iconst 0, 1) := by decide +kernel
theorem dX5_reads_21 : decode cX5_reads 21 = .ok (.putfield 30, 3) := by decide +kernel
theorem dX5_reads_24 : decode cX5_reads 24 = .ok (.aload_n 0, 1) := by decide +kernel
theorem dX5_reads_25 : decode cX5_reads 25 = .ok (.iconst 0, 1) := by decide +kernel
theorem dX5_reads_26 : decode cX5_reads 26 = .ok (.putfield 33, 3) := by decide +kernel
theorem dX5_reads_29 : decode cX5_reads 29 = .ok (.aload 4, 2) := by decide +kernel
theorem dX5_reads_31 : decode cX5_reads 31 = .ok (.invokevirtual 37, 3) := by decide +kernel
theorem dX5_reads_34 : decode cX5_reads 34 = .ok (.aload_n 0, 1) := by decide +kernel
theorem dX5_reads_35 : decode cX5_reads 35 = .ok (.ldc 42, 2) := by decide +kernel
theorem dX5_reads_37 : decode cX5_reads 37 = .ok (.invokevirtual 44, 3) := by decide +kernel
theorem dX5_reads_40 : decode cX5_reads 40 = .ok (.pop, 1) := by decide +kernel
theorem dX5_reads_41 : decode cX5_reads 41 = .ok (.aload 4, 2) := by decide +kernel
theorem dX5_reads_43 : decode cX5_reads 43 = .ok (.aload_n 0, 1) := by decide +kernel
theorem dX5_reads_44 : decode cX5_reads 44 = .ok (.iconst 1, 1) := by decide +kernel
theorem dX5_reads_45 : decode cX5_reads 45 = .ok (.iconst 4, 1) := by decide +kernel
theorem dX5_reads_46 : decode cX5_reads 46 = .ok (.invokevirtual 48, 3) := by decide +kernel
theorem dX5_reads_49 : decode cX5_reads 49 = .ok (.putfield 52, 3) := by decide +kernel
theorem dX5_reads_52 : decode cX5_reads 52 = .ok (.iconst 0, 1) := by decide +kernel
theorem dX5_reads_53 : decode cX5_reads 53 = .ok (.istore 5, 2) := by decide +kernel
theorem dX5_reads_55 : decode cX5_reads 55 = .ok (.iload 5, 2) := by decide +kernel
theorem dX5_reads_57 : decode cX5_reads 57 = .ok (.iconst 5, 1) := by decide +kernel
theorem dX5_reads_58 : decode cX5_reads 58 = .ok (.if_icmp .ge 24, 3) := by decide +kernel
theorem dX5_reads_61 : decode cX5_reads 61 = .ok (.aload_n 0, 1) := by decide +kernel
theorem dX5_reads_62 : decode cX5_reads 62 = .ok (.bipush 59, 2) := by decide +kernel
theorem dX5_reads_64 : decode cX5_reads 64 = .ok (.invokevirtual 55, 3) := by decide +kernel
theorem dX5_reads_67 : decode cX5_reads 67 = .ok (.ifCond .eq 15, 3) := by decide +kernel
theorem dX5_reads_70 : decode cX5_reads 70 = .ok (.aload_n 0, 1) := by decide +kernel
theorem dX5_reads_71 : decode cX5_reads 71 = .ok (.aload 4, 2) := by decide +kernel
theorem dX5_reads_73 : decode cX5_reads 73 = .ok (.invokevirtual 59, 3) := by decide +kernel
theorem dX5_reads_76 : decode cX5_reads 76 = .ok (.iinc 5 1, 3) := by decide +kernel
theorem dX5_reads_79 : decode cX5_reads 79 = .ok (.goto (-24), 3) := by decide +kernel
theorem dX5_reads_82 : decode cX5_reads 82 = .ok (.iconst 0, 1) := by decide +kernel
theorem dX5_reads_83 : decode cX5_reads 83 = .ok (.istore 5, 2) := by decide +kernel
theorem dX5_reads_85 : decode cX5_reads 85 = .ok (.iload 5, 2) := by decide +kernel
theorem dX5_reads_87 : decode cX5_reads 87 = .ok (.iconst 5, 1) := by decide +kernel
theorem dX5_reads_88 : decode cX5_reads 88 = .ok (.if_icmp .ge 24, 3) := by decide +kernel
theorem dX5_reads_91 : decode cX5_reads 91 = .ok (.aload_n 0, 1) := by decide +kernel
theorem dX5_reads_92 : decode cX5_reads 92 = .ok (.bipush 44, 2) := by decide +kernel
theorem dX5_reads_94 : decode cX5_reads 94 = .ok (.invokevirtual 55, 3) := by decide +kernel
theorem dX5_reads_97 : decode cX5_reads 97 = .ok (.ifCond .eq 15, 3) := by decide +kernel
theorem dX5_reads_100 : decode cX5_reads 100 = .ok (.aload_n 0, 1) := by decide +kernel
theorem dX5_reads_101 : decode cX5_reads 101 = .ok (.aload 4, 2) := by decide +kernel
theorem dX5_reads_103 : decode cX5_reads 103 = .ok (.invokevirtual 63, 3) := by decide +kernel
theorem dX5_reads_106 : decode cX5_reads 106 = .ok (.iinc 5 1, 3) := by decide +kernel
theorem dX5_reads_109 : decode cX5_reads 109 = .ok (.goto (-24), 3) := by decide +kernel
theorem dX5_reads_112 : decode cX5_reads 112 = .ok (.aload_n 0, 1) := by decide +kernel
theorem dX5_reads_113 : decode cX5_reads 113 = .ok (.getfield 33, 3) := by decide +kernel
theorem dX5_reads_116 : decode cX5_reads 116 = .ok (.ifCond .ne 18, 3) := by decide +kernel
theorem dX5_reads_119 : decode cX5_reads 119 = .ok (.aload_n 0, 1) := by decide +kernel
theorem dX5_reads_120 : decode cX5_reads 120 = .ok (.getfield 30, 3) := by decide +kernel
theorem dX5_reads_123 : decode cX5_reads 123 = .ok (.aload_n 0, 1) := by decide +kernel
theorem dX5_reads_124 : decode cX5_reads 124 = .ok (.getfield 26, 3) := by decide +kernel
theorem dX5_reads_127 : decode cX5_reads 127 = .ok (.if_icmp .ne 7, 3) := by decide +kernel
theorem dX5_reads_130 : decode cX5_reads 130 = .ok (.iconst 1, 1) := by decide +kernel
theorem dX5_reads_131 : decode cX5_reads 131 = .ok (.goto 4, 3) := by decide +kernel
theorem dX5_reads_134 : decode cX5_reads 134 = .ok (.iconst 0, 1) := by decide +kernel
theorem dX5_reads_135 : decode cX5_reads 135 = .ok (.ireturn, 1) := by decide +kernel
set_option maxRecDepth 20000 in
theorem ggX5_readRule_X5_letter : GoodIn wsX5_readRule wsX5_letter := goodIn_r _ [14, 1, 15, 16, 17, 18, 19, 20, 21, 22, 23, 24, 25, 26, 27, 28, 29, 30, 31, 32, 33, 34, 35, 36, 37, 38, 39, 40, 41, 42, 43, 44, 45, 46, 47, 48, 49, 50, 51, 52, 53, 54, 55, 56, 57, 58, 59, 60, 61, 62, 63, 64, 65, 66, 67, 13, 68, 69, 70, 81, 82, 83, 84] rfl aw_wsX5_letter
set_option maxRecDepth 20000 in
theorem gX5_readRule_X5_letter : GoodIn wsX5_readRule (wsV RX5 44 RX5 yX5_letter wsX5_letter) := goodIn_app (goodIn_r _ [10, 11, 12, 13] rfl (by decide +kernel)) ggX5_readRule_X5_letter
set_option maxRecDepth 20000 in
theorem ggX5_readRule_X5_digit : GoodIn wsX5_readRule wsX5_digit := goodIn_r _ [74, 15, 1, 69, 70, 81, 82, 83, 84] rfl aw_wsX5_digit
set_option maxRecDepth 20000 in
theorem gX5_readRule_X5_digit : GoodIn wsX5_readRule (wsV RX5 48 RX5 yX5_digit wsX5_digit) := goodIn_app (goodIn_r _ [71, 72, 73, 13] rfl (by decide +kernel)) ggX5_readRule_X5_digit
set_option maxRecDepth 20000 in
theorem ggX5_readRule_X2_hasOther : GoodIn wsX5_readRule wsX2_hasOther := goodIn_r _ [79, 80, 85, 86, 87, 88, 89, 90, 91, 92, 93] rfl aw_wsX2_hasOther
set_option maxRecDepth 20000 in
theorem gX5_readRule_X2_hasOther : GoodIn wsX5_readRule (wsV RX5 91 RX2 yX2_hasOther wsX2_hasOther) := goodIn_app (goodIn_r _ [75, 76, 77, 78] rfl (by decide +kernel)) ggX5_readRule_X2_hasOther
theorem dX5_readRule_0 : decode cX5_readRule 0 = .ok (.aload_n 0, 1) := by decide +kernel
theorem dX5_readRule_1 : decode cX5_readRule 1 = .ok (.dup, 1) := by decide +kernel
theorem dX5_readRule_2 : decode cX5_readRule 2 = .ok (.getfield 30, 3) := by decide +kernel
theorem dX5_readRule_5 : decode cX5_readRule 5 = .ok (.iconst 1, 1) := by decide +kernel
theorem dX5_readRule_6 : decode cX5_readRule 6 = .ok (.iadd, 1) := by decide +kernel
theorem dX5_readRule_7 : decode cX5_readRule 7 = .ok (.putfield 30, 3) := by decide +kernel
theorem dX5_readRule_10 : decode cX5_readRule 10 = .ok (.aload_n 1, 1) := by decide +kernel
theorem dX5_readRule_11 : decode cX5_readRule 11 = .ok (.getfield 66, 3) := by decide +kernel
theorem dX5_readRule_14 : decode cX5_readRule 14 = .ok (.istore_n 2, 1) := by decide +kernel
theorem dX5_readRule_15 : decode cX5_readRule 15 = .ok (.aload_n 1, 1) := by decide +kernel
theorem dX5_readRule_16 : decode cX5_readRule 16 = .ok (.getfield 69, 3) := by decide +kernel
theorem dX5_readRule_19 : decode cX5_readRule 19 = .ok (.iload_n 2, 1) := by decide +kernel
theorem dX5_readRule_20 : decode cX5_readRule 20 = .ok (.aload_n 0, 1) := by decide +kernel
theorem dX5_readRule_21 : decode cX5_readRule 21 = .ok (.ldc 72, 2) := by decide +kernel
theorem dX5_readRule_23 : decode cX5_readRule 23 = .ok (.invokevirtual 44, 3) := by decide +kernel
theorem dX5_readRule_26 : decode cX5_readRule 26 = .ok (.iastore, 1) := by decide +kernel
theorem dX5_readRule_27 : decode cX5_readRule 27 = .ok (.aload_n 1, 1) := by decide +kernel
theorem dX5_readRule_28 : decode cX5_readRule 28 = .ok (.getfield 74, 3) := by decide +kernel
theorem dX5_readRule_31 : decode cX5_readRule 31 = .ok (.iload_n 2, 1) := by decide +kernel
theorem dX5_readRule_32 : decode cX5_readRule 32 = .ok (.aload_n 0, 1) := by decide +kernel
theorem dX5_readRule_33 : decode cX5_readRule 33 = .ok (.iconst 1, 1) := by decide +kernel
theorem dX5_readRule_34 : decode cX5_readRule 34 = .ok (.bipush 9, 2) := by decide +kernel
theorem dX5_readRule_36 : decode cX5_readRule 36 = .ok (.invokevirtual 48, 3) := by decide +kernel
theorem dX5_readRule_39 : decode cX5_readRule 39 = .ok (.iastore, 1) := by decide +kernel
theorem dX5_readRule_40 : decode cX5_readRule 40 = .ok (.aload_n 1, 1) := by decide +kernel
theorem dX5_readRule_41 : decode cX5_readRule 41 = .ok (.getfield 77, 3) := by decide +kernel
theorem dX5_readRule_44 : decode cX5_readRule 44 = .ok (.iload_n 2, 1) := by decide +kernel
theorem dX5_readRule_45 : decode cX5_readRule 45 = .ok (.aload_n 0, 1) := by decide +kernel
theorem dX5_readRule_46 : decode cX5_readRule 46 = .ok (.ldc 80, 2) := by decide +kernel
theorem dX5_readRule_48 : decode cX5_readRule 48 = .ok (.invokevirtual 44, 3) := by decide +kernel
theorem dX5_readRule_51 : decode cX5_readRule 51 = .ok (.iastore, 1) := by decide +kernel
theorem dX5_readRule_52 : decode cX5_readRule 52 = .ok (.aload_n 1, 1) := by decide +kernel
theorem dX5_readRule_53 : decode cX5_readRule 53 = .ok (.getfield 82, 3) := by decide +kernel
theorem dX5_readRule_56 : decode cX5_readRule 56 = .ok (.iload_n 2, 1) := by decide +kernel
theorem dX5_readRule_57 : decode cX5_readRule 57 = .ok (.aload_n 0, 1) := by decide +kernel
theorem dX5_readRule_58 : decode cX5_readRule 58 = .ok (.iconst 0, 1) := by decide +kernel
theorem dX5_readRule_59 : decode cX5_readRule 59 = .ok (.aload_n 1, 1) := by decide +kernel
theorem dX5_readRule_60 : decode cX5_readRule 60 = .ok (.getfield 52, 3) := by decide +kernel
theorem dX5_readRule_63 : decode cX5_readRule 63 = .ok (.iconst 1, 1) := by decide +kernel
theorem dX5_readRule_64 : decode cX5_readRule 64 = .ok (.isub, 1) := by decide +kernel
theorem dX5_readRule_65 : decode cX5_readRule 65 = .ok (.invokevirtual 48, 3) := by decide +kernel
theorem dX5_readRule_68 : decode cX5_readRule 68 = .ok (.iastore, 1) := by decide +kernel
theorem dX5_readRule_69 : decode cX5_readRule 69 = .ok (.aload_n 1, 1) := by decide +kernel
theorem dX5_readRule_70 : decode cX5_readRule 70 = .ok (.getfield 85, 3) := by decide +kernel
theorem dX5_readRule_73 : decode cX5_readRule 73 = .ok (.iload_n 2, 1) := by decide +kernel
theorem dX5_readRule_74 : decode cX5_readRule 74 = .ok (.aload_n 0, 1) := by decide +kernel
theorem dX5_readRule_75 : decode cX5_readRule 75 = .ok (.iconst 0, 1) := by decide +kernel
theorem dX5_readRule_76 : decode cX5_readRule 76 = .ok (.aload_n 1, 1) := by decide +kernel
theorem dX5_readRule_77 : decode cX5_readRule 77 = .ok (.getfield 52, 3) := by decide +kernel
theorem dX5_readRule_80 : decode cX5_readRule 80 = .ok (.iconst 1, 1) := by decide +kernel
theorem dX5_readRule_81 : decode cX5_readRule 81 = .ok (.isub, 1) := by decide +kernel
theorem dX5_readRule_82 : decode cX5_readRule 82 = .ok (.invokevirtual 48, 3) := by decide +kernel
theorem dX5_readRule_85 : decode cX5_readRule 85 = .ok (.iastore, 1) := by decide +kernel
theorem dX5_readRule_86 : decode cX5_readRule 86 = .ok (.aload_n 1, 1) := by decide +kernel
theorem dX5_readRule_87 : decode cX5_readRule 87 = .ok (.getfield 88, 3) := by decide +kernel
theorem dX5_readRule_90 : decode cX5_readRule 90 = .ok (.iload_n 2, 1) := by decide +kernel
theorem dX5_readRule_91 : decode cX5_readRule 91 = .ok (.aload_n 1, 1) := by decide +kernel
theorem dX5_readRule_92 : decode cX5_readRule 92 = .ok (.iload_n 2, 1) := by decide +kernel
theorem dX5_readRule_93 : decode cX5_readRule 93 = .ok (.invokevirtual 91, 3) := by decide +kernel
theorem dX5_readRule_96 : decode cX5_readRule 96 = .ok (.ifCond .eq 17, 3) := by decide +kernel
theorem dX5_readRule_99 : decode cX5_readRule 99 = .ok (.aload_n 0, 1) := by decide +kernel
theorem dX5_readRule_100 : decode cX5_readRule 100 = .ok (.iconst 0, 1) := by decide +kernel
theorem dX5_readRule_101 : decode cX5_readRule 101 = .ok (.aload_n 1, 1) := by decide +kernel
theorem dX5_readRule_102 : decode cX5_readRule 102 = .ok (.getfield 52, 3) := by decide +kernel
theorem dX5_readRule_105 : decode cX5_readRule 105 = .ok (.iconst 1, 1) := by decide +kernel
theorem dX5_readRule_106 : decode cX5_readRule 106 = .ok (.isub, 1) := by decide +kernel
theorem dX5_readRule_107 : decode cX5_readRule 107 = .ok (.invokevirtual 48, 3) := by decide +kernel
theorem dX5_readRule_110 : decode cX5_readRule 110 = .ok (.goto 4, 3) := by decide +kernel
theorem dX5_readRule_113 : decode cX5_readRule 113 = .ok (.iconst 0, 1) := by decide +kernel
theorem dX5_readRule_114 : decode cX5_readRule 114 = .ok (.iastore, 1) := by decide +kernel
theorem dX5_readRule_115 : decode cX5_readRule 115 = .ok (.aload_n 1, 1) := by decide +kernel
theorem dX5_readRule_116 : decode cX5_readRule 116 = .ok (.iload_n 2, 1) := by decide +kernel
theorem dX5_readRule_117 : decode cX5_readRule 117 = .ok (.iconst 1, 1) := by decide +kernel
theorem dX5_readRule_118 : decode cX5_readRule 118 = .ok (.iadd, 1) := by decide +kernel
theorem dX5_readRule_119 : decode cX5_readRule 119 = .ok (.putfield 66, 3) := by decide +kernel
theorem dX5_readRule_122 : decode cX5_readRule 122 = .ok (.return_, 1) := by decide +kernel
set_option maxRecDepth 20000 in
theorem ggX5_readTold_X5_digit : GoodIn wsX5_readTold wsX5_digit := goodIn_r _ [9, 3, 1, 10, 11, 12, 13, 14, 15] rfl aw_wsX5_digit
set_option maxRecDepth 20000 in
theorem gX5_readTold_X5_digit : GoodIn wsX5_readTold (wsV RX5 48 RX5 yX5_digit wsX5_digit) := goodIn_app (goodIn_r _ [5, 6, 7, 8] rfl (by decide +kernel)) ggX5_readTold_X5_digit
theorem dX5_readTold_0 : decode cX5_readTold 0 = .ok (.aload_n 0, 1) := by decide +kernel
theorem dX5_readTold_1 : decode cX5_readTold 1 = .ok (.dup, 1) := by decide +kernel
theorem dX5_readTold_2 : decode cX5_readTold 2 = .ok (.getfield 30, 3) := by decide +kernel
theorem dX5_readTold_5 : decode cX5_readTold 5 = .ok (.iconst 1, 1) := by decide +kernel
theorem dX5_readTold_6 : decode cX5_readTold 6 = .ok (.iadd, 1) := by decide +kernel
theorem dX5_readTold_7 : decode cX5_readTold 7 = .ok (.putfield 30, 3) := by decide +kernel
theorem dX5_readTold_10 : decode cX5_readTold 10 = .ok (.aload_n 0, 1) := by decide +kernel
theorem dX5_readTold_11 : decode cX5_readTold 11 = .ok (.iconst 0, 1) := by decide +kernel
theorem dX5_readTold_12 : decode cX5_readTold 12 = .ok (.aload_n 1, 1) := by decide +kernel
theorem dX5_readTold_13 : decode cX5_readTold 13 = .ok (.getfield 52, 3) := by decide +kernel
theorem dX5_readTold_16 : decode cX5_readTold 16 = .ok (.iconst 1, 1) := by decide +kernel
theorem dX5_readTold_17 : decode cX5_readTold 17 = .ok (.isub, 1) := by decide +kernel
theorem dX5_readTold_18 : decode cX5_readTold 18 = .ok (.invokevirtual 48, 3) := by decide +kernel
theorem dX5_readTold_21 : decode cX5_readTold 21 = .ok (.istore_n 2, 1) := by decide +kernel
theorem dX5_readTold_22 : decode cX5_readTold 22 = .ok (.aload_n 0, 1) := by decide +kernel
theorem dX5_readTold_23 : decode cX5_readTold 23 = .ok (.iconst 0, 1) := by decide +kernel
theorem dX5_readTold_24 : decode cX5_readTold 24 = .ok (.iconst 3, 1) := by decide +kernel
theorem dX5_readTold_25 : decode cX5_readTold 25 = .ok (.invokevirtual 48, 3) := by decide +kernel
theorem dX5_readTold_28 : decode cX5_readTold 28 = .ok (.istore_n 3, 1) := by decide +kernel
theorem dX5_readTold_29 : decode cX5_readTold 29 = .ok (.aload_n 0, 1) := by decide +kernel
theorem dX5_readTold_30 : decode cX5_readTold 30 = .ok (.iconst 0, 1) := by decide +kernel
theorem dX5_readTold_31 : decode cX5_readTold 31 = .ok (.iconst 3, 1) := by decide +kernel
theorem dX5_readTold_32 : decode cX5_readTold 32 = .ok (.invokevirtual 48, 3) := by decide +kernel
theorem dX5_readTold_35 : decode cX5_readTold 35 = .ok (.istore 4, 2) := by decide +kernel
theorem dX5_readTold_37 : decode cX5_readTold 37 = .ok (.aload_n 0, 1) := by decide +kernel
theorem dX5_readTold_38 : decode cX5_readTold 38 = .ok (.getfield 33, 3) := by decide +kernel
theorem dX5_readTold_41 : decode cX5_readTold 41 = .ok (.ifCond .eq 4, 3) := by decide +kernel
theorem dX5_readTold_44 : decode cX5_readTold 44 = .ok (.return_, 1) := by decide +kernel
theorem dX5_readTold_45 : decode cX5_readTold 45 = .ok (.iconst 1, 1) := by decide +kernel
theorem dX5_readTold_46 : decode cX5_readTold 46 = .ok (.iconst 4, 1) := by decide +kernel
theorem dX5_readTold_47 : decode cX5_readTold 47 = .ok (.iload_n 3, 1) := by decide +kernel
theorem dX5_readTold_48 : decode cX5_readTold 48 = .ok (.imul, 1) := by decide +kernel
theorem dX5_readTold_49 : decode cX5_readTold 49 = .ok (.iload 4, 2) := by decide +kernel
theorem dX5_readTold_51 : decode cX5_readTold 51 = .ok (.iadd, 1) := by decide +kernel
theorem dX5_readTold_52 : decode cX5_readTold 52 = .ok (.ishl, 1) := by decide +kernel
theorem dX5_readTold_53 : decode cX5_readTold 53 = .ok (.istore 5, 2) := by decide +kernel
theorem dX5_readTold_55 : decode cX5_readTold 55 = .ok (.aload_n 1, 1) := by decide +kernel
theorem dX5_readTold_56 : decode cX5_readTold 56 = .ok (.getfield 95, 3) := by decide +kernel
theorem dX5_readTold_59 : decode cX5_readTold 59 = .ok (.iload_n 2, 1) := by decide +kernel
theorem dX5_readTold_60 : decode cX5_readTold 60 = .ok (.iaload, 1) := by decide +kernel
theorem dX5_readTold_61 : decode cX5_readTold 61 = .ok (.iload 5, 2) := by decide +kernel
theorem dX5_readTold_63 : decode cX5_readTold 63 = .ok (.iand, 1) := by decide +kernel
theorem dX5_readTold_64 : decode cX5_readTold 64 = .ok (.ifCond .eq 19, 3) := by decide +kernel
theorem dX5_readTold_67 : decode cX5_readTold 67 = .ok (.aload_n 0, 1) := by decide +kernel
theorem dX5_readTold_68 : decode cX5_readTold 68 = .ok (.dup, 1) := by decide +kernel
theorem dX5_readTold_69 : decode cX5_readTold 69 = .ok (.getfield 30, 3) := by decide +kernel
theorem dX5_readTold_72 : decode cX5_readTold 72 = .ok (.iconst 1, 1) := by decide +kernel
theorem dX5_readTold_73 : decode cX5_readTold 73 = .ok (.isub, 1) := by decide +kernel
theorem dX5_readTold_74 : decode cX5_readTold 74 = .ok (.putfield 30, 3) := by decide +kernel
theorem dX5_readTold_77 : decode cX5_readTold 77 = .ok (.aload_n 0, 1) := by decide +kernel
theorem dX5_readTold_78 : decode cX5_readTold 78 = .ok (.iconst 1, 1) := by decide +kernel
theorem dX5_readTold_79 : decode cX5_readTold 79 = .ok (.putfield 33, 3) := by decide +kernel
theorem dX5_readTold_82 : decode cX5_readTold 82 = .ok (.return_, 1) := by decide +kernel
theorem dX5_readTold_83 : decode cX5_readTold 83 = .ok (.aload_n 1, 1) := by decide +kernel
theorem dX5_readTold_84 : decode cX5_readTold 84 = .ok (.getfield 95, 3) := by decide +kernel
theorem dX5_readTold_87 : decode cX5_readTold 87 = .ok (.iload_n 2, 1) := by decide +kernel
theorem dX5_readTold_88 : decode cX5_readTold 88 = .ok (.dup2, 1) := by decide +kernel
theorem dX5_readTold_89 : decode cX5_readTold 89 = .ok (.iaload, 1) := by decide +kernel
theorem dX5_readTold_90 : decode cX5_readTold 90 = .ok (.iload 5, 2) := by decide +kernel
theorem dX5_readTold_92 : decode cX5_readTold 92 = .ok (.ior, 1) := by decide +kernel
theorem dX5_readTold_93 : decode cX5_readTold 93 = .ok (.iastore, 1) := by decide +kernel
theorem dX5_readTold_94 : decode cX5_readTold 94 = .ok (.return_, 1) := by decide +kernel
theorem dX5_isNext_0 : decode cX5_isNext 0 = .ok (.aload_n 0, 1) := by decide +kernel
theorem dX5_isNext_1 : decode cX5_isNext 1 = .ok (.getfield 33, 3) := by decide +kernel
theorem dX5_isNext_4 : decode cX5_isNext 4 = .ok (.ifCond .ne 31, 3) := by decide +kernel
theorem dX5_isNext_7 : decode cX5_isNext 7 = .ok (.aload_n 0, 1) := by decide +kernel
theorem dX5_isNext_8 : decode cX5_isNext 8 = .ok (.getfield 30, 3) := by decide +kernel
theorem dX5_isNext_11 : decode cX5_isNext 11 = .ok (.aload_n 0, 1) := by decide +kernel
theorem dX5_isNext_12 : decode cX5_isNext 12 = .ok (.getfield 26, 3) := by decide +kernel
theorem dX5_isNext_15 : decode cX5_isNext 15 = .ok (.if_icmp .ge 20, 3) := by decide +kernel
theorem dX5_isNext_18 : decode cX5_isNext 18 = .ok (.aload_n 0, 1) := by decide +kernel
theorem dX5_isNext_19 : decode cX5_isNext 19 = .ok (.getfield 9, 3) := by decide +kernel
theorem dX5_isNext_22 : decode cX5_isNext 22 = .ok (.aload_n 0, 1) := by decide +kernel
theorem dX5_isNext_23 : decode cX5_isNext 23 = .ok (.getfield 30, 3) := by decide +kernel
theorem dX5_isNext_26 : decode cX5_isNext 26 = .ok (.iaload, 1) := by decide +kernel
theorem dX5_isNext_27 : decode cX5_isNext 27 = .ok (.iload_n 1, 1) := by decide +kernel
theorem dX5_isNext_28 : decode cX5_isNext 28 = .ok (.if_icmp .ne 7, 3) := by decide +kernel
theorem dX5_isNext_31 : decode cX5_isNext 31 = .ok (.iconst 1, 1) := by decide +kernel
theorem dX5_isNext_32 : decode cX5_isNext 32 = .ok (.goto 4, 3) := by decide +kernel
theorem dX5_isNext_35 : decode cX5_isNext 35 = .ok (.iconst 0, 1) := by decide +kernel
theorem dX5_isNext_36 : decode cX5_isNext 36 = .ok (.ireturn, 1) := by decide +kernel
set_option maxRecDepth 20000 in
theorem aw_wsJ0_length_8abf5 : wsJ0_length_8abf5.all goodWord = true := by decide +kernel
set_option maxRecDepth 20000 in
theorem ggX5_letter_J0_length_8abf5 : GoodIn wsX5_letter wsJ0_length_8abf5 := goodIn_r _ [7, 8, 9, 10, 11, 6, 12, 13, 14] rfl aw_wsJ0_length_8abf5
set_option maxRecDepth 20000 in
theorem gX5_letter_J0_length_8abf5 : GoodIn wsX5_letter (wsV RX5 98 RJ0 yJ0_length_8abf5 wsJ0_length_8abf5) := goodIn_app (goodIn_r _ [3, 4, 5, 6] rfl (by decide +kernel)) ggX5_letter_J0_length_8abf5
set_option maxRecDepth 20000 in
theorem aw_wsJ0_charAt_5068e : wsJ0_charAt_5068e.all goodWord = true := by decide +kernel
set_option maxRecDepth 20000 in
theorem ggX5_letter_J0_charAt_5068e : GoodIn wsX5_letter wsJ0_charAt_5068e := goodIn_r _ [18, 8, 19, 20, 21, 6, 22, 13, 14, 23, 24, 25, 26, 27, 28, 29, 30, 31, 32, 33, 34, 35, 36, 37, 38, 39, 40, 41, 42, 43, 44, 45, 46, 47, 48, 49, 50, 51] rfl aw_wsJ0_charAt_5068e
set_option maxRecDepth 20000 in
theorem gX5_letter_J0_charAt_5068e : GoodIn wsX5_letter (wsV RX5 104 RJ0 yJ0_charAt_5068e wsJ0_charAt_5068e) := goodIn_app (goodIn_r _ [15, 16, 17, 6] rfl (by decide +kernel)) ggX5_letter_J0_charAt_5068e
set_option maxRecDepth 20000 in
theorem ggX5_letter_X5_isNext : GoodIn wsX5_letter wsX5_isNext := goodIn_r _ [56, 2, 1, 57, 58, 59, 60, 61, 62] rfl aw_wsX5_isNext
set_option maxRecDepth 20000 in
theorem gX5_letter_X5_isNext : GoodIn wsX5_letter (wsV RX5 55 RX5 yX5_isNext wsX5_isNext) := goodIn_app (goodIn_r _ [52, 53, 54, 55] rfl (by decide +kernel)) ggX5_letter_X5_isNext
theorem dX5_letter_0 : decode cX5_letter 0 = .ok (.iconst 0, 1) := by decide +kernel
theorem dX5_letter_1 : decode cX5_letter 1 = .ok (.istore_n 2, 1) := by decide +kernel
theorem dX5_letter_2 : decode cX5_letter 2 = .ok (.iload_n 2, 1) := by decide +kernel
theorem dX5_letter_3 : decode cX5_letter 3 = .ok (.aload_n 1, 1) := by decide +kernel
theorem dX5_letter_4 : decode cX5_letter 4 = .ok (.invokevirtual 98, 3) := by decide +kernel
theorem dX5_letter_7 : decode cX5_letter 7 = .ok (.if_icmp .ge 33, 3) := by decide +kernel
theorem dX5_letter_10 : decode cX5_letter 10 = .ok (.aload_n 0, 1) := by decide +kernel
theorem dX5_letter_11 : decode cX5_letter 11 = .ok (.aload_n 1, 1) := by decide +kernel
theorem dX5_letter_12 : decode cX5_letter 12 = .ok (.iload_n 2, 1) := by decide +kernel
theorem dX5_letter_13 : decode cX5_letter 13 = .ok (.invokevirtual 104, 3) := by decide +kernel
theorem dX5_letter_16 : decode cX5_letter 16 = .ok (.invokevirtual 55, 3) := by decide +kernel
theorem dX5_letter_19 : decode cX5_letter 19 = .ok (.ifCond .eq 15, 3) := by decide +kernel
theorem dX5_letter_22 : decode cX5_letter 22 = .ok (.aload_n 0, 1) := by decide +kernel
theorem dX5_letter_23 : decode cX5_letter 23 = .ok (.dup, 1) := by decide +kernel
theorem dX5_letter_24 : decode cX5_letter 24 = .ok (.getfield 30, 3) := by decide +kernel
theorem dX5_letter_27 : decode cX5_letter 27 = .ok (.iconst 1, 1) := by decide +kernel
theorem dX5_letter_28 : decode cX5_letter 28 = .ok (.iadd, 1) := by decide +kernel
theorem dX5_letter_29 : decode cX5_letter 29 = .ok (.putfield 30, 3) := by decide +kernel
theorem dX5_letter_32 : decode cX5_letter 32 = .ok (.iload_n 2, 1) := by decide +kernel
theorem dX5_letter_33 : decode cX5_letter 33 = .ok (.ireturn, 1) := by decide +kernel
theorem dX5_letter_34 : decode cX5_letter 34 = .ok (.iinc 2 1, 3) := by decide +kernel
theorem dX5_letter_37 : decode cX5_letter 37 = .ok (.goto (-35), 3) := by decide +kernel
theorem dX5_letter_40 : decode cX5_letter 40 = .ok (.aload_n 0, 1) := by decide +kernel
theorem dX5_letter_41 : decode cX5_letter 41 = .ok (.iconst 1, 1) := by decide +kernel
theorem dX5_letter_42 : decode cX5_letter 42 = .ok (.putfield 33, 3) := by decide +kernel
theorem dX5_letter_45 : decode cX5_letter 45 = .ok (.iconst 0, 1) := by decide +kernel
theorem dX5_letter_46 : decode cX5_letter 46 = .ok (.ireturn, 1) := by decide +kernel
theorem dX5_digit_0 : decode cX5_digit 0 = .ok (.aload_n 0, 1) := by decide +kernel
theorem dX5_digit_1 : decode cX5_digit 1 = .ok (.getfield 33, 3) := by decide +kernel
theorem dX5_digit_4 : decode cX5_digit 4 = .ok (.ifCond .ne 14, 3) := by decide +kernel
theorem dX5_digit_7 : decode cX5_digit 7 = .ok (.aload_n 0, 1) := by decide +kernel
theorem dX5_digit_8 : decode cX5_digit 8 = .ok (.getfield 30, 3) := by decide +kernel
theorem dX5_digit_11 : decode cX5_digit 11 = .ok (.aload_n 0, 1) := by decide +kernel
theorem dX5_digit_12 : decode cX5_digit 12 = .ok (.getfield 26, 3) := by decide +kernel
theorem dX5_digit_15 : decode cX5_digit 15 = .ok (.if_icmp .lt 7, 3) := by decide +kernel
theorem dX5_digit_18 : decode cX5_digit 18 = .ok (.iconst (-1), 1) := by decide +kernel
theorem dX5_digit_19 : decode cX5_digit 19 = .ok (.goto 15, 3) := by decide +kernel
theorem dX5_digit_22 : decode cX5_digit 22 = .ok (.aload_n 0, 1) := by decide +kernel
theorem dX5_digit_23 : decode cX5_digit 23 = .ok (.getfield 9, 3) := by decide +kernel
theorem dX5_digit_26 : decode cX5_digit 26 = .ok (.aload_n 0, 1) := by decide +kernel
theorem dX5_digit_27 : decode cX5_digit 27 = .ok (.getfield 30, 3) := by decide +kernel
theorem dX5_digit_30 : decode cX5_digit 30 = .ok (.iaload, 1) := by decide +kernel
theorem dX5_digit_31 : decode cX5_digit 31 = .ok (.bipush 48, 2) := by decide +kernel
theorem dX5_digit_33 : decode cX5_digit 33 = .ok (.isub, 1) := by decide +kernel
theorem dX5_digit_34 : decode cX5_digit 34 = .ok (.istore_n 3, 1) := by decide +kernel
theorem dX5_digit_35 : decode cX5_digit 35 = .ok (.iload_n 3, 1) := by decide +kernel
theorem dX5_digit_36 : decode cX5_digit 36 = .ok (.iload_n 1, 1) := by decide +kernel
theorem dX5_digit_37 : decode cX5_digit 37 = .ok (.if_icmp .lt 8, 3) := by decide +kernel
theorem dX5_digit_40 : decode cX5_digit 40 = .ok (.iload_n 3, 1) := by decide +kernel
theorem dX5_digit_41 : decode cX5_digit 41 = .ok (.iload_n 2, 1) := by decide +kernel
theorem dX5_digit_42 : decode cX5_digit 42 = .ok (.if_icmp .le 10, 3) := by decide +kernel
theorem dX5_digit_45 : decode cX5_digit 45 = .ok (.aload_n 0, 1) := by decide +kernel
theorem dX5_digit_46 : decode cX5_digit 46 = .ok (.iconst 1, 1) := by decide +kernel
theorem dX5_digit_47 : decode cX5_digit 47 = .ok (.putfield 33, 3) := by decide +kernel
theorem dX5_digit_50 : decode cX5_digit 50 = .ok (.iconst 0, 1) := by decide +kernel
theorem dX5_digit_51 : decode cX5_digit 51 = .ok (.ireturn, 1) := by decide +kernel
theorem dX5_digit_52 : decode cX5_digit 52 = .ok (.aload_n 0, 1) := by decide +kernel
theorem dX5_digit_53 : decode cX5_digit 53 = .ok (.dup, 1) := by decide +kernel
theorem dX5_digit_54 : decode cX5_digit 54 = .ok (.getfield 30, 3) := by decide +kernel
theorem dX5_digit_57 : decode cX5_digit 57 = .ok (.iconst 1, 1) := by decide +kernel
theorem dX5_digit_58 : decode cX5_digit 58 = .ok (.iadd, 1) := by decide +kernel
theorem dX5_digit_59 : decode cX5_digit 59 = .ok (.putfield 30, 3) := by decide +kernel
theorem dX5_digit_62 : decode cX5_digit 62 = .ok (.iload_n 3, 1) := by decide +kernel
theorem dX5_digit_63 : decode cX5_digit 63 = .ok (.ireturn, 1) := by decide +kernel
set_option maxRecDepth 20000 in
theorem aw_wsX4_init : wsX4_init.all goodWord = true := by decide +kernel
set_option maxRecDepth 20000 in
theorem ggX7_init_X4_init : GoodIn wsX7_init wsX4_init := goodIn_r _ [21, 22, 2, 3, 17, 23, 93, 94, 95, 96] rfl aw_wsX4_init
set_option maxRecDepth 20000 in
theorem gX7_init_X4_init_n17 : GoodIn wsX7_init (wsX4_init) := ggX7_init_X4_init
set_option maxRecDepth 20000 in
theorem aw_wsX6_init : wsX6_init.all goodWord = true := by decide +kernel
set_option maxRecDepth 20000 in
theorem ggX7_init_X6_init : GoodIn wsX7_init wsX6_init := goodIn_r _ [26, 27, 2, 3, 28, 29, 30, 31, 32, 33, 34, 35, 36, 37, 38, 39, 40, 41, 42, 43, 44, 45, 46, 17, 47, 48, 49, 50, 51, 52, 53, 54, 55, 56, 57, 58, 59, 60, 61, 62, 63, 64, 65, 66, 67, 68, 69, 70, 71, 72, 73, 74, 75, 76, 77, 78, 79, 106, 107, 108, 109, 110, 111, 112, 113, 114, 115, 116, 117, 118, 119, 120, 121, 122, 123, 124, 125, 126, 127, 128, 129, 130, 97, 98, 99, 100, 101] rfl aw_wsX6_init
set_option maxRecDepth 20000 in
theorem gX7_init_X6_init : GoodIn wsX7_init (wsX6_init) := ggX7_init_X6_init
set_option maxRecDepth 20000 in
theorem aw_wsX5_init : wsX5_init.all goodWord = true := by decide +kernel
set_option maxRecDepth 20000 in
theorem ggX7_init_X5_init : GoodIn wsX7_init wsX5_init := goodIn_r _ [81, 82, 2, 3, 17, 83, 102, 103, 104, 105] rfl aw_wsX5_init
set_option maxRecDepth 20000 in
theorem gX7_init_X5_init_n30 : GoodIn wsX7_init (wsX5_init) := ggX7_init_X5_init
theorem dX7_init_0 : decode cX7_init 0 = .ok (.aload_n 0, 1) := by decide +kernel
theorem dX7_init_1 : decode cX7_init 1 = .ok (.invokespecial 3, 3) := by decide +kernel
theorem dX7_init_4 : decode cX7_init 4 = .ok (.aload_n 0, 1) := by decide +kernel
theorem dX7_init_5 : decode cX7_init 5 = .ok (.iconst 4, 1) := by decide +kernel
theorem dX7_init_6 : decode cX7_init 6 = .ok (.anewarray 11, 3) := by decide +kernel
theorem dX7_init_9 : decode cX7_init 9 = .ok (.putfield 13, 3) := by decide +kernel
theorem dX7_init_12 : decode cX7_init 12 = .ok (.iconst 0, 1) := by decide +kernel
theorem dX7_init_13 : decode cX7_init 13 = .ok (.istore_n 1, 1) := by decide +kernel
theorem dX7_init_14 : decode cX7_init 14 = .ok (.iload_n 1, 1) := by decide +kernel
theorem dX7_init_15 : decode cX7_init 15 = .ok (.iconst 4, 1) := by decide +kernel
theorem dX7_init_16 : decode cX7_init 16 = .ok (.if_icmp .ge 22, 3) := by decide +kernel
theorem dX7_init_19 : decode cX7_init 19 = .ok (.aload_n 0, 1) := by decide +kernel
theorem dX7_init_20 : decode cX7_init 20 = .ok (.getfield 13, 3) := by decide +kernel
theorem dX7_init_23 : decode cX7_init 23 = .ok (.iload_n 1, 1) := by decide +kernel
theorem dX7_init_24 : decode cX7_init 24 = .ok (.new 11, 3) := by decide +kernel
theorem dX7_init_27 : decode cX7_init 27 = .ok (.dup, 1) := by decide +kernel
theorem dX7_init_28 : decode cX7_init 28 = .ok (.invokespecial 17, 3) := by decide +kernel
theorem dX7_init_31 : decode cX7_init 31 = .ok (.aastore, 1) := by decide +kernel
theorem dX7_init_32 : decode cX7_init 32 = .ok (.iinc 1 1, 3) := by decide +kernel
theorem dX7_init_35 : decode cX7_init 35 = .ok (.goto (-21), 3) := by decide +kernel
theorem dX7_init_38 : decode cX7_init 38 = .ok (.aload_n 0, 1) := by decide +kernel
theorem dX7_init_39 : decode cX7_init 39 = .ok (.new 18, 3) := by decide +kernel
theorem dX7_init_42 : decode cX7_init 42 = .ok (.dup, 1) := by decide +kernel
theorem dX7_init_43 : decode cX7_init 43 = .ok (.invokespecial 20, 3) := by decide +kernel
theorem dX7_init_46 : decode cX7_init 46 = .ok (.putfield 21, 3) := by decide +kernel
theorem dX7_init_49 : decode cX7_init 49 = .ok (.aload_n 0, 1) := by decide +kernel
theorem dX7_init_50 : decode cX7_init 50 = .ok (.new 18, 3) := by decide +kernel
theorem dX7_init_53 : decode cX7_init 53 = .ok (.dup, 1) := by decide +kernel
theorem dX7_init_54 : decode cX7_init 54 = .ok (.invokespecial 20, 3) := by decide +kernel
theorem dX7_init_57 : decode cX7_init 57 = .ok (.putfield 25, 3) := by decide +kernel
theorem dX7_init_60 : decode cX7_init 60 = .ok (.aload_n 0, 1) := by decide +kernel
theorem dX7_init_61 : decode cX7_init 61 = .ok (.new 28, 3) := by decide +kernel
theorem dX7_init_64 : decode cX7_init 64 = .ok (.dup, 1) := by decide +kernel
theorem dX7_init_65 : decode cX7_init 65 = .ok (.invokespecial 30, 3) := by decide +kernel
theorem dX7_init_68 : decode cX7_init 68 = .ok (.putfield 31, 3) := by decide +kernel
theorem dX7_init_71 : decode cX7_init 71 = .ok (.aload_n 0, 1) := by decide +kernel
theorem dX7_init_72 : decode cX7_init 72 = .ok (.bipush 8, 2) := by decide +kernel
theorem dX7_init_74 : decode cX7_init 74 = .ok (.newarray .int, 2) := by decide +kernel
theorem dX7_init_76 : decode cX7_init 76 = .ok (.putfield 35, 3) := by decide +kernel
theorem dX7_init_79 : decode cX7_init 79 = .ok (.aload_n 0, 1) := by decide +kernel
theorem dX7_init_80 : decode cX7_init 80 = .ok (.bipush 8, 2) := by decide +kernel
theorem dX7_init_82 : decode cX7_init 82 = .ok (.newarray .int, 2) := by decide +kernel
theorem dX7_init_84 : decode cX7_init 84 = .ok (.putfield 39, 3) := by decide +kernel
theorem dX7_init_87 : decode cX7_init 87 = .ok (.return_, 1) := by decide +kernel
set_option maxRecDepth 20000 in
theorem aw_wsX7_isSheet : wsX7_isSheet.all goodWord = true := by decide +kernel
set_option maxRecDepth 20000 in
theorem ggX7_program_X7_isSheet : GoodIn wsX7_program wsX7_isSheet := goodIn_r _ [6] rfl aw_wsX7_isSheet
set_option maxRecDepth 20000 in
theorem gX7_program_X7_isSheet : GoodIn wsX7_program (va_wsS RX7 46 yX7_isSheet wsX7_isSheet) := goodIn_app (goodIn_r _ [3, 4, 5] rfl (by decide +kernel)) ggX7_program_X7_isSheet
set_option maxRecDepth 20000 in
theorem aw_wsX7_isLane : wsX7_isLane.all goodWord = true := by decide +kernel
set_option maxRecDepth 20000 in
theorem ggX7_program_X7_isLane : GoodIn wsX7_program wsX7_isLane := goodIn_r _ [9] rfl aw_wsX7_isLane
set_option maxRecDepth 20000 in
theorem gX7_program_X7_isLane : GoodIn wsX7_program (va_wsS RX7 50 yX7_isLane wsX7_isLane) := goodIn_app (goodIn_r _ [7, 8, 5] rfl (by decide +kernel)) ggX7_program_X7_isLane
set_option maxRecDepth 20000 in
theorem aw_wsX4_faultAs : wsX4_faultAs.all goodWord = true := by decide +kernel
set_option maxRecDepth 20000 in
theorem ggX7_program_X4_faultAs : GoodIn wsX7_program wsX4_faultAs := goodIn_r _ [14, 15, 16, 213, 214, 215, 216] rfl aw_wsX4_faultAs
set_option maxRecDepth 20000 in
theorem gX7_program_X4_faultAs : GoodIn wsX7_program (wsV RX7 53 RX4 yX4_faultAs wsX4_faultAs) := goodIn_app (goodIn_r _ [10, 11, 12, 13] rfl (by decide +kernel)) ggX7_program_X4_faultAs
set_option maxRecDepth 20000 in
theorem aw_wsX4_has : wsX4_has.all goodWord = true := by decide +kernel
set_option maxRecDepth 20000 in
theorem ggX7_program_X4_has : GoodIn wsX7_program wsX4_has := goodIn_r _ [20, 21, 213, 214, 215, 216] rfl aw_wsX4_has
set_option maxRecDepth 20000 in
theorem gX7_program_X4_has : GoodIn wsX7_program (wsV RX7 57 RX4 yX4_has wsX4_has) := goodIn_app (goodIn_r _ [17, 18, 19, 13] rfl (by decide +kernel)) ggX7_program_X4_has
set_option maxRecDepth 20000 in
theorem aw_wsX7_programOf : wsX7_programOf.all goodWord = true := by decide +kernel
set_option maxRecDepth 20000 in
theorem ggX7_program_X7_programOf : GoodIn wsX7_program wsX7_programOf := goodIn_r _ [25, 26, 27, 28, 29, 30, 31, 32, 33, 34, 35, 36, 37, 38, 39, 40, 41, 42, 43, 44, 45, 46, 47, 48, 49, 50, 51, 52, 53, 54, 55, 56, 57, 58, 59, 60, 61, 62, 63, 64, 65, 66, 67, 68, 69, 70, 71, 72, 73, 74, 75, 76, 77, 78, 79, 80, 81, 82, 83, 84, 85, 86, 87, 88, 89, 90, 91, 92, 93, 94, 95, 96, 97, 98, 99, 100, 101, 102, 103, 104, 105, 106, 107, 108, 109, 110, 111, 112, 113, 114, 115, 116, 117, 118, 119, 120, 121, 122, 123, 124, 125, 126, 127, 128, 129, 130, 131, 132, 133, 134, 135, 136, 137, 138, 139, 140, 141, 142, 143, 144, 145, 146, 147, 148, 149, 150, 151, 152, 153, 154, 155, 156, 157, 158, 159, 160, 161, 162, 163, 164, 165, 166, 167, 168, 169, 170, 171, 172, 173, 174, 175, 176, 177, 178, 179, 180, 181, 182, 183, 184, 185, 186, 187, 188, 189, 190, 191, 192, 193, 194, 195, 196, 197, 198, 199, 204, 205, 206, 207, 208, 209, 210, 211, 212, 217, 218, 219, 220, 221, 222, 223, 224, 225, 226, 227, 228, 229, 230, 231, 232, 233, 234, 213, 214, 215, 216, 235, 236, 237] rfl aw_wsX7_programOf
set_option maxRecDepth 20000 in
theorem gX7_program_X7_programOf : GoodIn wsX7_program (wsV RX7 61 RX7 yX7_programOf wsX7_programOf) := goodIn_app (goodIn_r _ [22, 23, 24, 5] rfl (by decide +kernel)) ggX7_program_X7_programOf
set_option maxRecDepth 20000 in
theorem aw_wsX7_failed : wsX7_failed.all goodWord = true := by decide +kernel
set_option maxRecDepth 20000 in
theorem ggX7_program_X7_failed : GoodIn wsX7_program wsX7_failed := goodIn_r _ [203, 1, 204, 205, 206, 207, 208, 209, 210, 211, 212] rfl aw_wsX7_failed
set_option maxRecDepth 20000 in
theorem gX7_program_X7_failed : GoodIn wsX7_program (wsV RX7 65 RX7 yX7_failed wsX7_failed) := goodIn_app (goodIn_r _ [200, 201, 202, 5] rfl (by decide +kernel)) ggX7_program_X7_failed
theorem dX7_program_0 : decode cX7_program 0 = .ok (.aload_n 0, 1) := by decide +kernel
theorem dX7_program_1 : decode cX7_program 1 = .ok (.iconst 0, 1) := by decide +kernel
theorem dX7_program_2 : decode cX7_program 2 = .ok (.putfield 42, 3) := by decide +kernel
theorem dX7_program_5 : decode cX7_program 5 = .ok (.iload_n 1, 1) := by decide +kernel
theorem dX7_program_6 : decode cX7_program 6 = .ok (.invokestatic 46, 3) := by decide +kernel
theorem dX7_program_9 : decode cX7_program 9 = .ok (.ifCond .ne 5, 3) := by decide +kernel
theorem dX7_program_12 : decode cX7_program 12 = .ok (.iconst (-1), 1) := by decide +kernel
theorem dX7_program_13 : decode cX7_program 13 = .ok (.ireturn, 1) := by decide +kernel
theorem dX7_program_14 : decode cX7_program 14 = .ok (.iload_n 2, 1) := by decide +kernel
theorem dX7_program_15 : decode cX7_program 15 = .ok (.invokestatic 50, 3) := by decide +kernel
theorem dX7_program_18 : decode cX7_program 18 = .ok (.ifCond .ne 6, 3) := by decide +kernel
theorem dX7_program_21 : decode cX7_program 21 = .ok (.bipush (-2), 2) := by decide +kernel
theorem dX7_program_23 : decode cX7_program 23 = .ok (.ireturn, 1) := by decide +kernel
theorem dX7_program_24 : decode cX7_program 24 = .ok (.aload_n 0, 1) := by decide +kernel
theorem dX7_program_25 : decode cX7_program 25 = .ok (.getfield 13, 3) := by decide +kernel
theorem dX7_program_28 : decode cX7_program 28 = .ok (.iload_n 1, 1) := by decide +kernel
theorem dX7_program_29 : decode cX7_program 29 = .ok (.aaload, 1) := by decide +kernel
theorem dX7_program_30 : decode cX7_program 30 = .ok (.astore 5, 2) := by decide +kernel
theorem dX7_program_32 : decode cX7_program 32 = .ok (.aload 5, 2) := by decide +kernel
theorem dX7_program_34 : decode cX7_program 34 = .ok (.iload_n 2, 1) := by decide +kernel
theorem dX7_program_35 : decode cX7_program 35 = .ok (.invokevirtual 53, 3) := by decide +kernel
theorem dX7_program_38 : decode cX7_program 38 = .ok (.istore 6, 2) := by decide +kernel
theorem dX7_program_40 : decode cX7_program 40 = .ok (.iload 6, 2) := by decide +kernel
theorem dX7_program_42 : decode cX7_program 42 = .ok (.ifCond .ne 11, 3) := by decide +kernel
theorem dX7_program_45 : decode cX7_program 45 = .ok (.iload 4, 2) := by decide +kernel
theorem dX7_program_47 : decode cX7_program 47 = .ok (.ifCond .ge 6, 3) := by decide +kernel
theorem dX7_program_50 : decode cX7_program 50 = .ok (.iconst 4, 1) := by decide +kernel
theorem dX7_program_51 : decode cX7_program 51 = .ok (.istore 6, 2) := by decide +kernel
theorem dX7_program_53 : decode cX7_program 53 = .ok (.iload 6, 2) := by decide +kernel
theorem dX7_program_55 : decode cX7_program 55 = .ok (.ifCond .ne 17, 3) := by decide +kernel
theorem dX7_program_58 : decode cX7_program 58 = .ok (.aload 5, 2) := by decide +kernel
theorem dX7_program_60 : decode cX7_program 60 = .ok (.iload_n 3, 1) := by decide +kernel
theorem dX7_program_61 : decode cX7_program 61 = .ok (.iload 4, 2) := by decide +kernel
theorem dX7_program_63 : decode cX7_program 63 = .ok (.invokevirtual 57, 3) := by decide +kernel
theorem dX7_program_66 : decode cX7_program 66 = .ok (.ifCond .ne 6, 3) := by decide +kernel
theorem dX7_program_69 : decode cX7_program 69 = .ok (.iconst 3, 1) := by decide +kernel
theorem dX7_program_70 : decode cX7_program 70 = .ok (.istore 6, 2) := by decide +kernel
theorem dX7_program_72 : decode cX7_program 72 = .ok (.iload 6, 2) := by decide +kernel
theorem dX7_program_74 : decode cX7_program 74 = .ok (.ifCond .ne 15, 3) := by decide +kernel
theorem dX7_program_77 : decode cX7_program 77 = .ok (.aload_n 0, 1) := by decide +kernel
theorem dX7_program_78 : decode cX7_program 78 = .ok (.aload 5, 2) := by decide +kernel
theorem dX7_program_80 : decode cX7_program 80 = .ok (.iload_n 3, 1) := by decide +kernel
theorem dX7_program_81 : decode cX7_program 81 = .ok (.iload 4, 2) := by decide +kernel
theorem dX7_program_83 : decode cX7_program 83 = .ok (.invokevirtual 61, 3) := by decide +kernel
theorem dX7_program_86 : decode cX7_program 86 = .ok (.goto 9, 3) := by decide +kernel
theorem dX7_program_89 : decode cX7_program 89 = .ok (.aload_n 0, 1) := by decide +kernel
theorem dX7_program_90 : decode cX7_program 90 = .ok (.iload 6, 2) := by decide +kernel
theorem dX7_program_92 : decode cX7_program 92 = .ok (.invokevirtual 65, 3) := by decide +kernel
theorem dX7_program_95 : decode cX7_program 95 = .ok (.ireturn, 1) := by decide +kernel
set_option maxRecDepth 20000 in
theorem aw_wsX5_reads : wsX5_reads.all goodWord = true := by decide +kernel
set_option maxRecDepth 20000 in
theorem ggX7_programOf_X5_reads : GoodIn wsX7_programOf wsX5_reads := goodIn_r _ [13, 14, 15, 16, 17, 18, 19, 20, 21, 22, 23, 24, 25, 26, 27, 28, 29, 30, 31, 32, 33, 34, 35, 36, 37, 38, 12, 39, 40, 41, 42, 43, 44, 45, 46, 47, 48, 49, 50, 51, 52, 53, 54, 55, 56, 57, 58, 59, 60, 61, 62, 63, 64, 65, 66, 67, 68, 69, 70, 71, 72, 73, 74, 75, 76, 77, 78, 79, 80, 81, 82, 83, 84, 85, 86, 87, 88, 89, 90, 91, 92, 93, 94, 95, 96, 97, 98, 99, 100, 101, 102, 103, 104, 105, 106, 107, 108, 109, 110, 111, 112, 113, 114, 115, 116, 117, 202, 203, 204, 205, 189, 190, 191, 192, 193, 194, 195, 196, 197, 198, 199, 200, 201] rfl aw_wsX5_reads
set_option maxRecDepth 20000 in
theorem gX7_programOf_X5_reads : GoodIn wsX7_programOf (wsV RX7 72 RX5 yX5_reads wsX5_reads) := goodIn_app (goodIn_r _ [9, 10, 11, 12] rfl (by decide +kernel)) ggX7_programOf_X5_reads
set_option maxRecDepth 20000 in
theorem ggX7_programOf_X1_find : GoodIn wsX7_programOf wsX1_find := goodIn_r _ [122, 123, 124, 33, 34, 35, 125, 126, 127, 121, 128, 129, 130, 131, 132, 133, 134, 135, 136, 137, 138, 139, 140, 141, 142, 143, 109, 110, 27, 111, 112, 206, 207, 208, 193, 194, 195, 196, 197, 198, 199, 200, 201] rfl aw_wsX1_find
set_option maxRecDepth 20000 in
theorem gX7_programOf_X1_find : GoodIn wsX7_programOf (wsV RX7 83 RX1 yX1_find wsX1_find) := goodIn_app (goodIn_r _ [118, 119, 120, 121] rfl (by decide +kernel)) ggX7_programOf_X1_find
set_option maxRecDepth 20000 in
theorem aw_wsX1_goingRound : wsX1_goingRound.all goodWord = true := by decide +kernel
set_option maxRecDepth 20000 in
theorem ggX7_programOf_X1_goingRound : GoodIn wsX7_programOf wsX1_goingRound := goodIn_r _ [147, 129, 148, 130, 138, 137, 131, 149, 150, 151, 121, 152, 153, 136, 143, 109, 110, 27, 111, 112, 154, 155, 156, 157, 206, 207, 208, 193, 194, 195, 196, 197, 198, 199, 200, 201] rfl aw_wsX1_goingRound
set_option maxRecDepth 20000 in
theorem gX7_programOf_X1_goingRound : GoodIn wsX7_programOf (wsV RX7 89 RX1 yX1_goingRound wsX1_goingRound) := goodIn_app (goodIn_r _ [144, 145, 146, 121] rfl (by decide +kernel)) ggX7_programOf_X1_goingRound
set_option maxRecDepth 20000 in
theorem aw_wsX6_take : wsX6_take.all goodWord = true := by decide +kernel
set_option maxRecDepth 20000 in
theorem ggX7_programOf_X6_take : GoodIn wsX7_programOf wsX6_take := goodIn_r _ [162, 163, 164, 165, 166, 167, 27, 168, 169, 170, 17, 18, 19, 171, 112, 172, 173, 174, 29, 30, 31, 184, 185, 186, 187, 188, 193, 194, 195, 196, 197, 198, 199, 200, 201] rfl aw_wsX6_take
set_option maxRecDepth 20000 in
theorem gX7_programOf_X6_take : GoodIn wsX7_programOf (wsV RX7 93 RX6 yX6_take wsX6_take) := goodIn_app (goodIn_r _ [158, 159, 160, 161] rfl (by decide +kernel)) ggX7_programOf_X6_take
theorem dX7_programOf_0 : decode cX7_programOf 0 = .ok (.aload_n 0, 1) := by decide +kernel
theorem dX7_programOf_1 : decode cX7_programOf 1 = .ok (.getfield 31, 3) := by decide +kernel
theorem dX7_programOf_4 : decode cX7_programOf 4 = .ok (.aload_n 1, 1) := by decide +kernel
theorem dX7_programOf_5 : decode cX7_programOf 5 = .ok (.iload_n 2, 1) := by decide +kernel
theorem dX7_programOf_6 : decode cX7_programOf 6 = .ok (.iload_n 3, 1) := by decide +kernel
theorem dX7_programOf_7 : decode cX7_programOf 7 = .ok (.aload_n 0, 1) := by decide +kernel
theorem dX7_programOf_8 : decode cX7_programOf 8 = .ok (.getfield 25, 3) := by decide +kernel
theorem dX7_programOf_11 : decode cX7_programOf 11 = .ok (.getfield 68, 3) := by decide +kernel
theorem dX7_programOf_14 : decode cX7_programOf 14 = .ok (.invokevirtual 72, 3) := by decide +kernel
theorem dX7_programOf_17 : decode cX7_programOf 17 = .ok (.ifCond .ne 14, 3) := by decide +kernel
theorem dX7_programOf_20 : decode cX7_programOf 20 = .ok (.bipush (-100), 2) := by decide +kernel
theorem dX7_programOf_22 : decode cX7_programOf 22 = .ok (.aload_n 0, 1) := by decide +kernel
theorem dX7_programOf_23 : decode cX7_programOf 23 = .ok (.getfield 31, 3) := by decide +kernel
theorem dX7_programOf_26 : decode cX7_programOf 26 = .ok (.getfield 76, 3) := by decide +kernel
theorem dX7_programOf_29 : decode cX7_programOf 29 = .ok (.isub, 1) := by decide +kernel
theorem dX7_programOf_30 : decode cX7_programOf 30 = .ok (.ireturn, 1) := by decide +kernel
theorem dX7_programOf_31 : decode cX7_programOf 31 = .ok (.aload_n 0, 1) := by decide +kernel
theorem dX7_programOf_32 : decode cX7_programOf 32 = .ok (.getfield 25, 3) := by decide +kernel
theorem dX7_programOf_35 : decode cX7_programOf 35 = .ok (.getfield 79, 3) := by decide +kernel
theorem dX7_programOf_38 : decode cX7_programOf 38 = .ok (.invokevirtual 83, 3) := by decide +kernel
theorem dX7_programOf_41 : decode cX7_programOf 41 = .ok (.ifCond .ne 18, 3) := by decide +kernel
theorem dX7_programOf_44 : decode cX7_programOf 44 = .ok (.sipush (-200), 3) := by decide +kernel
theorem dX7_programOf_47 : decode cX7_programOf 47 = .ok (.aload_n 0, 1) := by decide +kernel
theorem dX7_programOf_48 : decode cX7_programOf 48 = .ok (.getfield 25, 3) := by decide +kernel
theorem dX7_programOf_51 : decode cX7_programOf 51 = .ok (.getfield 79, 3) := by decide +kernel
theorem dX7_programOf_54 : decode cX7_programOf 54 = .ok (.invokevirtual 89, 3) := by decide +kernel
theorem dX7_programOf_57 : decode cX7_programOf 57 = .ok (.isub, 1) := by decide +kernel
theorem dX7_programOf_58 : decode cX7_programOf 58 = .ok (.ireturn, 1) := by decide +kernel
theorem dX7_programOf_59 : decode cX7_programOf 59 = .ok (.aload_n 0, 1) := by decide +kernel
theorem dX7_programOf_60 : decode cX7_programOf 60 = .ok (.getfield 21, 3) := by decide +kernel
theorem dX7_programOf_63 : decode cX7_programOf 63 = .ok (.aload_n 0, 1) := by decide +kernel
theorem dX7_programOf_64 : decode cX7_programOf 64 = .ok (.getfield 25, 3) := by decide +kernel
theorem dX7_programOf_67 : decode cX7_programOf 67 = .ok (.getfield 68, 3) := by decide +kernel
theorem dX7_programOf_70 : decode cX7_programOf 70 = .ok (.invokevirtual 93, 3) := by decide +kernel
theorem dX7_programOf_73 : decode cX7_programOf 73 = .ok (.aload_n 0, 1) := by decide +kernel
theorem dX7_programOf_74 : decode cX7_programOf 74 = .ok (.iconst 0, 1) := by decide +kernel
theorem dX7_programOf_75 : decode cX7_programOf 75 = .ok (.putfield 97, 3) := by decide +kernel
theorem dX7_programOf_78 : decode cX7_programOf 78 = .ok (.aload_n 0, 1) := by decide +kernel
theorem dX7_programOf_79 : decode cX7_programOf 79 = .ok (.getfield 21, 3) := by decide +kernel
theorem dX7_programOf_82 : decode cX7_programOf 82 = .ok (.getfield 68, 3) := by decide +kernel
theorem dX7_programOf_85 : decode cX7_programOf 85 = .ok (.getfield 100, 3) := by decide +kernel
theorem dX7_programOf_88 : decode cX7_programOf 88 = .ok (.ireturn, 1) := by decide +kernel
set_option maxRecDepth 20000 in
theorem aw_wsX7_isRule : wsX7_isRule.all goodWord = true := by decide +kernel
set_option maxRecDepth 20000 in
theorem ggX7_ofRule_X7_isRule : GoodIn wsX7_ofRule wsX7_isRule := goodIn_r _ [13, 1, 2, 14, 27, 28, 29, 30, 31, 32, 33, 34, 35, 36, 37, 38, 39, 40, 41, 42, 43, 44, 45, 46, 47, 48, 49] rfl aw_wsX7_isRule
set_option maxRecDepth 20000 in
theorem gX7_ofRule_X7_isRule : GoodIn wsX7_ofRule (wsV RX7 105 RX7 yX7_isRule wsX7_isRule) := goodIn_app (goodIn_r _ [9, 10, 11, 12] rfl (by decide +kernel)) ggX7_ofRule_X7_isRule
set_option maxRecDepth 20000 in
theorem ggX7_ofRule_X2_cost : GoodIn wsX7_ofRule wsX2_cost := goodIn_r _ [19, 20, 21, 41, 42, 43, 44, 45, 46, 47, 48, 49] rfl aw_wsX2_cost
set_option maxRecDepth 20000 in
theorem gX7_ofRule_X2_cost : GoodIn wsX7_ofRule (wsV RX7 114 RX2 yX2_cost wsX2_cost) := goodIn_app (goodIn_r _ [15, 16, 17, 18] rfl (by decide +kernel)) ggX7_ofRule_X2_cost
set_option maxRecDepth 20000 in
theorem ggX7_ofRule_X2_hasOther : GoodIn wsX7_ofRule wsX2_hasOther := goodIn_r _ [25, 26, 41, 42, 43, 44, 45, 46, 47, 48, 49] rfl aw_wsX2_hasOther
set_option maxRecDepth 20000 in
theorem gX7_ofRule_X2_hasOther : GoodIn wsX7_ofRule (wsV RX7 126 RX2 yX2_hasOther wsX2_hasOther) := goodIn_app (goodIn_r _ [22, 23, 24, 18] rfl (by decide +kernel)) ggX7_ofRule_X2_hasOther
theorem dX7_ofRule_0 : decode cX7_ofRule 0 = .ok (.aload_n 0, 1) := by decide +kernel
theorem dX7_ofRule_1 : decode cX7_ofRule 1 = .ok (.iload_n 1, 1) := by decide +kernel
theorem dX7_ofRule_2 : decode cX7_ofRule 2 = .ok (.invokevirtual 105, 3) := by decide +kernel
theorem dX7_ofRule_5 : decode cX7_ofRule 5 = .ok (.ifCond .ne 5, 3) := by decide +kernel
theorem dX7_ofRule_8 : decode cX7_ofRule 8 = .ok (.iconst (-1), 1) := by decide +kernel
theorem dX7_ofRule_9 : decode cX7_ofRule 9 = .ok (.ireturn, 1) := by decide +kernel
theorem dX7_ofRule_10 : decode cX7_ofRule 10 = .ok (.aload_n 0, 1) := by decide +kernel
theorem dX7_ofRule_11 : decode cX7_ofRule 11 = .ok (.getfield 21, 3) := by decide +kernel
theorem dX7_ofRule_14 : decode cX7_ofRule 14 = .ok (.getfield 68, 3) := by decide +kernel
theorem dX7_ofRule_17 : decode cX7_ofRule 17 = .ok (.astore_n 3, 1) := by decide +kernel
theorem dX7_ofRule_18 : decode cX7_ofRule 18 = .ok (.iload_n 2, 1) := by decide +kernel
theorem dX7_ofRule_19 : decode cX7_ofRule 19 = .ok (.tableswitch 102 0 6 #[41, 48, 55, 61, 68, 75, 82], 41) := by decide +kernel
theorem dX7_ofRule_60 : decode cX7_ofRule 60 = .ok (.aload_n 3, 1) := by decide +kernel
theorem dX7_ofRule_61 : decode cX7_ofRule 61 = .ok (.getfield 108, 3) := by decide +kernel
theorem dX7_ofRule_64 : decode cX7_ofRule 64 = .ok (.iload_n 1, 1) := by decide +kernel
theorem dX7_ofRule_65 : decode cX7_ofRule 65 = .ok (.iaload, 1) := by decide +kernel
theorem dX7_ofRule_66 : decode cX7_ofRule 66 = .ok (.ireturn, 1) := by decide +kernel
theorem dX7_ofRule_67 : decode cX7_ofRule 67 = .ok (.aload_n 3, 1) := by decide +kernel
theorem dX7_ofRule_68 : decode cX7_ofRule 68 = .ok (.getfield 111, 3) := by decide +kernel
theorem dX7_ofRule_71 : decode cX7_ofRule 71 = .ok (.iload_n 1, 1) := by decide +kernel
theorem dX7_ofRule_72 : decode cX7_ofRule 72 = .ok (.iaload, 1) := by decide +kernel
theorem dX7_ofRule_73 : decode cX7_ofRule 73 = .ok (.ireturn, 1) := by decide +kernel
theorem dX7_ofRule_74 : decode cX7_ofRule 74 = .ok (.aload_n 3, 1) := by decide +kernel
theorem dX7_ofRule_75 : decode cX7_ofRule 75 = .ok (.iload_n 1, 1) := by decide +kernel
theorem dX7_ofRule_76 : decode cX7_ofRule 76 = .ok (.invokevirtual 114, 3) := by decide +kernel
theorem dX7_ofRule_79 : decode cX7_ofRule 79 = .ok (.ireturn, 1) := by decide +kernel
theorem dX7_ofRule_80 : decode cX7_ofRule 80 = .ok (.aload_n 3, 1) := by decide +kernel
theorem dX7_ofRule_81 : decode cX7_ofRule 81 = .ok (.getfield 117, 3) := by decide +kernel
theorem dX7_ofRule_84 : decode cX7_ofRule 84 = .ok (.iload_n 1, 1) := by decide +kernel
theorem dX7_ofRule_85 : decode cX7_ofRule 85 = .ok (.iaload, 1) := by decide +kernel
theorem dX7_ofRule_86 : decode cX7_ofRule 86 = .ok (.ireturn, 1) := by decide +kernel
theorem dX7_ofRule_87 : decode cX7_ofRule 87 = .ok (.aload_n 3, 1) := by decide +kernel
theorem dX7_ofRule_88 : decode cX7_ofRule 88 = .ok (.getfield 120, 3) := by decide +kernel
theorem dX7_ofRule_91 : decode cX7_ofRule 91 = .ok (.iload_n 1, 1) := by decide +kernel
theorem dX7_ofRule_92 : decode cX7_ofRule 92 = .ok (.iaload, 1) := by decide +kernel
theorem dX7_ofRule_93 : decode cX7_ofRule 93 = .ok (.ireturn, 1) := by decide +kernel
theorem dX7_ofRule_94 : decode cX7_ofRule 94 = .ok (.aload_n 3, 1) := by decide +kernel
theorem dX7_ofRule_95 : decode cX7_ofRule 95 = .ok (.getfield 123, 3) := by decide +kernel
theorem dX7_ofRule_98 : decode cX7_ofRule 98 = .ok (.iload_n 1, 1) := by decide +kernel
theorem dX7_ofRule_99 : decode cX7_ofRule 99 = .ok (.iaload, 1) := by decide +kernel
theorem dX7_ofRule_100 : decode cX7_ofRule 100 = .ok (.ireturn, 1) := by decide +kernel
theorem dX7_ofRule_101 : decode cX7_ofRule 101 = .ok (.aload_n 3, 1) := by decide +kernel
theorem dX7_ofRule_102 : decode cX7_ofRule 102 = .ok (.iload_n 1, 1) := by decide +kernel
theorem dX7_ofRule_103 : decode cX7_ofRule 103 = .ok (.invokevirtual 126, 3) := by decide +kernel
theorem dX7_ofRule_106 : decode cX7_ofRule 106 = .ok (.ifCond .eq 12, 3) := by decide +kernel
theorem dX7_ofRule_109 : decode cX7_ofRule 109 = .ok (.aload_n 3, 1) := by decide +kernel
theorem dX7_ofRule_110 : decode cX7_ofRule 110 = .ok (.getfield 129, 3) := by decide +kernel
theorem dX7_ofRule_113 : decode cX7_ofRule 113 = .ok (.iload_n 1, 1) := by decide +kernel
theorem dX7_ofRule_114 : decode cX7_ofRule 114 = .ok (.iaload, 1) := by decide +kernel
