set_option maxRecDepth 20000 in
theorem wLr_33 : ∀ w ∈ wsL_law_r33, w ∈ lw_tbl := lw_mem_r _ [729, 730, 731, 732, 733, 734, 183, 735, 737, 25, 738, 151, 158, 165, 740, 742, 26, 743, 233, 1150, 1151, 1152, 1153, 1154] (by decide +kernel)
set_option maxRecDepth 20000 in
theorem wLr_34 : ∀ w ∈ wsL_law_r34, w ∈ lw_tbl := lw_mem_r _ [1156, 65, 1157, 744, 745, 746, 747, 1158, 1159, 1160, 1161, 748, 749, 750, 751, 1162, 1163, 1164, 1165, 752, 753, 754, 755, 756] (by decide +kernel)
set_option maxRecDepth 20000 in
theorem wLr_35 : ∀ w ∈ wsL_law_r35, w ∈ lw_tbl := lw_mem_r _ [758, 27, 759, 1166, 1167, 1168, 1169, 1170, 1172, 66, 1173, 760, 761, 762, 763, 1174, 1175, 1176, 1177, 764, 765, 766, 767, 768] (by decide +kernel)
set_option maxRecDepth 20000 in
theorem wLr_36 : ∀ w ∈ wsL_law_r36, w ∈ lw_tbl := lw_mem_r _ [1178, 1179, 1180, 1181, 1182, 1183, 1184, 1185, 1186, 769, 770, 771, 772, 773, 774, 775, 776, 777, 1187, 1188, 1189, 1190, 778, 779] (by decide +kernel)
set_option maxRecDepth 20000 in
theorem wLr_37 : ∀ w ∈ wsL_law_r37, w ∈ lw_tbl := lw_mem_r _ [780, 781, 782, 783, 784, 785, 1191, 1192, 1193, 1194, 786, 787, 788, 789, 106, 790, 791, 792, 793, 794, 795, 796, 797, 1195] (by decide +kernel)
set_option maxRecDepth 20000 in
theorem wLr_38 : ∀ w ∈ wsL_law_r38, w ∈ lw_tbl := lw_mem_r _ [1196, 1197, 1198, 798, 799, 800, 801, 1199, 1200, 1201, 1202, 1203, 1205, 67, 1206, 802, 803, 804, 805, 108, 806, 1207, 1208, 1209] (by decide +kernel)
set_option maxRecDepth 20000 in
theorem wLr_39 : ∀ w ∈ wsL_law_r39, w ∈ lw_tbl := lw_mem_r _ [1210, 807, 808, 809, 810, 811, 813, 28, 814, 815, 817, 29, 818, 328, 819, 821, 30, 822, 823, 825, 31, 826, 1211, 1212] (by decide +kernel)
set_option maxRecDepth 20000 in
theorem wLr_40 : ∀ w ∈ wsL_law_r40, w ∈ lw_tbl := lw_mem_r _ [1213, 1214, 1215, 1217, 68, 1218, 854, 827, 828, 829, 830, 1219, 1220, 1221, 1222, 831, 832, 833, 834, 1223, 1224, 1225, 1226, 835] (by decide +kernel)
set_option maxRecDepth 20000 in
theorem wLr_41 : ∀ w ∈ wsL_law_r41, w ∈ lw_tbl := lw_mem_r _ [836, 837, 838, 1227, 1228, 1229, 1230, 839, 840, 841, 842, 1231, 1232, 1233, 1234, 843, 844, 845, 846, 1235, 1236, 1237, 1238] (by decide +kernel)
theorem inX0 : ∀ w ∈ wsX00, w ∈ lw_tbl := by decide +kernel
theorem inX1 : ∀ w ∈ wsX10, w ∈ lw_tbl := by decide +kernel
theorem inX2 : ∀ w ∈ wsX20, w ∈ lw_tbl := by decide +kernel
theorem inX3 : ∀ w ∈ wsX30, w ∈ lw_tbl := by decide +kernel
theorem inX4 : ∀ w ∈ wsX40, w ∈ lw_tbl := by decide +kernel
theorem inX5 : ∀ w ∈ wsX50, w ∈ lw_tbl := by decide +kernel
theorem inX6 : ∀ w ∈ wsX60, w ∈ lw_tbl := by decide +kernel
theorem inX7 : ∀ w ∈ wsX70, w ∈ lw_tbl := by decide +kernel
theorem inX8 : ∀ w ∈ wsX80, w ∈ lw_tbl := by decide +kernel
theorem wsL_law_in : ∀ w ∈ wsL_law, w ∈ lw_tbl := List.forall_mem_append.mpr ⟨List.forall_mem_append.mpr ⟨List.forall_mem_append.mpr ⟨List.forall_mem_append.mpr ⟨List.forall_mem_append.mpr ⟨List.forall_mem_append.mpr ⟨List.forall_mem_append.mpr ⟨List.forall_mem_append.mpr ⟨List.forall_mem_append.mpr ⟨List.forall_mem_append.mpr ⟨List.forall_mem_append.mpr ⟨wLr_1, List.forall_mem_append.mpr ⟨wLr_2, List.forall_mem_append.mpr ⟨wLr_3, List.forall_mem_append.mpr ⟨wLr_4, List.forall_mem_append.mpr ⟨wLr_5, List.forall_mem_append.mpr ⟨wLr_6, List.forall_mem_append.mpr ⟨wLr_7, List.forall_mem_append.mpr ⟨wLr_8, List.forall_mem_append.mpr ⟨wLr_9, List.forall_mem_append.mpr ⟨wLr_10, List.forall_mem_append.mpr ⟨wLr_11, List.forall_mem_append.mpr ⟨wLr_12, List.forall_mem_append.mpr ⟨wLr_13, List.forall_mem_append.mpr ⟨wLr_14, List.forall_mem_append.mpr ⟨wLr_15, List.forall_mem_append.mpr ⟨wLr_16, List.forall_mem_append.mpr ⟨wLr_17, List.forall_mem_append.mpr ⟨wLr_18, List.forall_mem_append.mpr ⟨wLr_19, List.forall_mem_append.mpr ⟨wLr_20, List.forall_mem_append.mpr ⟨wLr_21, List.forall_mem_append.mpr ⟨wLr_22, List.forall_mem_append.mpr ⟨wLr_23, List.forall_mem_append.mpr ⟨wLr_24, List.forall_mem_append.mpr ⟨wLr_25, List.forall_mem_append.mpr ⟨wLr_26, List.forall_mem_append.mpr ⟨wLr_27, List.forall_mem_append.mpr ⟨wLr_28, List.forall_mem_append.mpr ⟨wLr_29, List.forall_mem_append.mpr ⟨wLr_30, List.forall_mem_append.mpr ⟨wLr_31, List.forall_mem_append.mpr ⟨wLr_32, List.forall_mem_append.mpr ⟨wLr_33, List.forall_mem_append.mpr ⟨wLr_34, List.forall_mem_append.mpr ⟨wLr_35, List.forall_mem_append.mpr ⟨wLr_36, List.forall_mem_append.mpr ⟨wLr_37, List.forall_mem_append.mpr ⟨wLr_38, List.forall_mem_append.mpr ⟨wLr_39, List.forall_mem_append.mpr ⟨wLr_40, wLr_41⟩⟩⟩⟩⟩⟩⟩⟩⟩⟩⟩⟩⟩⟩⟩⟩⟩⟩⟩⟩⟩⟩⟩⟩⟩⟩⟩⟩⟩⟩⟩⟩⟩⟩⟩⟩⟩⟩⟩⟩, inX7⟩, inX8⟩, inX4⟩, inX6⟩, inX5⟩, inX2⟩, inX1⟩, inX3⟩, inX0⟩, fun _ h => absurd h List.not_mem_nil⟩
