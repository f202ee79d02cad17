set_option maxRecDepth 20000 in
theorem wLr_17 : ∀ w ∈ wsL_law_r17, w ∈ lw_tbl := lw_mem_r _ [150, 155, 163, 507, 509, 11, 510, 511, 512, 513, 514, 515, 1020, 1021, 1022, 1023, 1024, 1026, 44, 1027, 1028, 1030, 45, 1031] (by decide +kernel)
set_option maxRecDepth 20000 in
theorem wLr_18 : ∀ w ∈ wsL_law_r18, w ∈ lw_tbl := lw_mem_r _ [516, 517, 518, 519, 212, 286, 232, 171, 520, 522, 12, 523, 176, 524, 525, 526, 527, 528, 529, 530, 531, 532, 237, 173] (by decide +kernel)
set_option maxRecDepth 20000 in
theorem wLr_19 : ∀ w ∈ wsL_law_r19, w ∈ lw_tbl := lw_mem_r _ [167, 533, 534, 536, 13, 537, 538, 540, 14, 541, 182, 149, 211, 542, 544, 15, 545, 157, 164, 144, 546, 547, 548, 550] (by decide +kernel)
set_option maxRecDepth 20000 in
theorem wLr_20 : ∀ w ∈ wsL_law_r20, w ∈ lw_tbl := lw_mem_r _ [551, 552, 553, 554, 556, 557, 558, 559, 560, 561, 566, 264, 562, 563, 564, 565, 567, 569, 16, 570, 179, 146, 231, 168] (by decide +kernel)
set_option maxRecDepth 20000 in
theorem wLr_21 : ∀ w ∈ wsL_law_r21, w ∈ lw_tbl := lw_mem_r _ [571, 573, 17, 574, 140, 579, 580, 581, 162, 156, 575, 577, 18, 578, 582, 583, 584, 585, 586, 588, 589, 86, 590, 591] (by decide +kernel)
set_option maxRecDepth 20000 in
theorem wLr_22 : ∀ w ∈ wsL_law_r22, w ∈ lw_tbl := lw_mem_r _ [592, 593, 594, 595, 596, 597, 1032, 1033, 1034, 1035, 1036, 1038, 46, 1039, 1040, 1042, 47, 1043, 878, 1044, 1046, 48, 1047, 1048] (by decide +kernel)
set_option maxRecDepth 20000 in
theorem wLr_23 : ∀ w ∈ wsL_law_r23, w ∈ lw_tbl := lw_mem_r _ [1050, 49, 1051, 1052, 1054, 50, 1055, 1056, 1057, 1058, 1059, 1061, 51, 1062, 1063, 1065, 52, 1066, 598, 599, 600, 601, 602, 603] (by decide +kernel)
set_option maxRecDepth 20000 in
theorem wLr_24 : ∀ w ∈ wsL_law_r24, w ∈ lw_tbl := lw_mem_r _ [604, 605, 606, 607, 608, 609, 610, 141, 1067, 1068, 1069, 1070, 1071, 1073, 53, 1074, 1075, 1077, 54, 1078, 611, 612, 613, 614] (by decide +kernel)
set_option maxRecDepth 20000 in
theorem wLr_25 : ∀ w ∈ wsL_law_r25, w ∈ lw_tbl := lw_mem_r _ [615, 616, 617, 618, 619, 620, 621, 170, 1079, 1080, 1081, 1082, 1083, 1084, 1085, 622, 623, 624, 625, 236, 288, 626, 627, 628] (by decide +kernel)
set_option maxRecDepth 20000 in
theorem wLr_26 : ∀ w ∈ wsL_law_r26, w ∈ lw_tbl := lw_mem_r _ [629, 630, 631, 632, 633, 634, 635, 636, 637, 638, 639, 640, 641, 642, 643, 1086, 1087, 1088, 1089, 1090, 1092, 55, 1093, 1094] (by decide +kernel)
set_option maxRecDepth 20000 in
theorem wLr_27 : ∀ w ∈ wsL_law_r27, w ∈ lw_tbl := lw_mem_r _ [1096, 56, 1097, 1098, 1100, 57, 1101, 1102, 1104, 58, 1105, 644, 645, 646, 647, 648, 649, 650, 651, 652, 653, 654, 655, 656] (by decide +kernel)
set_option maxRecDepth 20000 in
theorem wLr_28 : ∀ w ∈ wsL_law_r28, w ∈ lw_tbl := lw_mem_r _ [657, 104, 658, 660, 19, 661, 662, 664, 20, 665, 666, 668, 21, 669, 238, 670, 671, 672, 673, 674, 675, 676, 677, 678] (by decide +kernel)
set_option maxRecDepth 20000 in
theorem wLr_29 : ∀ w ∈ wsL_law_r29, w ∈ lw_tbl := lw_mem_r _ [679, 680, 681, 682, 683, 684, 685, 686, 687, 689, 22, 690, 1106, 1107, 1108, 1109, 1110, 1112, 59, 1113, 1114, 1116, 60, 1117] (by decide +kernel)
set_option maxRecDepth 20000 in
theorem wLr_30 : ∀ w ∈ wsL_law_r30, w ∈ lw_tbl := lw_mem_r _ [1118, 1120, 61, 1121, 1122, 1124, 62, 1125, 1126, 1128, 63, 1129, 691, 692, 693, 694, 1130, 1131, 1132, 1133, 695, 696, 697, 698] (by decide +kernel)
set_option maxRecDepth 20000 in
theorem wLr_31 : ∀ w ∈ wsL_law_r31, w ∈ lw_tbl := lw_mem_r _ [699, 700, 701, 702, 1134, 1135, 1136, 1137, 703, 704, 705, 706, 707, 708, 709, 710, 263, 711, 713, 23, 714, 715, 717, 24] (by decide +kernel)
set_option maxRecDepth 20000 in
theorem wLr_32 : ∀ w ∈ wsL_law_r32, w ∈ lw_tbl := lw_mem_r _ [718, 213, 1138, 1139, 1140, 1141, 1142, 1144, 64, 1145, 719, 720, 721, 722, 723, 724, 725, 726, 1146, 1147, 1148, 1149, 727, 728] (by decide +kernel)
