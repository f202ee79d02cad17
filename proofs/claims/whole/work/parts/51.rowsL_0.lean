set_option maxRecDepth 20000 in
theorem ggL_law_X7_init : GoodIn wsL_law wsX7_init := goodIn_r _ [8, 9, 10, 11, 12, 13, 14, 15, 16, 17, 18, 19, 20, 21, 22, 23, 24, 25, 26, 27, 28, 29, 30, 31, 32, 33, 34, 35, 36, 37, 38, 39, 40, 41, 42, 43, 44, 45, 46, 47, 48, 49, 50, 51, 52, 53, 54, 55, 56, 57, 58, 59, 60, 61, 62, 63, 64, 65, 66, 67, 68, 69, 70, 71, 72, 73, 74, 75, 76, 77, 78, 79, 80, 81, 82, 83, 84, 85, 86, 87, 88, 89, 90, 980, 981, 982, 983, 984, 985, 986, 987, 988, 1023, 1024, 1025, 1026, 1027, 1028, 1029, 1030, 1031, 1032, 1033, 1034, 1035, 1036, 1037, 1038, 1039, 1040, 1041, 1042, 1043, 1044, 1045, 1046, 1047, 1048, 1049, 1050, 1051, 1052, 1053, 1054, 1055, 1056, 1057, 1058, 1059, 1060] (by decide +kernel) (by decide +kernel)
set_option maxRecDepth 20000 in
theorem gL_law_X7_init : GoodIn wsL_law (wsX7_init) := ggL_law_X7_init
set_option maxRecDepth 20000 in
theorem ggL_law_X8_init : GoodIn wsL_law wsX8_init := goodIn_r _ [93, 94, 10, 11, 25, 95, 96, 97, 98, 99, 100, 101, 102, 103, 104, 105, 106, 107, 108, 109, 110, 111, 112, 113, 114, 115, 116, 117, 118, 989, 990, 991, 992, 993, 994, 995, 996, 997, 998, 999, 1000, 1001, 1002, 1003, 1004, 1005, 1006, 1007, 1008, 1009, 1010, 1011, 1012, 1013, 1014, 1015, 1016, 1017, 1018, 1019, 1020, 1021, 1022] (by decide +kernel) (by decide +kernel)
set_option maxRecDepth 20000 in
theorem gL_law_X8_init : GoodIn wsL_law (wsX8_init) := ggL_law_X8_init
set_option maxRecDepth 20000 in
theorem ggL_law_X7_program : GoodIn wsL_law wsX7_program := goodIn_r _ [122, 123, 13, 124, 125, 2, 126, 127, 128, 129, 130, 131, 132, 15, 133, 134, 135, 136, 137, 138, 139, 140, 141, 142, 143, 144, 24, 20, 145, 146, 147, 19, 148, 149, 150, 151, 152, 23, 153, 154, 90, 155, 156, 157, 158, 159, 160, 161, 162, 163, 164, 165, 38, 166, 61, 167, 168, 169, 170, 171, 172, 173, 174, 175, 176, 177, 178, 179, 180, 181, 182, 183, 184, 185, 186, 187, 188, 189, 190, 191, 192, 193, 194, 195, 196, 197, 198, 199, 200, 201, 202, 203, 204, 205, 206, 207, 208, 209, 210, 211, 212, 213, 214, 215, 216, 217, 218, 219, 220, 221, 222, 223, 224, 225, 226, 227, 228, 229, 230, 231, 232, 233, 234, 235, 236, 237, 238, 239, 240, 241, 242, 243, 244, 245, 246, 247, 248, 57, 249, 250, 251, 252, 253, 254, 255, 256, 41, 257, 66, 258, 259, 260, 261, 262, 68, 263, 264, 265, 266, 267, 268, 269, 270, 271, 272, 273, 274, 275, 276, 277, 278, 279, 280, 281, 282, 283, 284, 285, 67, 286, 287, 288, 289, 290, 291, 292, 18, 293, 51, 294, 295, 296, 297, 298, 55, 299, 56, 58, 59, 60, 300, 301, 302, 303, 980, 981, 982, 983, 984, 985, 986, 987, 988, 1023, 1024, 1025, 1026, 1027, 1028, 1029, 1030, 1031, 1032, 1033, 1034, 1035, 1036, 1037, 1038, 1039, 1040, 1041, 1042, 1043, 1044, 1045, 1046, 1047] (by decide +kernel) (by decide +kernel)
set_option maxRecDepth 20000 in
theorem gL_law_X7_program : GoodIn wsL_law (wsV RL 13 RX7 yX7_program wsX7_program) := goodIn_app (goodIn_of _ (by decide +kernel)) ggL_law_X7_program
set_option maxRecDepth 20000 in
theorem ggL_law_X8_program : GoodIn wsL_law wsX8_program := goodIn_r _ [307, 308, 309, 310, 311, 104, 312, 106, 313, 314, 315, 5, 316, 317, 318, 319, 320, 321, 322, 323, 324, 325, 326, 95, 96, 327, 328, 329, 330, 331, 332, 333, 334, 335, 336, 97, 337, 338, 339, 340, 341, 342, 343, 344, 345, 346, 347, 348, 105, 349, 350, 351, 352, 353, 354, 355, 356, 107, 98, 99, 100, 101, 102, 103, 357, 358, 359, 360, 361, 362, 363, 364, 365, 366, 367, 368, 369, 370, 371, 372, 373, 374, 375, 989, 990, 991, 992, 993, 994, 995, 996, 997, 998, 999, 1000, 1001, 1002, 1003, 1004, 1005, 1006, 1007, 1008, 1009, 1010, 1011, 1012, 1013, 1014, 1015, 1016, 1017, 1018, 1019, 1020, 1021, 1022] (by decide +kernel) (by decide +kernel)
set_option maxRecDepth 20000 in
theorem gL_law_X8_program : GoodIn wsL_law (wsV RL 17 RX8 yX8_program wsX8_program) := goodIn_app (goodIn_of _ (by decide +kernel)) ggL_law_X8_program
set_option maxRecDepth 20000 in
theorem ggL_law_X7_ofRule : GoodIn wsL_law wsX7_ofRule := goodIn_r _ [379, 19, 145, 380, 381, 382, 383, 384, 385, 386, 387, 388, 2, 389, 149, 390, 391, 392, 38, 393, 55, 56, 394, 246, 247, 248, 57, 980, 981, 982, 983, 984, 985, 986, 987, 988, 1027, 1028, 1029, 1030, 1031, 1036, 1037, 1038, 1039, 1040, 1041, 1042, 1043, 1044] (by decide +kernel) (by decide +kernel)
set_option maxRecDepth 20000 in
theorem gL_law_X7_ofRule : GoodIn wsL_law (wsV RL 18 RX7 yX7_ofRule wsX7_ofRule) := goodIn_app (goodIn_of _ (by decide +kernel)) ggL_law_X7_ofRule
set_option maxRecDepth 20000 in
theorem ggL_law_X8_ofRule : GoodIn wsL_law wsX8_ofRule := goodIn_r _ [398, 98, 99, 100, 101, 102, 103, 399, 400, 401, 5, 402, 311, 403, 404, 405, 406, 989, 990, 991, 992, 993, 994, 995, 996, 997, 998, 999, 1000, 1001, 1002, 1003, 1004, 1005, 1006, 1007, 1008, 1009, 1010, 1011, 1012, 1013, 1014, 1015, 1016, 1017, 1018, 1019, 1020, 1021, 1022] (by decide +kernel) (by decide +kernel)
set_option maxRecDepth 20000 in
theorem gL_law_X8_ofRule : GoodIn wsL_law (wsV RL 22 RX8 yX8_ofRule wsX8_ofRule) := goodIn_app (goodIn_of _ (by decide +kernel)) ggL_law_X8_ofRule
set_option maxRecDepth 20000 in
theorem ggL_law_X7_ofRelation : GoodIn wsL_law wsX7_ofRelation := goodIn_r _ [410, 19, 147, 411, 412, 413, 145, 414, 415, 416, 417, 2, 418, 419, 420, 421, 422, 18, 423, 294, 50, 49, 48, 424, 255, 256, 41, 257, 66, 258, 170, 171, 172, 259, 260, 261, 262, 68, 263, 264, 265, 266, 267, 268, 269, 270, 271, 272, 273, 274, 275, 276, 246, 247, 38, 248, 57, 425, 426, 427, 44, 428, 75, 73, 429, 76, 430, 431, 432, 433, 434, 435, 436, 437, 438, 439, 440, 74, 441, 442, 77, 443, 444, 445, 446, 447, 448, 449, 450, 451, 452, 453, 454, 455, 456, 457, 458, 459, 460, 461, 462, 463, 47, 464, 82, 84, 465, 466, 467, 468, 469, 470, 61, 471, 472, 473, 474, 475, 476, 86, 477, 478, 479, 480, 481, 482, 483, 484, 485, 486, 487, 488, 489, 490, 491, 492, 493, 391, 392, 393, 55, 56, 494, 495, 496, 497, 498, 499, 500, 501, 502, 503, 504, 505, 506, 507, 508, 168, 58, 980, 981, 982, 983, 984, 985, 986, 987, 988, 1027, 1028, 1029, 1030, 1031, 1045, 1046, 1047, 1048, 1049, 1050, 1051, 1052, 1053, 1036, 1037, 1038, 1039, 1040, 1041, 1042, 1043, 1044, 1054, 1055, 1056, 1057, 1058, 1059, 1060] (by decide +kernel) (by decide +kernel)
set_option maxRecDepth 20000 in
theorem gL_law_X7_ofRelation : GoodIn wsL_law (wsV RL 23 RX7 yX7_ofRelation wsX7_ofRelation) := goodIn_app (goodIn_of _ (by decide +kernel)) ggL_law_X7_ofRelation
set_option maxRecDepth 20000 in
theorem ggL_law_X8_ofRelation : GoodIn wsL_law wsX8_ofRelation := goodIn_r _ [512, 108, 311, 101, 513, 514, 515, 5, 516, 310, 517, 518, 519, 520, 521, 109, 104, 111, 522, 523, 524, 525, 102, 100, 103, 526, 527, 528, 529, 110, 530, 531, 532, 533, 534, 535, 536, 537, 538, 539, 540, 541, 542, 543, 544, 989, 990, 991, 992, 993, 994, 995, 996, 997, 998, 999, 1000, 1001, 1002, 1003, 1004, 1005, 1006, 1007, 1008, 1009, 1010, 1011, 1012, 1013, 1014, 1015, 1016, 1017, 1018, 1019, 1020, 1021, 1022] (by decide +kernel) (by decide +kernel)
set_option maxRecDepth 20000 in
theorem gL_law_X8_ofRelation : GoodIn wsL_law (wsV RL 26 RX8 yX8_ofRelation wsX8_ofRelation) := goodIn_app (goodIn_of _ (by decide +kernel)) ggL_law_X8_ofRelation
set_option maxRecDepth 20000 in
theorem ggL_law_X7_form : GoodIn wsL_law wsX7_form := goodIn_r _ [548, 19, 145, 382, 386, 387, 388, 2, 389, 149, 549, 550, 551, 38, 552, 553, 246, 247, 248, 57, 554, 555, 556, 18, 557, 51, 558, 294, 50, 424, 255, 256, 41, 257, 66, 258, 170, 171, 172, 259, 260, 261, 262, 68, 263, 264, 265, 266, 267, 268, 269, 270, 271, 272, 273, 274, 275, 276, 980, 981, 982, 983, 984, 985, 986, 987, 988, 1027, 1028, 1029, 1030, 1031, 1036, 1037, 1038, 1039, 1040, 1041, 1042, 1043, 1044, 1045, 1046, 1047] (by decide +kernel) (by decide +kernel)
set_option maxRecDepth 20000 in
theorem gL_law_X7_form : GoodIn wsL_law (wsV RL 27 RX7 yX7_form wsX7_form) := goodIn_app (goodIn_of _ (by decide +kernel)) ggL_law_X7_form
set_option maxRecDepth 20000 in
theorem ggL_law_X8_form : GoodIn wsL_law wsX8_form := goodIn_r _ [562, 100, 399, 400, 401, 5, 402, 311, 563, 564, 565, 566, 317, 318, 319, 567, 568, 569, 570, 361, 362, 363, 364, 310, 365, 366, 367, 368, 101, 102, 103, 369, 370, 371, 989, 990, 991, 992, 993, 994, 995, 996, 997, 998, 999, 1000, 1001, 1002, 1003, 1004, 1005, 1006, 1007, 1008, 1009, 1010, 1011, 1012, 1013, 1014, 1015, 1016, 1017, 1018, 1019, 1020, 1021, 1022] (by decide +kernel) (by decide +kernel)
set_option maxRecDepth 20000 in
theorem gL_law_X8_form : GoodIn wsL_law (wsV RL 30 RX8 yX8_form wsX8_form) := goodIn_app (goodIn_of _ (by decide +kernel)) ggL_law_X8_form
set_option maxRecDepth 20000 in
theorem ggL_law_X7_tell : GoodIn wsL_law wsX7_tell := goodIn_r _ [574, 19, 415, 416, 417, 2, 418, 145, 419, 575, 576, 577, 578, 579, 580, 18, 581, 51, 582, 294, 980, 981, 982, 983, 984, 985, 986, 987, 988, 1027, 1028, 1029, 1030, 1031, 1036, 1037, 1038, 1039, 1040, 1041, 1042, 1043, 1044] (by decide +kernel) (by decide +kernel)
set_option maxRecDepth 20000 in
theorem gL_law_X7_tell : GoodIn wsL_law (wsV RL 31 RX7 yX7_tell wsX7_tell) := goodIn_app (goodIn_of _ (by decide +kernel)) ggL_law_X7_tell
set_option maxRecDepth 20000 in
theorem ggL_law_X8_tell : GoodIn wsL_law wsX8_tell := goodIn_r _ [586, 104, 513, 514, 515, 5, 516, 310, 587, 588, 589, 317, 318, 319, 534, 535, 536, 989, 990, 991, 992, 993, 994, 995, 996, 997, 998, 999, 1000, 1001, 1002, 1003, 1004, 1005, 1006, 1007, 1008, 1009, 1010, 1011, 1012, 1013, 1014, 1015, 1016, 1017, 1018, 1019, 1020, 1021, 1022] (by decide +kernel) (by decide +kernel)
set_option maxRecDepth 20000 in
theorem gL_law_X8_tell : GoodIn wsL_law (wsV RL 35 RX8 yX8_tell wsX8_tell) := goodIn_app (goodIn_of _ (by decide +kernel)) ggL_law_X8_tell
set_option maxRecDepth 20000 in
theorem ggL_law_X7_ofFact : GoodIn wsL_law wsX7_ofFact := goodIn_r _ [593, 19, 412, 145, 594, 595, 415, 416, 417, 2, 418, 419, 575, 576, 577, 420, 421, 422, 18, 423, 294, 50, 49, 48, 424, 255, 256, 41, 257, 66, 258, 170, 171, 172, 259, 260, 261, 262, 68, 263, 264, 265, 266, 267, 268, 269, 270, 271, 272, 273, 274, 275, 276, 246, 247, 38, 248, 57, 425, 426, 427, 44, 428, 75, 73, 429, 76, 430, 431, 432, 433, 434, 435, 436, 437, 438, 439, 440, 74, 441, 442, 77, 443, 444, 445, 446, 447, 448, 449, 450, 451, 452, 453, 454, 455, 456, 457, 458, 459, 460, 461, 462, 463, 47, 464, 82, 84, 465, 466, 467, 468, 469, 470, 61, 471, 472, 473, 474, 475, 476, 86, 477, 478, 479, 480, 481, 482, 483, 484, 485, 486, 487, 488, 489, 490, 491, 492, 493, 391, 392, 393, 55, 56, 494, 495, 496, 497, 596, 597, 598, 599, 600, 601, 602, 603, 604, 605, 606, 607, 608, 609, 610, 611, 612, 613, 980, 981, 982, 983, 984, 985, 986, 987, 988, 1027, 1028, 1029, 1030, 1031, 1048, 1049, 1050, 1051, 1052, 1053, 1036, 1037, 1038, 1039, 1040, 1041, 1042, 1043, 1044, 1045, 1046, 1047, 1054, 1055, 1056, 1057, 1058, 1059, 1060] (by decide +kernel) (by decide +kernel)
set_option maxRecDepth 20000 in
theorem gL_law_X7_ofFact : GoodIn wsL_law (wsV RL 36 RX7 yX7_ofFact wsX7_ofFact) := goodIn_app (goodIn_of _ (by decide +kernel)) ggL_law_X7_ofFact
set_option maxRecDepth 20000 in
theorem ggL_law_X8_ofFact : GoodIn wsL_law wsX8_ofFact := goodIn_r _ [617, 109, 104, 111, 112, 113, 114, 513, 514, 515, 5, 516, 310, 587, 588, 589, 317, 318, 319, 618, 619, 620, 621, 517, 518, 519, 520, 521, 522, 523, 524, 525, 108, 311, 102, 100, 103, 101, 526, 527, 528, 529, 110, 530, 531, 532, 533, 534, 535, 536, 622, 623, 624, 625, 626, 627, 628, 629, 403, 404, 405, 406, 98, 99, 630, 631, 632, 633, 989, 990, 991, 992, 993, 994, 995, 996, 997, 998, 999, 1000, 1001, 1002, 1003, 1004, 1005, 1006, 1007, 1008, 1009, 1010, 1011, 1012, 1013, 1014, 1015, 1016, 1017, 1018, 1019, 1020, 1021, 1022] (by decide +kernel) (by decide +kernel)
set_option maxRecDepth 20000 in
theorem gL_law_X8_ofFact : GoodIn wsL_law (wsV RL 39 RX8 yX8_ofFact wsX8_ofFact) := goodIn_app (goodIn_of _ (by decide +kernel)) ggL_law_X8_ofFact
set_option maxRecDepth 20000 in
theorem ggL_law_X7_day : GoodIn wsL_law wsX7_day := goodIn_r _ [637, 123, 13, 19, 145, 20, 124, 125, 2, 126, 127, 128, 129, 638, 639, 640, 130, 131, 132, 15, 133, 134, 135, 136, 137, 138, 139, 140, 300, 301, 302, 303, 641, 642, 643, 38, 644, 167, 645, 646, 647, 648, 649, 650, 651, 652, 290, 291, 292, 18, 293, 51, 294, 295, 296, 297, 298, 55, 299, 156, 157, 158, 56, 57, 58, 59, 60, 61, 168, 653, 654, 655, 656, 149, 419, 549, 550, 551, 552, 553, 246, 247, 248, 554, 555, 556, 557, 558, 50, 424, 255, 256, 41, 257, 66, 258, 170, 171, 172, 259, 260, 261, 262, 68, 263, 264, 265, 266, 267, 268, 269, 270, 271, 272, 273, 274, 275, 276, 575, 576, 577, 578, 579, 580, 581, 582, 420, 421, 422, 423, 49, 48, 425, 426, 427, 44, 428, 75, 73, 429, 76, 430, 431, 432, 433, 434, 435, 436, 437, 438, 439, 440, 74, 441, 442, 77, 443, 444, 445, 446, 447, 448, 449, 450, 451, 452, 453, 454, 455, 456, 457, 458, 459, 460, 461, 462, 463, 47, 464, 82, 84, 465, 466, 467, 468, 469, 470, 471, 472, 473, 474, 475, 476, 86, 477, 478, 479, 480, 481, 482, 483, 484, 485, 486, 487, 488, 489, 490, 491, 492, 493, 391, 392, 393, 494, 495, 496, 497, 657, 658, 659, 660, 412, 661, 595, 662, 663, 664, 665, 666, 499, 500, 501, 502, 503, 504, 667, 668, 669, 670, 671, 672, 673, 674, 675, 676, 677, 678, 679, 680, 413, 498, 980, 981, 982, 983, 984, 985, 986, 987, 988, 1027, 1028, 1029, 1030, 1031, 1023, 1024, 1025, 1026, 1036, 1037, 1038, 1039, 1040, 1041, 1042, 1043, 1044, 1045, 1046, 1047, 1048, 1049, 1050, 1051, 1052, 1053, 1054, 1055, 1056, 1057, 1058, 1059, 1060] (by decide +kernel) (by decide +kernel)
set_option maxRecDepth 20000 in
theorem gL_law_X7_day : GoodIn wsL_law (wsV RL 40 RX7 yX7_day wsX7_day) := goodIn_app (goodIn_of _ (by decide +kernel)) ggL_law_X7_day
set_option maxRecDepth 20000 in
theorem ggL_law_X8_day : GoodIn wsL_law wsX8_day := goodIn_r _ [684, 308, 310, 97, 115, 104, 116, 100, 314, 315, 5, 316, 317, 318, 319, 320, 321, 322, 323, 324, 325, 326, 95, 96, 327, 328, 329, 330, 685, 686, 687, 688, 689, 690, 691, 692, 399, 400, 401, 402, 311, 563, 564, 565, 566, 567, 568, 569, 570, 361, 362, 363, 364, 365, 366, 367, 368, 101, 102, 103, 369, 370, 371, 513, 514, 515, 516, 587, 588, 589, 534, 535, 536, 693, 694, 695, 696, 521, 112, 618, 619, 620, 621, 517, 518, 519, 520, 109, 111, 522, 523, 524, 525, 108, 526, 527, 528, 529, 110, 530, 531, 532, 533, 622, 623, 624, 625, 626, 627, 628, 629, 403, 404, 405, 406, 98, 99, 630, 631, 632, 633, 113, 114, 537, 538, 539, 540, 697, 698, 699, 700, 701, 702, 703, 704, 541, 542, 543, 544, 989, 990, 991, 992, 993, 994, 995, 996, 997, 998, 999, 1000, 1001, 1002, 1003, 1004, 1005, 1006, 1007, 1008, 1009, 1010, 1011, 1012, 1013, 1014, 1015, 1016, 1017, 1018, 1019, 1020, 1021, 1022] (by decide +kernel) (by decide +kernel)
set_option maxRecDepth 20000 in
theorem gL_law_X8_day : GoodIn wsL_law (wsV RL 44 RX8 yX8_day wsX8_day) := goodIn_app (goodIn_of _ (by decide +kernel)) ggL_law_X8_day
set_option maxRecDepth 20000 in
theorem ggL_law_X7_rounds : GoodIn wsL_law wsX7_rounds := goodIn_r _ [708, 19, 145, 412, 661, 641, 642, 643, 38, 644, 167, 420, 421, 422, 18, 423, 294, 50, 49, 48, 424, 255, 256, 41, 257, 66, 258, 170, 171, 172, 259, 260, 261, 262, 68, 263, 264, 265, 266, 267, 268, 269, 270, 271, 272, 273, 274, 275, 276, 246, 247, 248, 57, 425, 426, 427, 44, 428, 75, 73, 429, 76, 430, 431, 432, 433, 434, 435, 436, 437, 438, 439, 440, 74, 441, 442, 77, 443, 444, 445, 446, 447, 448, 449, 450, 451, 452, 453, 454, 2, 455, 456, 457, 458, 459, 460, 461, 462, 463, 47, 464, 82, 84, 465, 466, 467, 468, 469, 470, 61, 471, 472, 473, 474, 475, 476, 86, 477, 478, 479, 480, 481, 482, 483, 484, 485, 486, 487, 488, 489, 490, 491, 492, 493, 391, 392, 393, 55, 56, 494, 495, 496, 497, 980, 981, 982, 983, 984, 985, 986, 987, 988, 1027, 1028, 1029, 1030, 1031, 1048, 1049, 1050, 1051, 1052, 1053, 1036, 1037, 1038, 1039, 1040, 1041, 1042, 1043, 1044, 1045, 1046, 1047, 1054, 1055, 1056, 1057, 1058, 1059, 1060] (by decide +kernel) (by decide +kernel)
set_option maxRecDepth 20000 in
theorem gL_law_X7_rounds : GoodIn wsL_law (wsV RL 45 RX7 yX7_rounds wsX7_rounds) := goodIn_app (goodIn_of _ (by decide +kernel)) ggL_law_X7_rounds
set_option maxRecDepth 20000 in
theorem ggL_law_X8_rounds : GoodIn wsL_law wsX8_rounds := goodIn_r _ [712, 310, 521, 517, 518, 519, 5, 520, 109, 104, 111, 522, 523, 524, 525, 108, 311, 102, 100, 103, 101, 526, 527, 528, 529, 110, 530, 531, 532, 533, 534, 535, 536, 989, 990, 991, 992, 993, 994, 995, 996, 997, 998, 999, 1000, 1001, 1002, 1003, 1004, 1005, 1006, 1007, 1008, 1009, 1010, 1011, 1012, 1013, 1014, 1015, 1016, 1017, 1018, 1019, 1020, 1021, 1022] (by decide +kernel) (by decide +kernel)
set_option maxRecDepth 20000 in
theorem gL_law_X8_rounds : GoodIn wsL_law (wsV RL 49 RX8 yX8_rounds wsX8_rounds) := goodIn_app (goodIn_of _ (by decide +kernel)) ggL_law_X8_rounds
set_option maxRecDepth 20000 in
theorem ggL_law_X7_born : GoodIn wsL_law wsX7_born := goodIn_r _ [716, 19, 145, 412, 641, 642, 643, 38, 644, 167, 420, 421, 422, 18, 423, 294, 50, 49, 48, 424, 255, 256, 41, 257, 66, 258, 170, 171, 172, 259, 260, 261, 262, 68, 263, 264, 265, 266, 267, 268, 269, 270, 271, 272, 273, 274, 275, 276, 246, 247, 248, 57, 425, 426, 427, 44, 428, 75, 73, 429, 76, 430, 431, 432, 433, 434, 435, 436, 437, 438, 439, 440, 74, 441, 442, 77, 443, 444, 445, 446, 447, 448, 449, 450, 451, 452, 453, 454, 2, 455, 456, 457, 458, 459, 460, 461, 462, 463, 47, 464, 82, 84, 465, 466, 467, 468, 469, 470, 61, 471, 472, 473, 474, 475, 476, 86, 477, 478, 479, 480, 481, 482, 483, 484, 485, 486, 487, 488, 489, 490, 491, 492, 493, 391, 392, 393, 55, 56, 494, 495, 496, 497, 717, 718, 719, 720, 980, 981, 982, 983, 984, 985, 986, 987, 988, 1027, 1028, 1029, 1030, 1031, 1036, 1037, 1038, 1039, 1040, 1041, 1042, 1043, 1044, 1045, 1046, 1047, 1048, 1049, 1050, 1051, 1052, 1053, 1054, 1055, 1056, 1057, 1058, 1059, 1060] (by decide +kernel) (by decide +kernel)
set_option maxRecDepth 20000 in
theorem gL_law_X7_born : GoodIn wsL_law (wsV RL 50 RX7 yX7_born wsX7_born) := goodIn_app (goodIn_of _ (by decide +kernel)) ggL_law_X7_born
set_option maxRecDepth 20000 in
theorem ggL_law_X8_born : GoodIn wsL_law wsX8_born := goodIn_r _ [724, 310, 109, 111, 517, 518, 519, 5, 520, 521, 104, 522, 523, 524, 525, 108, 311, 102, 100, 103, 101, 526, 527, 528, 529, 110, 530, 531, 532, 533, 534, 535, 536, 989, 990, 991, 992, 993, 994, 995, 996, 997, 998, 999, 1000, 1001, 1002, 1003, 1004, 1005, 1006, 1007, 1008, 1009, 1010, 1011, 1012, 1013, 1014, 1015, 1016, 1017, 1018, 1019, 1020, 1021, 1022] (by decide +kernel) (by decide +kernel)
set_option maxRecDepth 20000 in
theorem gL_law_X8_born : GoodIn wsL_law (wsV RL 54 RX8 yX8_born wsX8_born) := goodIn_app (goodIn_of _ (by decide +kernel)) ggL_law_X8_born
set_option maxRecDepth 20000 in
theorem ggL_law_X7_ranked : GoodIn wsL_law wsX7_ranked := goodIn_r _ [728, 19, 595, 415, 416, 417, 2, 418, 145, 419, 420, 421, 422, 18, 423, 294, 50, 49, 48, 424, 255, 256, 41, 257, 66, 258, 170, 171, 172, 259, 260, 261, 262, 68, 263, 264, 265, 266, 267, 268, 269, 270, 271, 272, 273, 274, 275, 276, 246, 247, 38, 248, 57, 425, 426, 427, 44, 428, 75, 73, 429, 76, 430, 431, 432, 433, 434, 435, 436, 437, 438, 439, 440, 74, 441, 442, 77, 443, 444, 445, 446, 447, 448, 449, 450, 451, 452, 453, 454, 455, 456, 457, 458, 459, 460, 461, 462, 463, 47, 464, 82, 84, 465, 466, 467, 468, 469, 470, 61, 471, 472, 473, 474, 475, 476, 86, 477, 478, 479, 480, 481, 482, 483, 484, 485, 486, 487, 488, 489, 490, 491, 492, 493, 391, 392, 393, 55, 56, 494, 495, 496, 497, 729, 730, 731, 732, 733, 83, 734, 735, 736, 737, 738, 739, 740, 741, 85, 742, 980, 981, 982, 983, 984, 985, 986, 987, 988, 1027, 1028, 1029, 1030, 1031, 1036, 1037, 1038, 1039, 1040, 1041, 1042, 1043, 1044, 1045, 1046, 1047, 1048, 1049, 1050, 1051, 1052, 1053, 1054, 1055, 1056, 1057, 1058, 1059, 1060] (by decide +kernel) (by decide +kernel)
set_option maxRecDepth 20000 in
theorem gL_law_X7_ranked : GoodIn wsL_law (wsV RL 55 RX7 yX7_ranked wsX7_ranked) := goodIn_app (goodIn_of _ (by decide +kernel)) ggL_law_X7_ranked
set_option maxRecDepth 20000 in
theorem ggL_law_X8_ranked : GoodIn wsL_law wsX8_ranked := goodIn_r _ [746, 109, 513, 514, 515, 5, 516, 310, 618, 619, 620, 621, 112, 104, 517, 518, 519, 520, 521, 111, 522, 523, 524, 525, 108, 311, 102, 100, 103, 101, 526, 527, 528, 529, 110, 530, 531, 532, 533, 534, 535, 536, 622, 623, 624, 625, 626, 627, 628, 629, 403, 404, 405, 406, 98, 99, 630, 631, 632, 633, 113, 114, 747, 748, 749, 750, 989, 990, 991, 992, 993, 994, 995, 996, 997, 998, 999, 1000, 1001, 1002, 1003, 1004, 1005, 1006, 1007, 1008, 1009, 1010, 1011, 1012, 1013, 1014, 1015, 1016, 1017, 1018, 1019, 1020, 1021, 1022] (by decide +kernel) (by decide +kernel)
set_option maxRecDepth 20000 in
theorem gL_law_X8_ranked : GoodIn wsL_law (wsV RL 58 RX8 yX8_ranked wsX8_ranked) := goodIn_app (goodIn_of _ (by decide +kernel)) ggL_law_X8_ranked
set_option maxRecDepth 20000 in
theorem ggL_law_X7_settled : GoodIn wsL_law wsX7_settled := goodIn_r _ [754, 19, 145, 595, 641, 642, 643, 38, 644, 167, 420, 421, 422, 18, 423, 294, 50, 49, 48, 424, 255, 256, 41, 257, 66, 258, 170, 171, 172, 259, 260, 261, 262, 68, 263, 264, 265, 266, 267, 268, 269, 270, 271, 272, 273, 274, 275, 276, 246, 247, 248, 57, 425, 426, 427, 44, 428, 75, 73, 429, 76, 430, 431, 432, 433, 434, 435, 436, 437, 438, 439, 440, 74, 441, 442, 77, 443, 444, 445, 446, 447, 448, 449, 450, 451, 452, 453, 454, 2, 455, 456, 457, 458, 459, 460, 461, 462, 463, 47, 464, 82, 84, 465, 466, 467, 468, 469, 470, 61, 471, 472, 473, 474, 475, 476, 86, 477, 478, 479, 480, 481, 482, 483, 484, 485, 486, 487, 488, 489, 490, 491, 492, 493, 391, 392, 393, 55, 56, 494, 495, 496, 497, 755, 756, 757, 758, 733, 83, 734, 735, 736, 737, 738, 739, 740, 741, 85, 742, 980, 981, 982, 983, 984, 985, 986, 987, 988, 1027, 1028, 1029, 1030, 1031, 1036, 1037, 1038, 1039, 1040, 1041, 1042, 1043, 1044, 1045, 1046, 1047, 1048, 1049, 1050, 1051, 1052, 1053, 1054, 1055, 1056, 1057, 1058, 1059, 1060] (by decide +kernel) (by decide +kernel)
set_option maxRecDepth 20000 in
theorem gL_law_X7_settled : GoodIn wsL_law (wsV RL 59 RX7 yX7_settled wsX7_settled) := goodIn_app (goodIn_of _ (by decide +kernel)) ggL_law_X7_settled
set_option maxRecDepth 20000 in
theorem ggL_law_X8_settled : GoodIn wsL_law wsX8_settled := goodIn_r _ [762, 310, 108, 109, 618, 619, 620, 5, 621, 112, 104, 517, 518, 519, 520, 521, 111, 522, 523, 524, 525, 311, 102, 100, 103, 101, 526, 527, 528, 529, 110, 530, 531, 532, 533, 534, 535, 536, 622, 623, 624, 625, 626, 627, 628, 629, 403, 404, 405, 406, 98, 99, 630, 631, 632, 633, 113, 114, 747, 748, 749, 750, 989, 990, 991, 992, 993, 994, 995, 996, 997, 998, 999, 1000, 1001, 1002, 1003, 1004, 1005, 1006, 1007, 1008, 1009, 1010, 1011, 1012, 1013, 1014, 1015, 1016, 1017, 1018, 1019, 1020, 1021, 1022] (by decide +kernel) (by decide +kernel)
set_option maxRecDepth 20000 in
theorem gL_law_X8_settled : GoodIn wsL_law (wsV RL 62 RX8 yX8_settled wsX8_settled) := goodIn_app (goodIn_of _ (by decide +kernel)) ggL_law_X8_settled
set_option maxRecDepth 20000 in
theorem ggL_law_X7_demands : GoodIn wsL_law wsX7_demands := goodIn_r _ [766, 19, 415, 416, 417, 2, 418, 145, 419, 575, 576, 577, 420, 421, 422, 18, 423, 294, 50, 49, 48, 424, 255, 256, 41, 257, 66, 258, 170, 171, 172, 259, 260, 261, 262, 68, 263, 264, 265, 266, 267, 268, 269, 270, 271, 272, 273, 274, 275, 276, 246, 247, 38, 248, 57, 425, 426, 427, 44, 428, 75, 73, 429, 76, 430, 431, 432, 433, 434, 435, 436, 437, 438, 439, 440, 74, 441, 442, 77, 443, 444, 445, 446, 447, 448, 449, 450, 451, 452, 453, 454, 455, 456, 457, 458, 459, 460, 461, 462, 463, 47, 464, 82, 84, 465, 466, 467, 468, 469, 470, 61, 471, 472, 473, 474, 475, 476, 86, 477, 478, 479, 480, 481, 482, 483, 484, 485, 486, 487, 488, 489, 490, 491, 492, 493, 391, 392, 393, 55, 56, 494, 495, 496, 497, 767, 768, 769, 770, 51, 771, 772, 773, 774, 775, 776, 777, 778, 558, 779, 780, 781, 782, 783, 980, 981, 982, 983, 984, 985, 986, 987, 988, 1027, 1028, 1029, 1030, 1031, 1036, 1037, 1038, 1039, 1040, 1041, 1042, 1043, 1044, 1045, 1046, 1047, 1048, 1049, 1050, 1051, 1052, 1053, 1054, 1055, 1056, 1057, 1058, 1059, 1060] (by decide +kernel) (by decide +kernel)
set_option maxRecDepth 20000 in
theorem gL_law_X7_demands : GoodIn wsL_law (wsV RL 63 RX7 yX7_demands wsX7_demands) := goodIn_app (goodIn_of _ (by decide +kernel)) ggL_law_X7_demands
set_option maxRecDepth 20000 in
theorem ggL_law_X8_demands : GoodIn wsL_law wsX8_demands := goodIn_r _ [787, 311, 101, 513, 514, 515, 5, 516, 310, 587, 588, 589, 317, 318, 319, 517, 518, 519, 520, 521, 109, 104, 111, 522, 523, 524, 525, 108, 102, 100, 103, 526, 527, 528, 529, 110, 530, 531, 532, 533, 534, 535, 536, 369, 370, 371, 788, 789, 790, 791, 989, 990, 991, 992, 993, 994, 995, 996, 997, 998, 999, 1000, 1001, 1002, 1003, 1004, 1005, 1006, 1007, 1008, 1009, 1010, 1011, 1012, 1013, 1014, 1015, 1016, 1017, 1018, 1019, 1020, 1021, 1022] (by decide +kernel) (by decide +kernel)
set_option maxRecDepth 20000 in
theorem gL_law_X8_demands : GoodIn wsL_law (wsV RL 66 RX8 yX8_demands wsX8_demands) := goodIn_app (goodIn_of _ (by decide +kernel)) ggL_law_X8_demands
set_option maxRecDepth 20000 in
theorem ggL_law_X7_reading : GoodIn wsL_law wsX7_reading := goodIn_r _ [795, 148, 26, 27, 415, 416, 417, 2, 418, 19, 145, 419, 575, 576, 577, 596, 597, 598, 980, 981, 982, 983, 984, 985, 986, 987, 988, 1027, 1028, 1029, 1030, 1031, 1036, 1037, 1038, 1039, 1040, 1041, 1042, 1043, 1044] (by decide +kernel) (by decide +kernel)
set_option maxRecDepth 20000 in
theorem gL_law_X7_reading : GoodIn wsL_law (wsV RL 67 RX7 yX7_reading wsX7_reading) := goodIn_app (goodIn_of _ (by decide +kernel)) ggL_law_X7_reading
set_option maxRecDepth 20000 in
theorem ggL_law_X8_reading : GoodIn wsL_law wsX8_reading := goodIn_r _ [799, 313, 117, 118, 513, 514, 515, 5, 516, 310, 587, 588, 589, 317, 318, 319, 534, 535, 536, 989, 990, 991, 992, 993, 994, 995, 996, 997, 998, 999, 1000, 1001, 1002, 1003, 1004, 1005, 1006, 1007, 1008, 1009, 1010, 1011, 1012, 1013, 1014, 1015, 1016, 1017, 1018, 1019, 1020, 1021, 1022] (by decide +kernel) (by decide +kernel)
set_option maxRecDepth 20000 in
theorem gL_law_X8_reading : GoodIn wsL_law (wsV RL 70 RX8 yX8_reading wsX8_reading) := goodIn_app (goodIn_of _ (by decide +kernel)) ggL_law_X8_reading
set_option maxRecDepth 20000 in
theorem ggL_law_X7_back : GoodIn wsL_law wsX7_back := goodIn_r _ [803, 148, 980, 981, 982, 983, 984, 985, 986, 987, 988] (by decide +kernel) (by decide +kernel)
set_option maxRecDepth 20000 in
theorem gL_law_X7_back : GoodIn wsL_law (wsV RL 71 RX7 yX7_back wsX7_back) := goodIn_app (goodIn_of _ (by decide +kernel)) ggL_law_X7_back
set_option maxRecDepth 20000 in
theorem ggL_law_X8_back : GoodIn wsL_law wsX8_back := goodIn_r _ [807, 313, 317, 318, 5, 319, 989, 990, 991, 992, 993, 994, 995, 996, 997, 998, 999, 1000, 1001, 1002, 1003, 1004, 1005, 1006, 1007, 1008, 1009, 1010, 1011, 1012, 1013, 1014, 1015, 1016, 1017, 1018, 1019, 1020, 1021, 1022] (by decide +kernel) (by decide +kernel)
set_option maxRecDepth 20000 in
theorem gL_law_X8_back : GoodIn wsL_law (wsV RL 74 RX8 yX8_back wsX8_back) := goodIn_app (goodIn_of _ (by decide +kernel)) ggL_law_X8_back
set_option maxRecDepth 20000 in
theorem ggL_law_X7_kinds : GoodIn wsL_law wsX7_kinds := goodIn_r _ [811, 20, 19, 145, 380, 148, 386, 387, 388, 2, 389, 149, 290, 291, 292, 18, 293, 51, 294, 295, 296, 297, 38, 298, 55, 299, 156, 157, 158, 56, 57, 58, 59, 60, 61, 167, 168, 420, 421, 422, 423, 50, 49, 48, 424, 255, 256, 41, 257, 66, 258, 170, 171, 172, 259, 260, 261, 262, 68, 263, 264, 265, 266, 267, 268, 269, 270, 271, 272, 273, 274, 275, 276, 246, 247, 248, 425, 426, 427, 44, 428, 75, 73, 429, 76, 430, 431, 432, 433, 434, 435, 436, 437, 438, 439, 440, 74, 441, 442, 77, 443, 444, 445, 446, 447, 448, 449, 450, 451, 452, 453, 454, 455, 456, 457, 458, 459, 460, 461, 462, 463, 47, 464, 82, 84, 465, 466, 467, 468, 469, 470, 471, 472, 473, 474, 475, 476, 86, 477, 478, 479, 480, 481, 482, 483, 484, 485, 486, 487, 488, 489, 490, 491, 492, 493, 391, 392, 393, 494, 495, 496, 497, 812, 813, 814, 815, 595, 26, 27, 601, 602, 603, 604, 980, 981, 982, 983, 984, 985, 986, 987, 988, 1027, 1028, 1029, 1030, 1031, 1036, 1037, 1038, 1039, 1040, 1041, 1042, 1043, 1044, 1045, 1046, 1047, 1048, 1049, 1050, 1051, 1052, 1053, 1054, 1055, 1056, 1057, 1058, 1059, 1060] (by decide +kernel) (by decide +kernel)
set_option maxRecDepth 20000 in
theorem gL_law_X7_kinds : GoodIn wsL_law (wsV RL 75 RX7 yX7_kinds wsX7_kinds) := goodIn_app (goodIn_of _ (by decide +kernel)) ggL_law_X7_kinds
set_option maxRecDepth 20000 in
theorem ggL_law_X8_kinds : GoodIn wsL_law wsX8_kinds := goodIn_r _ [819, 98, 399, 400, 401, 5, 402, 311, 820, 821, 822, 823, 313, 112, 117, 118, 361, 362, 363, 364, 310, 365, 366, 367, 368, 101, 102, 100, 103, 369, 370, 371, 618, 619, 620, 621, 104, 517, 518, 519, 520, 521, 109, 111, 522, 523, 524, 525, 108, 526, 527, 528, 529, 110, 530, 531, 532, 533, 534, 535, 536, 622, 623, 624, 625, 626, 627, 628, 629, 403, 404, 405, 406, 99, 630, 631, 632, 633, 113, 114, 989, 990, 991, 992, 993, 994, 995, 996, 997, 998, 999, 1000, 1001, 1002, 1003, 1004, 1005, 1006, 1007, 1008, 1009, 1010, 1011, 1012, 1013, 1014, 1015, 1016, 1017, 1018, 1019, 1020, 1021, 1022] (by decide +kernel) (by decide +kernel)
set_option maxRecDepth 20000 in
theorem gL_law_X8_kinds : GoodIn wsL_law (wsV RL 78 RX8 yX8_kinds wsX8_kinds) := goodIn_app (goodIn_of _ (by decide +kernel)) ggL_law_X8_kinds
set_option maxRecDepth 20000 in
theorem ggL_law_X7_forms : GoodIn wsL_law wsX7_forms := goodIn_r _ [827, 20, 19, 145, 148, 386, 387, 388, 2, 389, 149, 290, 291, 292, 18, 293, 51, 294, 295, 296, 297, 38, 298, 55, 299, 156, 157, 158, 56, 57, 58, 59, 60, 61, 167, 168, 549, 550, 551, 552, 553, 246, 247, 248, 554, 555, 556, 557, 558, 50, 424, 255, 256, 41, 257, 66, 258, 170, 171, 172, 259, 260, 261, 262, 68, 263, 264, 265, 266, 267, 268, 269, 270, 271, 272, 273, 274, 275, 276, 420, 421, 422, 423, 49, 48, 425, 426, 427, 44, 428, 75, 73, 429, 76, 430, 431, 432, 433, 434, 435, 436, 437, 438, 439, 440, 74, 441, 442, 77, 443, 444, 445, 446, 447, 448, 449, 450, 451, 452, 453, 454, 455, 456, 457, 458, 459, 460, 461, 462, 463, 47, 464, 82, 84, 465, 466, 467, 468, 469, 470, 471, 472, 473, 474, 475, 476, 86, 477, 478, 479, 480, 481, 482, 483, 484, 485, 486, 487, 488, 489, 490, 491, 492, 493, 391, 392, 393, 494, 495, 496, 497, 812, 813, 814, 815, 595, 26, 27, 601, 602, 603, 604, 980, 981, 982, 983, 984, 985, 986, 987, 988, 1027, 1028, 1029, 1030, 1031, 1036, 1037, 1038, 1039, 1040, 1041, 1042, 1043, 1044, 1045, 1046, 1047, 1048, 1049, 1050, 1051, 1052, 1053, 1054, 1055, 1056, 1057, 1058, 1059, 1060] (by decide +kernel) (by decide +kernel)
set_option maxRecDepth 20000 in
theorem gL_law_X7_forms : GoodIn wsL_law (wsV RL 79 RX7 yX7_forms wsX7_forms) := goodIn_app (goodIn_of _ (by decide +kernel)) ggL_law_X7_forms
set_option maxRecDepth 20000 in
theorem ggL_law_X8_forms : GoodIn wsL_law wsX8_forms := goodIn_r _ [831, 100, 399, 400, 401, 5, 402, 311, 820, 821, 822, 823, 313, 112, 117, 118, 361, 362, 363, 364, 310, 365, 366, 367, 368, 101, 102, 103, 369, 370, 371, 618, 619, 620, 621, 104, 517, 518, 519, 520, 521, 109, 111, 522, 523, 524, 525, 108, 526, 527, 528, 529, 110, 530, 531, 532, 533, 534, 535, 536, 622, 623, 624, 625, 626, 627, 628, 629, 403, 404, 405, 406, 98, 99, 630, 631, 632, 633, 113, 114, 989, 990, 991, 992, 993, 994, 995, 996, 997, 998, 999, 1000, 1001, 1002, 1003, 1004, 1005, 1006, 1007, 1008, 1009, 1010, 1011, 1012, 1013, 1014, 1015, 1016, 1017, 1018, 1019, 1020, 1021, 1022] (by decide +kernel) (by decide +kernel)
set_option maxRecDepth 20000 in
theorem gL_law_X8_forms : GoodIn wsL_law (wsV RL 82 RX8 yX8_forms wsX8_forms) := goodIn_app (goodIn_of _ (by decide +kernel)) ggL_law_X8_forms
set_option maxRecDepth 20000 in
theorem ggL_law_X7_odds : GoodIn wsL_law wsX7_odds := goodIn_r _ [835, 836, 19, 412, 413, 415, 416, 417, 2, 418, 145, 419, 420, 421, 422, 18, 423, 294, 50, 49, 48, 424, 255, 256, 41, 257, 66, 258, 170, 171, 172, 259, 260, 261, 262, 68, 263, 264, 265, 266, 267, 268, 269, 270, 271, 272, 273, 274, 275, 276, 246, 247, 38, 248, 57, 425, 426, 427, 44, 428, 75, 73, 429, 76, 430, 431, 432, 433, 434, 435, 436, 437, 438, 439, 440, 74, 441, 442, 77, 443, 444, 445, 446, 447, 448, 449, 450, 451, 452, 453, 454, 455, 456, 457, 458, 459, 460, 461, 462, 463, 47, 464, 82, 84, 465, 466, 467, 468, 469, 470, 61, 471, 472, 473, 474, 475, 476, 86, 477, 478, 479, 480, 481, 482, 483, 484, 485, 486, 487, 488, 489, 490, 491, 492, 493, 391, 392, 393, 55, 56, 494, 495, 496, 497, 498, 499, 500, 501, 502, 503, 504, 980, 981, 982, 983, 984, 985, 986, 987, 988, 1027, 1028, 1029, 1030, 1031, 1048, 1049, 1050, 1051, 1052, 1053, 1036, 1037, 1038, 1039, 1040, 1041, 1042, 1043, 1044, 1045, 1046, 1047, 1054, 1055, 1056, 1057, 1058, 1059, 1060] (by decide +kernel) (by decide +kernel)
set_option maxRecDepth 20000 in
theorem gL_law_X7_odds : GoodIn wsL_law (wsV RL 83 RX7 yX7_odds wsX7_odds) := goodIn_app (goodIn_of _ (by decide +kernel)) ggL_law_X7_odds
set_option maxRecDepth 20000 in
theorem ggL_law_X8_odds : GoodIn wsL_law wsX8_odds := goodIn_r _ [840, 841, 842, 513, 514, 515, 5, 516, 310, 317, 318, 319, 517, 518, 519, 520, 521, 109, 104, 111, 522, 523, 524, 525, 108, 311, 102, 100, 103, 101, 526, 527, 528, 529, 110, 530, 531, 532, 533, 534, 535, 536, 537, 538, 539, 540, 843, 844, 845, 989, 990, 991, 992, 993, 994, 995, 996, 997, 998, 999, 1000, 1001, 1002, 1003, 1004, 1005, 1006, 1007, 1008, 1009, 1010, 1011, 1012, 1013, 1014, 1015, 1016, 1017, 1018, 1019, 1020, 1021, 1022] (by decide +kernel) (by decide +kernel)
set_option maxRecDepth 20000 in
theorem gL_law_X8_odds : GoodIn wsL_law (wsV RL 87 RX8 yX8_odds wsX8_odds) := goodIn_app (goodIn_of _ (by decide +kernel)) ggL_law_X8_odds
set_option maxRecDepth 20000 in
theorem ggL_law_X7_sheet : GoodIn wsL_law wsX7_sheet := goodIn_r _ [849, 123, 13, 124, 125, 2, 126, 127, 128, 129, 300, 301, 302, 303, 850, 851, 852, 15, 853, 31, 134, 135, 140, 854, 170, 171, 172, 980, 981, 982, 983, 984, 985, 986, 987, 988, 1023, 1024, 1025, 1026] (by decide +kernel) (by decide +kernel)
set_option maxRecDepth 20000 in
theorem gL_law_X7_sheet : GoodIn wsL_law (wsV RL 88 RX7 yX7_sheet wsX7_sheet) := goodIn_app (goodIn_of _ (by decide +kernel)) ggL_law_X7_sheet
set_option maxRecDepth 20000 in
theorem ggL_law_X8_sheet : GoodIn wsL_law wsX8_sheet := goodIn_r _ [858, 308, 95, 96, 97, 314, 315, 5, 316, 317, 318, 319, 320, 321, 322, 327, 328, 329, 330, 989, 990, 991, 992, 993, 994, 995, 996, 997, 998, 999, 1000, 1001, 1002, 1003, 1004, 1005, 1006, 1007, 1008, 1009, 1010, 1011, 1012, 1013, 1014, 1015, 1016, 1017, 1018, 1019, 1020, 1021, 1022] (by decide +kernel) (by decide +kernel)
set_option maxRecDepth 20000 in
theorem gL_law_X8_sheet : GoodIn wsL_law (wsV RL 91 RX8 yX8_sheet wsX8_sheet) := goodIn_app (goodIn_of _ (by decide +kernel)) ggL_law_X8_sheet
set_option maxRecDepth 20000 in
theorem ggL_law_X7_lose : GoodIn wsL_law wsX7_lose := goodIn_r _ [862, 13, 124, 125, 2, 126, 863, 864, 865, 15, 866, 134, 140, 980, 981, 982, 983, 984, 985, 986, 987, 988, 1023, 1024, 1025, 1026] (by decide +kernel) (by decide +kernel)
set_option maxRecDepth 20000 in
theorem gL_law_X7_lose : GoodIn wsL_law (wsV RL 92 RX7 yX7_lose wsX7_lose) := goodIn_app (goodIn_of _ (by decide +kernel)) ggL_law_X7_lose
set_option maxRecDepth 20000 in
theorem ggL_law_X8_lose : GoodIn wsL_law wsX8_lose := goodIn_r _ [870, 95, 314, 315, 5, 316, 317, 318, 319, 989, 990, 991, 992, 993, 994, 995, 996, 997, 998, 999, 1000, 1001, 1002, 1003, 1004, 1005, 1006, 1007, 1008, 1009, 1010, 1011, 1012, 1013, 1014, 1015, 1016, 1017, 1018, 1019, 1020, 1021, 1022] (by decide +kernel) (by decide +kernel)
set_option maxRecDepth 20000 in
theorem gL_law_X8_lose : GoodIn wsL_law (wsV RL 95 RX8 yX8_lose wsX8_lose) := goodIn_app (goodIn_of _ (by decide +kernel)) ggL_law_X8_lose
set_option maxRecDepth 20000 in
theorem ggL_law_X7_put : GoodIn wsL_law wsX7_put := goodIn_r _ [874, 123, 13, 875, 648, 124, 125, 2, 126, 300, 301, 302, 303, 876, 877, 878, 15, 879, 140, 880, 881, 882, 883, 135, 980, 981, 982, 983, 984, 985, 986, 987, 988, 1023, 1024, 1025, 1026] (by decide +kernel) (by decide +kernel)
set_option maxRecDepth 20000 in
theorem gL_law_X7_put : GoodIn wsL_law (wsV RL 96 RX7 yX7_put wsX7_put) := goodIn_app (goodIn_of _ (by decide +kernel)) ggL_law_X7_put
set_option maxRecDepth 20000 in
theorem ggL_law_X8_put : GoodIn wsL_law wsX8_put := goodIn_r _ [887, 308, 95, 96, 97, 314, 315, 5, 316, 317, 318, 319, 327, 328, 329, 330, 989, 990, 991, 992, 993, 994, 995, 996, 997, 998, 999, 1000, 1001, 1002, 1003, 1004, 1005, 1006, 1007, 1008, 1009, 1010, 1011, 1012, 1013, 1014, 1015, 1016, 1017, 1018, 1019, 1020, 1021, 1022] (by decide +kernel) (by decide +kernel)
set_option maxRecDepth 20000 in
theorem gL_law_X8_put : GoodIn wsL_law (wsV RL 99 RX8 yX8_put wsX8_put) := goodIn_app (goodIn_of _ (by decide +kernel)) ggL_law_X8_put
set_option maxRecDepth 20000 in
theorem ggL_law_X7_cell : GoodIn wsL_law wsX7_cell := goodIn_r _ [891, 123, 836, 13, 648, 124, 125, 2, 126, 127, 128, 129, 130, 131, 132, 15, 133, 134, 135, 876, 877, 878, 879, 140, 980, 981, 982, 983, 984, 985, 986, 987, 988, 1023, 1024, 1025, 1026] (by decide +kernel) (by decide +kernel)
set_option maxRecDepth 20000 in
theorem gL_law_X7_cell : GoodIn wsL_law (wsV RL 100 RX7 yX7_cell wsX7_cell) := goodIn_app (goodIn_of _ (by decide +kernel)) ggL_law_X7_cell
set_option maxRecDepth 20000 in
theorem ggL_law_X8_cell : GoodIn wsL_law wsX8_cell := goodIn_r _ [895, 308, 841, 95, 96, 97, 314, 315, 5, 316, 317, 318, 319, 320, 321, 322, 896, 897, 898, 899, 989, 990, 991, 992, 993, 994, 995, 996, 997, 998, 999, 1000, 1001, 1002, 1003, 1004, 1005, 1006, 1007, 1008, 1009, 1010, 1011, 1012, 1013, 1014, 1015, 1016, 1017, 1018, 1019, 1020, 1021, 1022] (by decide +kernel) (by decide +kernel)
set_option maxRecDepth 20000 in
theorem gL_law_X8_cell : GoodIn wsL_law (wsV RL 104 RX8 yX8_cell wsX8_cell) := goodIn_app (goodIn_of _ (by decide +kernel)) ggL_law_X8_cell
set_option maxRecDepth 20000 in
theorem ggL_law_X7_copy : GoodIn wsL_law wsX7_copy := goodIn_r _ [903, 123, 13, 875, 904, 648, 905, 156, 157, 158, 124, 125, 2, 126, 300, 301, 302, 303, 136, 137, 138, 15, 139, 140, 980, 981, 982, 983, 984, 985, 986, 987, 988, 1023, 1024, 1025, 1026] (by decide +kernel) (by decide +kernel)
set_option maxRecDepth 20000 in
theorem gL_law_X7_copy : GoodIn wsL_law (wsV RL 105 RX7 yX7_copy wsX7_copy) := goodIn_app (goodIn_of _ (by decide +kernel)) ggL_law_X7_copy
set_option maxRecDepth 20000 in
theorem ggL_law_X8_copy : GoodIn wsL_law wsX8_copy := goodIn_r _ [909, 308, 95, 96, 97, 314, 315, 5, 316, 317, 318, 319, 327, 328, 329, 330, 989, 990, 991, 992, 993, 994, 995, 996, 997, 998, 999, 1000, 1001, 1002, 1003, 1004, 1005, 1006, 1007, 1008, 1009, 1010, 1011, 1012, 1013, 1014, 1015, 1016, 1017, 1018, 1019, 1020, 1021, 1022] (by decide +kernel) (by decide +kernel)
set_option maxRecDepth 20000 in
theorem gL_law_X8_copy : GoodIn wsL_law (wsV RL 108 RX8 yX8_copy wsX8_copy) := goodIn_app (goodIn_of _ (by decide +kernel)) ggL_law_X8_copy
set_option maxRecDepth 20000 in
theorem ggL_law_X7_speak : GoodIn wsL_law wsX7_speak := goodIn_r _ [913, 19, 145, 380, 386, 387, 388, 2, 389, 149, 914, 915, 916, 917, 918, 919, 920, 921, 922, 923, 924, 925, 926, 927, 928, 929, 930, 381, 980, 981, 982, 983, 984, 985, 986, 987, 988, 1027, 1028, 1029, 1030, 1031, 1036, 1037, 1038, 1039, 1040, 1041, 1042, 1043, 1044] (by decide +kernel) (by decide +kernel)
set_option maxRecDepth 20000 in
theorem gL_law_X7_speak : GoodIn wsL_law (wsV RL 109 RX7 yX7_speak wsX7_speak) := goodIn_app (goodIn_of _ (by decide +kernel)) ggL_law_X7_speak
set_option maxRecDepth 20000 in
theorem ggL_law_X8_speak : GoodIn wsL_law wsX8_speak := goodIn_r _ [934, 99, 98, 399, 400, 401, 5, 402, 311, 935, 936, 937, 938, 939, 989, 990, 991, 992, 993, 994, 995, 996, 997, 998, 999, 1000, 1001, 1002, 1003, 1004, 1005, 1006, 1007, 1008, 1009, 1010, 1011, 1012, 1013, 1014, 1015, 1016, 1017, 1018, 1019, 1020, 1021, 1022] (by decide +kernel) (by decide +kernel)
set_option maxRecDepth 20000 in
theorem gL_law_X8_speak : GoodIn wsL_law (wsV RL 112 RX8 yX8_speak wsX8_speak) := goodIn_app (goodIn_of _ (by decide +kernel)) ggL_law_X8_speak
set_option maxRecDepth 20000 in
theorem ggL_law_X7_quote : GoodIn wsL_law wsX7_quote := goodIn_r _ [943, 19, 145, 380, 383, 386, 387, 388, 2, 389, 149, 918, 919, 920, 921, 922, 980, 981, 982, 983, 984, 985, 986, 987, 988, 1027, 1028, 1029, 1030, 1031, 1036, 1037, 1038, 1039, 1040, 1041, 1042, 1043, 1044] (by decide +kernel) (by decide +kernel)
set_option maxRecDepth 20000 in
theorem gL_law_X7_quote : GoodIn wsL_law (wsV RL 113 RX7 yX7_quote wsX7_quote) := goodIn_app (goodIn_of _ (by decide +kernel)) ggL_law_X7_quote
set_option maxRecDepth 20000 in
theorem ggL_law_X8_quote : GoodIn wsL_law wsX8_quote := goodIn_r _ [947, 98, 101, 399, 400, 401, 5, 402, 311, 935, 936, 937, 938, 939, 989, 990, 991, 992, 993, 994, 995, 996, 997, 998, 999, 1000, 1001, 1002, 1003, 1004, 1005, 1006, 1007, 1008, 1009, 1010, 1011, 1012, 1013, 1014, 1015, 1016, 1017, 1018, 1019, 1020, 1021, 1022] (by decide +kernel) (by decide +kernel)
set_option maxRecDepth 20000 in
theorem gL_law_X8_quote : GoodIn wsL_law (wsV RL 116 RX8 yX8_quote wsX8_quote) := goodIn_app (goodIn_of _ (by decide +kernel)) ggL_law_X8_quote
set_option maxRecDepth 20000 in
theorem ggL_law_X7_as : GoodIn wsL_law wsX7_as := goodIn_r _ [951, 123, 19, 145, 380, 386, 387, 388, 2, 389, 149, 300, 301, 302, 303, 980, 981, 982, 983, 984, 985, 986, 987, 988, 1027, 1028, 1029, 1030, 1031, 1036, 1037, 1038, 1039, 1040, 1041, 1042, 1043, 1044] (by decide +kernel) (by decide +kernel)
set_option maxRecDepth 20000 in
theorem gL_law_X7_as : GoodIn wsL_law (wsV RL 117 RX7 yX7_as wsX7_as) := goodIn_app (goodIn_of _ (by decide +kernel)) ggL_law_X7_as
set_option maxRecDepth 20000 in
theorem ggL_law_X8_as : GoodIn wsL_law wsX8_as := goodIn_r _ [955, 308, 98, 399, 400, 401, 5, 402, 311, 317, 318, 319, 327, 328, 329, 330, 989, 990, 991, 992, 993, 994, 995, 996, 997, 998, 999, 1000, 1001, 1002, 1003, 1004, 1005, 1006, 1007, 1008, 1009, 1010, 1011, 1012, 1013, 1014, 1015, 1016, 1017, 1018, 1019, 1020, 1021, 1022] (by decide +kernel) (by decide +kernel)
set_option maxRecDepth 20000 in
theorem gL_law_X8_as : GoodIn wsL_law (wsV RL 120 RX8 yX8_as wsX8_as) := goodIn_app (goodIn_of _ (by decide +kernel)) ggL_law_X8_as
set_option maxRecDepth 20000 in
theorem ggL_law_X7_trace : GoodIn wsL_law wsX7_trace := goodIn_r _ [959, 922, 980, 981, 982, 983, 984, 985, 986, 987, 988] (by decide +kernel) (by decide +kernel)
set_option maxRecDepth 20000 in
theorem gL_law_X7_trace : GoodIn wsL_law (wsV RL 121 RX7 yX7_trace wsX7_trace) := goodIn_app (goodIn_of _ (by decide +kernel)) ggL_law_X7_trace
set_option maxRecDepth 20000 in
theorem ggL_law_X8_trace : GoodIn wsL_law wsX8_trace := goodIn_r _ [963, 939, 989, 990, 991, 992, 993, 994, 995, 996, 997, 998, 999, 1000, 1001, 1002, 1003, 1004, 1005, 1006, 1007, 1008, 1009, 1010, 1011, 1012, 1013, 1014, 1015, 1016, 1017, 1018, 1019, 1020, 1021, 1022] (by decide +kernel) (by decide +kernel)
set_option maxRecDepth 20000 in
theorem gL_law_X8_trace : GoodIn wsL_law (wsV RL 124 RX8 yX8_trace wsX8_trace) := goodIn_app (goodIn_of _ (by decide +kernel)) ggL_law_X8_trace
set_option maxRecDepth 20000 in
theorem ggL_law_X7_fault : GoodIn wsL_law wsX7_fault := goodIn_r _ [967, 123, 980, 981, 982, 983, 984, 985, 986, 987, 988] (by decide +kernel) (by decide +kernel)
set_option maxRecDepth 20000 in
theorem gL_law_X7_fault : GoodIn wsL_law (wsV RL 125 RX7 yX7_fault wsX7_fault) := goodIn_app (goodIn_of _ (by decide +kernel)) ggL_law_X7_fault
set_option maxRecDepth 20000 in
theorem ggL_law_X8_fault : GoodIn wsL_law wsX8_fault := goodIn_r _ [971, 308, 989, 990, 991, 992, 993, 994, 995, 996, 997, 998, 999, 1000, 1001, 1002, 1003, 1004, 1005, 1006, 1007, 1008, 1009, 1010, 1011, 1012, 1013, 1014, 1015, 1016, 1017, 1018, 1019, 1020, 1021, 1022] (by decide +kernel) (by decide +kernel)
set_option maxRecDepth 20000 in
theorem gL_law_X8_fault : GoodIn wsL_law (wsV RL 128 RX8 yX8_fault wsX8_fault) := goodIn_app (goodIn_of _ (by decide +kernel)) ggL_law_X8_fault
set_option maxRecDepth 20000 in
theorem ggL_law_X7_many : GoodIn wsL_law wsX7_many := goodIn_r _ [975, 19, 145, 419, 149, 412, 148, 420, 421, 422, 18, 423, 294, 50, 49, 48, 424, 255, 256, 41, 257, 66, 258, 170, 171, 172, 259, 260, 261, 262, 68, 263, 264, 265, 266, 267, 268, 269, 270, 271, 272, 273, 274, 275, 276, 246, 247, 38, 248, 57, 425, 426, 427, 44, 428, 75, 73, 429, 76, 430, 431, 432, 433, 434, 435, 436, 437, 438, 439, 440, 74, 441, 442, 77, 443, 444, 445, 446, 447, 448, 449, 450, 451, 452, 453, 454, 2, 455, 456, 457, 458, 459, 460, 461, 462, 463, 47, 464, 82, 84, 465, 466, 467, 468, 469, 470, 61, 471, 472, 473, 474, 475, 476, 86, 477, 478, 479, 480, 481, 482, 483, 484, 485, 486, 487, 488, 489, 490, 491, 492, 493, 391, 392, 393, 55, 56, 494, 495, 496, 497, 662, 663, 664, 665, 666, 499, 500, 501, 502, 503, 504, 672, 673, 674, 675, 167, 676, 980, 981, 982, 983, 984, 985, 986, 987, 988, 1027, 1028, 1029, 1030, 1031, 1036, 1037, 1038, 1039, 1040, 1041, 1042, 1043, 1044, 1045, 1046, 1047, 1048, 1049, 1050, 1051, 1052, 1053, 1054, 1055, 1056, 1057, 1058, 1059, 1060] (by decide +kernel) (by decide +kernel)
set_option maxRecDepth 20000 in
theorem gL_law_X7_many : GoodIn wsL_law (wsV RL 129 RX7 yX7_many wsX7_many) := goodIn_app (goodIn_of _ (by decide +kernel)) ggL_law_X7_many
set_option maxRecDepth 20000 in
theorem ggL_law_X8_many : GoodIn wsL_law wsX8_many := goodIn_r _ [979, 310, 311, 313, 517, 518, 519, 5, 520, 521, 109, 104, 111, 522, 523, 524, 525, 108, 102, 100, 103, 101, 526, 527, 528, 529, 110, 530, 531, 532, 533, 534, 535, 536, 697, 698, 699, 700, 537, 538, 539, 540, 701, 702, 703, 704, 541, 542, 543, 544, 989, 990, 991, 992, 993, 994, 995, 996, 997, 998, 999, 1000, 1001, 1002, 1003, 1004, 1005, 1006, 1007, 1008, 1009, 1010, 1011, 1012, 1013, 1014, 1015, 1016, 1017, 1018, 1019, 1020, 1021, 1022] (by decide +kernel) (by decide +kernel)
set_option maxRecDepth 20000 in
theorem gL_law_X8_many : GoodIn wsL_law (wsV RL 132 RX8 yX8_many wsX8_many) := goodIn_app (goodIn_of _ (by decide +kernel)) ggL_law_X8_many
theorem dL_law_0 : decode cL_law 0 = .ok (.new 7, 3) := by decide +kernel
theorem dL_law_3 : decode cL_law 3 = .ok (.dup, 1) := by decide +kernel
theorem dL_law_4 : decode cL_law 4 = .ok (.invokespecial 9, 3) := by decide +kernel
theorem dL_law_7 : decode cL_law 7 = .ok (.astore_n 1, 1) := by decide +kernel
theorem dL_law_8 : decode cL_law 8 = .ok (.new 10, 3) := by decide +kernel
theorem dL_law_11 : decode cL_law 11 = .ok (.dup, 1) := by decide +kernel
theorem dL_law_12 : decode cL_law 12 = .ok (.invokespecial 12, 3) := by decide +kernel
theorem dL_law_15 : decode cL_law 15 = .ok (.astore_n 2, 1) := by decide +kernel
theorem dL_law_16 : decode cL_law 16 = .ok (.iconst 0, 1) := by decide +kernel
theorem dL_law_17 : decode cL_law 17 = .ok (.istore_n 3, 1) := by decide +kernel
theorem dL_law_18 : decode cL_law 18 = .ok (.iload_n 3, 1) := by decide +kernel
theorem dL_law_19 : decode cL_law 19 = .ok (.aload_n 0, 1) := by decide +kernel
theorem dL_law_20 : decode cL_law 20 = .ok (.arraylength, 1) := by decide +kernel
theorem dL_law_21 : decode cL_law 21 = .ok (.bipush 6, 2) := by decide +kernel
theorem dL_law_23 : decode cL_law 23 = .ok (.isub, 1) := by decide +kernel
theorem dL_law_24 : decode cL_law 24 = .ok (.if_icmp .gt 1078, 3) := by decide +kernel
theorem dL_law_27 : decode cL_law 27 = .ok (.aload_n 0, 1) := by decide +kernel
theorem dL_law_28 : decode cL_law 28 = .ok (.iload_n 3, 1) := by decide +kernel
theorem dL_law_29 : decode cL_law 29 = .ok (.iaload, 1) := by decide +kernel
theorem dL_law_30 : decode cL_law 30 = .ok (.bipush 31, 2) := by decide +kernel
theorem dL_law_32 : decode cL_law 32 = .ok (.iand, 1) := by decide +kernel
theorem dL_law_33 : decode cL_law 33 = .ok (.tableswitch 1063 0 27 #[127, 180, 213, 246, 279, 322, 375, 438, 451, 474, 507, 530, 563, 616, 639, 662, 685, 719, 762, 785, 828, 872, 935, 958, 981, 1014, 1027, 1040], 127) := by decide +kernel
theorem dL_law_160 : decode cL_law 160 = .ok (.aload_n 1, 1) := by decide +kernel
theorem dL_law_161 : decode cL_law 161 = .ok (.aload_n 0, 1) := by decide +kernel
theorem dL_law_162 : decode cL_law 162 = .ok (.iload_n 3, 1) := by decide +kernel
theorem dL_law_163 : decode cL_law 163 = .ok (.iconst 1, 1) := by decide +kernel
theorem dL_law_164 : decode cL_law 164 = .ok (.iadd, 1) := by decide +kernel
theorem dL_law_165 : decode cL_law 165 = .ok (.iaload, 1) := by decide +kernel
theorem dL_law_166 : decode cL_law 166 = .ok (.aload_n 0, 1) := by decide +kernel
theorem dL_law_167 : decode cL_law 167 = .ok (.iload_n 3, 1) := by decide +kernel
theorem dL_law_168 : decode cL_law 168 = .ok (.iconst 2, 1) := by decide +kernel
theorem dL_law_169 : decode cL_law 169 = .ok (.iadd, 1) := by decide +kernel
theorem dL_law_170 : decode cL_law 170 = .ok (.iaload, 1) := by decide +kernel
theorem dL_law_171 : decode cL_law 171 = .ok (.aload_n 0, 1) := by decide +kernel
theorem dL_law_172 : decode cL_law 172 = .ok (.iload_n 3, 1) := by decide +kernel
theorem dL_law_173 : decode cL_law 173 = .ok (.iconst 3, 1) := by decide +kernel
theorem dL_law_174 : decode cL_law 174 = .ok (.iadd, 1) := by decide +kernel
theorem dL_law_175 : decode cL_law 175 = .ok (.iaload, 1) := by decide +kernel
theorem dL_law_176 : decode cL_law 176 = .ok (.aload_n 0, 1) := by decide +kernel
theorem dL_law_177 : decode cL_law 177 = .ok (.iload_n 3, 1) := by decide +kernel
theorem dL_law_178 : decode cL_law 178 = .ok (.iconst 4, 1) := by decide +kernel
theorem dL_law_179 : decode cL_law 179 = .ok (.iadd, 1) := by decide +kernel
theorem dL_law_180 : decode cL_law 180 = .ok (.iaload, 1) := by decide +kernel
theorem dL_law_181 : decode cL_law 181 = .ok (.invokevirtual 13, 3) := by decide +kernel
theorem dL_law_184 : decode cL_law 184 = .ok (.aload_n 2, 1) := by decide +kernel
theorem dL_law_185 : decode cL_law 185 = .ok (.aload_n 0, 1) := by decide +kernel
theorem dL_law_186 : decode cL_law 186 = .ok (.iload_n 3, 1) := by decide +kernel
theorem dL_law_187 : decode cL_law 187 = .ok (.iconst 1, 1) := by decide +kernel
theorem dL_law_188 : decode cL_law 188 = .ok (.iadd, 1) := by decide +kernel
theorem dL_law_189 : decode cL_law 189 = .ok (.iaload, 1) := by decide +kernel
theorem dL_law_190 : decode cL_law 190 = .ok (.aload_n 0, 1) := by decide +kernel
theorem dL_law_191 : decode cL_law 191 = .ok (.iload_n 3, 1) := by decide +kernel
theorem dL_law_192 : decode cL_law 192 = .ok (.iconst 2, 1) := by decide +kernel
theorem dL_law_193 : decode cL_law 193 = .ok (.iadd, 1) := by decide +kernel
theorem dL_law_194 : decode cL_law 194 = .ok (.iaload, 1) := by decide +kernel
theorem dL_law_195 : decode cL_law 195 = .ok (.aload_n 0, 1) := by decide +kernel
theorem dL_law_196 : decode cL_law 196 = .ok (.iload_n 3, 1) := by decide +kernel
theorem dL_law_197 : decode cL_law 197 = .ok (.iconst 3, 1) := by decide +kernel
theorem dL_law_198 : decode cL_law 198 = .ok (.iadd, 1) := by decide +kernel
theorem dL_law_199 : decode cL_law 199 = .ok (.iaload, 1) := by decide +kernel
theorem dL_law_200 : decode cL_law 200 = .ok (.aload_n 0, 1) := by decide +kernel
theorem dL_law_201 : decode cL_law 201 = .ok (.iload_n 3, 1) := by decide +kernel
theorem dL_law_202 : decode cL_law 202 = .ok (.iconst 4, 1) := by decide +kernel
theorem dL_law_203 : decode cL_law 203 = .ok (.iadd, 1) := by decide +kernel
theorem dL_law_204 : decode cL_law 204 = .ok (.iaload, 1) := by decide +kernel
theorem dL_law_205 : decode cL_law 205 = .ok (.invokevirtual 17, 3) := by decide +kernel
theorem dL_law_208 : decode cL_law 208 = .ok (.if_icmp .eq 888, 3) := by decide +kernel
theorem dL_law_211 : decode cL_law 211 = .ok (.iconst 0, 1) := by decide +kernel
theorem dL_law_212 : decode cL_law 212 = .ok (.ireturn, 1) := by decide +kernel
theorem dL_law_213 : decode cL_law 213 = .ok (.aload_n 1, 1) := by decide +kernel
theorem dL_law_214 : decode cL_law 214 = .ok (.aload_n 0, 1) := by decide +kernel
theorem dL_law_215 : decode cL_law 215 = .ok (.iload_n 3, 1) := by decide +kernel
theorem dL_law_216 : decode cL_law 216 = .ok (.iconst 1, 1) := by decide +kernel
theorem dL_law_217 : decode cL_law 217 = .ok (.iadd, 1) := by decide +kernel
theorem dL_law_218 : decode cL_law 218 = .ok (.iaload, 1) := by decide +kernel
theorem dL_law_219 : decode cL_law 219 = .ok (.aload_n 0, 1) := by decide +kernel
theorem dL_law_220 : decode cL_law 220 = .ok (.iload_n 3, 1) := by decide +kernel
theorem dL_law_221 : decode cL_law 221 = .ok (.iconst 2, 1) := by decide +kernel
theorem dL_law_222 : decode cL_law 222 = .ok (.iadd, 1) := by decide +kernel
theorem dL_law_223 : decode cL_law 223 = .ok (.iaload, 1) := by decide +kernel
theorem dL_law_224 : decode cL_law 224 = .ok (.invokevirtual 18, 3) := by decide +kernel
theorem dL_law_227 : decode cL_law 227 = .ok (.aload_n 2, 1) := by decide +kernel
theorem dL_law_228 : decode cL_law 228 = .ok (.aload_n 0, 1) := by decide +kernel
theorem dL_law_229 : decode cL_law 229 = .ok (.iload_n 3, 1) := by decide +kernel
theorem dL_law_230 : decode cL_law 230 = .ok (.iconst 1, 1) := by decide +kernel
theorem dL_law_231 : decode cL_law 231 = .ok (.iadd, 1) := by decide +kernel
theorem dL_law_232 : decode cL_law 232 = .ok (.iaload, 1) := by decide +kernel
theorem dL_law_233 : decode cL_law 233 = .ok (.aload_n 0, 1) := by decide +kernel
theorem dL_law_234 : decode cL_law 234 = .ok (.iload_n 3, 1) := by decide +kernel
theorem dL_law_235 : decode cL_law 235 = .ok (.iconst 2, 1) := by decide +kernel
theorem dL_law_236 : decode cL_law 236 = .ok (.iadd, 1) := by decide +kernel
theorem dL_law_237 : decode cL_law 237 = .ok (.iaload, 1) := by decide +kernel
theorem dL_law_238 : decode cL_law 238 = .ok (.invokevirtual 22, 3) := by decide +kernel
theorem dL_law_241 : decode cL_law 241 = .ok (.if_icmp .eq 855, 3) := by decide +kernel
theorem dL_law_244 : decode cL_law 244 = .ok (.iconst 0, 1) := by decide +kernel
theorem dL_law_245 : decode cL_law 245 = .ok (.ireturn, 1) := by decide +kernel
theorem dL_law_246 : decode cL_law 246 = .ok (.aload_n 1, 1) := by decide +kernel
theorem dL_law_247 : decode cL_law 247 = .ok (.aload_n 0, 1) := by decide +kernel
theorem dL_law_248 : decode cL_law 248 = .ok (.iload_n 3, 1) := by decide +kernel
theorem dL_law_249 : decode cL_law 249 = .ok (.iconst 1, 1) := by decide +kernel
theorem dL_law_250 : decode cL_law 250 = .ok (.iadd, 1) := by decide +kernel
theorem dL_law_251 : decode cL_law 251 = .ok (.iaload, 1) := by decide +kernel
theorem dL_law_252 : decode cL_law 252 = .ok (.aload_n 0, 1) := by decide +kernel
theorem dL_law_253 : decode cL_law 253 = .ok (.iload_n 3, 1) := by decide +kernel
theorem dL_law_254 : decode cL_law 254 = .ok (.iconst 2, 1) := by decide +kernel
theorem dL_law_255 : decode cL_law 255 = .ok (.iadd, 1) := by decide +kernel
theorem dL_law_256 : decode cL_law 256 = .ok (.iaload, 1) := by decide +kernel
theorem dL_law_257 : decode cL_law 257 = .ok (.invokevirtual 23, 3) := by decide +kernel
theorem dL_law_260 : decode cL_law 260 = .ok (.aload_n 2, 1) := by decide +kernel
theorem dL_law_261 : decode cL_law 261 = .ok (.aload_n 0, 1) := by decide +kernel
theorem dL_law_262 : decode cL_law 262 = .ok (.iload_n 3, 1) := by decide +kernel
theorem dL_law_263 : decode cL_law 263 = .ok (.iconst 1, 1) := by decide +kernel
