theorem lw_mem_r {big : List Cond} (ws : List Cond) (ps : List Nat) (hp : ws = ps.filterMap (fun i => big[i]?)) : ∀ w ∈ ws, w ∈ big := by
  intro w hw
  rw [hp] at hw
  obtain ⟨a, _, e⟩ := List.mem_filterMap.mp hw
  exact List.mem_of_getElem? e
set_option maxRecDepth 20000 in
theorem wLr_1 : ∀ w ∈ wsL_law_r1, w ∈ lw_tbl := lw_mem_r _ [87, 88, 70, 847, 848, 78, 89, 90, 91, 92, 93, 94, 95, 321, 97, 71, 120, 121, 72, 322, 323, 301, 302, 77] (by decide +kernel)
set_option maxRecDepth 20000 in
theorem wLr_2 : ∀ w ∈ wsL_law_r2, w ∈ lw_tbl := lw_mem_r _ [324, 119, 325, 326, 99, 100, 101, 102, 122, 123, 124, 125, 126, 127, 73, 203, 204, 74, 222, 223, 75, 252, 253, 76] (by decide +kernel)
set_option maxRecDepth 20000 in
theorem wLr_3 : ∀ w ∈ wsL_law_r3, w ∈ lw_tbl := lw_mem_r _ [287, 285, 283, 281, 129, 130, 131, 132, 135, 138, 145, 152, 159, 166, 205, 206, 207, 208, 210, 214, 209, 224, 225, 226] (by decide +kernel)
set_option maxRecDepth 20000 in
theorem wLr_4 : ∀ w ∈ wsL_law_r4, w ∈ lw_tbl := lw_mem_r _ [227, 230, 234, 235, 228, 229, 254, 255, 256, 257, 280, 261, 262, 258, 259, 260, 304, 305, 306, 307, 849, 850, 851, 852] (by decide +kernel)
set_option maxRecDepth 20000 in
theorem wLr_5 : ∀ w ∈ wsL_law_r5, w ∈ lw_tbl := lw_mem_r _ [855, 856, 857, 860, 861, 862, 863, 864, 865, 866, 871, 872, 873, 874, 875, 876, 877, 879, 880, 881, 882, 883, 885, 886] (by decide +kernel)
set_option maxRecDepth 20000 in
theorem wLr_6 : ∀ w ∈ wsL_law_r6, w ∈ lw_tbl := lw_mem_r _ [349, 350, 351, 352, 329, 353, 354, 355, 356, 357, 358, 359, 360, 361, 362, 105, 107, 363, 364, 365, 366, 109, 367, 369] (by decide +kernel)
set_option maxRecDepth 20000 in
theorem wLr_7 : ∀ w ∈ wsL_law_r7, w ∈ lw_tbl := lw_mem_r _ [0, 370, 282, 310, 284, 327, 181, 371, 372, 373, 374, 103, 375, 377, 376, 79, 308, 309, 311, 174, 378, 379, 380, 381] (by decide +kernel)
set_option maxRecDepth 20000 in
theorem wLr_8 : ∀ w ∈ wsL_law_r8, w ∈ lw_tbl := lw_mem_r _ [172, 177, 382, 383, 80, 384, 386, 388, 1, 389, 390, 391, 392, 81, 393, 1239, 394, 395, 396, 397, 398, 1240, 400, 401] (by decide +kernel)
set_option maxRecDepth 20000 in
theorem wLr_9 : ∀ w ∈ wsL_law_r9, w ∈ lw_tbl := lw_mem_r _ [402, 403, 404, 405, 406, 407, 408, 409, 82, 410, 411, 412, 413, 414, 416, 417, 83, 418, 419, 420, 84, 421, 422, 423] (by decide +kernel)
set_option maxRecDepth 20000 in
theorem wLr_10 : ∀ w ∈ wsL_law_r10, w ∈ lw_tbl := lw_mem_r _ [424, 425, 426, 427, 428, 429, 430, 431, 432, 434, 436, 438, 440, 2, 441, 442, 444, 3, 445, 446, 448, 4, 449, 180] (by decide +kernel)
set_option maxRecDepth 20000 in
theorem wLr_11 : ∀ w ∈ wsL_law_r11, w ∈ lw_tbl := lw_mem_r _ [133, 136, 139, 148, 153, 160, 452, 453, 454, 455, 456, 458, 5, 459, 169, 460, 461, 462, 463, 464, 465, 467, 6, 468] (by decide +kernel)
set_option maxRecDepth 20000 in
theorem wLr_12 : ∀ w ∈ wsL_law_r12, w ∈ lw_tbl := lw_mem_r _ [178, 147, 469, 471, 7, 472, 154, 161, 142, 474, 475, 85, 476, 473, 477, 478, 479, 480, 175, 481, 483, 8, 484, 485] (by decide +kernel)
set_option maxRecDepth 20000 in
theorem wLr_13 : ∀ w ∈ wsL_law_r13, w ∈ lw_tbl := lw_mem_r _ [487, 9, 488, 489, 490, 491, 492, 289, 493, 494, 495, 496, 497, 498, 500, 10, 501, 956, 957, 958, 959, 853, 867, 858] (by decide +kernel)
set_option maxRecDepth 20000 in
theorem wLr_14 : ∀ w ∈ wsL_law_r14, w ∈ lw_tbl := lw_mem_r _ [859, 870, 884, 960, 961, 962, 963, 964, 965, 966, 967, 968, 969, 971, 32, 972, 973, 975, 33, 976, 977, 979, 34, 980] (by decide +kernel)
set_option maxRecDepth 20000 in
theorem wLr_15 : ∀ w ∈ wsL_law_r15, w ∈ lw_tbl := lw_mem_r _ [869, 868, 981, 983, 35, 984, 985, 987, 36, 988, 989, 991, 37, 992, 993, 995, 38, 996, 997, 999, 39, 1000, 1001, 1003] (by decide +kernel)
set_option maxRecDepth 20000 in
theorem wLr_16 : ∀ w ∈ wsL_law_r16, w ∈ lw_tbl := lw_mem_r _ [40, 1004, 1005, 1007, 41, 1008, 1009, 1011, 42, 1012, 1013, 1014, 1015, 1016, 1018, 43, 1019, 503, 504, 505, 506, 134, 137, 143] (by decide +kernel)
