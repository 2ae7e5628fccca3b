theorem in_r {big ws : List Cond} (ps : List Nat) (hp : ws = ps.filterMap (fun i => big[i]?)) : ∀ w ∈ ws, w ∈ big := by
  intro w hw
  rw [hp] at hw
  obtain ⟨i, -, hi⟩ := List.mem_filterMap.mp hw
  exact List.mem_of_getElem? hi
theorem in_app {big a b : List Cond} (ha : ∀ w ∈ a, w ∈ big) (hb : ∀ w ∈ b, w ∈ big) : ∀ w ∈ a ++ b, w ∈ big := fun w h => (List.mem_append.mp h).elim (ha w) (hb w)
set_option maxRecDepth 20000 in
theorem in_wsL_law_r1 : ∀ w ∈ wsL_law_r1, w ∈ lw_tbl := in_r [57, 58, 44, 664, 665, 49, 59, 60, 61, 62, 63, 64, 65, 66, 45, 147, 80, 148, 82, 83, 46, 149, 150, 102] (by decide +kernel)
set_option maxRecDepth 20000 in
theorem in_wsL_law_r2 : ∀ w ∈ wsL_law_r2, w ∈ lw_tbl := in_r [103, 47, 151, 136, 137, 48, 152, 68, 69, 70, 79, 71, 85, 86, 87, 88, 89, 90, 105, 106, 107, 108, 109, 110] (by decide +kernel)
set_option maxRecDepth 20000 in
theorem in_wsL_law_r3 : ∀ w ∈ wsL_law_r3, w ∈ lw_tbl := in_r [111, 139, 140, 141, 666, 667, 668, 669, 674, 675, 679, 680, 681, 683, 684, 685, 686, 788, 689, 692, 693, 701, 702, 703] (by decide +kernel)
set_option maxRecDepth 20000 in
theorem in_wsL_law_r4 : ∀ w ∈ wsL_law_r4, w ∈ lw_tbl := in_r [704, 705, 706, 707, 202, 203, 204, 205, 73, 206, 207, 208, 209, 72, 789, 790, 791, 792, 688, 793, 794, 795, 210, 211] (by decide +kernel)
set_option maxRecDepth 20000 in
theorem in_wsL_law_r5 : ∀ w ∈ wsL_law_r5, w ∈ lw_tbl := in_r [212, 213, 796, 797, 798, 799, 214, 215, 216, 217, 218, 219, 220, 221, 222, 224, 0, 225, 226, 227, 228, 229, 230, 231] (by decide +kernel)
set_option maxRecDepth 20000 in
theorem in_wsL_law_r6 : ∀ w ∈ wsL_law_r6, w ∈ lw_tbl := in_r [232, 233, 234, 235, 236, 238, 1, 239, 800, 801, 802, 803, 804, 806, 18, 807, 690, 691, 808, 809, 810, 811, 813, 19] (by decide +kernel)
set_option maxRecDepth 20000 in
theorem in_wsL_law_r7 : ∀ w ∈ wsL_law_r7, w ∈ lw_tbl := in_r [814, 815, 817, 20, 818, 819, 821, 21, 822, 240, 241, 242, 243, 154, 155, 163, 153, 244, 245, 246, 247, 248, 249, 251] (by decide +kernel)
set_option maxRecDepth 20000 in
theorem in_wsL_law_r8 : ∀ w ∈ wsL_law_r8, w ∈ lw_tbl := in_r [2, 252, 257, 258, 50, 259, 253, 254, 255, 256, 260, 261, 262, 263, 264, 265, 266, 267, 268, 270, 3, 271, 272, 273] (by decide +kernel)
set_option maxRecDepth 20000 in
theorem in_wsL_law_r9 : ∀ w ∈ wsL_law_r9, w ∈ lw_tbl := in_r [274, 275, 276, 52, 310, 311, 53, 324, 325, 54, 338, 339, 55, 352, 51, 277, 278, 279, 280, 281, 282, 283, 286, 290] (by decide +kernel)
set_option maxRecDepth 20000 in
theorem in_wsL_law_r10 : ∀ w ∈ wsL_law_r10, w ∈ lw_tbl := in_r [292, 294, 284, 312, 313, 314, 315, 326, 327, 328, 329, 340, 341, 342, 343, 353, 362, 363, 364, 365, 366, 367, 368, 369] (by decide +kernel)
set_option maxRecDepth 20000 in
theorem in_wsL_law_r11 : ∀ w ∈ wsL_law_r11, w ∈ lw_tbl := in_r [370, 372, 4, 373, 156, 157, 158, 92, 159, 823, 824, 825, 826, 671, 672, 673, 670, 676, 677, 678, 682, 827, 829, 22] (by decide +kernel)
set_option maxRecDepth 20000 in
theorem in_wsL_law_r12 : ∀ w ∈ wsL_law_r12, w ∈ lw_tbl := in_r [830, 374, 375, 376, 377, 285, 287, 289, 291, 378, 380, 5, 381, 382, 385, 383, 386, 387, 388, 398, 389, 390, 391, 382] (by decide +kernel)
set_option maxRecDepth 20000 in
theorem in_wsL_law_r13 : ∀ w ∈ wsL_law_r13, w ∈ lw_tbl := in_r [383, 384, 392, 393, 394, 395, 396, 397, 399, 402, 400, 403, 404, 405, 406, 992, 351, 407, 408, 416, 409, 410, 411, 399] (by decide +kernel)
set_option maxRecDepth 20000 in
theorem in_wsL_law_r14 : ∀ w ∈ wsL_law_r14, w ∈ lw_tbl := in_r [400, 401, 412, 413, 414, 415, 417, 420, 421, 418, 425, 422, 417, 419, 423, 424, 426, 429, 430, 427, 434, 431, 426, 428] (by decide +kernel)
set_option maxRecDepth 20000 in
theorem in_wsL_law_r15 : ∀ w ∈ wsL_law_r15, w ∈ lw_tbl := in_r [432, 433, 435, 438, 439, 436, 443, 444, 444, 445, 445, 447, 448, 440, 435, 437, 441, 442, 831, 832, 833, 834, 835, 837] (by decide +kernel)
set_option maxRecDepth 20000 in
theorem in_wsL_law_r16 : ∀ w ∈ wsL_law_r16, w ∈ lw_tbl := in_r [23, 838, 839, 841, 24, 842, 843, 845, 25, 846, 847, 849, 26, 850, 851, 853, 27, 854, 855, 857, 28, 858, 859, 860] (by decide +kernel)
set_option maxRecDepth 20000 in
theorem in_wsL_law_r17 : ∀ w ∈ wsL_law_r17, w ∈ lw_tbl := in_r [861, 449, 450, 451, 452, 453, 454, 455, 275, 310, 324, 338, 862, 863, 864, 865, 456, 457, 458, 459, 866, 867, 868, 869] (by decide +kernel)
set_option maxRecDepth 20000 in
theorem in_wsL_law_r18 : ∀ w ∈ wsL_law_r18, w ∈ lw_tbl := in_r [460, 461, 462, 463, 464, 466, 6, 467, 870, 871, 872, 873, 468, 469, 470, 471, 472, 475, 476, 473, 480, 288, 481, 481] (by decide +kernel)
set_option maxRecDepth 20000 in
theorem in_wsL_law_r19 : ∀ w ∈ wsL_law_r19, w ∈ lw_tbl := in_r [477, 472, 474, 478, 479, 874, 875, 876, 877, 482, 483, 484, 485, 164, 486, 487, 488, 489, 112, 116, 113, 114, 115, 490] (by decide +kernel)
set_option maxRecDepth 20000 in
theorem in_wsL_law_r20 : ∀ w ∈ wsL_law_r20, w ∈ lw_tbl := in_r [491, 492, 493, 494, 495, 496, 497, 498, 499, 500, 501, 502, 504, 7, 505, 506, 508, 8, 509, 510, 512, 9, 513, 514] (by decide +kernel)
set_option maxRecDepth 20000 in
theorem in_wsL_law_r21 : ∀ w ∈ wsL_law_r21, w ∈ lw_tbl := in_r [516, 10, 517, 518, 520, 11, 521, 522, 523, 524, 525, 526, 56, 527, 528, 529, 530, 531, 532, 533, 534, 535, 536, 537] (by decide +kernel)
set_option maxRecDepth 20000 in
theorem in_wsL_law_r22 : ∀ w ∈ wsL_law_r22, w ∈ lw_tbl := in_r [538, 539, 540, 542, 12, 543, 878, 879, 880, 881, 687, 882, 884, 29, 885, 901, 886, 888, 30, 889, 890, 892, 31, 893] (by decide +kernel)
set_option maxRecDepth 20000 in
theorem in_wsL_law_r23 : ∀ w ∈ wsL_law_r23, w ∈ lw_tbl := in_r [894, 895, 896, 897, 899, 32, 900, 544, 545, 546, 547, 548, 551, 552, 549, 556, 553, 548, 550, 554, 555, 902, 903, 904] (by decide +kernel)
set_option maxRecDepth 20000 in
theorem in_wsL_law_r24 : ∀ w ∈ wsL_law_r24, w ∈ lw_tbl := in_r [905, 906, 908, 33, 909, 557, 558, 559, 560, 561, 563, 13, 564, 910, 911, 912, 913, 914, 916, 34, 917, 565, 566, 567] (by decide +kernel)
set_option maxRecDepth 20000 in
theorem in_wsL_law_r25 : ∀ w ∈ wsL_law_r25, w ∈ lw_tbl := in_r [568, 918, 919, 920, 921, 922, 924, 35, 925, 569, 570, 571, 572, 573, 574, 575, 576, 91, 926, 927, 928, 929, 577, 578] (by decide +kernel)
set_option maxRecDepth 20000 in
theorem in_wsL_law_r26 : ∀ w ∈ wsL_law_r26, w ∈ lw_tbl := in_r [579, 580, 930, 931, 932, 933, 581, 582, 583, 584, 585, 587, 14, 588, 589, 590, 591, 592, 594, 596, 15, 597, 934, 935] (by decide +kernel)
set_option maxRecDepth 20000 in
theorem in_wsL_law_r27 : ∀ w ∈ wsL_law_r27, w ∈ lw_tbl := in_r [936, 937, 938, 940, 36, 941, 942, 944, 37, 945, 598, 599, 600, 601, 143, 602, 603, 604, 605, 606, 142, 607, 608, 609] (by decide +kernel)
set_option maxRecDepth 20000 in
theorem in_wsL_law_r28 : ∀ w ∈ wsL_law_r28, w ∈ lw_tbl := in_r [610, 946, 947, 948, 949, 950, 952, 38, 953, 694, 954, 956, 39, 957, 958, 959, 960, 961, 611, 612, 613, 614, 160, 161] (by decide +kernel)
set_option maxRecDepth 20000 in
theorem in_wsL_law_r29 : ∀ w ∈ wsL_law_r29, w ∈ lw_tbl := in_r [162, 615, 616, 617, 618, 619, 622, 623, 620, 627, 293, 624, 619, 621, 625, 626, 962, 963, 964, 965, 695, 696, 697, 698] (by decide +kernel)
set_option maxRecDepth 20000 in
theorem in_wsL_law_r30 : ∀ w ∈ wsL_law_r30, w ∈ lw_tbl := in_r [699, 700, 628, 629, 630, 631, 632, 635, 636, 633, 640, 637, 632, 634, 638, 639, 966, 967, 968, 969, 641, 642, 643, 644] (by decide +kernel)
set_option maxRecDepth 20000 in
theorem in_wsL_law_r31 : ∀ w ∈ wsL_law_r31, w ∈ lw_tbl := in_r [645, 647, 16, 648, 970, 971, 972, 973, 974, 976, 40, 977, 978, 980, 41, 981, 649, 650, 651, 652, 653, 658, 654, 656] (by decide +kernel)
set_option maxRecDepth 20000 in
theorem in_wsL_law_r32 : ∀ w ∈ wsL_law_r32, w ∈ lw_tbl := in_r [17, 657, 659, 660, 661, 662, 663, 982, 983, 984, 985, 986, 708, 987, 989, 42, 990, 991] (by decide +kernel)
set_option maxRecDepth 20000 in
theorem in_wsX90 : ∀ w ∈ wsX90, w ∈ lw_tbl := in_r [165, 167, 169, 171, 173, 175, 177, 179, 181, 183, 185, 187, 189, 191, 193, 195, 197, 199] (by decide +kernel)
set_option maxRecDepth 20000 in
theorem in_wsX100 : ∀ w ∈ wsX100, w ∈ lw_tbl := in_r [709, 711, 713, 715, 717, 719, 721, 723, 725, 727, 729, 731, 733, 735, 737, 739, 741, 743, 745, 747, 749, 751, 753, 755, 757, 759, 761, 763, 765, 767, 769, 771, 773, 775, 777, 779, 781, 783, 785] (by decide +kernel)
set_option maxRecDepth 20000 in
theorem in_wsX30 : ∀ w ∈ wsX30, w ∈ lw_tbl := in_r [74, 76] (by decide +kernel)
set_option maxRecDepth 20000 in
theorem in_wsX80 : ∀ w ∈ wsX80, w ∈ lw_tbl := in_r [93, 95, 97, 99] (by decide +kernel)
set_option maxRecDepth 20000 in
theorem in_wsX40 : ∀ w ∈ wsX40, w ∈ lw_tbl := in_r [117, 119, 121, 123, 125, 127, 129, 131, 133] (by decide +kernel)
set_option maxRecDepth 20000 in
theorem in_wsX10 : ∀ w ∈ wsX10, w ∈ lw_tbl := in_r [144] (by decide +kernel)
set_option maxRecDepth 20000 in
theorem in_wsX20 : ∀ w ∈ wsX20, w ∈ lw_tbl := in_r [295, 297, 299, 301, 303, 305, 307] (by decide +kernel)
set_option maxRecDepth 20000 in
theorem in_wsX60 : ∀ w ∈ wsX60, w ∈ lw_tbl := in_r [316, 317, 318, 319, 320, 321, 322] (by decide +kernel)
set_option maxRecDepth 20000 in
theorem in_wsX70 : ∀ w ∈ wsX70, w ∈ lw_tbl := in_r [330, 331, 332, 333, 334, 335, 336] (by decide +kernel)
set_option maxRecDepth 20000 in
theorem in_wsX00 : ∀ w ∈ wsX00, w ∈ lw_tbl := in_r [344, 345, 346, 347, 348, 349, 350] (by decide +kernel)
set_option maxRecDepth 20000 in
theorem in_wsX50 : ∀ w ∈ wsX50, w ∈ lw_tbl := in_r [354, 355, 356, 357, 358, 359, 360] (by decide +kernel)
set_option maxRecDepth 20000 in
theorem wsL_law_in : ∀ w ∈ wsL_law, w ∈ lw_tbl := in_app (in_app (in_app (in_app (in_app (in_app (in_app (in_app (in_app (in_app (in_app (in_app (in_app in_wsL_law_r1 (in_app in_wsL_law_r2 (in_app in_wsL_law_r3 (in_app in_wsL_law_r4 (in_app in_wsL_law_r5 (in_app in_wsL_law_r6 (in_app in_wsL_law_r7 (in_app in_wsL_law_r8 (in_app in_wsL_law_r9 (in_app in_wsL_law_r10 (in_app in_wsL_law_r11 (in_app in_wsL_law_r12 (in_app in_wsL_law_r13 (in_app in_wsL_law_r14 (in_app in_wsL_law_r15 (in_app in_wsL_law_r16 (in_app in_wsL_law_r17 (in_app in_wsL_law_r18 (in_app in_wsL_law_r19 (in_app in_wsL_law_r20 (in_app in_wsL_law_r21 (in_app in_wsL_law_r22 (in_app in_wsL_law_r23 (in_app in_wsL_law_r24 (in_app in_wsL_law_r25 (in_app in_wsL_law_r26 (in_app in_wsL_law_r27 (in_app in_wsL_law_r28 (in_app in_wsL_law_r29 (in_app in_wsL_law_r30 (in_app in_wsL_law_r31 (in_wsL_law_r32)))))))))))))))))))))))))))))))) in_wsX90) in_wsX100) in_wsX30) in_wsX80) in_wsX40) in_wsX10) in_wsX20) in_wsX60) in_wsX70) in_wsX00) in_wsX50) (fun _ h => absurd h List.not_mem_nil)
