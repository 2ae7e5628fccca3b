theorem in_r {big ws : List Cond} (ps : List Nat) (hp : ws = ps.filterMap (fun i => big[i]?)) : ∀ w ∈ ws, w ∈ big := by
  intro w hw
  rw [hp] at hw
  obtain ⟨i, -, hi⟩ := List.mem_filterMap.mp hw
  exact List.mem_of_getElem? hi
theorem in_app {big a b : List Cond} (ha : ∀ w ∈ a, w ∈ big) (hb : ∀ w ∈ b, w ∈ big) : ∀ w ∈ a ++ b, w ∈ big := fun w h => (List.mem_append.mp h).elim (ha w) (hb w)
set_option maxRecDepth 20000 in
theorem in_wsL_law_r1 : ∀ w ∈ wsL_law_r1, w ∈ lw_tbl := in_r [59, 60, 46, 680, 681, 51, 61, 62, 63, 64, 65, 66, 67, 68, 47, 149, 82, 150, 84, 85, 48, 151, 152, 104] (by decide +kernel)
set_option maxRecDepth 20000 in
theorem in_wsL_law_r2 : ∀ w ∈ wsL_law_r2, w ∈ lw_tbl := in_r [105, 49, 153, 138, 139, 50, 154, 70, 71, 72, 81, 73, 87, 88, 89, 90, 91, 92, 107, 108, 109, 110, 111, 112] (by decide +kernel)
set_option maxRecDepth 20000 in
theorem in_wsL_law_r3 : ∀ w ∈ wsL_law_r3, w ∈ lw_tbl := in_r [113, 141, 142, 143, 682, 683, 684, 685, 690, 691, 695, 696, 697, 699, 700, 701, 702, 804, 705, 708, 709, 717, 718, 719] (by decide +kernel)
set_option maxRecDepth 20000 in
theorem in_wsL_law_r4 : ∀ w ∈ wsL_law_r4, w ∈ lw_tbl := in_r [720, 721, 722, 723, 204, 205, 206, 207, 75, 208, 209, 210, 211, 74, 805, 806, 807, 808, 704, 809, 810, 811, 212, 213] (by decide +kernel)
set_option maxRecDepth 20000 in
theorem in_wsL_law_r5 : ∀ w ∈ wsL_law_r5, w ∈ lw_tbl := in_r [214, 215, 812, 813, 814, 815, 216, 217, 218, 219, 220, 221, 222, 223, 224, 226, 0, 227, 228, 229, 230, 231, 232, 233] (by decide +kernel)
set_option maxRecDepth 20000 in
theorem in_wsL_law_r6 : ∀ w ∈ wsL_law_r6, w ∈ lw_tbl := in_r [234, 235, 236, 237, 238, 240, 1, 241, 816, 817, 818, 819, 820, 822, 20, 823, 706, 707, 824, 825, 826, 827, 829, 21] (by decide +kernel)
set_option maxRecDepth 20000 in
theorem in_wsL_law_r7 : ∀ w ∈ wsL_law_r7, w ∈ lw_tbl := in_r [830, 831, 833, 22, 834, 835, 837, 23, 838, 242, 243, 244, 245, 156, 157, 165, 155, 246, 247, 248, 249, 250, 251, 253] (by decide +kernel)
set_option maxRecDepth 20000 in
theorem in_wsL_law_r8 : ∀ w ∈ wsL_law_r8, w ∈ lw_tbl := in_r [2, 254, 259, 260, 52, 261, 255, 256, 257, 258, 262, 263, 264, 265, 266, 267, 268, 269, 270, 272, 3, 273, 274, 275] (by decide +kernel)
set_option maxRecDepth 20000 in
theorem in_wsL_law_r9 : ∀ w ∈ wsL_law_r9, w ∈ lw_tbl := in_r [276, 277, 278, 54, 312, 313, 55, 326, 327, 56, 340, 341, 57, 354, 53, 279, 280, 281, 282, 283, 284, 285, 288, 292] (by decide +kernel)
set_option maxRecDepth 20000 in
theorem in_wsL_law_r10 : ∀ w ∈ wsL_law_r10, w ∈ lw_tbl := in_r [294, 296, 286, 314, 315, 316, 317, 328, 329, 330, 331, 342, 343, 344, 345, 355, 364, 365, 366, 367, 368, 369, 370, 371] (by decide +kernel)
set_option maxRecDepth 20000 in
theorem in_wsL_law_r11 : ∀ w ∈ wsL_law_r11, w ∈ lw_tbl := in_r [372, 374, 4, 375, 158, 159, 160, 94, 161, 839, 840, 841, 842, 687, 688, 689, 686, 692, 693, 694, 698, 843, 845, 24] (by decide +kernel)
set_option maxRecDepth 20000 in
theorem in_wsL_law_r12 : ∀ w ∈ wsL_law_r12, w ∈ lw_tbl := in_r [846, 376, 377, 378, 379, 287, 289, 291, 293, 380, 382, 5, 383, 384, 387, 385, 388, 389, 390, 400, 391, 392, 393, 384] (by decide +kernel)
set_option maxRecDepth 20000 in
theorem in_wsL_law_r13 : ∀ w ∈ wsL_law_r13, w ∈ lw_tbl := in_r [385, 386, 394, 395, 396, 397, 398, 399, 401, 404, 402, 405, 406, 407, 408, 1008, 353, 409, 410, 418, 411, 412, 413, 401] (by decide +kernel)
set_option maxRecDepth 20000 in
theorem in_wsL_law_r14 : ∀ w ∈ wsL_law_r14, w ∈ lw_tbl := in_r [402, 403, 414, 415, 416, 417, 419, 422, 423, 420, 427, 424, 419, 421, 425, 426, 428, 431, 432, 429, 436, 433, 428, 430] (by decide +kernel)
set_option maxRecDepth 20000 in
theorem in_wsL_law_r15 : ∀ w ∈ wsL_law_r15, w ∈ lw_tbl := in_r [434, 435, 437, 440, 441, 438, 445, 446, 446, 447, 447, 449, 450, 442, 437, 439, 443, 444, 847, 848, 849, 850, 851, 853] (by decide +kernel)
set_option maxRecDepth 20000 in
theorem in_wsL_law_r16 : ∀ w ∈ wsL_law_r16, w ∈ lw_tbl := in_r [25, 854, 855, 857, 26, 858, 859, 861, 27, 862, 863, 865, 28, 866, 867, 869, 29, 870, 871, 873, 30, 874, 875, 876] (by decide +kernel)
set_option maxRecDepth 20000 in
theorem in_wsL_law_r17 : ∀ w ∈ wsL_law_r17, w ∈ lw_tbl := in_r [877, 451, 452, 453, 454, 455, 456, 457, 277, 312, 326, 340, 878, 879, 880, 881, 458, 459, 460, 461, 882, 883, 884, 885] (by decide +kernel)
set_option maxRecDepth 20000 in
theorem in_wsL_law_r18 : ∀ w ∈ wsL_law_r18, w ∈ lw_tbl := in_r [462, 463, 464, 465, 466, 468, 6, 469, 886, 887, 888, 889, 470, 471, 472, 473, 474, 477, 478, 475, 482, 290, 483, 483] (by decide +kernel)
set_option maxRecDepth 20000 in
theorem in_wsL_law_r19 : ∀ w ∈ wsL_law_r19, w ∈ lw_tbl := in_r [479, 474, 476, 480, 481, 890, 891, 892, 893, 484, 485, 486, 487, 166, 488, 489, 490, 491, 114, 118, 115, 116, 117, 492] (by decide +kernel)
set_option maxRecDepth 20000 in
theorem in_wsL_law_r20 : ∀ w ∈ wsL_law_r20, w ∈ lw_tbl := in_r [493, 494, 495, 496, 497, 498, 499, 500, 501, 502, 503, 504, 506, 7, 507, 508, 510, 8, 511, 512, 514, 9, 515, 516] (by decide +kernel)
set_option maxRecDepth 20000 in
theorem in_wsL_law_r21 : ∀ w ∈ wsL_law_r21, w ∈ lw_tbl := in_r [517, 518, 519, 521, 10, 522, 523, 525, 11, 526, 527, 528, 529, 530, 532, 12, 533, 534, 535, 536, 537, 538, 58, 539] (by decide +kernel)
set_option maxRecDepth 20000 in
theorem in_wsL_law_r22 : ∀ w ∈ wsL_law_r22, w ∈ lw_tbl := in_r [540, 541, 542, 543, 545, 13, 546, 547, 548, 549, 550, 551, 552, 553, 554, 555, 556, 558, 14, 559, 894, 895, 896, 897] (by decide +kernel)
set_option maxRecDepth 20000 in
theorem in_wsL_law_r23 : ∀ w ∈ wsL_law_r23, w ∈ lw_tbl := in_r [703, 898, 900, 31, 901, 917, 902, 904, 32, 905, 906, 908, 33, 909, 910, 911, 912, 913, 915, 34, 916, 560, 561, 562] (by decide +kernel)
set_option maxRecDepth 20000 in
theorem in_wsL_law_r24 : ∀ w ∈ wsL_law_r24, w ∈ lw_tbl := in_r [563, 564, 567, 568, 565, 572, 569, 564, 566, 570, 571, 918, 919, 920, 921, 922, 924, 35, 925, 573, 574, 575, 576, 577] (by decide +kernel)
set_option maxRecDepth 20000 in
theorem in_wsL_law_r25 : ∀ w ∈ wsL_law_r25, w ∈ lw_tbl := in_r [579, 15, 580, 926, 927, 928, 929, 930, 932, 36, 933, 581, 582, 583, 584, 934, 935, 936, 937, 938, 940, 37, 941, 585] (by decide +kernel)
set_option maxRecDepth 20000 in
theorem in_wsL_law_r26 : ∀ w ∈ wsL_law_r26, w ∈ lw_tbl := in_r [586, 587, 588, 589, 590, 591, 592, 93, 942, 943, 944, 945, 593, 594, 595, 596, 946, 947, 948, 949, 597, 598, 599, 600] (by decide +kernel)
set_option maxRecDepth 20000 in
theorem in_wsL_law_r27 : ∀ w ∈ wsL_law_r27, w ∈ lw_tbl := in_r [601, 603, 16, 604, 605, 606, 607, 608, 610, 612, 17, 613, 950, 951, 952, 953, 954, 956, 38, 957, 958, 960, 39, 961] (by decide +kernel)
set_option maxRecDepth 20000 in
theorem in_wsL_law_r28 : ∀ w ∈ wsL_law_r28, w ∈ lw_tbl := in_r [614, 615, 616, 617, 145, 618, 619, 620, 621, 622, 144, 623, 624, 625, 626, 962, 963, 964, 965, 966, 968, 40, 969, 710] (by decide +kernel)
set_option maxRecDepth 20000 in
theorem in_wsL_law_r29 : ∀ w ∈ wsL_law_r29, w ∈ lw_tbl := in_r [970, 972, 41, 973, 974, 975, 976, 977, 627, 628, 629, 630, 162, 163, 164, 631, 632, 633, 634, 635, 638, 639, 636, 643] (by decide +kernel)
set_option maxRecDepth 20000 in
theorem in_wsL_law_r30 : ∀ w ∈ wsL_law_r30, w ∈ lw_tbl := in_r [295, 640, 635, 637, 641, 642, 978, 979, 980, 981, 711, 712, 713, 714, 715, 716, 644, 645, 646, 647, 648, 651, 652, 649] (by decide +kernel)
set_option maxRecDepth 20000 in
theorem in_wsL_law_r31 : ∀ w ∈ wsL_law_r31, w ∈ lw_tbl := in_r [656, 653, 648, 650, 654, 655, 982, 983, 984, 985, 657, 658, 659, 660, 661, 663, 18, 664, 986, 987, 988, 989, 990, 992] (by decide +kernel)
set_option maxRecDepth 20000 in
theorem in_wsL_law_r32 : ∀ w ∈ wsL_law_r32, w ∈ lw_tbl := in_r [42, 993, 994, 996, 43, 997, 665, 666, 667, 668, 669, 674, 670, 672, 19, 673, 675, 676, 677, 678, 679, 998, 999, 1000] (by decide +kernel)
set_option maxRecDepth 20000 in
theorem in_wsL_law_r33 : ∀ w ∈ wsL_law_r33, w ∈ lw_tbl := in_r [1001, 1002, 724, 1003, 1005, 44, 1006, 1007] (by decide +kernel)
set_option maxRecDepth 20000 in
theorem in_wsX90 : ∀ w ∈ wsX90, w ∈ lw_tbl := in_r [167, 169, 171, 173, 175, 177, 179, 181, 183, 185, 187, 189, 191, 193, 195, 197, 199, 201] (by decide +kernel)
set_option maxRecDepth 20000 in
theorem in_wsX100 : ∀ w ∈ wsX100, w ∈ lw_tbl := in_r [725, 727, 729, 731, 733, 735, 737, 739, 741, 743, 745, 747, 749, 751, 753, 755, 757, 759, 761, 763, 765, 767, 769, 771, 773, 775, 777, 779, 781, 783, 785, 787, 789, 791, 793, 795, 797, 799, 801] (by decide +kernel)
set_option maxRecDepth 20000 in
theorem in_wsX30 : ∀ w ∈ wsX30, w ∈ lw_tbl := in_r [76, 78] (by decide +kernel)
set_option maxRecDepth 20000 in
theorem in_wsX80 : ∀ w ∈ wsX80, w ∈ lw_tbl := in_r [95, 97, 99, 101] (by decide +kernel)
set_option maxRecDepth 20000 in
theorem in_wsX40 : ∀ w ∈ wsX40, w ∈ lw_tbl := in_r [119, 121, 123, 125, 127, 129, 131, 133, 135] (by decide +kernel)
set_option maxRecDepth 20000 in
theorem in_wsX10 : ∀ w ∈ wsX10, w ∈ lw_tbl := in_r [146] (by decide +kernel)
set_option maxRecDepth 20000 in
theorem in_wsX20 : ∀ w ∈ wsX20, w ∈ lw_tbl := in_r [297, 299, 301, 303, 305, 307, 309] (by decide +kernel)
set_option maxRecDepth 20000 in
theorem in_wsX60 : ∀ w ∈ wsX60, w ∈ lw_tbl := in_r [318, 319, 320, 321, 322, 323, 324] (by decide +kernel)
set_option maxRecDepth 20000 in
theorem in_wsX70 : ∀ w ∈ wsX70, w ∈ lw_tbl := in_r [332, 333, 334, 335, 336, 337, 338] (by decide +kernel)
set_option maxRecDepth 20000 in
theorem in_wsX00 : ∀ w ∈ wsX00, w ∈ lw_tbl := in_r [346, 347, 348, 349, 350, 351, 352] (by decide +kernel)
set_option maxRecDepth 20000 in
theorem in_wsX50 : ∀ w ∈ wsX50, w ∈ lw_tbl := in_r [356, 357, 358, 359, 360, 361, 362] (by decide +kernel)
set_option maxRecDepth 20000 in
theorem wsL_law_in : ∀ w ∈ wsL_law, w ∈ lw_tbl := in_app (in_app (in_app (in_app (in_app (in_app (in_app (in_app (in_app (in_app (in_app (in_app (in_app in_wsL_law_r1 (in_app in_wsL_law_r2 (in_app in_wsL_law_r3 (in_app in_wsL_law_r4 (in_app in_wsL_law_r5 (in_app in_wsL_law_r6 (in_app in_wsL_law_r7 (in_app in_wsL_law_r8 (in_app in_wsL_law_r9 (in_app in_wsL_law_r10 (in_app in_wsL_law_r11 (in_app in_wsL_law_r12 (in_app in_wsL_law_r13 (in_app in_wsL_law_r14 (in_app in_wsL_law_r15 (in_app in_wsL_law_r16 (in_app in_wsL_law_r17 (in_app in_wsL_law_r18 (in_app in_wsL_law_r19 (in_app in_wsL_law_r20 (in_app in_wsL_law_r21 (in_app in_wsL_law_r22 (in_app in_wsL_law_r23 (in_app in_wsL_law_r24 (in_app in_wsL_law_r25 (in_app in_wsL_law_r26 (in_app in_wsL_law_r27 (in_app in_wsL_law_r28 (in_app in_wsL_law_r29 (in_app in_wsL_law_r30 (in_app in_wsL_law_r31 (in_app in_wsL_law_r32 in_wsL_law_r33)))))))))))))))))))))))))))))))) in_wsX90) in_wsX100) in_wsX30) in_wsX80) in_wsX40) in_wsX10) in_wsX20) in_wsX60) in_wsX70) in_wsX00) in_wsX50) (fun _ h => absurd h List.not_mem_nil)
