theorem mem_places {big ws : List Cond} (ps : List Nat) (hp : ws = ps.filterMap (fun i => big[i]?)) : ∀ w ∈ ws, w ∈ big := by
  intro w hw
  rw [hp] at hw
  obtain ⟨i, -, hi⟩ := List.mem_filterMap.mp hw
  exact List.mem_of_getElem? hi
set_option maxRecDepth 100000 in
theorem wsL_in_r1 : ∀ w ∈ wsL_law_r1, w ∈ lw_tbl := mem_places [50, 51, 41, 624, 625, 48, 939, 52, 53, 54, 55, 56, 57, 58, 59, 42, 271, 272, 88, 273, 205, 206, 46, 274] (by decide +kernel)
set_option maxRecDepth 100000 in
theorem wsL_in_r2 : ∀ w ∈ wsL_law_r2, w ∈ lw_tbl := mem_places [236, 237, 47, 275, 60, 61, 62, 63, 64, 173, 66, 175, 68, 178, 181, 89, 183, 72, 43, 90, 44, 110, 45, 74] (by decide +kernel)
set_option maxRecDepth 100000 in
theorem wsL_in_r3 : ∀ w ∈ wsL_law_r3, w ∈ lw_tbl := mem_places [75, 76, 92, 93, 94, 101, 112, 113, 114, 208, 209, 210, 211, 212, 213, 215, 216, 239, 240, 241, 270, 242, 626, 627] (by decide +kernel)
set_option maxRecDepth 100000 in
theorem wsL_in_r4 : ∀ w ∈ wsL_law_r4, w ∈ lw_tbl := mem_places [628, 629, 630, 631, 632, 633, 634, 636, 637, 640, 287, 288, 289, 290, 167, 291, 292, 293, 294, 166, 79, 82, 667, 668] (by decide +kernel)
set_option maxRecDepth 100000 in
theorem wsL_in_r5 : ∀ w ∈ wsL_law_r5, w ∈ lw_tbl := mem_places [669, 670, 671, 672, 673, 295, 296, 297, 298, 174, 78, 81, 299, 300, 301, 302, 674, 675, 676, 677, 678, 680, 0, 681] (by decide +kernel)
set_option maxRecDepth 100000 in
theorem wsL_in_r6 : ∀ w ∈ wsL_law_r6, w ∈ lw_tbl := mem_places [682, 684, 1, 685, 686, 688, 2, 689, 303, 304, 305, 306, 169, 307, 308, 309, 310, 168, 690, 691, 692, 693, 694, 696] (by decide +kernel)
set_option maxRecDepth 100000 in
theorem wsL_in_r7 : ∀ w ∈ wsL_law_r7, w ∈ lw_tbl := mem_places [3, 697, 311, 312, 313, 314, 315, 316, 318, 184, 698, 699, 700, 701, 702, 703, 704, 705, 706, 708, 4, 709, 320, 321] (by decide +kernel)
set_option maxRecDepth 100000 in
theorem wsL_in_r8 : ∀ w ∈ wsL_law_r8, w ∈ lw_tbl := mem_places [322, 323, 176, 172, 324, 325, 326, 327, 328, 329, 330, 331, 332, 334, 335, 336, 337, 338, 339, 164, 340, 341, 342, 343] (by decide +kernel)
set_option maxRecDepth 100000 in
theorem wsL_in_r9 : ∀ w ∈ wsL_law_r9, w ∈ lw_tbl := mem_places [171, 344, 345, 346, 347, 115, 348, 349, 350, 351, 122, 119, 352, 353, 354, 355, 133, 356, 357, 358, 359, 360, 361, 362] (by decide +kernel)
set_option maxRecDepth 100000 in
theorem wsL_in_r10 : ∀ w ∈ wsL_law_r10, w ∈ lw_tbl := mem_places [363, 117, 121, 124, 126, 130, 710, 711, 712, 713, 714, 716, 5, 717, 718, 719, 720, 721, 723, 6, 724, 725, 727, 7] (by decide +kernel)
set_option maxRecDepth 100000 in
theorem wsL_in_r11 : ∀ w ∈ wsL_law_r11, w ∈ lw_tbl := mem_places [728, 729, 731, 8, 732, 733, 735, 9, 736, 737, 739, 10, 740, 741, 743, 11, 744, 745, 747, 12, 748, 364, 365, 366] (by decide +kernel)
set_option maxRecDepth 100000 in
theorem wsL_in_r12 : ∀ w ∈ wsL_law_r12, w ∈ lw_tbl := mem_places [367, 368, 369, 370, 371, 135, 372, 373, 374, 375, 218, 219, 170, 179, 132, 128, 376, 377, 378, 379, 380, 381, 382, 383] (by decide +kernel)
set_option maxRecDepth 100000 in
theorem wsL_in_r13 : ∀ w ∈ wsL_law_r13, w ∈ lw_tbl := mem_places [384, 385, 98, 386, 387, 388, 389, 390, 391, 392, 393, 394, 395, 396, 397, 398, 399, 400, 401, 402, 403, 404, 405, 406] (by decide +kernel)
set_option maxRecDepth 100000 in
theorem wsL_in_r14 : ∀ w ∈ wsL_law_r14, w ∈ lw_tbl := mem_places [407, 408, 409, 410, 411, 412, 413, 414, 415, 416, 417, 418, 419, 420, 421, 422, 177, 116, 96, 423, 424, 425, 426, 138] (by decide +kernel)
set_option maxRecDepth 100000 in
theorem wsL_in_r15 : ∀ w ∈ wsL_law_r15, w ∈ lw_tbl := mem_places [749, 750, 751, 752, 753, 755, 13, 756, 757, 759, 14, 760, 761, 763, 15, 764, 765, 767, 16, 768, 769, 771, 17, 772] (by decide +kernel)
set_option maxRecDepth 100000 in
theorem wsL_in_r16 : ∀ w ∈ wsL_law_r16, w ∈ lw_tbl := mem_places [773, 775, 18, 776, 777, 778, 779, 781, 19, 782, 783, 785, 20, 786, 787, 789, 21, 790, 791, 793, 22, 794, 427, 428] (by decide +kernel)
set_option maxRecDepth 100000 in
theorem wsL_in_r17 : ∀ w ∈ wsL_law_r17, w ∈ lw_tbl := mem_places [429, 430, 180, 134, 140, 120, 123, 431, 432, 433, 434, 435, 436, 437, 438, 439, 440, 441, 442, 443, 444, 445, 446, 447] (by decide +kernel)
set_option maxRecDepth 100000 in
theorem wsL_in_r18 : ∀ w ∈ wsL_law_r18, w ∈ lw_tbl := mem_places [448, 449, 450, 451, 795, 796, 797, 798, 799, 801, 23, 802, 803, 805, 24, 806, 807, 809, 25, 810, 452, 453, 454, 455] (by decide +kernel)
set_option maxRecDepth 100000 in
theorem wsL_in_r19 : ∀ w ∈ wsL_law_r19, w ∈ lw_tbl := mem_places [182, 456, 457, 458, 459, 460, 141, 144, 461, 462, 463, 464, 465, 466, 49, 467, 811, 812, 813, 814, 815, 817, 26, 818] (by decide +kernel)
set_option maxRecDepth 100000 in
theorem wsL_in_r20 : ∀ w ∈ wsL_law_r20, w ∈ lw_tbl := mem_places [819, 821, 27, 822, 823, 825, 28, 826, 468, 469, 470, 471, 165, 131, 137, 472, 473, 474, 827, 828, 829, 830, 831, 833] (by decide +kernel)
set_option maxRecDepth 100000 in
theorem wsL_in_r21 : ∀ w ∈ wsL_law_r21, w ∈ lw_tbl := mem_places [29, 834, 475, 476, 477, 478, 143, 835, 836, 837, 838, 479, 480, 481, 482, 483, 484, 485, 486, 487, 488, 489, 490, 99] (by decide +kernel)
set_option maxRecDepth 100000 in
theorem wsL_in_r22 : ∀ w ∈ wsL_law_r22, w ∈ lw_tbl := mem_places [491, 492, 493, 839, 840, 841, 842, 843, 845, 30, 846, 494, 495, 496, 497, 499, 498, 847, 848, 849, 850, 500, 501, 502] (by decide +kernel)
set_option maxRecDepth 100000 in
theorem wsL_in_r23 : ∀ w ∈ wsL_law_r23, w ∈ lw_tbl := mem_places [503, 97, 100, 102, 504, 505, 506, 507, 508, 509, 510, 511, 512, 513, 514, 515, 516, 517, 518, 519, 851, 852, 853, 854] (by decide +kernel)
set_option maxRecDepth 100000 in
theorem wsL_in_r24 : ∀ w ∈ wsL_law_r24, w ∈ lw_tbl := mem_places [855, 857, 31, 858, 520, 521, 522, 523, 118, 127, 524, 859, 860, 861, 862, 525, 526, 527, 528, 244, 529, 530, 531, 532] (by decide +kernel)
set_option maxRecDepth 100000 in
theorem wsL_in_r25 : ∀ w ∈ wsL_law_r25, w ∈ lw_tbl := mem_places [863, 864, 865, 866, 635, 867, 869, 32, 870, 871, 873, 33, 874, 533, 534, 535, 536, 537, 875, 876, 877, 878, 538, 539] (by decide +kernel)
set_option maxRecDepth 100000 in
theorem wsL_in_r26 : ∀ w ∈ wsL_law_r26, w ∈ lw_tbl := mem_places [540, 541, 220, 546, 214, 542, 543, 544, 545, 879, 880, 881, 882, 883, 547, 548, 549, 550, 217, 884, 885, 886, 887, 888] (by decide +kernel)
set_option maxRecDepth 100000 in
theorem wsL_in_r27 : ∀ w ∈ wsL_law_r27, w ∈ lw_tbl := mem_places [890, 34, 891, 892, 894, 35, 895, 551, 552, 553, 554, 555, 556, 557, 558, 559, 560, 561, 562, 563, 564, 243, 896, 897] (by decide +kernel)
set_option maxRecDepth 100000 in
theorem wsL_in_r28 : ∀ w ∈ wsL_law_r28, w ∈ lw_tbl := mem_places [898, 899, 900, 565, 566, 567, 568, 901, 902, 903, 904, 569, 570, 571, 572, 573, 574, 575, 576, 245, 577, 578, 579, 580] (by decide +kernel)
set_option maxRecDepth 100000 in
theorem wsL_in_r29 : ∀ w ∈ wsL_law_r29, w ∈ lw_tbl := mem_places [247, 249, 251, 253, 581, 582, 583, 584, 585, 586, 587, 588, 589, 590, 591, 592, 905, 906, 907, 908, 638, 639, 641, 909] (by decide +kernel)
set_option maxRecDepth 100000 in
theorem wsL_in_r30 : ∀ w ∈ wsL_law_r30, w ∈ lw_tbl := mem_places [911, 36, 912, 913, 915, 37, 916, 917, 919, 38, 920, 921, 923, 39, 924, 593, 594, 595, 596, 246, 248, 250, 252, 254] (by decide +kernel)
set_option maxRecDepth 100000 in
theorem wsL_in_r31 : ∀ w ∈ wsL_law_r31, w ∈ lw_tbl := mem_places [597, 598, 599, 925, 926, 927, 928, 929, 930, 600, 601, 602, 603, 604, 605, 606, 607, 608, 609, 610, 611, 77, 80, 612] (by decide +kernel)
set_option maxRecDepth 100000 in
theorem wsL_in_r32 : ∀ w ∈ wsL_law_r32, w ∈ lw_tbl := mem_places [613, 614, 615, 95, 616, 617, 618, 619, 125, 129, 136, 139, 142, 931, 932, 933, 934, 620, 621, 622, 623, 935, 936, 937] (by decide +kernel)
set_option maxRecDepth 100000 in
theorem wsL_in_r33 : ∀ w ∈ wsL_law_r33, w ∈ lw_tbl := mem_places [938] (by decide +kernel)
set_option maxRecDepth 100000 in
theorem wsX60_in : ∀ w ∈ wsX60, w ∈ lw_tbl := by decide +kernel
set_option maxRecDepth 100000 in
theorem wsX70_in : ∀ w ∈ wsX70, w ∈ lw_tbl := by decide +kernel
set_option maxRecDepth 100000 in
theorem wsX30_in : ∀ w ∈ wsX30, w ∈ lw_tbl := by decide +kernel
set_option maxRecDepth 100000 in
theorem wsX20_in : ∀ w ∈ wsX20, w ∈ lw_tbl := by decide +kernel
set_option maxRecDepth 100000 in
theorem wsX40_in : ∀ w ∈ wsX40, w ∈ lw_tbl := by decide +kernel
set_option maxRecDepth 100000 in
theorem wsX50_in : ∀ w ∈ wsX50, w ∈ lw_tbl := by decide +kernel
set_option maxRecDepth 100000 in
theorem wsX10_in : ∀ w ∈ wsX10, w ∈ lw_tbl := by decide +kernel
set_option maxRecDepth 100000 in
theorem wsX00_in : ∀ w ∈ wsX00, w ∈ lw_tbl := by decide +kernel
theorem mem_app {big a b : List Cond} (ha : ∀ w ∈ a, w ∈ big) (hb : ∀ w ∈ b, w ∈ big) : ∀ w ∈ a ++ b, w ∈ big := fun w h => (List.mem_append.mp h).elim (ha w) (hb w)
theorem wsL_law_in : ∀ w ∈ wsL_law, w ∈ lw_tbl := mem_app (mem_app (mem_app (mem_app (mem_app (mem_app (mem_app (mem_app (mem_app (mem_app wsL_in_r1 (mem_app wsL_in_r2 (mem_app wsL_in_r3 (mem_app wsL_in_r4 (mem_app wsL_in_r5 (mem_app wsL_in_r6 (mem_app wsL_in_r7 (mem_app wsL_in_r8 (mem_app wsL_in_r9 (mem_app wsL_in_r10 (mem_app wsL_in_r11 (mem_app wsL_in_r12 (mem_app wsL_in_r13 (mem_app wsL_in_r14 (mem_app wsL_in_r15 (mem_app wsL_in_r16 (mem_app wsL_in_r17 (mem_app wsL_in_r18 (mem_app wsL_in_r19 (mem_app wsL_in_r20 (mem_app wsL_in_r21 (mem_app wsL_in_r22 (mem_app wsL_in_r23 (mem_app wsL_in_r24 (mem_app wsL_in_r25 (mem_app wsL_in_r26 (mem_app wsL_in_r27 (mem_app wsL_in_r28 (mem_app wsL_in_r29 (mem_app wsL_in_r30 (mem_app wsL_in_r31 (mem_app wsL_in_r32 wsL_in_r33)))))))))))))))))))))))))))))))) wsX60_in) wsX70_in) wsX30_in) wsX20_in) wsX40_in) wsX50_in) wsX10_in) wsX00_in) (fun w h => absurd h List.not_mem_nil)
theorem inX0 : ∀ w ∈ wsX00, w ∈ lw_tbl := fun w h => wsL_law_in w (inlX0 w h)
theorem inX1 : ∀ w ∈ wsX10, w ∈ lw_tbl := fun w h => wsL_law_in w (inlX1 w h)
theorem inX2 : ∀ w ∈ wsX20, w ∈ lw_tbl := fun w h => wsL_law_in w (inlX2 w h)
theorem inX3 : ∀ w ∈ wsX30, w ∈ lw_tbl := fun w h => wsL_law_in w (inlX3 w h)
theorem inX4 : ∀ w ∈ wsX40, w ∈ lw_tbl := fun w h => wsL_law_in w (inlX4 w h)
theorem inX5 : ∀ w ∈ wsX50, w ∈ lw_tbl := fun w h => wsL_law_in w (inlX5 w h)
theorem inX6 : ∀ w ∈ wsX60, w ∈ lw_tbl := fun w h => wsL_law_in w (inlX6 w h)
theorem inX7 : ∀ w ∈ wsX70, w ∈ lw_tbl := fun w h => wsL_law_in w (inlX7 w h)
theorem inJ9 : ∀ w ∈ wsJ90, w ∈ lw_tbl := by decide +kernel
