/-! the law: its words -/
theorem in_ix {big : List Cond} (ws : List Cond) (ps : List Nat) (hp : ws = ps.filterMap (fun i => big[i]?)) : ∀ w ∈ ws, w ∈ big := by
  intro w h
  rw [hp, List.mem_filterMap] at h
  obtain ⟨i, -, hi⟩ := h
  exact List.mem_of_getElem? hi
set_option maxRecDepth 20000 in
theorem wi_1 : ∀ w ∈ wsL_law_r1, w ∈ lw_tbl := in_ix _ [65, 66, 55, 677, 678, 63, 973, 67, 68, 69, 70, 71, 72, 73, 74, 56, 270, 94, 95, 57, 271, 272, 123, 124] (by decide +kernel)
set_option maxRecDepth 20000 in
theorem wi_2 : ∀ w ∈ wsL_law_r2, w ∈ lw_tbl := in_ix _ [58, 273, 274, 143, 144, 60, 275, 156, 157, 61, 276, 172, 173, 62, 277, 278, 76, 77, 78, 93, 79, 80, 97, 98] (by decide +kernel)
set_option maxRecDepth 20000 in
theorem wi_3 : ∀ w ∈ wsL_law_r3, w ∈ lw_tbl := in_ix _ [99, 100, 101, 102, 104, 125, 126, 127, 128, 129, 130, 59, 131, 132, 135, 146, 147, 148, 149, 150, 159, 160, 161, 162] (by decide +kernel)
set_option maxRecDepth 20000 in
theorem wi_4 : ∀ w ∈ wsL_law_r4, w ∈ lw_tbl := in_ix _ [175, 176, 177, 178, 181, 184, 187, 190, 192, 194, 197, 199, 211, 213, 215, 216, 249, 250, 251, 252, 204, 254, 255, 256] (by decide +kernel)
set_option maxRecDepth 20000 in
theorem wi_5 : ∀ w ∈ wsL_law_r5, w ∈ lw_tbl := in_ix _ [257, 258, 259, 208, 260, 261, 262, 263, 106, 108, 265, 266, 268, 269, 679, 680, 681, 682, 749, 692, 694, 695, 696, 697] (by decide +kernel)
set_option maxRecDepth 20000 in
theorem wi_6 : ∀ w ∈ wsL_law_r6, w ∈ lw_tbl := in_ix _ [698, 699, 700, 701, 704, 705, 706, 707, 709, 683, 685, 28, 686, 687, 689, 29, 690, 703, 702, 298, 299, 300, 301, 302] (by decide +kernel)
set_option maxRecDepth 20000 in
theorem wi_7 : ∀ w ∈ wsL_law_r7, w ∈ lw_tbl := in_ix _ [303, 304, 305, 306, 307, 308, 82, 750, 751, 752, 753, 754, 691, 755, 756, 757, 310, 311, 312, 313, 758, 759, 760, 761] (by decide +kernel)
set_option maxRecDepth 20000 in
theorem wi_8 : ∀ w ∈ wsL_law_r8, w ∈ lw_tbl := in_ix _ [314, 315, 316, 317, 318, 319, 320, 321, 81, 322, 323, 324, 325, 327, 329, 0, 330, 331, 333, 1, 334, 335, 337, 2] (by decide +kernel)
set_option maxRecDepth 20000 in
theorem wi_9 : ∀ w ∈ wsL_law_r9, w ∈ lw_tbl := in_ix _ [338, 339, 341, 3, 342, 344, 345, 347, 349, 4, 350, 351, 352, 353, 354, 356, 358, 5, 359, 361, 363, 6, 364, 365] (by decide +kernel)
set_option maxRecDepth 20000 in
theorem wi_10 : ∀ w ∈ wsL_law_r10, w ∈ lw_tbl := in_ix _ [366, 368, 7, 369, 370, 371, 373, 8, 374, 375, 377, 9, 378, 379, 381, 10, 382, 383, 385, 11, 386, 387, 389, 12] (by decide +kernel)
set_option maxRecDepth 20000 in
theorem wi_11 : ∀ w ∈ wsL_law_r11, w ∈ lw_tbl := in_ix _ [390, 762, 763, 764, 765, 693, 766, 768, 30, 769, 770, 771, 772, 773, 775, 31, 776, 777, 778, 779, 780, 782, 32, 783] (by decide +kernel)
set_option maxRecDepth 20000 in
theorem wi_12 : ∀ w ∈ wsL_law_r12, w ∈ lw_tbl := in_ix _ [784, 789, 794, 785, 787, 33, 788, 790, 792, 34, 793, 391, 392, 393, 394, 395, 396, 397, 398, 399, 400, 401, 402, 136] (by decide +kernel)
set_option maxRecDepth 20000 in
theorem wi_13 : ∀ w ∈ wsL_law_r13, w ∈ lw_tbl := in_ix _ [795, 796, 797, 798, 799, 800, 802, 35, 803, 403, 404, 405, 406, 407, 409, 13, 410, 411, 804, 805, 806, 807, 812, 808] (by decide +kernel)
set_option maxRecDepth 20000 in
theorem wi_14 : ∀ w ∈ wsL_law_r14, w ∈ lw_tbl := in_ix _ [810, 36, 811, 412, 413, 414, 415, 416, 418, 14, 419, 813, 814, 815, 816, 817, 819, 37, 820, 420, 421, 422, 423, 424] (by decide +kernel)
set_option maxRecDepth 20000 in
theorem wi_15 : ∀ w ∈ wsL_law_r15, w ∈ lw_tbl := in_ix _ [425, 426, 427, 821, 822, 823, 824, 429, 430, 431, 432, 433, 434, 435, 436, 437, 438, 439, 440, 441, 443, 15, 444, 445] (by decide +kernel)
set_option maxRecDepth 20000 in
theorem wi_16 : ∀ w ∈ wsL_law_r16, w ∈ lw_tbl := in_ix _ [447, 16, 448, 449, 450, 451, 452, 453, 454, 455, 456, 457, 458, 459, 460, 461, 463, 17, 464, 465, 466, 468, 469, 470] (by decide +kernel)
set_option maxRecDepth 20000 in
theorem wi_17 : ∀ w ∈ wsL_law_r17, w ∈ lw_tbl := in_ix _ [471, 473, 474, 475, 476, 477, 479, 480, 481, 482, 484, 18, 485, 825, 826, 827, 828, 829, 831, 38, 832, 833, 835, 39] (by decide +kernel)
set_option maxRecDepth 20000 in
theorem wi_18 : ∀ w ∈ wsL_law_r18, w ∈ lw_tbl := in_ix _ [836, 837, 839, 40, 840, 841, 843, 41, 844, 845, 847, 42, 848, 849, 851, 43, 852, 853, 855, 44, 856, 486, 487, 488] (by decide +kernel)
set_option maxRecDepth 20000 in
theorem wi_19 : ∀ w ∈ wsL_law_r19, w ∈ lw_tbl := in_ix _ [489, 490, 491, 492, 493, 494, 857, 858, 859, 860, 495, 496, 497, 498, 499, 500, 501, 502, 503, 505, 19, 506, 509, 511] (by decide +kernel)
set_option maxRecDepth 20000 in
theorem wi_20 : ∀ w ∈ wsL_law_r20, w ∈ lw_tbl := in_ix _ [20, 512, 513, 861, 862, 863, 864, 865, 866, 868, 45, 869, 514, 515, 516, 517, 518, 519, 520, 521, 870, 871, 872, 873] (by decide +kernel)
set_option maxRecDepth 20000 in
theorem wi_21 : ∀ w ∈ wsL_law_r21, w ∈ lw_tbl := in_ix _ [522, 523, 524, 525, 526, 528, 21, 529, 530, 531, 532, 533, 539, 535, 536, 537, 541, 543, 22, 544, 546, 547, 548, 549] (by decide +kernel)
set_option maxRecDepth 20000 in
theorem wi_22 : ∀ w ∈ wsL_law_r22, w ∈ lw_tbl := in_ix _ [874, 875, 876, 877, 878, 880, 46, 881, 882, 884, 47, 885, 890, 886, 888, 48, 889, 550, 551, 552, 553, 554, 555, 556] (by decide +kernel)
set_option maxRecDepth 20000 in
theorem wi_23 : ∀ w ∈ wsL_law_r23, w ∈ lw_tbl := in_ix _ [557, 558, 559, 891, 892, 893, 894, 895, 897, 49, 898, 560, 561, 562, 563, 564, 565, 64, 566, 567, 568, 569, 570, 572] (by decide +kernel)
set_option maxRecDepth 20000 in
theorem wi_24 : ∀ w ∈ wsL_law_r24, w ∈ lw_tbl := in_ix _ [23, 573, 899, 900, 901, 902, 903, 904, 905, 906, 574, 575, 576, 577, 578, 579, 580, 581, 163, 164, 583, 584, 586, 587] (by decide +kernel)
set_option maxRecDepth 20000 in
theorem wi_25 : ∀ w ∈ wsL_law_r25, w ∈ lw_tbl := in_ix _ [588, 589, 590, 591, 592, 593, 594, 596, 597, 598, 599, 600, 907, 908, 909, 910, 911, 708, 912, 914, 50, 915, 601, 602] (by decide +kernel)
set_option maxRecDepth 20000 in
theorem wi_26 : ∀ w ∈ wsL_law_r26, w ∈ lw_tbl := in_ix _ [603, 604, 605, 606, 607, 608, 609, 916, 917, 918, 919, 920, 921, 922, 923, 925, 51, 926, 610, 611, 612, 613, 927, 928] (by decide +kernel)
set_option maxRecDepth 20000 in
theorem wi_27 : ∀ w ∈ wsL_law_r27, w ∈ lw_tbl := in_ix _ [929, 930, 614, 615, 616, 617, 618, 619, 621, 24, 622, 931, 932, 933, 934, 935, 623, 624, 625, 626, 627, 628, 629, 630] (by decide +kernel)
set_option maxRecDepth 20000 in
theorem wi_28 : ∀ w ∈ wsL_law_r28, w ∈ lw_tbl := in_ix _ [632, 936, 937, 938, 939, 940, 633, 634, 635, 636, 637, 639, 25, 640, 641, 642, 643, 644, 941, 942, 943, 944, 945, 947] (by decide +kernel)
set_option maxRecDepth 20000 in
theorem wi_29 : ∀ w ∈ wsL_law_r29, w ∈ lw_tbl := in_ix _ [52, 948, 645, 646, 647, 648, 649, 650, 651, 652, 654, 26, 655, 656, 658, 27, 659, 660, 661, 662, 663, 664, 949, 950] (by decide +kernel)
set_option maxRecDepth 20000 in
theorem wi_30 : ∀ w ∈ wsL_law_r30, w ∈ lw_tbl := in_ix _ [951, 952, 953, 954, 955, 956, 957, 959, 53, 960, 665, 666, 667, 668, 961, 962, 963, 964, 669, 670, 671, 672, 965, 966] (by decide +kernel)
set_option maxRecDepth 20000 in
theorem wi_31 : ∀ w ∈ wsL_law_r31, w ∈ lw_tbl := in_ix _ [967, 968, 673, 674, 675, 676, 969, 970, 971, 972] (by decide +kernel)
theorem wx_6 : ∀ w ∈ wsX60, w ∈ lw_tbl := in_ix _ [279, 281, 283, 285, 287, 289, 291, 293, 295] (by decide +kernel)
theorem wx_7 : ∀ w ∈ wsX70, w ∈ lw_tbl := in_ix _ [710, 712, 714, 716, 718, 720, 722, 724, 726, 728, 730, 732, 734, 736, 738, 740, 742, 744, 746] (by decide +kernel)
theorem wx_4 : ∀ w ∈ wsX40, w ∈ lw_tbl := in_ix _ [84, 86, 88, 90] (by decide +kernel)
theorem wx_0 : ∀ w ∈ wsX00, w ∈ lw_tbl := in_ix _ [110, 112, 114, 116, 118, 120] (by decide +kernel)
theorem wx_1 : ∀ w ∈ wsX10, w ∈ lw_tbl := in_ix _ [138, 140] (by decide +kernel)
theorem wx_5 : ∀ w ∈ wsX50, w ∈ lw_tbl := in_ix _ [151, 153] (by decide +kernel)
theorem wx_3 : ∀ w ∈ wsX30, w ∈ lw_tbl := in_ix _ [165, 167, 169] (by decide +kernel)
theorem wx_2 : ∀ w ∈ wsX20, w ∈ lw_tbl := in_ix _ [218, 220, 222, 224, 226, 228, 230, 232, 234, 236, 238, 240, 242, 244, 246] (by decide +kernel)
theorem wsL_law_in : ∀ w ∈ wsL_law, w ∈ lw_tbl := by
  unfold wsL_law
  exact List.forall_mem_append.mpr ⟨List.forall_mem_append.mpr ⟨List.forall_mem_append.mpr ⟨List.forall_mem_append.mpr ⟨List.forall_mem_append.mpr ⟨List.forall_mem_append.mpr ⟨List.forall_mem_append.mpr ⟨List.forall_mem_append.mpr ⟨List.forall_mem_append.mpr ⟨List.forall_mem_append.mpr ⟨wi_1, List.forall_mem_append.mpr ⟨wi_2, List.forall_mem_append.mpr ⟨wi_3, List.forall_mem_append.mpr ⟨wi_4, List.forall_mem_append.mpr ⟨wi_5, List.forall_mem_append.mpr ⟨wi_6, List.forall_mem_append.mpr ⟨wi_7, List.forall_mem_append.mpr ⟨wi_8, List.forall_mem_append.mpr ⟨wi_9, List.forall_mem_append.mpr ⟨wi_10, List.forall_mem_append.mpr ⟨wi_11, List.forall_mem_append.mpr ⟨wi_12, List.forall_mem_append.mpr ⟨wi_13, List.forall_mem_append.mpr ⟨wi_14, List.forall_mem_append.mpr ⟨wi_15, List.forall_mem_append.mpr ⟨wi_16, List.forall_mem_append.mpr ⟨wi_17, List.forall_mem_append.mpr ⟨wi_18, List.forall_mem_append.mpr ⟨wi_19, List.forall_mem_append.mpr ⟨wi_20, List.forall_mem_append.mpr ⟨wi_21, List.forall_mem_append.mpr ⟨wi_22, List.forall_mem_append.mpr ⟨wi_23, List.forall_mem_append.mpr ⟨wi_24, List.forall_mem_append.mpr ⟨wi_25, List.forall_mem_append.mpr ⟨wi_26, List.forall_mem_append.mpr ⟨wi_27, List.forall_mem_append.mpr ⟨wi_28, List.forall_mem_append.mpr ⟨wi_29, List.forall_mem_append.mpr ⟨wi_30, wi_31⟩⟩⟩⟩⟩⟩⟩⟩⟩⟩⟩⟩⟩⟩⟩⟩⟩⟩⟩⟩⟩⟩⟩⟩⟩⟩⟩⟩⟩⟩, wx_6⟩, wx_7⟩, wx_4⟩, wx_0⟩, wx_1⟩, wx_5⟩, wx_3⟩, wx_2⟩, fun _ h => absurd h List.not_mem_nil⟩
theorem inlX0 : ∀ w ∈ wsX00, w ∈ wsL_law := fun _ h => List.mem_append_left _ (List.mem_append_left _ (List.mem_append_left _ (List.mem_append_left _ (List.mem_append_left _ (List.mem_append_right _ h)))))
theorem inX0 : ∀ w ∈ wsX00, w ∈ lw_tbl := fun w h => wsL_law_in w (inlX0 w h)
theorem inlX1 : ∀ w ∈ wsX10, w ∈ wsL_law := fun _ h => List.mem_append_left _ (List.mem_append_left _ (List.mem_append_left _ (List.mem_append_left _ (List.mem_append_right _ h))))
theorem inX1 : ∀ w ∈ wsX10, w ∈ lw_tbl := fun w h => wsL_law_in w (inlX1 w h)
theorem inlX2 : ∀ w ∈ wsX20, w ∈ wsL_law := fun _ h => List.mem_append_left _ (List.mem_append_right _ h)
theorem inX2 : ∀ w ∈ wsX20, w ∈ lw_tbl := fun w h => wsL_law_in w (inlX2 w h)
theorem inlX3 : ∀ w ∈ wsX30, w ∈ wsL_law := fun _ h => List.mem_append_left _ (List.mem_append_left _ (List.mem_append_right _ h))
theorem inX3 : ∀ w ∈ wsX30, w ∈ lw_tbl := fun w h => wsL_law_in w (inlX3 w h)
theorem inlX4 : ∀ w ∈ wsX40, w ∈ wsL_law := fun _ h => List.mem_append_left _ (List.mem_append_left _ (List.mem_append_left _ (List.mem_append_left _ (List.mem_append_left _ (List.mem_append_left _ (List.mem_append_right _ h))))))
theorem inX4 : ∀ w ∈ wsX40, w ∈ lw_tbl := fun w h => wsL_law_in w (inlX4 w h)
theorem inlX5 : ∀ w ∈ wsX50, w ∈ wsL_law := fun _ h => List.mem_append_left _ (List.mem_append_left _ (List.mem_append_left _ (List.mem_append_right _ h)))
theorem inX5 : ∀ w ∈ wsX50, w ∈ lw_tbl := fun w h => wsL_law_in w (inlX5 w h)
theorem inlX6 : ∀ w ∈ wsX60, w ∈ wsL_law := fun _ h => List.mem_append_left _ (List.mem_append_left _ (List.mem_append_left _ (List.mem_append_left _ (List.mem_append_left _ (List.mem_append_left _ (List.mem_append_left _ (List.mem_append_left _ (List.mem_append_right _ h))))))))
theorem inX6 : ∀ w ∈ wsX60, w ∈ lw_tbl := fun w h => wsL_law_in w (inlX6 w h)
theorem inlX7 : ∀ w ∈ wsX70, w ∈ wsL_law := fun _ h => List.mem_append_left _ (List.mem_append_left _ (List.mem_append_left _ (List.mem_append_left _ (List.mem_append_left _ (List.mem_append_left _ (List.mem_append_left _ (List.mem_append_right _ h)))))))
theorem inX7 : ∀ w ∈ wsX70, w ∈ lw_tbl := fun w h => wsL_law_in w (inlX7 w h)
theorem inJ6 : ∀ w ∈ wsJ60, w ∈ lw_tbl := by decide +kernel
theorem inJ9 : ∀ w ∈ wsJ90, w ∈ lw_tbl := by decide +kernel
