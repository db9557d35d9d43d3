theorem mem_idx {tbl l : List Cond} (ps : List Nat) (h : l = ps.filterMap (fun i => tbl[i]?)) : ∀ w ∈ l, w ∈ tbl := by
  subst h
  intro w hw
  obtain ⟨i, -, h⟩ := List.mem_filterMap.mp hw
  exact List.mem_of_getElem? h
set_option maxRecDepth 20000 in
theorem wsL_in_1 : ∀ w ∈ wsL_law0_r1, w ∈ lw_tbl := mem_idx [58, 59, 35, 799, 800, 43, 1056, 60, 61, 62, 63, 64, 65, 66, 186, 68, 69, 36, 187, 79, 80, 37, 188, 100] rfl
set_option maxRecDepth 20000 in
theorem wsL_in_2 : ∀ w ∈ wsL_law0_r2, w ∈ lw_tbl := mem_idx [101, 39, 189, 114, 115, 40, 190, 98, 191, 138, 139, 41, 192, 161, 162, 42, 193, 71, 72, 73, 74, 75, 81, 82] rfl
set_option maxRecDepth 20000 in
theorem wsL_in_3 : ∀ w ∈ wsL_law0_r3, w ∈ lw_tbl := mem_idx [83, 84, 88, 89, 99, 90, 85, 86, 38, 87, 103, 104, 105, 113, 106, 116, 117, 118, 119, 121, 125, 120, 141, 142] rfl
set_option maxRecDepth 20000 in
theorem wsL_in_4 : ∀ w ∈ wsL_law0_r4, w ∈ lw_tbl := mem_idx [143, 144, 145, 146, 147, 164, 165, 166, 167, 168, 169, 170, 801, 802, 803, 804, 807, 808, 809, 810, 811, 812, 813, 814] rfl
set_option maxRecDepth 20000 in
theorem wsL_in_5 : ∀ w ∈ wsL_law0_r5, w ∈ lw_tbl := mem_idx [815, 816, 817, 818, 820, 821, 822, 823, 824, 825, 826, 827, 829, 830, 831, 836, 837, 838, 215, 216, 217, 218, 219, 220] rfl
set_option maxRecDepth 20000 in
theorem wsL_in_6 : ∀ w ∈ wsL_law0_r6, w ∈ lw_tbl := mem_idx [221, 222, 107, 223, 224, 225, 226, 227, 228, 229, 230, 956, 957, 958, 959, 805, 832, 231, 232, 233, 234, 235, 236, 237] rfl
set_option maxRecDepth 20000 in
theorem wsL_in_7 : ∀ w ∈ wsL_law0_r7, w ∈ lw_tbl := mem_idx [238, 960, 961, 962, 963, 281, 282, 34, 283, 284, 285, 286, 287, 288, 289, 290, 361, 48, 376, 49, 185, 395, 50, 184] rfl
set_option maxRecDepth 20000 in
theorem wsL_in_8 : ∀ w ∈ wsL_law0_r8, w ∈ lw_tbl := mem_idx [291, 292, 293, 297, 47, 294, 295, 296, 391, 393, 4, 394, 396, 397, 398, 399, 417, 419, 400, 402, 404, 406, 408, 410] rfl
set_option maxRecDepth 20000 in
theorem wsL_in_9 : ∀ w ∈ wsL_law0_r9, w ∈ lw_tbl := mem_idx [908, 909, 910, 911, 819, 806, 912, 913, 914, 915, 917, 21, 918, 456, 457, 458, 459, 460, 461, 462, 463, 465, 5, 466] rfl
set_option maxRecDepth 20000 in
theorem wsL_in_10 : ∀ w ∈ wsL_law0_r10, w ∈ lw_tbl := mem_idx [467, 468, 469, 470, 256, 257, 258, 471, 472, 473, 474, 475, 476, 477, 478, 919, 920, 921, 922, 923, 925, 22, 926, 927] rfl
set_option maxRecDepth 20000 in
theorem wsL_in_11 : ∀ w ∈ wsL_law0_r11, w ∈ lw_tbl := mem_idx [928, 929, 930, 932, 23, 933, 479, 480, 481, 482, 483, 484, 485, 274, 275, 276, 277, 934, 935, 936, 937, 486, 487, 488] rfl
set_option maxRecDepth 20000 in
theorem wsL_in_12 : ∀ w ∈ wsL_law0_r12, w ∈ lw_tbl := mem_idx [489, 490, 491, 492, 493, 494, 495, 496, 938, 939, 940, 941, 497, 498, 499, 500, 501, 502, 503, 504, 505, 506, 507, 942] rfl
set_option maxRecDepth 20000 in
theorem wsL_in_13 : ∀ w ∈ wsL_law0_r13, w ∈ lw_tbl := mem_idx [943, 944, 945, 508, 509, 510, 511, 512, 513, 514, 515, 517, 6, 518, 519, 520, 521, 522, 523, 525, 7, 526, 527, 528] rfl
set_option maxRecDepth 20000 in
theorem wsL_in_14 : ∀ w ∈ wsL_law0_r14, w ∈ lw_tbl := mem_idx [529, 530, 531, 532, 533, 534, 413, 535, 536, 537, 538, 415, 539, 540, 51, 541, 424, 542, 543, 544, 545, 546, 547, 548] rfl
set_option maxRecDepth 20000 in
theorem wsL_in_15 : ∀ w ∈ wsL_law0_r15, w ∈ lw_tbl := mem_idx [549, 550, 551, 552, 553, 554, 946, 947, 948, 949, 950, 952, 24, 953, 954, 955, 555, 556, 557, 558, 559, 560, 561, 562] rfl
set_option maxRecDepth 20000 in
theorem wsL_in_16 : ∀ w ∈ wsL_law0_r16, w ∈ lw_tbl := mem_idx [563, 564, 565, 122, 123, 566, 567, 569, 8, 570, 571, 573, 9, 574, 575, 576, 577, 578, 579, 580, 582, 10, 583, 585] rfl
set_option maxRecDepth 20000 in
theorem wsL_in_17 : ∀ w ∈ wsL_law0_r17, w ∈ lw_tbl := mem_idx [586, 587, 593, 595, 11, 596, 597, 598, 599, 52, 600, 1073, 601, 602, 603, 604, 605, 1074, 607, 608, 609, 610, 611, 612] rfl
set_option maxRecDepth 20000 in
theorem wsL_in_18 : ∀ w ∈ wsL_law0_r18, w ∈ lw_tbl := mem_idx [613, 614, 615, 616, 53, 617, 618, 619, 620, 621, 623, 624, 54, 625, 626, 627, 55, 628, 629, 630, 631, 632, 633, 634] rfl
set_option maxRecDepth 20000 in
theorem wsL_in_19 : ∀ w ∈ wsL_law0_r19, w ∈ lw_tbl := mem_idx [635, 636, 637, 638, 639, 641, 643, 645, 647, 12, 648, 649, 651, 13, 652, 655, 656, 657, 658, 659, 660, 661, 662, 964] rfl
set_option maxRecDepth 20000 in
theorem wsL_in_20 : ∀ w ∈ wsL_law0_r20, w ∈ lw_tbl := mem_idx [965, 966, 967, 834, 833, 835, 968, 970, 25, 971, 972, 974, 26, 975, 976, 978, 27, 979, 981, 983, 28, 984, 985, 986] rfl
set_option maxRecDepth 20000 in
theorem wsL_in_21 : ∀ w ∈ wsL_law0_r21, w ∈ lw_tbl := mem_idx [987, 989, 29, 990, 239, 240, 241, 242, 995, 996, 997, 998, 663, 664, 665, 666, 667, 668, 669, 670, 671, 672, 673, 148] rfl
set_option maxRecDepth 20000 in
theorem wsL_in_22 : ∀ w ∈ wsL_law0_r22, w ∈ lw_tbl := mem_idx [674, 676, 14, 677, 678, 680, 15, 681, 682, 683, 684, 685, 1007, 1008, 1009, 1010, 828, 1003, 1005, 30, 1006, 686, 687, 688] rfl
set_option maxRecDepth 20000 in
theorem wsL_in_23 : ∀ w ∈ wsL_law0_r23, w ∈ lw_tbl := mem_idx [689, 690, 691, 692, 999, 1000, 1001, 1002, 693, 694, 695, 696, 697, 698, 699, 700, 702, 16, 703, 704, 706, 17, 707, 708] rfl
set_option maxRecDepth 20000 in
theorem wsL_in_24 : ∀ w ∈ wsL_law0_r24, w ∈ lw_tbl := mem_idx [709, 710, 711, 1011, 1012, 1013, 1014, 1015, 1017, 31, 1018, 712, 713, 714, 715, 716, 717, 718, 719, 724, 56, 278, 279, 280] rfl
set_option maxRecDepth 20000 in
theorem wsL_in_25 : ∀ w ∈ wsL_law0_r25, w ∈ lw_tbl := mem_idx [720, 721, 722, 723, 1019, 1020, 1021, 1022, 739, 740, 741, 742, 743, 744, 745, 1023, 1024, 1025, 1026, 746, 747, 748, 749, 750] rfl
set_option maxRecDepth 20000 in
theorem wsL_in_26 : ∀ w ∈ wsL_law0_r26, w ∈ lw_tbl := mem_idx [751, 752, 753, 754, 755, 756, 757, 759, 18, 760, 1027, 1028, 1029, 1030, 243, 244, 245, 246, 247, 248, 249, 250, 251, 253] rfl
set_option maxRecDepth 20000 in
theorem wsL_in_27 : ∀ w ∈ wsL_law0_r27, w ∈ lw_tbl := mem_idx [0, 254, 255, 259, 261, 1, 262, 1031, 1032, 1033, 1034, 1035, 1037, 32, 1038, 1043, 1044, 1045, 1039, 1041, 33, 1042, 761, 762] rfl
set_option maxRecDepth 20000 in
theorem wsL_in_28 : ∀ w ∈ wsL_law0_r28, w ∈ lw_tbl := mem_idx [763, 764, 765, 766, 767, 768, 769, 770, 771, 772, 171, 172, 773, 774, 775, 776, 777, 778, 779, 780, 781, 783, 19, 784] rfl
set_option maxRecDepth 20000 in
theorem wsL_in_29 : ∀ w ∈ wsL_law0_r29, w ∈ lw_tbl := mem_idx [785, 786, 57, 787, 788, 789, 790, 791, 793, 20, 794, 795, 796, 797, 798, 1046, 1047, 1048, 1049, 1050, 1051, 263, 264, 265] rfl
set_option maxRecDepth 20000 in
theorem wsL_in_30 : ∀ w ∈ wsL_law0_r30, w ∈ lw_tbl := mem_idx [266, 267, 269, 2, 270, 271, 272, 273, 1052, 1053, 1054, 1055] rfl
set_option maxRecDepth 20000 in
theorem wsL_in_wsX70 : ∀ w ∈ wsX70, w ∈ lw_tbl := mem_idx [194, 196, 198, 200, 202, 204, 206, 208, 210, 212] rfl
set_option maxRecDepth 20000 in
theorem wsL_in_wsX80 : ∀ w ∈ wsX80, w ∈ lw_tbl := mem_idx [839, 841, 843, 845, 847, 849, 851, 853, 855, 857, 859, 861, 863, 865, 867, 869, 871, 873, 875, 877, 879, 881, 883, 885, 887, 889, 891, 893, 895, 897, 899, 901, 903, 905] rfl
set_option maxRecDepth 20000 in
theorem wsL_in_wsX20 : ∀ w ∈ wsX20, w ∈ lw_tbl := mem_idx [76] rfl
set_option maxRecDepth 20000 in
theorem wsL_in_wsX40 : ∀ w ∈ wsX40, w ∈ lw_tbl := mem_idx [91, 93, 95] rfl
set_option maxRecDepth 20000 in
theorem wsL_in_wsX60 : ∀ w ∈ wsX60, w ∈ lw_tbl := mem_idx [108, 110] rfl
set_option maxRecDepth 20000 in
theorem wsL_in_wsX50 : ∀ w ∈ wsX50, w ∈ lw_tbl := mem_idx [127, 129, 131, 133, 135] rfl
set_option maxRecDepth 20000 in
theorem wsL_in_wsX10 : ∀ w ∈ wsX10, w ∈ lw_tbl := mem_idx [150, 152, 154, 156, 158] rfl
set_option maxRecDepth 20000 in
theorem wsL_in_wsX00 : ∀ w ∈ wsX00, w ∈ lw_tbl := mem_idx [173, 175, 177, 179, 181] rfl
set_option maxRecDepth 20000 in
theorem wsL_in_wsX30 : ∀ w ∈ wsX30, w ∈ lw_tbl := mem_idx [427, 429, 431, 433, 435, 437, 439, 441, 443, 445, 447, 449, 451, 453] rfl
theorem wsL_law_in0 : ∀ w ∈ wsL_law0, w ∈ lw_tbl := by
  unfold wsL_law0
  exact (List.forall_mem_append.mpr ⟨(List.forall_mem_append.mpr ⟨(List.forall_mem_append.mpr ⟨(List.forall_mem_append.mpr ⟨(List.forall_mem_append.mpr ⟨(List.forall_mem_append.mpr ⟨(List.forall_mem_append.mpr ⟨(List.forall_mem_append.mpr ⟨(List.forall_mem_append.mpr ⟨(List.forall_mem_append.mpr ⟨(List.forall_mem_append.mpr ⟨wsL_in_1, (List.forall_mem_append.mpr ⟨wsL_in_2, (List.forall_mem_append.mpr ⟨wsL_in_3, (List.forall_mem_append.mpr ⟨wsL_in_4, (List.forall_mem_append.mpr ⟨wsL_in_5, (List.forall_mem_append.mpr ⟨wsL_in_6, (List.forall_mem_append.mpr ⟨wsL_in_7, (List.forall_mem_append.mpr ⟨wsL_in_8, (List.forall_mem_append.mpr ⟨wsL_in_9, (List.forall_mem_append.mpr ⟨wsL_in_10, (List.forall_mem_append.mpr ⟨wsL_in_11, (List.forall_mem_append.mpr ⟨wsL_in_12, (List.forall_mem_append.mpr ⟨wsL_in_13, (List.forall_mem_append.mpr ⟨wsL_in_14, (List.forall_mem_append.mpr ⟨wsL_in_15, (List.forall_mem_append.mpr ⟨wsL_in_16, (List.forall_mem_append.mpr ⟨wsL_in_17, (List.forall_mem_append.mpr ⟨wsL_in_18, (List.forall_mem_append.mpr ⟨wsL_in_19, (List.forall_mem_append.mpr ⟨wsL_in_20, (List.forall_mem_append.mpr ⟨wsL_in_21, (List.forall_mem_append.mpr ⟨wsL_in_22, (List.forall_mem_append.mpr ⟨wsL_in_23, (List.forall_mem_append.mpr ⟨wsL_in_24, (List.forall_mem_append.mpr ⟨wsL_in_25, (List.forall_mem_append.mpr ⟨wsL_in_26, (List.forall_mem_append.mpr ⟨wsL_in_27, (List.forall_mem_append.mpr ⟨wsL_in_28, (List.forall_mem_append.mpr ⟨wsL_in_29, wsL_in_30⟩)⟩)⟩)⟩)⟩)⟩)⟩)⟩)⟩)⟩)⟩)⟩)⟩)⟩)⟩)⟩)⟩)⟩)⟩)⟩)⟩)⟩)⟩)⟩)⟩)⟩)⟩)⟩)⟩), wsL_in_wsX70⟩), wsL_in_wsX80⟩), wsL_in_wsX20⟩), wsL_in_wsX40⟩), wsL_in_wsX60⟩), wsL_in_wsX50⟩), wsL_in_wsX10⟩), wsL_in_wsX00⟩), wsL_in_wsX30⟩), fun _ h => absurd h List.not_mem_nil⟩)
theorem wsL_law_x0 : ∀ w ∈ (vx_at0 RX7 87 "java/lang/IllegalArgumentException" ["java/lang/RuntimeException", "java/lang/Exception"]).filter goodWord, w ∈ lw_tbl := by decide +kernel
theorem wsL_law_x1 : ∀ w ∈ (vx_at0 RX7 94 "java/lang/UnsupportedOperationException" ["java/lang/RuntimeException", "java/lang/Exception"]).filter goodWord, w ∈ lw_tbl := by decide +kernel
theorem wsL_law_x2 : ∀ w ∈ (vx_at0 RX7 134 "java/lang/IndexOutOfBoundsException" ["java/lang/RuntimeException", "java/lang/Exception"]).filter goodWord, w ∈ lw_tbl := by decide +kernel
theorem wsL_law_x3 : ∀ w ∈ (vx_at0 RX7 220 "java/util/NoSuchElementException" ["java/lang/RuntimeException", "java/lang/Exception"]).filter goodWord, w ∈ lw_tbl := by decide +kernel
theorem wsL_law_in : ∀ w ∈ wsL_law, w ∈ lw_tbl := fun w h => (List.mem_append.mp h).elim (fun h => (List.mem_append.mp h).elim (fun h => (List.mem_append.mp h).elim (fun h => (List.mem_append.mp h).elim (fun h => wsL_law_in0 w h) (fun h => wsL_law_x0 w h)) (fun h => wsL_law_x1 w h)) (fun h => wsL_law_x2 w h)) (fun h => wsL_law_x3 w h)
theorem inlX0 : ∀ w ∈ wsX00, w ∈ wsL_law := fun _ h => List.mem_append_left _ (List.mem_append_left _ (List.mem_append_left _ (List.mem_append_left _ (List.mem_append_left _ (List.mem_append_left _ (List.mem_append_right _ h))))))
theorem inX0 : ∀ w ∈ wsX00, w ∈ lw_tbl := fun w h => wsL_law_in w (inlX0 w h)
theorem inlX1 : ∀ w ∈ wsX10, w ∈ wsL_law := fun _ h => List.mem_append_left _ (List.mem_append_left _ (List.mem_append_left _ (List.mem_append_left _ (List.mem_append_left _ (List.mem_append_left _ (List.mem_append_left _ (List.mem_append_right _ h)))))))
theorem inX1 : ∀ w ∈ wsX10, w ∈ lw_tbl := fun w h => wsL_law_in w (inlX1 w h)
theorem inlX2 : ∀ w ∈ wsX20, w ∈ wsL_law := fun _ h => List.mem_append_left _ (List.mem_append_left _ (List.mem_append_left _ (List.mem_append_left _ (List.mem_append_left _ (List.mem_append_left _ (List.mem_append_left _ (List.mem_append_left _ (List.mem_append_left _ (List.mem_append_left _ (List.mem_append_left _ (List.mem_append_right _ h)))))))))))
theorem inX2 : ∀ w ∈ wsX20, w ∈ lw_tbl := fun w h => wsL_law_in w (inlX2 w h)
theorem inlX3 : ∀ w ∈ wsX30, w ∈ wsL_law := fun _ h => List.mem_append_left _ (List.mem_append_left _ (List.mem_append_left _ (List.mem_append_left _ (List.mem_append_left _ (List.mem_append_right _ h)))))
theorem inX3 : ∀ w ∈ wsX30, w ∈ lw_tbl := fun w h => wsL_law_in w (inlX3 w h)
theorem inlX4 : ∀ w ∈ wsX40, w ∈ wsL_law := fun _ h => List.mem_append_left _ (List.mem_append_left _ (List.mem_append_left _ (List.mem_append_left _ (List.mem_append_left _ (List.mem_append_left _ (List.mem_append_left _ (List.mem_append_left _ (List.mem_append_left _ (List.mem_append_left _ (List.mem_append_right _ h))))))))))
theorem inX4 : ∀ w ∈ wsX40, w ∈ lw_tbl := fun w h => wsL_law_in w (inlX4 w h)
theorem inlX5 : ∀ w ∈ wsX50, w ∈ wsL_law := fun _ h => List.mem_append_left _ (List.mem_append_left _ (List.mem_append_left _ (List.mem_append_left _ (List.mem_append_left _ (List.mem_append_left _ (List.mem_append_left _ (List.mem_append_left _ (List.mem_append_right _ h))))))))
theorem inX5 : ∀ w ∈ wsX50, w ∈ lw_tbl := fun w h => wsL_law_in w (inlX5 w h)
theorem inlX6 : ∀ w ∈ wsX60, w ∈ wsL_law := fun _ h => List.mem_append_left _ (List.mem_append_left _ (List.mem_append_left _ (List.mem_append_left _ (List.mem_append_left _ (List.mem_append_left _ (List.mem_append_left _ (List.mem_append_left _ (List.mem_append_left _ (List.mem_append_right _ h)))))))))
theorem inX6 : ∀ w ∈ wsX60, w ∈ lw_tbl := fun w h => wsL_law_in w (inlX6 w h)
theorem inlX7 : ∀ w ∈ wsX70, w ∈ wsL_law := fun _ h => List.mem_append_left _ (List.mem_append_left _ (List.mem_append_left _ (List.mem_append_left _ (List.mem_append_left _ (List.mem_append_left _ (List.mem_append_left _ (List.mem_append_left _ (List.mem_append_left _ (List.mem_append_left _ (List.mem_append_left _ (List.mem_append_left _ (List.mem_append_left _ (List.mem_append_right _ h)))))))))))))
theorem inX7 : ∀ w ∈ wsX70, w ∈ lw_tbl := fun w h => wsL_law_in w (inlX7 w h)
theorem inlX8 : ∀ w ∈ wsX80, w ∈ wsL_law := fun _ h => List.mem_append_left _ (List.mem_append_left _ (List.mem_append_left _ (List.mem_append_left _ (List.mem_append_left _ (List.mem_append_left _ (List.mem_append_left _ (List.mem_append_left _ (List.mem_append_left _ (List.mem_append_left _ (List.mem_append_left _ (List.mem_append_left _ (List.mem_append_right _ h))))))))))))
theorem inX8 : ∀ w ∈ wsX80, w ∈ lw_tbl := fun w h => wsL_law_in w (inlX8 w h)
theorem inJx145de : ∀ w ∈ wsJx145de0, w ∈ lw_tbl := by decide +kernel
theorem inJx9f9b0 : ∀ w ∈ wsJx9f9b00, w ∈ lw_tbl := by decide +kernel
theorem inJxb160c : ∀ w ∈ wsJxb160c0, w ∈ lw_tbl := by decide +kernel
theorem inJ6 : ∀ w ∈ wsJ60, w ∈ lw_tbl := by decide +kernel
theorem inJ9 : ∀ w ∈ wsJ90, w ∈ lw_tbl := by decide +kernel
theorem inJ0 : ∀ w ∈ wsJ00, w ∈ lw_tbl := by decide +kernel
theorem inJ1 : ∀ w ∈ wsJ10, w ∈ lw_tbl := by decide +kernel
theorem inJ2 : ∀ w ∈ wsJ20, w ∈ lw_tbl := by decide +kernel
theorem inJxfd54e : ∀ w ∈ wsJxfd54e0, w ∈ lw_tbl := by decide +kernel
theorem inJx3cf43 : ∀ w ∈ wsJx3cf430, w ∈ lw_tbl := by decide +kernel
theorem inJ7 : ∀ w ∈ wsJ70, w ∈ lw_tbl := by decide +kernel
theorem inJ3 : ∀ w ∈ wsJ30, w ∈ lw_tbl := by decide +kernel
