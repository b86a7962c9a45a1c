theorem iw_memby {big ws : List Cond} (ps : List Nat) (hp : ps.map (fun i => big[i]?) = ws.map some) : ∀ w ∈ ws, w ∈ big := by
  intro w hw
  have h1 : some w ∈ ps.map (fun i => big[i]?) := by rw [hp]; exact List.mem_map.mpr ⟨w, hw, rfl⟩
  obtain ⟨i, -, hi⟩ := List.mem_map.mp h1
  exact List.mem_of_getElem? hi
set_option maxRecDepth 20000 in
theorem in_wsL_law_r1 : ∀ w ∈ wsL_law_r1, w ∈ lw_tbl := iw_memby [74, 75, 63, 702, 703, 69, 76, 77, 78, 79, 80, 81, 82, 83, 64, 214, 114, 115, 65, 215, 158, 123, 66, 216] rfl
set_option maxRecDepth 20000 in
theorem in_wsL_law_r2 : ∀ w ∈ wsL_law_r2, w ∈ lw_tbl := iw_memby [160, 161, 67, 217, 180, 181, 68, 218, 84, 85, 86, 87, 113, 91, 92, 93, 94, 95, 96, 97, 89, 90, 117, 118] rfl
set_option maxRecDepth 20000 in
theorem in_wsL_law_r3 : ∀ w ∈ wsL_law_r3, w ∈ lw_tbl := iw_memby [119, 120, 144, 122, 146, 147, 148, 121, 125, 126, 127, 128, 129, 130, 131, 132, 162, 163, 164, 165, 166, 169, 168, 183] rfl
set_option maxRecDepth 20000 in
theorem in_wsL_law_r4 : ∀ w ∈ wsL_law_r4, w ∈ lw_tbl := iw_memby [184, 185, 186, 188, 190, 187, 704, 705, 706, 707, 708, 710, 757, 711, 712, 713, 715, 717, 718, 230, 231, 232, 233, 234] rfl
set_option maxRecDepth 20000 in
theorem in_wsL_law_r5 : ∀ w ∈ wsL_law_r5, w ∈ lw_tbl := iw_memby [235, 236, 237, 238, 239, 240, 241, 242, 243, 244, 246, 247, 248, 249, 70, 250, 251, 252, 253, 254, 255, 256, 257, 171] rfl
set_option maxRecDepth 20000 in
theorem in_wsL_law_r6 : ∀ w ∈ wsL_law_r6, w ∈ lw_tbl := iw_memby [170, 258, 260, 0, 261, 262, 263, 264, 265, 267, 268, 269, 270, 71, 271, 272, 274, 273, 72, 275, 276, 277, 278, 758] rfl
set_option maxRecDepth 20000 in
theorem in_wsL_law_r7 : ∀ w ∈ wsL_law_r7, w ∈ lw_tbl := iw_memby [759, 760, 761, 762, 763, 764, 765, 767, 21, 768, 709, 769, 771, 22, 772, 773, 775, 23, 776, 279, 280, 281, 282, 283] rfl
set_option maxRecDepth 20000 in
theorem in_wsL_law_r8 : ∀ w ∈ wsL_law_r8, w ∈ lw_tbl := iw_memby [284, 285, 286, 287, 288, 289, 290, 291, 292, 293, 294, 777, 778, 779, 780, 781, 783, 24, 784, 295, 296, 297, 298, 299] rfl
set_option maxRecDepth 20000 in
theorem in_wsL_law_r9 : ∀ w ∈ wsL_law_r9, w ∈ lw_tbl := iw_memby [300, 301, 302, 303, 304, 305, 306, 307, 308, 309, 310, 311, 312, 313, 785, 786, 787, 788, 789, 791, 25, 792, 793, 795] rfl
set_option maxRecDepth 20000 in
theorem in_wsL_law_r10 : ∀ w ∈ wsL_law_r10, w ∈ lw_tbl := iw_memby [26, 796, 797, 799, 27, 800, 314, 315, 316, 317, 318, 319, 320, 321, 323, 324, 325, 326, 328, 329, 801, 802, 803, 804] rfl
set_option maxRecDepth 20000 in
theorem in_wsL_law_r11 : ∀ w ∈ wsL_law_r11, w ∈ lw_tbl := iw_memby [805, 807, 28, 808, 330, 331, 332, 333, 334, 335, 336, 337, 809, 810, 811, 812, 813, 814, 815, 816, 817, 818, 819, 821] rfl
set_option maxRecDepth 20000 in
theorem in_wsL_law_r12 : ∀ w ∈ wsL_law_r12, w ∈ lw_tbl := iw_memby [29, 822, 823, 825, 30, 826, 338, 339, 340, 341, 342, 343, 344, 345, 346, 347, 348, 349, 827, 828, 829, 830, 831, 833] rfl
set_option maxRecDepth 20000 in
theorem in_wsL_law_r13 : ∀ w ∈ wsL_law_r13, w ∈ lw_tbl := iw_memby [31, 834, 835, 837, 32, 838, 350, 351, 352, 353, 354, 355, 356, 357, 358, 360, 361, 839, 840, 841, 842, 843, 362, 363] rfl
set_option maxRecDepth 20000 in
theorem in_wsL_law_r14 : ∀ w ∈ wsL_law_r14, w ∈ lw_tbl := iw_memby [364, 365, 366, 367, 368, 369, 844, 845, 846, 847, 848, 850, 33, 851, 852, 854, 34, 855, 370, 371, 372, 373, 374, 375] rfl
set_option maxRecDepth 20000 in
theorem in_wsL_law_r15 : ∀ w ∈ wsL_law_r15, w ∈ lw_tbl := iw_memby [376, 377, 856, 857, 858, 859, 378, 379, 380, 381, 860, 861, 862, 863, 864, 866, 35, 867, 868, 870, 36, 871, 382, 383] rfl
set_option maxRecDepth 20000 in
theorem in_wsL_law_r16 : ∀ w ∈ wsL_law_r16, w ∈ lw_tbl := iw_memby [384, 385, 872, 873, 874, 875, 386, 387, 388, 389, 390, 876, 877, 878, 879, 391, 392, 393, 394, 880, 881, 882, 883, 395] rfl
set_option maxRecDepth 20000 in
theorem in_wsL_law_r17 : ∀ w ∈ wsL_law_r17, w ∈ lw_tbl := iw_memby [396, 397, 398, 399, 400, 401, 402, 403, 405, 1, 406, 884, 885, 886, 887, 888, 890, 37, 891, 892, 894, 38, 895, 896] rfl
set_option maxRecDepth 20000 in
theorem in_wsL_law_r18 : ∀ w ∈ wsL_law_r18, w ∈ lw_tbl := iw_memby [898, 39, 899, 407, 408, 409, 410, 411, 412, 413, 414, 415, 416, 417, 418, 419, 420, 421, 73, 422, 423, 424, 426, 427] rfl
set_option maxRecDepth 20000 in
theorem in_wsL_law_r19 : ∀ w ∈ wsL_law_r19, w ∈ lw_tbl := iw_memby [428, 429, 430, 431, 432, 433, 434, 435, 436, 437, 438, 440, 2, 441, 443, 444, 445, 446, 447, 448, 449, 450, 453, 454] rfl
set_option maxRecDepth 20000 in
theorem in_wsL_law_r20 : ∀ w ∈ wsL_law_r20, w ∈ lw_tbl := iw_memby [455, 456, 457, 458, 459, 461, 3, 462, 463, 464, 465, 466, 467, 468, 469, 470, 471, 472, 473, 474, 476, 478, 4, 479] rfl
set_option maxRecDepth 20000 in
theorem in_wsL_law_r21 : ∀ w ∈ wsL_law_r21, w ∈ lw_tbl := iw_memby [481, 483, 5, 484, 533, 534, 535, 485, 486, 487, 488, 493, 489, 491, 6, 492, 494, 496, 7, 497, 498, 499, 500, 501] rfl
set_option maxRecDepth 20000 in
theorem in_wsL_law_r22 : ∀ w ∈ wsL_law_r22, w ∈ lw_tbl := iw_memby [502, 503, 504, 505, 506, 507, 508, 509, 510, 511, 513, 8, 514, 516, 517, 518, 519, 520, 522, 9, 523, 525, 526, 527] rfl
set_option maxRecDepth 20000 in
theorem in_wsL_law_r23 : ∀ w ∈ wsL_law_r23, w ∈ lw_tbl := iw_memby [528, 529, 530, 531, 532, 536, 537, 538, 539, 540, 541, 543, 10, 544, 545, 546, 547, 548, 549, 550, 551, 552, 553, 554] rfl
set_option maxRecDepth 20000 in
theorem in_wsL_law_r24 : ∀ w ∈ wsL_law_r24, w ∈ lw_tbl := iw_memby [900, 901, 902, 903, 904, 906, 40, 907, 908, 910, 41, 911, 912, 914, 42, 915, 916, 918, 43, 919, 920, 922, 44, 923] rfl
set_option maxRecDepth 20000 in
theorem in_wsL_law_r25 : ∀ w ∈ wsL_law_r25, w ∈ lw_tbl := iw_memby [924, 926, 45, 927, 928, 930, 46, 931, 932, 934, 47, 935, 716, 714, 936, 938, 48, 939, 940, 942, 49, 943, 944, 946] rfl
set_option maxRecDepth 20000 in
theorem in_wsL_law_r26 : ∀ w ∈ wsL_law_r26, w ∈ lw_tbl := iw_memby [50, 947, 948, 949, 950, 951, 953, 51, 954, 555, 556, 557, 558, 559, 561, 11, 562, 563, 564, 955, 956, 957, 958, 565] rfl
set_option maxRecDepth 20000 in
theorem in_wsL_law_r27 : ∀ w ∈ wsL_law_r27, w ∈ lw_tbl := iw_memby [566, 567, 568, 569, 959, 960, 961, 962, 570, 571, 572, 573, 574, 575, 576, 963, 964, 965, 966, 577, 578, 579, 580, 581] rfl
set_option maxRecDepth 20000 in
theorem in_wsL_law_r28 : ∀ w ∈ wsL_law_r28, w ∈ lw_tbl := iw_memby [582, 583, 584, 967, 968, 969, 970, 585, 586, 587, 588, 589, 590, 591, 592, 593, 971, 972, 973, 974, 594, 595, 596, 597] rfl
set_option maxRecDepth 20000 in
theorem in_wsL_law_r29 : ∀ w ∈ wsL_law_r29, w ∈ lw_tbl := iw_memby [975, 976, 977, 978, 598, 599, 600, 601, 979, 980, 981, 982, 602, 603, 604, 605, 983, 984, 985, 986, 606, 607, 608, 609] rfl
set_option maxRecDepth 20000 in
theorem in_wsL_law_r30 : ∀ w ∈ wsL_law_r30, w ∈ lw_tbl := iw_memby [610, 611, 612, 613, 987, 988, 989, 990, 614, 615, 616, 617, 618, 619, 620, 621, 191, 991, 992, 993, 994, 719, 623, 624] rfl
set_option maxRecDepth 20000 in
theorem in_wsL_law_r31 : ∀ w ∈ wsL_law_r31, w ∈ lw_tbl := iw_memby [625, 626, 995, 996, 997, 998, 627, 628, 629, 630, 631, 632, 633, 634, 197, 193, 635, 636, 638, 12, 639, 640, 642, 13] rfl
set_option maxRecDepth 20000 in
theorem in_wsL_law_r32 : ∀ w ∈ wsL_law_r32, w ∈ lw_tbl := iw_memby [643, 645, 647, 14, 648, 649, 650, 652, 15, 653, 195, 654, 656, 16, 657, 658, 660, 17, 661, 198, 662, 663, 664, 666] rfl
set_option maxRecDepth 20000 in
theorem in_wsL_law_r33 : ∀ w ∈ wsL_law_r33, w ∈ lw_tbl := iw_memby [667, 669, 18, 670, 671, 672, 674, 19, 675, 676, 677, 999, 1000, 1001, 1002, 720, 1003, 1005, 52, 1006, 722, 1007, 1009, 53] rfl
set_option maxRecDepth 20000 in
theorem in_wsL_law_r34 : ∀ w ∈ wsL_law_r34, w ∈ lw_tbl := iw_memby [1010, 1011, 1013, 54, 1014, 1015, 1017, 55, 1018, 721, 1019, 1021, 56, 1022, 1023, 1025, 57, 1026, 1027, 1029, 58, 1030, 1031, 1033] rfl
set_option maxRecDepth 20000 in
theorem in_wsL_law_r35 : ∀ w ∈ wsL_law_r35, w ∈ lw_tbl := iw_memby [59, 1034, 1035, 1037, 60, 1038, 678, 679, 680, 681, 1039, 1040, 1041, 1042, 1043, 682, 683, 684, 685, 686, 687, 688, 689, 690] rfl
set_option maxRecDepth 20000 in
theorem in_wsL_law_r36 : ∀ w ∈ wsL_law_r36, w ∈ lw_tbl := iw_memby [691, 692, 694, 695, 696, 697, 699, 20, 700, 701, 1044, 1045, 1046, 1047, 1048, 723, 1049, 1051, 61, 1052, 1053] rfl
set_option maxRecDepth 20000 in
theorem in_wsX50 : ∀ w ∈ wsX50, w ∈ lw_tbl := iw_memby [219, 221, 223, 225, 227] rfl
set_option maxRecDepth 20000 in
theorem in_wsX60 : ∀ w ∈ wsX60, w ∈ lw_tbl := iw_memby [724, 726, 728, 730, 732, 734, 736, 738, 740, 742, 744, 746, 748, 750, 752, 754] rfl
set_option maxRecDepth 20000 in
theorem in_wsX10 : ∀ w ∈ wsX10, w ∈ lw_tbl := iw_memby [98, 100, 102, 104, 106, 108, 110] rfl
set_option maxRecDepth 20000 in
theorem in_wsX30 : ∀ w ∈ wsX30, w ∈ lw_tbl := iw_memby [149, 151, 153, 155] rfl
set_option maxRecDepth 20000 in
theorem in_wsX20 : ∀ w ∈ wsX20, w ∈ lw_tbl := iw_memby [133, 135, 137, 139, 141] rfl
set_option maxRecDepth 20000 in
theorem in_wsX00 : ∀ w ∈ wsX00, w ∈ lw_tbl := iw_memby [173, 175, 177] rfl
set_option maxRecDepth 20000 in
theorem in_wsX40 : ∀ w ∈ wsX40, w ∈ lw_tbl := iw_memby [199, 201, 203, 205, 207, 209, 211] rfl
theorem wsL_law_in : ∀ w ∈ wsL_law, w ∈ lw_tbl := (List.forall_mem_append.mpr ⟨(List.forall_mem_append.mpr ⟨(List.forall_mem_append.mpr ⟨(List.forall_mem_append.mpr ⟨(List.forall_mem_append.mpr ⟨(List.forall_mem_append.mpr ⟨(List.forall_mem_append.mpr ⟨(List.forall_mem_append.mpr ⟨(List.forall_mem_append.mpr ⟨in_wsL_law_r1, (List.forall_mem_append.mpr ⟨in_wsL_law_r2, (List.forall_mem_append.mpr ⟨in_wsL_law_r3, (List.forall_mem_append.mpr ⟨in_wsL_law_r4, (List.forall_mem_append.mpr ⟨in_wsL_law_r5, (List.forall_mem_append.mpr ⟨in_wsL_law_r6, (List.forall_mem_append.mpr ⟨in_wsL_law_r7, (List.forall_mem_append.mpr ⟨in_wsL_law_r8, (List.forall_mem_append.mpr ⟨in_wsL_law_r9, (List.forall_mem_append.mpr ⟨in_wsL_law_r10, (List.forall_mem_append.mpr ⟨in_wsL_law_r11, (List.forall_mem_append.mpr ⟨in_wsL_law_r12, (List.forall_mem_append.mpr ⟨in_wsL_law_r13, (List.forall_mem_append.mpr ⟨in_wsL_law_r14, (List.forall_mem_append.mpr ⟨in_wsL_law_r15, (List.forall_mem_append.mpr ⟨in_wsL_law_r16, (List.forall_mem_append.mpr ⟨in_wsL_law_r17, (List.forall_mem_append.mpr ⟨in_wsL_law_r18, (List.forall_mem_append.mpr ⟨in_wsL_law_r19, (List.forall_mem_append.mpr ⟨in_wsL_law_r20, (List.forall_mem_append.mpr ⟨in_wsL_law_r21, (List.forall_mem_append.mpr ⟨in_wsL_law_r22, (List.forall_mem_append.mpr ⟨in_wsL_law_r23, (List.forall_mem_append.mpr ⟨in_wsL_law_r24, (List.forall_mem_append.mpr ⟨in_wsL_law_r25, (List.forall_mem_append.mpr ⟨in_wsL_law_r26, (List.forall_mem_append.mpr ⟨in_wsL_law_r27, (List.forall_mem_append.mpr ⟨in_wsL_law_r28, (List.forall_mem_append.mpr ⟨in_wsL_law_r29, (List.forall_mem_append.mpr ⟨in_wsL_law_r30, (List.forall_mem_append.mpr ⟨in_wsL_law_r31, (List.forall_mem_append.mpr ⟨in_wsL_law_r32, (List.forall_mem_append.mpr ⟨in_wsL_law_r33, (List.forall_mem_append.mpr ⟨in_wsL_law_r34, (List.forall_mem_append.mpr ⟨in_wsL_law_r35, in_wsL_law_r36⟩)⟩)⟩)⟩)⟩)⟩)⟩)⟩)⟩)⟩)⟩)⟩)⟩)⟩)⟩)⟩)⟩)⟩)⟩)⟩)⟩)⟩)⟩)⟩)⟩)⟩)⟩)⟩)⟩)⟩)⟩)⟩)⟩)⟩)⟩), in_wsX50⟩), in_wsX60⟩), in_wsX10⟩), in_wsX30⟩), in_wsX20⟩), in_wsX00⟩), in_wsX40⟩), fun _ h => absurd h List.not_mem_nil⟩)
theorem inlX0 : ∀ w ∈ wsX00, w ∈ wsL_law := fun _ h => List.mem_append_left _ (List.mem_append_left _ (List.mem_append_right _ h))
theorem inX0 : ∀ w ∈ wsX00, w ∈ lw_tbl := fun w h => wsL_law_in w (inlX0 w h)
theorem inlX1 : ∀ w ∈ wsX10, w ∈ wsL_law := fun _ h => List.mem_append_left _ (List.mem_append_left _ (List.mem_append_left _ (List.mem_append_left _ (List.mem_append_left _ (List.mem_append_right _ h)))))
theorem inX1 : ∀ w ∈ wsX10, w ∈ lw_tbl := fun w h => wsL_law_in w (inlX1 w h)
theorem inlX2 : ∀ w ∈ wsX20, w ∈ wsL_law := fun _ h => List.mem_append_left _ (List.mem_append_left _ (List.mem_append_left _ (List.mem_append_right _ h)))
theorem inX2 : ∀ w ∈ wsX20, w ∈ lw_tbl := fun w h => wsL_law_in w (inlX2 w h)
theorem inlX3 : ∀ w ∈ wsX30, w ∈ wsL_law := fun _ h => List.mem_append_left _ (List.mem_append_left _ (List.mem_append_left _ (List.mem_append_left _ (List.mem_append_right _ h))))
theorem inX3 : ∀ w ∈ wsX30, w ∈ lw_tbl := fun w h => wsL_law_in w (inlX3 w h)
theorem inlX4 : ∀ w ∈ wsX40, w ∈ wsL_law := fun _ h => List.mem_append_left _ (List.mem_append_right _ h)
theorem inX4 : ∀ w ∈ wsX40, w ∈ lw_tbl := fun w h => wsL_law_in w (inlX4 w h)
theorem inlX5 : ∀ w ∈ wsX50, w ∈ wsL_law := fun _ h => List.mem_append_left _ (List.mem_append_left _ (List.mem_append_left _ (List.mem_append_left _ (List.mem_append_left _ (List.mem_append_left _ (List.mem_append_left _ (List.mem_append_right _ h)))))))
theorem inX5 : ∀ w ∈ wsX50, w ∈ lw_tbl := fun w h => wsL_law_in w (inlX5 w h)
theorem inlX6 : ∀ w ∈ wsX60, w ∈ wsL_law := fun _ h => List.mem_append_left _ (List.mem_append_left _ (List.mem_append_left _ (List.mem_append_left _ (List.mem_append_left _ (List.mem_append_left _ (List.mem_append_right _ h))))))
theorem inX6 : ∀ w ∈ wsX60, w ∈ lw_tbl := fun w h => wsL_law_in w (inlX6 w h)
theorem inJ6 : ∀ w ∈ wsJ60, w ∈ lw_tbl := by decide +kernel
theorem inJ9 : ∀ w ∈ wsJ90, w ∈ lw_tbl := by decide +kernel
theorem inJ10 : ∀ w ∈ wsJ100, w ∈ lw_tbl := by decide +kernel
theorem inJ7 : ∀ w ∈ wsJ70, w ∈ lw_tbl := by decide +kernel
