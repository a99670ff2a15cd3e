theorem in_r {big ws : List Cond} (ps : List Nat) (hp : ws = ps.filterMap (fun i => big[i]?)) : ∀ w ∈ ws, w ∈ big := by
  intro w hw
  rw [hp] at hw
  obtain ⟨i, -, hi⟩ := List.mem_filterMap.mp hw
  exact List.mem_of_getElem? hi
set_option maxRecDepth 20000 in
theorem in_wsL_law_r1 : ∀ w ∈ wsL_law_r1, w ∈ lw_tbl := in_r [65, 66, 51, 567, 568, 57, 67, 68, 69, 70, 71, 72, 103, 212, 73, 74, 52, 216, 217, 218, 122, 123, 54, 219] (by decide +kernel)
set_option maxRecDepth 20000 in
theorem in_wsL_law_r2 : ∀ w ∈ wsL_law_r2, w ∈ lw_tbl := in_r [76, 77, 78, 79, 81, 53, 110, 83, 84, 85, 89, 92, 125, 126, 127, 128, 130, 55, 180, 182, 178, 183, 184, 131] (by decide +kernel)
set_option maxRecDepth 20000 in
theorem in_wsL_law_r3 : ∀ w ∈ wsL_law_r3, w ∈ lw_tbl := in_r [132, 133, 134, 160, 163, 165, 167, 136, 137, 138, 140, 142, 0, 143, 144, 146, 145, 56, 148, 149, 150, 152, 154, 1] (by decide +kernel)
set_option maxRecDepth 20000 in
theorem in_wsL_law_r4 : ∀ w ∈ wsL_law_r4, w ∈ lw_tbl := in_r [155, 156, 158, 2, 159, 569, 570, 571, 572, 575, 576, 580, 581, 582, 342, 584, 587, 588, 589, 590, 592, 597, 598, 599] (by decide +kernel)
set_option maxRecDepth 20000 in
theorem in_wsL_law_r5 : ∀ w ∈ wsL_law_r5, w ∈ lw_tbl := in_r [600, 601, 240, 241, 242, 243, 213, 664, 665, 666, 667, 583, 668, 669, 670, 244, 245, 246, 247, 671, 672, 673, 674, 248] (by decide +kernel)
set_option maxRecDepth 20000 in
theorem in_wsL_law_r6 : ∀ w ∈ wsL_law_r6, w ∈ lw_tbl := in_r [249, 250, 251, 252, 253, 254, 256, 257, 258, 58, 259, 260, 261, 262, 263, 954, 264, 265, 266, 267, 268, 953, 270, 271] (by decide +kernel)
set_option maxRecDepth 20000 in
theorem in_wsL_law_r7 : ∀ w ∈ wsL_law_r7, w ∈ lw_tbl := in_r [272, 273, 274, 275, 276, 277, 278, 279, 59, 280, 284, 285, 60, 286, 287, 288, 289, 281, 282, 283, 290, 291, 292, 293] (by decide +kernel)
set_option maxRecDepth 20000 in
theorem in_wsL_law_r8 : ∀ w ∈ wsL_law_r8, w ∈ lw_tbl := in_r [294, 61, 295, 296, 297, 298, 299, 300, 301, 302, 303, 304, 305, 306, 307, 308, 309, 310, 311, 313, 314, 62, 315, 316] (by decide +kernel)
set_option maxRecDepth 20000 in
theorem in_wsL_law_r9 : ∀ w ∈ wsL_law_r9, w ∈ lw_tbl := in_r [317, 318, 319, 320, 321, 322, 324, 326, 328, 329, 330, 331, 332, 63, 333, 334, 335, 336, 337, 338, 339, 340, 341, 675] (by decide +kernel)
set_option maxRecDepth 20000 in
theorem in_wsL_law_r10 : ∀ w ∈ wsL_law_r10, w ∈ lw_tbl := in_r [676, 677, 678, 679, 681, 13, 682, 585, 586, 683, 685, 14, 686, 687, 689, 15, 690, 691, 692, 693, 343, 344, 345, 346] (by decide +kernel)
set_option maxRecDepth 20000 in
theorem in_wsL_law_r11 : ∀ w ∈ wsL_law_r11, w ∈ lw_tbl := in_r [214, 105, 220, 347, 348, 350, 3, 351, 107, 112, 88, 95, 352, 353, 354, 355, 108, 90, 694, 695, 696, 697, 574, 577] (by decide +kernel)
set_option maxRecDepth 20000 in
theorem in_wsL_law_r12 : ∀ w ∈ wsL_law_r12, w ∈ lw_tbl := in_r [573, 579, 356, 357, 358, 359, 181, 162, 91, 360, 361, 362, 363, 104, 364, 365, 366, 367, 375, 369, 370, 64, 371, 372] (by decide +kernel)
set_option maxRecDepth 20000 in
theorem in_wsL_law_r13 : ∀ w ∈ wsL_law_r13, w ∈ lw_tbl := in_r [373, 374, 698, 699, 700, 701, 702, 704, 16, 705, 706, 708, 17, 709, 710, 711, 712, 713, 715, 18, 716, 717, 718, 719] (by decide +kernel)
set_option maxRecDepth 20000 in
theorem in_wsL_law_r14 : ∀ w ∈ wsL_law_r14, w ∈ lw_tbl := in_r [720, 722, 19, 723, 724, 725, 726, 727, 728, 729, 730, 731, 732, 733, 734, 735, 736, 376, 377, 378, 379, 380, 737, 738] (by decide +kernel)
set_option maxRecDepth 20000 in
theorem in_wsL_law_r15 : ∀ w ∈ wsL_law_r15, w ∈ lw_tbl := in_r [739, 740, 382, 383, 384, 385, 386, 387, 388, 389, 94, 741, 742, 743, 744, 745, 747, 20, 748, 749, 751, 21, 752, 753] (by decide +kernel)
set_option maxRecDepth 20000 in
theorem in_wsL_law_r16 : ∀ w ∈ wsL_law_r16, w ∈ lw_tbl := in_r [754, 755, 390, 391, 392, 393, 394, 395, 396, 397, 398, 86, 400, 401, 402, 403, 404, 756, 757, 758, 759, 760, 761, 762] (by decide +kernel)
set_option maxRecDepth 20000 in
theorem in_wsL_law_r17 : ∀ w ∈ wsL_law_r17, w ∈ lw_tbl := in_r [763, 764, 765, 766, 767, 768, 769, 771, 22, 772, 773, 775, 23, 776, 405, 406, 407, 408, 777, 778, 779, 780, 781, 782] (by decide +kernel)
set_option maxRecDepth 20000 in
theorem in_wsL_law_r18 : ∀ w ∈ wsL_law_r18, w ∈ lw_tbl := in_r [783, 409, 410, 411, 412, 784, 785, 786, 787, 413, 414, 415, 416, 788, 789, 790, 791, 417, 418, 419, 420, 187, 189, 421] (by decide +kernel)
set_option maxRecDepth 20000 in
theorem in_wsL_law_r19 : ∀ w ∈ wsL_law_r19, w ∈ lw_tbl := in_r [423, 4, 424, 425, 426, 427, 428, 186, 190, 192, 437, 188, 161, 429, 431, 5, 432, 111, 87, 433, 434, 435, 436, 164] (by decide +kernel)
set_option maxRecDepth 20000 in
theorem in_wsL_law_r20 : ∀ w ∈ wsL_law_r20, w ∈ lw_tbl := in_r [93, 438, 439, 441, 6, 442, 443, 444, 446, 7, 447, 166, 168, 792, 793, 794, 795, 796, 798, 24, 799, 800, 802, 25] (by decide +kernel)
set_option maxRecDepth 20000 in
theorem in_wsL_law_r21 : ∀ w ∈ wsL_law_r21, w ∈ lw_tbl := in_r [803, 804, 805, 807, 26, 808, 809, 811, 27, 812, 813, 815, 28, 816, 817, 818, 819, 820, 822, 29, 823, 824, 826, 30] (by decide +kernel)
set_option maxRecDepth 20000 in
theorem in_wsL_law_r22 : ∀ w ∈ wsL_law_r22, w ∈ lw_tbl := in_r [827, 828, 830, 31, 831, 832, 834, 32, 835, 836, 838, 33, 839, 840, 842, 34, 843, 844, 846, 35, 847, 448, 449, 450] (by decide +kernel)
set_option maxRecDepth 20000 in
theorem in_wsL_law_r23 : ∀ w ∈ wsL_law_r23, w ∈ lw_tbl := in_r [451, 191, 452, 453, 454, 455, 456, 457, 458, 459, 848, 849, 850, 851, 852, 854, 36, 855, 856, 858, 37, 859, 860, 862] (by decide +kernel)
set_option maxRecDepth 20000 in
theorem in_wsL_law_r24 : ∀ w ∈ wsL_law_r24, w ∈ lw_tbl := in_r [38, 863, 864, 866, 39, 867, 460, 461, 462, 463, 215, 464, 465, 466, 467, 468, 470, 8, 471, 185, 472, 474, 9, 475] (by decide +kernel)
set_option maxRecDepth 20000 in
theorem in_wsL_law_r25 : ∀ w ∈ wsL_law_r25, w ∈ lw_tbl := in_r [476, 477, 478, 479, 480, 482, 10, 483, 868, 869, 870, 871, 578, 872, 874, 40, 875, 876, 878, 41, 879, 484, 485, 486] (by decide +kernel)
set_option maxRecDepth 20000 in
theorem in_wsL_law_r26 : ∀ w ∈ wsL_law_r26, w ∈ lw_tbl := in_r [487, 488, 489, 490, 491, 492, 493, 494, 880, 881, 882, 883, 884, 886, 42, 887, 888, 889, 890, 495, 496, 497, 498, 109] (by decide +kernel)
set_option maxRecDepth 20000 in
theorem in_wsL_law_r27 : ∀ w ∈ wsL_law_r27, w ∈ lw_tbl := in_r [891, 892, 893, 894, 499, 500, 501, 502, 895, 896, 897, 898, 503, 504, 505, 506, 507, 508, 509, 510, 106, 511, 512, 513] (by decide +kernel)
set_option maxRecDepth 20000 in
theorem in_wsL_law_r28 : ∀ w ∈ wsL_law_r28, w ∈ lw_tbl := in_r [514, 515, 516, 517, 518, 519, 520, 521, 522, 523, 524, 525, 899, 900, 901, 902, 903, 905, 43, 906, 591, 907, 909, 44] (by decide +kernel)
set_option maxRecDepth 20000 in
theorem in_wsL_law_r29 : ∀ w ∈ wsL_law_r29, w ∈ lw_tbl := in_r [910, 911, 912, 913, 914, 526, 527, 528, 529, 915, 916, 917, 918, 593, 594, 595, 596, 530, 531, 532, 533, 919, 920, 921] (by decide +kernel)
set_option maxRecDepth 20000 in
theorem in_wsL_law_r30 : ∀ w ∈ wsL_law_r30, w ∈ lw_tbl := in_r [922, 534, 535, 536, 537, 538, 539, 540, 541, 542, 543, 544, 545, 546, 923, 924, 925, 926, 927, 929, 45, 930, 931, 933] (by decide +kernel)
set_option maxRecDepth 20000 in
theorem in_wsL_law_r31 : ∀ w ∈ wsL_law_r31, w ∈ lw_tbl := in_r [46, 934, 935, 937, 47, 938, 547, 548, 549, 550, 551, 556, 552, 554, 11, 555, 557, 558, 560, 12, 561, 562, 563, 564] (by decide +kernel)
set_option maxRecDepth 20000 in
theorem in_wsL_law_r32 : ∀ w ∈ wsL_law_r32, w ∈ lw_tbl := in_r [565, 566, 939, 940, 941, 942, 943, 602, 944, 946, 48, 947, 948, 949, 951, 49, 952] (by decide +kernel)
set_option maxRecDepth 20000 in
theorem inX4 : ∀ w ∈ wsX40, w ∈ lw_tbl := in_r [221, 223, 225, 227, 229, 231, 233, 235, 237] (by decide +kernel)
set_option maxRecDepth 20000 in
theorem inX5 : ∀ w ∈ wsX50, w ∈ lw_tbl := in_r [603, 605, 607, 609, 611, 613, 615, 617, 619, 621, 623, 625, 627, 629, 631, 633, 635, 637, 639, 641, 643, 645, 647, 649, 651, 653, 655, 657, 659, 661] (by decide +kernel)
set_option maxRecDepth 20000 in
theorem inX2 : ∀ w ∈ wsX20, w ∈ lw_tbl := in_r [113, 115, 117, 119] (by decide +kernel)
set_option maxRecDepth 20000 in
theorem inX1 : ∀ w ∈ wsX10, w ∈ lw_tbl := in_r [193, 195, 197, 199, 201, 203, 205, 207, 209] (by decide +kernel)
set_option maxRecDepth 20000 in
theorem inX0 : ∀ w ∈ wsX00, w ∈ lw_tbl := in_r [96, 98, 100] (by decide +kernel)
set_option maxRecDepth 20000 in
theorem inX3 : ∀ w ∈ wsX30, w ∈ lw_tbl := in_r [169, 171, 173, 175] (by decide +kernel)
theorem wch_in : ∀ c ∈ wch, ∀ w ∈ c, w ∈ lw_tbl := List.forall_mem_cons.mpr ⟨in_wsL_law_r1, List.forall_mem_cons.mpr ⟨in_wsL_law_r2, List.forall_mem_cons.mpr ⟨in_wsL_law_r3, List.forall_mem_cons.mpr ⟨in_wsL_law_r4, List.forall_mem_cons.mpr ⟨in_wsL_law_r5, List.forall_mem_cons.mpr ⟨in_wsL_law_r6, List.forall_mem_cons.mpr ⟨in_wsL_law_r7, List.forall_mem_cons.mpr ⟨in_wsL_law_r8, List.forall_mem_cons.mpr ⟨in_wsL_law_r9, List.forall_mem_cons.mpr ⟨in_wsL_law_r10, List.forall_mem_cons.mpr ⟨in_wsL_law_r11, List.forall_mem_cons.mpr ⟨in_wsL_law_r12, List.forall_mem_cons.mpr ⟨in_wsL_law_r13, List.forall_mem_cons.mpr ⟨in_wsL_law_r14, List.forall_mem_cons.mpr ⟨in_wsL_law_r15, List.forall_mem_cons.mpr ⟨in_wsL_law_r16, List.forall_mem_cons.mpr ⟨in_wsL_law_r17, List.forall_mem_cons.mpr ⟨in_wsL_law_r18, List.forall_mem_cons.mpr ⟨in_wsL_law_r19, List.forall_mem_cons.mpr ⟨in_wsL_law_r20, List.forall_mem_cons.mpr ⟨in_wsL_law_r21, List.forall_mem_cons.mpr ⟨in_wsL_law_r22, List.forall_mem_cons.mpr ⟨in_wsL_law_r23, List.forall_mem_cons.mpr ⟨in_wsL_law_r24, List.forall_mem_cons.mpr ⟨in_wsL_law_r25, List.forall_mem_cons.mpr ⟨in_wsL_law_r26, List.forall_mem_cons.mpr ⟨in_wsL_law_r27, List.forall_mem_cons.mpr ⟨in_wsL_law_r28, List.forall_mem_cons.mpr ⟨in_wsL_law_r29, List.forall_mem_cons.mpr ⟨in_wsL_law_r30, List.forall_mem_cons.mpr ⟨in_wsL_law_r31, List.forall_mem_cons.mpr ⟨in_wsL_law_r32, List.forall_mem_cons.mpr ⟨inX4, List.forall_mem_cons.mpr ⟨inX5, List.forall_mem_cons.mpr ⟨inX2, List.forall_mem_cons.mpr ⟨inX1, List.forall_mem_cons.mpr ⟨inX0, List.forall_mem_cons.mpr ⟨inX3, fun _ h => absurd h List.not_mem_nil⟩⟩⟩⟩⟩⟩⟩⟩⟩⟩⟩⟩⟩⟩⟩⟩⟩⟩⟩⟩⟩⟩⟩⟩⟩⟩⟩⟩⟩⟩⟩⟩⟩⟩⟩⟩⟩⟩
theorem wAt_in {n : Nat} {w : Cond} (h : wAt n = some w) : w ∈ lw_tbl := by
  obtain ⟨c, h1, h2⟩ := wAt_ch h
  exact wch_in c h1 w h2
theorem wsL_law_in : ∀ w ∈ wsL_law, w ∈ lw_tbl := by
  intro w hw
  rcases List.mem_cons.mp hw with q | q
  · rw [q]
    exact wAt_in wa_12
  · obtain ⟨i, hi, e⟩ := List.mem_filterMap.mp q
    exact wAt_in e
theorem inlX4 : ∀ w ∈ wsX40, w ∈ wsL_law := chX4 (by decide +kernel)
theorem inlX5 : ∀ w ∈ wsX50, w ∈ wsL_law := chX5 (by decide +kernel)
theorem inlX2 : ∀ w ∈ wsX20, w ∈ wsL_law := chX2 (by decide +kernel)
theorem inlX1 : ∀ w ∈ wsX10, w ∈ wsL_law := chX1 (by decide +kernel)
theorem inlX0 : ∀ w ∈ wsX00, w ∈ wsL_law := chX0 (by decide +kernel)
theorem inlX3 : ∀ w ∈ wsX30, w ∈ wsL_law := chX3 (by decide +kernel)
