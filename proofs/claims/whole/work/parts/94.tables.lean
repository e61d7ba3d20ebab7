/-! the words that the rows use are the tables' words -/
theorem fL_of {ws : List Cond} (ps : List Nat) (h : ws = ps.filterMap (fun k => lw_tbl[k]?)) : ∀ w ∈ ws, w ∈ lw_tbl := by
  intro w hw
  rw [h] at hw
  obtain ⟨k, -, hk⟩ := List.mem_filterMap.mp hw
  exact List.mem_of_getElem? hk
set_option maxRecDepth 100000 in
theorem fL_0 : ∀ w ∈ fT_0, w ∈ lw_tbl := fL_of [139, 134, 136, 161, 157, 238, 100, 266, 267, 268, 140, 141, 273, 262, 269, 130, 132, 286, 287, 279, 288, 296, 304, 310, 300, 275, 305, 292, 258, 274, 309, 102, 250, 254, 98, 246, 137, 159, 206, 207] rfl
set_option maxRecDepth 100000 in
theorem fL_1 : ∀ w ∈ fT_1, w ∈ lw_tbl := fL_of [319, 199, 321, 322, 234, 318, 242, 101, 314, 230, 345, 97, 342, 347, 356, 99, 160, 364, 403, 399, 395, 388, 377, 203, 198, 384, 414, 415, 416, 411, 373, 407, 369, 421, 158, 138, 135, 131, 133, 446] rfl
set_option maxRecDepth 100000 in
theorem fL_2 : ∀ w ∈ fT_2, w ∈ lw_tbl := fL_of [449, 469, 473, 162, 163, 479, 464, 470, 474, 481, 480, 460, 434, 437, 439, 443, 452, 453, 456, 188, 185, 200, 494, 506, 502, 204, 189, 205, 533, 525, 529, 187, 538, 534, 521, 517, 512, 498, 490, 539] rfl
set_option maxRecDepth 100000 in
theorem fL_3 : ∀ w ∈ fT_3, w ∈ lw_tbl := fL_of [486, 190, 548, 552, 186, 554, 320, 201, 571, 567, 563, 202, 583, 579, 612, 617, 620, 675, 610, 611, 671, 674, 672, 625, 629, 676, 677, 637, 614, 621, 678, 645, 613, 649, 633, 606, 657, 662, 661, 641] rfl
set_option maxRecDepth 100000 in
theorem fL_4 : ∀ w ∈ fT_4, w ∈ lw_tbl := fL_of [653, 669, 673, 666, 667, 668, 602, 601, 670, 597, 593, 748, 742, 745, 751, 759, 768, 767, 679, 808, 804, 800, 796, 792, 784, 682, 788, 780, 776, 680, 681, 834, 827, 830, 838, 858, 854, 683, 684, 685] rfl
set_option maxRecDepth 100000 in
theorem fL_5 : ∀ w ∈ fT_5, w ∈ lw_tbl := fL_of [686, 850, 870, 866, 862, 846, 687, 886, 890, 894, 902, 241, 78, 239, 240, 237, 77, 235, 236, 253, 75, 251, 252, 265, 264, 3, 272, 271, 4, 261, 260, 2, 282, 280, 281, 285, 74, 284, 291, 290] rfl
set_option maxRecDepth 100000 in
theorem fL_6 : ∀ w ∈ fT_6, w ∈ lw_tbl := fL_of [6, 278, 277, 5, 299, 298, 8, 295, 294, 7, 303, 302, 9, 308, 307, 10, 313, 312, 11, 257, 256, 1, 249, 247, 248, 245, 243, 244, 317, 76, 315, 316, 233, 232, 0, 337, 335, 336, 344, 343] rfl
set_option maxRecDepth 100000 in
theorem fL_7 : ∀ w ∈ fT_7, w ∈ lw_tbl := fL_of [350, 348, 349, 341, 339, 340, 359, 358, 12, 355, 353, 354, 363, 361, 362, 380, 379, 14, 383, 382, 394, 393, 398, 397, 15, 402, 401, 16, 406, 404, 405, 391, 389, 390, 387, 385, 386, 376, 375, 13] rfl
set_option maxRecDepth 100000 in
theorem fL_8 : ∀ w ∈ fT_8, w ∈ lw_tbl := fL_of [413, 82, 412, 410, 409, 17, 372, 370, 371, 368, 366, 367, 420, 418, 419, 425, 423, 424, 429, 427, 428, 436, 435, 442, 441, 18, 448, 447, 451, 450, 445, 444, 455, 454, 467, 466, 19, 472, 471, 477] rfl
set_option maxRecDepth 100000 in
theorem fL_9 : ∀ w ∈ fT_9, w ∈ lw_tbl := fL_of [476, 20, 463, 461, 462, 459, 457, 458, 433, 431, 432, 497, 79, 495, 496, 493, 492, 21, 509, 508, 24, 505, 504, 23, 501, 500, 22, 515, 514, 25, 520, 519, 26, 528, 526, 527, 532, 531, 28, 524] rfl
set_option maxRecDepth 100000 in
theorem fL_10 : ∀ w ∈ fT_10, w ∈ lw_tbl := fL_of [523, 27, 537, 536, 29, 542, 541, 30, 489, 487, 488, 485, 483, 484, 551, 549, 550, 547, 545, 546, 558, 556, 557, 574, 572, 573, 570, 569, 31, 566, 564, 565, 562, 560, 561, 586, 585, 32, 582, 580] rfl
set_option maxRecDepth 100000 in
theorem fL_11 : ∀ w ∈ fT_11, w ∈ lw_tbl := fL_of [581, 578, 576, 577, 744, 81, 743, 619, 618, 616, 615, 750, 749, 609, 608, 36, 628, 627, 38, 632, 631, 39, 648, 647, 43, 640, 639, 41, 624, 623, 37, 636, 635, 40, 652, 651, 44, 644, 643, 42] rfl
set_option maxRecDepth 100000 in
theorem fL_12 : ∀ w ∈ fT_12, w ∈ lw_tbl := fL_of [660, 659, 46, 665, 664, 47, 656, 655, 45, 605, 604, 35, 600, 599, 34, 596, 595, 33, 771, 770, 50, 737, 735, 736, 747, 746, 754, 753, 48, 741, 739, 740, 762, 761, 49, 758, 756, 757, 766, 764] rfl
set_option maxRecDepth 100000 in
theorem fL_13 : ∀ w ∈ fT_13, w ∈ lw_tbl := fL_of [765, 787, 786, 53, 799, 798, 56, 810, 809, 807, 806, 58, 803, 802, 57, 795, 794, 55, 791, 790, 54, 783, 782, 52, 779, 778, 51, 775, 773, 774, 814, 812, 813, 818, 816, 817, 822, 820, 821, 841] rfl
set_option maxRecDepth 100000 in
theorem fL_14 : ∀ w ∈ fT_14, w ∈ lw_tbl := fL_of [840, 61, 837, 836, 60, 833, 832, 59, 829, 828, 826, 824, 825, 861, 860, 65, 857, 856, 64, 853, 852, 63, 873, 872, 68, 869, 868, 67, 865, 864, 66, 849, 848, 62, 845, 843, 844, 877, 875, 876] rfl
set_option maxRecDepth 100000 in
theorem fL_15 : ∀ w ∈ fT_15, w ∈ lw_tbl := fL_of [881, 879, 880, 889, 888, 69, 897, 896, 71, 893, 892, 70, 885, 883, 884, 905, 904, 72, 901, 899, 900, 323, 325, 327, 329, 331, 103, 105, 107, 208, 210, 212, 214, 216, 218, 220, 222, 224, 164, 166] rfl
set_option maxRecDepth 100000 in
theorem fL_16 : ∀ w ∈ fT_16, w ∈ lw_tbl := fL_of [168, 170, 172, 142, 144, 146, 148, 150, 152, 154, 191, 193, 688, 690, 692, 694, 696, 698, 700, 702, 704, 706, 708, 710, 712, 714, 716, 718, 720, 722, 724, 726, 728, 730, 84, 92, 112, 118, 125, 177] rfl
set_option maxRecDepth 100000 in
theorem fL_17 : ∀ w ∈ fT_17, w ∈ lw_tbl := fL_of [588, 110, 227, 733, 73, 80, 83, 85, 86, 87, 88, 89, 90, 91, 94, 95, 96, 111, 113, 114, 115, 116, 117, 119, 120, 121, 122, 123, 127, 128, 129, 175, 178, 179, 180, 181, 182, 183, 184, 228] rfl
set_option maxRecDepth 100000 in
theorem fL_18 : ∀ w ∈ fT_18, w ∈ lw_tbl := fL_of [229, 334, 338, 352, 360, 365, 417, 422, 426, 430, 482, 544, 555, 559, 575, 587, 589, 590, 591, 592, 734, 738, 755, 763, 772, 811, 815, 819, 823, 842, 874, 878, 882, 898, 90, 89] rfl
theorem fL : ∀ w ∈ fT, w ∈ lw_tbl := List.forall_mem_append.mpr ⟨fL_0, List.forall_mem_append.mpr ⟨fL_1, List.forall_mem_append.mpr ⟨fL_2, List.forall_mem_append.mpr ⟨fL_3, List.forall_mem_append.mpr ⟨fL_4, List.forall_mem_append.mpr ⟨fL_5, List.forall_mem_append.mpr ⟨fL_6, List.forall_mem_append.mpr ⟨fL_7, List.forall_mem_append.mpr ⟨fL_8, List.forall_mem_append.mpr ⟨fL_9, List.forall_mem_append.mpr ⟨fL_10, List.forall_mem_append.mpr ⟨fL_11, List.forall_mem_append.mpr ⟨fL_12, List.forall_mem_append.mpr ⟨fL_13, List.forall_mem_append.mpr ⟨fL_14, List.forall_mem_append.mpr ⟨fL_15, List.forall_mem_append.mpr ⟨fL_16, List.forall_mem_append.mpr ⟨fL_17, fL_18⟩⟩⟩⟩⟩⟩⟩⟩⟩⟩⟩⟩⟩⟩⟩⟩⟩⟩
set_option maxRecDepth 100000 in
theorem nL : ∀ w ∈ NWL2, w ∈ lw_tbl := fL_of [283, 351, 392, 381, 468, 478, 510, 511, 516, 543, 124, 176, 93, 126, 196] rfl
theorem nL_ok : ∀ w ∈ NWL2, fh_nw w = true := fun w hw => List.all_eq_true.mp (show NWL2.all fh_nw = true by decide +kernel) w hw
theorem nw_of {w : Cond} {args : Array Value} {s : State} (h : fh_nw w = true) (hb : w.before args s = true) : va_Nw w s := by
  unfold fh_nw at h
  split at h
  · exact va_Nw.of rfl hb
  · exact va_Nw.of rfl hb
  · exact hb
  · cases h
theorem nL_N {args : Array Value} {s : State} (hts : ∀ w ∈ lw_tbl, w.before args s = true) : fh_N NWL2 s := fun w hw => ⟨nL_ok w hw, nw_of (nL_ok w hw) (hts w (nL w hw))⟩
theorem sL_0 : Cond.laysStatic "FactFinder" "MOST_FACTS" "[I" ∈ lw_tbl := List.mem_of_getElem? (i := 197) (by decide +kernel)
theorem sL_1 : Cond.laysStatic "FactFinder" "STEP_POINTS" "[I" ∈ lw_tbl := List.mem_of_getElem? (i := 346) (by decide +kernel)
theorem sL_2 : Cond.laysStatic "FactFinder" "FACT_POINTS" "[I" ∈ lw_tbl := List.mem_of_getElem? (i := 438) (by decide +kernel)
theorem sL_3 : Cond.laysStatic "FactFinder" "FACT_WIDTH" "[I" ∈ lw_tbl := List.mem_of_getElem? (i := 553) (by decide +kernel)
