/-! the words that the rows use are the tables' words -/
theorem fL_of {ws : List Cond} (ps : List Nat) (h : ws = ps.filterMap (fun k => lw_tbl[k]?)) : ∀ w ∈ ws, w ∈ lw_tbl := by
  intro w hw
  rw [h] at hw
  obtain ⟨k, -, hk⟩ := List.mem_filterMap.mp hw
  exact List.mem_of_getElem? hk
set_option maxRecDepth 100000 in
theorem fL_0 : ∀ w ∈ fT_0, w ∈ lw_tbl := fL_of [140, 135, 137, 162, 158, 239, 160, 101, 267, 268, 269, 277, 278, 274, 141, 142, 263, 270, 131, 133, 291, 292, 284, 288, 293, 301, 309, 315, 305, 280, 310, 297, 259, 279, 314, 103, 251, 255, 99, 247] rfl
set_option maxRecDepth 100000 in
theorem fL_1 : ∀ w ∈ fT_1, w ∈ lw_tbl := fL_of [138, 207, 208, 324, 200, 326, 327, 235, 323, 243, 102, 319, 231, 350, 98, 347, 352, 361, 100, 161, 369, 409, 404, 400, 408, 393, 382, 204, 199, 389, 420, 421, 422, 417, 378, 413, 374, 427, 159, 139] rfl
set_option maxRecDepth 100000 in
theorem fL_2 : ∀ w ∈ fT_2, w ∈ lw_tbl := fL_of [136, 132, 134, 452, 455, 475, 479, 163, 484, 164, 485, 470, 476, 480, 487, 486, 466, 440, 443, 445, 449, 458, 459, 462, 189, 186, 201, 500, 512, 508, 205, 190, 206, 539, 531, 535, 188, 549, 544, 527] rfl
set_option maxRecDepth 100000 in
theorem fL_3 : ∀ w ∈ fT_3, w ∈ lw_tbl := fL_of [523, 518, 504, 496, 540, 492, 191, 554, 558, 187, 560, 325, 202, 577, 573, 569, 203, 589, 585, 618, 623, 626, 681, 616, 617, 677, 680, 678, 631, 635, 682, 683, 643, 620, 627, 684, 651, 619, 655, 639] rfl
set_option maxRecDepth 100000 in
theorem fL_4 : ∀ w ∈ fT_4, w ∈ lw_tbl := fL_of [612, 663, 668, 667, 647, 659, 675, 679, 672, 673, 674, 608, 607, 676, 603, 599, 754, 748, 751, 757, 765, 774, 773, 685, 814, 810, 806, 802, 798, 790, 688, 794, 786, 782, 686, 687, 840, 833, 836, 844] rfl
set_option maxRecDepth 100000 in
theorem fL_5 : ∀ w ∈ fT_5, w ∈ lw_tbl := fL_of [864, 860, 689, 690, 691, 692, 856, 876, 872, 868, 852, 693, 892, 896, 900, 908, 242, 78, 240, 241, 238, 77, 236, 237, 254, 75, 252, 253, 266, 265, 3, 276, 81, 275, 273, 272, 4, 262, 261, 2] rfl
set_option maxRecDepth 100000 in
theorem fL_6 : ∀ w ∈ fT_6, w ∈ lw_tbl := fL_of [287, 285, 286, 290, 289, 296, 295, 6, 283, 282, 5, 304, 303, 8, 300, 299, 7, 308, 307, 9, 313, 312, 10, 318, 317, 11, 258, 257, 1, 250, 248, 249, 246, 244, 245, 322, 76, 320, 321, 234] rfl
set_option maxRecDepth 100000 in
theorem fL_7 : ∀ w ∈ fT_7, w ∈ lw_tbl := fL_of [74, 233, 0, 342, 340, 341, 349, 348, 355, 353, 354, 346, 344, 345, 364, 363, 12, 360, 358, 359, 368, 366, 367, 385, 384, 14, 388, 387, 399, 398, 403, 402, 15, 407, 406, 16, 412, 410, 411, 396] rfl
set_option maxRecDepth 100000 in
theorem fL_8 : ∀ w ∈ fT_8, w ∈ lw_tbl := fL_of [394, 395, 392, 390, 391, 381, 380, 13, 419, 83, 418, 416, 415, 17, 377, 375, 376, 373, 371, 372, 426, 424, 425, 431, 429, 430, 435, 433, 434, 442, 441, 448, 447, 18, 454, 453, 457, 456, 451, 450] rfl
set_option maxRecDepth 100000 in
theorem fL_9 : ∀ w ∈ fT_9, w ∈ lw_tbl := fL_of [461, 460, 473, 472, 19, 478, 477, 483, 482, 20, 469, 467, 468, 465, 463, 464, 439, 437, 438, 503, 79, 501, 502, 499, 498, 21, 515, 514, 24, 511, 510, 23, 507, 506, 22, 521, 520, 25, 526, 525] rfl
set_option maxRecDepth 100000 in
theorem fL_10 : ∀ w ∈ fT_10, w ∈ lw_tbl := fL_of [26, 534, 532, 533, 538, 537, 28, 530, 529, 27, 547, 546, 30, 543, 542, 29, 495, 493, 494, 491, 489, 490, 557, 555, 556, 553, 551, 552, 564, 562, 563, 580, 578, 579, 576, 575, 31, 572, 570, 571] rfl
set_option maxRecDepth 100000 in
theorem fL_11 : ∀ w ∈ fT_11, w ∈ lw_tbl := fL_of [568, 566, 567, 592, 591, 32, 588, 586, 587, 584, 582, 583, 750, 82, 749, 625, 624, 622, 621, 756, 755, 615, 614, 36, 634, 633, 38, 638, 637, 39, 654, 653, 43, 646, 645, 41, 630, 629, 37, 642] rfl
set_option maxRecDepth 100000 in
theorem fL_12 : ∀ w ∈ fT_12, w ∈ lw_tbl := fL_of [641, 40, 658, 657, 44, 650, 649, 42, 666, 665, 46, 671, 670, 47, 662, 661, 45, 611, 610, 35, 606, 605, 34, 602, 601, 33, 777, 776, 50, 743, 741, 742, 753, 752, 760, 759, 48, 747, 745, 746] rfl
set_option maxRecDepth 100000 in
theorem fL_13 : ∀ w ∈ fT_13, w ∈ lw_tbl := fL_of [768, 767, 49, 764, 762, 763, 772, 770, 771, 793, 792, 53, 805, 804, 56, 816, 815, 813, 812, 58, 809, 808, 57, 801, 800, 55, 797, 796, 54, 789, 788, 52, 785, 784, 51, 781, 779, 780, 820, 818] rfl
set_option maxRecDepth 100000 in
theorem fL_14 : ∀ w ∈ fT_14, w ∈ lw_tbl := fL_of [819, 824, 822, 823, 828, 826, 827, 847, 846, 61, 843, 842, 60, 839, 838, 59, 835, 834, 832, 830, 831, 867, 866, 65, 863, 862, 64, 859, 858, 63, 879, 878, 68, 875, 874, 67, 871, 870, 66, 855] rfl
set_option maxRecDepth 100000 in
theorem fL_15 : ∀ w ∈ fT_15, w ∈ lw_tbl := fL_of [854, 62, 851, 849, 850, 883, 881, 882, 887, 885, 886, 895, 894, 69, 903, 902, 71, 899, 898, 70, 891, 889, 890, 911, 910, 72, 907, 905, 906, 328, 330, 332, 334, 336, 104, 106, 108, 209, 211, 213] rfl
set_option maxRecDepth 100000 in
theorem fL_16 : ∀ w ∈ fT_16, w ∈ lw_tbl := fL_of [215, 217, 219, 221, 223, 225, 165, 167, 169, 171, 173, 143, 145, 147, 149, 151, 153, 155, 192, 194, 694, 696, 698, 700, 702, 704, 706, 708, 710, 712, 714, 716, 718, 720, 722, 724, 726, 728, 730, 732] rfl
set_option maxRecDepth 100000 in
theorem fL_17 : ∀ w ∈ fT_17, w ∈ lw_tbl := fL_of [734, 736, 85, 93, 113, 119, 126, 178, 594, 111, 228, 739, 73, 80, 84, 86, 87, 88, 89, 90, 91, 92, 95, 96, 97, 112, 114, 115, 116, 117, 118, 120, 121, 122, 123, 124, 128, 129, 130, 176] rfl
set_option maxRecDepth 100000 in
theorem fL_18 : ∀ w ∈ fT_18, w ∈ lw_tbl := fL_of [179, 180, 181, 182, 183, 184, 185, 229, 230, 339, 343, 357, 365, 370, 423, 428, 432, 436, 488, 550, 561, 565, 581, 593, 595, 596, 597, 598, 740, 744, 761, 769, 778, 817, 821, 825, 829, 848, 880, 884] rfl
set_option maxRecDepth 100000 in
theorem fL_19 : ∀ w ∈ fT_19, w ∈ lw_tbl := fL_of [888, 904, 91, 90] rfl
theorem fL : ∀ w ∈ fT, w ∈ lw_tbl := List.forall_mem_append.mpr ⟨fL_0, List.forall_mem_append.mpr ⟨fL_1, List.forall_mem_append.mpr ⟨fL_2, List.forall_mem_append.mpr ⟨fL_3, List.forall_mem_append.mpr ⟨fL_4, List.forall_mem_append.mpr ⟨fL_5, List.forall_mem_append.mpr ⟨fL_6, List.forall_mem_append.mpr ⟨fL_7, List.forall_mem_append.mpr ⟨fL_8, List.forall_mem_append.mpr ⟨fL_9, List.forall_mem_append.mpr ⟨fL_10, List.forall_mem_append.mpr ⟨fL_11, List.forall_mem_append.mpr ⟨fL_12, List.forall_mem_append.mpr ⟨fL_13, List.forall_mem_append.mpr ⟨fL_14, List.forall_mem_append.mpr ⟨fL_15, List.forall_mem_append.mpr ⟨fL_16, List.forall_mem_append.mpr ⟨fL_17, List.forall_mem_append.mpr ⟨fL_18, fL_19⟩⟩⟩⟩⟩⟩⟩⟩⟩⟩⟩⟩⟩⟩⟩⟩⟩⟩⟩
set_option maxRecDepth 100000 in
theorem nL : ∀ w ∈ NWL2, w ∈ lw_tbl := fL_of [356, 397, 386, 474, 516, 517, 522, 548, 125, 177, 94, 127, 197] rfl
theorem nL_ok : ∀ w ∈ NWL2, fh_nw w = true := fun w hw => List.all_eq_true.mp (show NWL2.all fh_nw = true by decide +kernel) w hw
theorem nw_of {w : Cond} {args : Array Value} {s : State} (h : fh_nw w = true) (hb : w.before args s = true) : va_Nw w s := by
  unfold fh_nw at h
  split at h
  · exact va_Nw.of rfl hb
  · exact va_Nw.of rfl hb
  · exact hb
  · cases h
theorem nL_N {args : Array Value} {s : State} (hts : ∀ w ∈ lw_tbl, w.before args s = true) : fh_N NWL2 s := fun w hw => ⟨nL_ok w hw, nw_of (nL_ok w hw) (hts w (nL w hw))⟩
theorem sL_0 : Cond.laysStatic "FactFinder" "MOST_FACTS" "[I" ∈ lw_tbl := List.mem_of_getElem? (i := 198) (by decide +kernel)
theorem sL_1 : Cond.laysStatic "FactFinder" "STEP_POINTS" "[I" ∈ lw_tbl := List.mem_of_getElem? (i := 351) (by decide +kernel)
theorem sL_2 : Cond.laysStatic "FactFinder" "FACT_POINTS" "[I" ∈ lw_tbl := List.mem_of_getElem? (i := 444) (by decide +kernel)
theorem sL_3 : Cond.laysStatic "FactFinder" "FACT_WIDTH" "[I" ∈ lw_tbl := List.mem_of_getElem? (i := 559) (by decide +kernel)
