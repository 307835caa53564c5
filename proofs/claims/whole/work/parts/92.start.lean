/-! the start: every word that the methods lean on stands in the tables -/
theorem wl_in {tb ws : List Cond} (is : List Nat) (h : ws.map some = is.map (fun i => tb[i]?)) : ∀ w ∈ ws, w ∈ tb := fun w hw => by
  have h1 : some w ∈ is.map (fun i => tb[i]?) := by rw [← h]; exact List.mem_map.mpr ⟨w, hw, rfl⟩
  obtain ⟨i, -, hi⟩ := List.mem_map.mp h1
  exact List.mem_of_getElem? hi
set_option maxRecDepth 100000 in
theorem wi_0 : ∀ w ∈ wsL_law0_r1, w ∈ lw_tbl := wl_in [51, 52, 37, 626, 627, 41, 105, 53, 54, 55, 56, 57, 58, 59, 60, 38, 144, 107, 145, 129, 130, 40, 146, 147] (by decide +kernel)
set_option maxRecDepth 100000 in
theorem wi_1 : ∀ w ∈ wsL_law0_r2, w ∈ lw_tbl := wl_in [148, 149, 61, 62, 63, 64, 65, 66, 39, 106, 108, 109, 110, 111, 112, 113, 67, 68, 69, 70, 104, 72, 73, 71] (by decide +kernel)
set_option maxRecDepth 100000 in
theorem wi_2 : ∀ w ∈ wsL_law0_r3, w ∈ lw_tbl := wl_in [74, 77, 80, 83, 84, 85, 131, 132, 133, 134, 135, 136, 628, 629, 630, 631, 633, 635, 636, 638, 163, 164, 165, 166] (by decide +kernel)
set_option maxRecDepth 100000 in
theorem wi_3 : ∀ w ∈ wsL_law0_r4, w ∈ lw_tbl := wl_in [167, 168, 169, 170, 171, 172, 173, 174, 176, 177, 179, 180, 182, 183, 184, 186, 0, 187, 86, 658, 659, 660, 661, 632] (by decide +kernel)
set_option maxRecDepth 100000 in
theorem wi_4 : ∀ w ∈ wsL_law0_r5, w ∈ lw_tbl := wl_in [634, 188, 189, 190, 191, 192, 193, 194, 195, 197, 196, 662, 663, 664, 665, 666, 667, 668, 669, 291, 292, 36, 293, 294] (by decide +kernel)
set_option maxRecDepth 100000 in
theorem wi_5 : ∀ w ∈ wsL_law0_r6, w ∈ lw_tbl := wl_in [295, 296, 297, 298, 299, 300, 45, 370, 46, 285, 369, 386, 670, 671, 672, 673, 674, 675, 676, 654, 655, 656, 657, 387] (by decide +kernel)
set_option maxRecDepth 100000 in
theorem wi_6 : ∀ w ∈ wsL_law0_r7, w ∈ lw_tbl := wl_in [388, 389, 390, 391, 392, 393, 75, 78, 81, 677, 678, 679, 680, 199, 200, 201, 202, 203, 204, 205, 206, 207, 208, 209] (by decide +kernel)
set_option maxRecDepth 100000 in
theorem wi_7 : ∀ w ∈ wsL_law0_r8, w ∈ lw_tbl := wl_in [210, 211, 212, 47, 213, 214, 215, 216, 217, 218, 219, 220, 221, 222, 223, 224, 225, 226, 48, 227, 228, 229, 230, 231] (by decide +kernel)
set_option maxRecDepth 100000 in
theorem wi_8 : ∀ w ∈ wsL_law0_r9, w ∈ lw_tbl := wl_in [232, 233, 234, 235, 236, 237, 238, 239, 240, 241, 243, 245, 681, 682, 683, 684, 685, 687, 19, 688, 689, 691, 20, 692] (by decide +kernel)
set_option maxRecDepth 100000 in
theorem wi_9 : ∀ w ∈ wsL_law0_r10, w ∈ lw_tbl := wl_in [693, 695, 21, 696, 697, 699, 22, 700, 701, 702, 703, 704, 706, 23, 707, 708, 709, 710, 711, 712, 713, 714, 716, 24] (by decide +kernel)
set_option maxRecDepth 100000 in
theorem wi_10 : ∀ w ∈ wsL_law0_r11, w ∈ lw_tbl := wl_in [717, 397, 398, 399, 400, 401, 402, 403, 404, 138, 405, 407, 4, 408, 487, 49, 409, 410, 411, 412, 137, 413, 415, 5] (by decide +kernel)
set_option maxRecDepth 100000 in
theorem wi_11 : ∀ w ∈ wsL_law0_r12, w ∈ lw_tbl := wl_in [416, 76, 422, 417, 418, 419, 420, 421, 423, 424, 426, 6, 427, 428, 429, 430, 432, 433, 434, 435, 437, 7, 438, 440] (by decide +kernel)
set_option maxRecDepth 100000 in
theorem wi_12 : ∀ w ∈ wsL_law0_r13, w ∈ lw_tbl := wl_in [265, 266, 267, 276, 277, 442, 444, 8, 445, 446, 447, 448, 450, 9, 451, 460, 461, 452, 453, 455, 10, 456, 79, 457] (by decide +kernel)
set_option maxRecDepth 100000 in
theorem wi_13 : ∀ w ∈ wsL_law0_r14, w ∈ lw_tbl := wl_in [458, 459, 462, 463, 464, 465, 466, 468, 11, 469, 470, 472, 12, 473, 82, 474, 476, 13, 477, 482, 478, 480, 14, 481] (by decide +kernel)
set_option maxRecDepth 100000 in
theorem wi_14 : ∀ w ∈ wsL_law0_r15, w ∈ lw_tbl := wl_in [483, 484, 485, 486, 718, 719, 720, 721, 637, 722, 724, 25, 725, 726, 728, 26, 729, 730, 732, 27, 733, 734, 736, 28] (by decide +kernel)
set_option maxRecDepth 100000 in
theorem wi_15 : ∀ w ∈ wsL_law0_r16, w ∈ lw_tbl := wl_in [737, 738, 740, 29, 741, 742, 744, 30, 745, 746, 748, 31, 749, 750, 752, 32, 753, 754, 755, 756, 503, 504, 505, 506] (by decide +kernel)
set_option maxRecDepth 100000 in
theorem wi_16 : ∀ w ∈ wsL_law0_r17, w ∈ lw_tbl := wl_in [507, 508, 509, 511, 512, 513, 514, 757, 758, 759, 760, 515, 516, 517, 518, 519, 520, 521, 522, 523, 524, 525, 526, 761] (by decide +kernel)
set_option maxRecDepth 100000 in
theorem wi_17 : ∀ w ∈ wsL_law0_r18, w ∈ lw_tbl := wl_in [762, 763, 764, 765, 767, 33, 768, 527, 528, 529, 530, 531, 532, 533, 534, 255, 256, 535, 258, 259, 769, 770, 771, 772] (by decide +kernel)
set_option maxRecDepth 100000 in
theorem wi_18 : ∀ w ∈ wsL_law0_r19, w ∈ lw_tbl := wl_in [536, 537, 538, 539, 540, 541, 542, 544, 545, 546, 547, 548, 550, 15, 551, 264, 271, 273, 2, 274, 269, 270, 552, 553] (by decide +kernel)
set_option maxRecDepth 100000 in
theorem wi_19 : ∀ w ∈ wsL_law0_r20, w ∈ lw_tbl := wl_in [554, 555, 556, 558, 16, 559, 278, 279, 280, 260, 262, 1, 263, 560, 561, 562, 563, 565, 17, 566, 567, 568, 569, 570] (by decide +kernel)
set_option maxRecDepth 100000 in
theorem wi_20 : ∀ w ∈ wsL_law0_r21, w ∈ lw_tbl := wl_in [571, 250, 251, 252, 253, 773, 774, 775, 776, 572, 573, 574, 575, 576, 577, 578, 580, 582, 18, 583, 777, 778, 779, 780] (by decide +kernel)
set_option maxRecDepth 100000 in
theorem wi_21 : ∀ w ∈ wsL_law0_r22, w ∈ lw_tbl := wl_in [781, 783, 34, 784, 785, 787, 35, 788, 584, 585, 586, 587, 588, 589, 590, 591, 592, 50, 789, 790, 791, 792, 246, 247] (by decide +kernel)
set_option maxRecDepth 100000 in
theorem wi_22 : ∀ w ∈ wsL_law0_r23, w ∈ lw_tbl := wl_in [248, 249, 793, 794, 795, 796, 281, 282, 283, 284, 286, 797, 798, 799, 800, 608, 609, 610, 611, 612, 613, 614, 801, 802] (by decide +kernel)
set_option maxRecDepth 100000 in
theorem wi_23 : ∀ w ∈ wsL_law0_r24, w ∈ lw_tbl := wl_in [803, 804, 615, 616, 617, 618, 619, 620, 621, 622, 623, 624, 625, 805, 806, 807, 808, 287, 288, 289, 290, 809, 810, 811] (by decide +kernel)
set_option maxRecDepth 100000 in
theorem wi_24 : ∀ w ∈ wsL_law0_r25, w ∈ lw_tbl := wl_in [812] (by decide +kernel)
set_option maxRecDepth 100000 in
theorem wi_25 : ∀ w ∈ wsX40, w ∈ lw_tbl := wl_in [150, 152, 154, 156, 158, 160] (by decide +kernel)
set_option maxRecDepth 100000 in
theorem wi_26 : ∀ w ∈ wsX50, w ∈ lw_tbl := wl_in [639, 641, 643, 645, 647, 649, 651] (by decide +kernel)
set_option maxRecDepth 100000 in
theorem wi_27 : ∀ w ∈ wsX30, w ∈ lw_tbl := wl_in [114, 116, 118, 120, 122, 124, 126] (by decide +kernel)
set_option maxRecDepth 100000 in
theorem wi_28 : ∀ w ∈ wsX10, w ∈ lw_tbl := wl_in [139, 141] (by decide +kernel)
set_option maxRecDepth 100000 in
theorem wi_29 : ∀ w ∈ wsX20, w ∈ lw_tbl := wl_in [87, 89, 91, 93, 95, 97, 99, 101] (by decide +kernel)
set_option maxRecDepth 100000 in
theorem wi_30 : ∀ w ∈ ((vx_atS RX4 57 nIOB nmX).filter goodWord), w ∈ lw_tbl := wl_in [42, 322, 331, 336, 339, 341, 323, 324, 57, 58, 325, 330, 337, 357, 312, 358, 314, 359, 316, 326, 328, 318, 353, 354, 356, 318, 344, 345, 346, 347, 347, 348, 349, 350, 350, 351, 352, 353, 343, 301, 309, 310, 311, 313, 315, 317, 321, 320, 319] (by decide +kernel)
set_option maxRecDepth 100000 in
theorem wi_31 : ∀ w ∈ ((vx_atS RX4 67 nIAE nmX).filter goodWord), w ∈ lw_tbl := wl_in [42, 322, 331, 336, 339, 341, 323, 324, 57, 58, 325, 330, 337, 357, 312, 358, 314, 359, 316, 326, 328, 318, 353, 354, 356, 318, 381, 382, 383, 347, 347, 348, 349, 350, 350, 351, 352, 353, 380, 371, 373, 333, 374, 375, 376, 377, 321, 320, 378] (by decide +kernel)
set_option maxRecDepth 100000 in
theorem wi_32 : ∀ w ∈ ((vx_atS RX4 161 nISE nmX).filter goodWord), w ∈ lw_tbl := wl_in [42, 322, 331, 336, 339, 341, 323, 324, 57, 58, 325, 330, 337, 357, 312, 358, 314, 359, 316, 326, 328, 318, 353, 354, 356, 318, 498, 499, 500, 347, 347, 348, 349, 350, 350, 351, 352, 353, 497, 488, 490, 334, 491, 492, 493, 494, 321, 320, 495] (by decide +kernel)
set_option maxRecDepth 100000 in
theorem wi_33 : ∀ w ∈ ((vx_atS RX4 145 nUOE nmX).filter goodWord), w ∈ lw_tbl := wl_in [42, 322, 331, 336, 339, 341, 323, 324, 57, 58, 325, 330, 337, 357, 312, 358, 314, 359, 316, 326, 328, 318, 353, 354, 356, 318, 603, 604, 605, 347, 347, 348, 349, 350, 350, 351, 352, 353, 602, 593, 595, 335, 596, 597, 598, 599, 321, 320, 600] (by decide +kernel)
theorem wi_R : ∀ w ∈ wq_R, w ∈ lw_tbl := List.forall_mem_append.mpr ⟨wi_0, List.forall_mem_append.mpr ⟨wi_1, List.forall_mem_append.mpr ⟨wi_2, List.forall_mem_append.mpr ⟨wi_3, List.forall_mem_append.mpr ⟨wi_4, List.forall_mem_append.mpr ⟨wi_5, List.forall_mem_append.mpr ⟨wi_6, List.forall_mem_append.mpr ⟨wi_7, List.forall_mem_append.mpr ⟨wi_8, List.forall_mem_append.mpr ⟨wi_9, List.forall_mem_append.mpr ⟨wi_10, List.forall_mem_append.mpr ⟨wi_11, List.forall_mem_append.mpr ⟨wi_12, List.forall_mem_append.mpr ⟨wi_13, List.forall_mem_append.mpr ⟨wi_14, List.forall_mem_append.mpr ⟨wi_15, List.forall_mem_append.mpr ⟨wi_16, List.forall_mem_append.mpr ⟨wi_17, List.forall_mem_append.mpr ⟨wi_18, List.forall_mem_append.mpr ⟨wi_19, List.forall_mem_append.mpr ⟨wi_20, List.forall_mem_append.mpr ⟨wi_21, List.forall_mem_append.mpr ⟨wi_22, List.forall_mem_append.mpr ⟨wi_23, wi_24⟩⟩⟩⟩⟩⟩⟩⟩⟩⟩⟩⟩⟩⟩⟩⟩⟩⟩⟩⟩⟩⟩⟩⟩
theorem wi_0all : ∀ w ∈ wsL_law0, w ∈ lw_tbl := List.forall_mem_append.mpr ⟨List.forall_mem_append.mpr ⟨List.forall_mem_append.mpr ⟨List.forall_mem_append.mpr ⟨List.forall_mem_append.mpr ⟨List.forall_mem_append.mpr ⟨wi_R, wi_25⟩, wi_26⟩, wi_27⟩, wi_28⟩, wi_29⟩, fun _ h => nomatch h⟩
theorem wsL_in : ∀ w ∈ wsL_law, w ∈ lw_tbl := List.forall_mem_append.mpr ⟨List.forall_mem_append.mpr ⟨List.forall_mem_append.mpr ⟨List.forall_mem_append.mpr ⟨wi_0all, wi_30⟩, wi_31⟩, wi_32⟩, wi_33⟩
set_option maxRecDepth 100000 in
theorem wt9_0 : Cond.declares (inS "java/lang/RuntimeException") ∈ lw_tbl := List.mem_of_getElem? (i := 304) (by decide +kernel)
set_option maxRecDepth 100000 in
theorem wt9_1 : Cond.declares (inS "java/lang/Exception") ∈ lw_tbl := List.mem_of_getElem? (i := 306) (by decide +kernel)
set_option maxRecDepth 100000 in
theorem wt9_2 : Cond.declares (inS "java/lang/Throwable") ∈ lw_tbl := List.mem_of_getElem? (i := 308) (by decide +kernel)
set_option maxRecDepth 100000 in
theorem wt9_3 : Cond.castable nIOB nIOB ∈ lw_tbl := List.mem_of_getElem? (i := 302) (by decide +kernel)
set_option maxRecDepth 100000 in
theorem wt9_4 : Cond.castable nIAE nIAE ∈ lw_tbl := List.mem_of_getElem? (i := 372) (by decide +kernel)
set_option maxRecDepth 100000 in
theorem wt9_5 : Cond.castable nISE nISE ∈ lw_tbl := List.mem_of_getElem? (i := 489) (by decide +kernel)
set_option maxRecDepth 100000 in
theorem wt9_6 : Cond.castable nUOE nUOE ∈ lw_tbl := List.mem_of_getElem? (i := 594) (by decide +kernel)
set_option maxRecDepth 100000 in
theorem wt9_7 : Cond.stringRef RX4 55 "no such square" ∈ lw_tbl := List.mem_of_getElem? (i := 342) (by decide +kernel)
set_option maxRecDepth 100000 in
theorem wt9_8 : Cond.stringRef RX4 65 "no such piece" ∈ lw_tbl := List.mem_of_getElem? (i := 379) (by decide +kernel)
set_option maxRecDepth 100000 in
theorem wt9_9 : Cond.stringRef RX4 72 "no such side" ∈ lw_tbl := List.mem_of_getElem? (i := 394) (by decide +kernel)
set_option maxRecDepth 100000 in
theorem wt9_10 : Cond.stringRef RX4 74 "no such rights" ∈ lw_tbl := List.mem_of_getElem? (i := 395) (by decide +kernel)
set_option maxRecDepth 100000 in
theorem wt9_11 : Cond.stringRef RX4 76 "passing is neither a square nor none" ∈ lw_tbl := List.mem_of_getElem? (i := 396) (by decide +kernel)
set_option maxRecDepth 100000 in
theorem wt9_12 : Cond.stringRef RX4 98 "no such move in the list" ∈ lw_tbl := List.mem_of_getElem? (i := 510) (by decide +kernel)
set_option maxRecDepth 100000 in
theorem wt9_13 : Cond.stringRef RX4 113 "not a legal move" ∈ lw_tbl := List.mem_of_getElem? (i := 543) (by decide +kernel)
set_option maxRecDepth 100000 in
theorem wt9_14 : Cond.stringRef RX4 132 "no such depth" ∈ lw_tbl := List.mem_of_getElem? (i := 579) (by decide +kernel)
set_option maxRecDepth 100000 in
theorem wt9_15 : Cond.stringRef RX4 143 "no more moves can be taken back" ∈ lw_tbl := List.mem_of_getElem? (i := 601) (by decide +kernel)
set_option maxRecDepth 100000 in
theorem wt9_16 : Cond.stringRef RX4 159 "the position can not be played" ∈ lw_tbl := List.mem_of_getElem? (i := 496) (by decide +kernel)
set_option maxRecDepth 100000 in
theorem wt9_17 : Cond.laysStatic RX0 "STEP" "[I" ∈ lw_tbl := List.mem_of_getElem? (i := 242) (by decide +kernel)
set_option maxRecDepth 100000 in
theorem wt9_18 : Cond.laysStatic RX0 "INSIDE" "[J" ∈ lw_tbl := List.mem_of_getElem? (i := 244) (by decide +kernel)
set_option maxRecDepth 100000 in
theorem wt9_19 : Cond.laysStatic RX2 "FIRST_RANK" "[I" ∈ lw_tbl := List.mem_of_getElem? (i := 198) (by decide +kernel)
set_option maxRecDepth 100000 in
theorem wt9_20 : Cond.laysStatic Bundle.tN "UNASSIGNED_STACK" Bundle.steD ∈ lw_tbl := List.mem_of_getElem? (i := 327) (by decide +kernel)
set_option maxRecDepth 100000 in
theorem wt9_21 : Cond.laysStatic Bundle.tN "SUPPRESSED_SENTINEL" Bundle.listD ∈ lw_tbl := List.mem_of_getElem? (i := 329) (by decide +kernel)
set_option maxRecDepth 100000 in
theorem wt9_22 : Cond.initialized RX0 ∈ lw_tbl := List.mem_of_getElem? (i := 48) (by decide +kernel)
set_option maxRecDepth 100000 in
theorem wt9_23 : Cond.initialized RX2 ∈ lw_tbl := List.mem_of_getElem? (i := 39) (by decide +kernel)
set_option maxRecDepth 100000 in
theorem wt9_24 : Cond.initialized Bundle.tN ∈ lw_tbl := List.mem_of_getElem? (i := 42) (by decide +kernel)
set_option maxRecDepth 100000 in
theorem wt9_25 : Cond.arrayClass .int ∈ lw_tbl := List.mem_of_getElem? (i := 104) (by decide +kernel)
set_option maxRecDepth 100000 in
theorem wt9_26 : Cond.arrayClass .long ∈ lw_tbl := List.mem_of_getElem? (i := 105) (by decide +kernel)
set_option maxRecDepth 100000 in
theorem wt9_27 : Cond.instantiable RX1 2 ∈ lw_tbl := List.mem_of_getElem? (i := 130) (by decide +kernel)
set_option maxRecDepth 100000 in
theorem wt9_28 : Cond.instantiable RX2 8 ∈ lw_tbl := List.mem_of_getElem? (i := 66) (by decide +kernel)
set_option maxRecDepth 100000 in
theorem wt9_29 : Cond.instantiable RX3 7 ∈ lw_tbl := List.mem_of_getElem? (i := 60) (by decide +kernel)
set_option maxRecDepth 100000 in
theorem wt9_30 : Cond.instantiable RX4 6 ∈ lw_tbl := List.mem_of_getElem? (i := 52) (by decide +kernel)
set_option maxRecDepth 100000 in
theorem wt9_31 : Cond.instantiable RX5 7 ∈ lw_tbl := List.mem_of_getElem? (i := 627) (by decide +kernel)
set_option maxRecDepth 100000 in
theorem wt9_32 : Cond.methodLinkNest RX2 50 yX4_isSquare RX4 ∈ lw_tbl := List.mem_of_getElem? (i := 175) (by decide +kernel)
set_option maxRecDepth 100000 in
theorem wt9_33 : Cond.methodLinkNest RX2 54 yX4_isPiece RX4 ∈ lw_tbl := List.mem_of_getElem? (i := 178) (by decide +kernel)
set_option maxRecDepth 100000 in
theorem wt9_34 : Cond.methodLinkNest RX2 57 yX4_bit RX4 ∈ lw_tbl := List.mem_of_getElem? (i := 181) (by decide +kernel)
set_option maxRecDepth 100000 in
theorem wt9_35 : Cond.methodLinkNest RX2 94 yX4_fromOf RX4 ∈ lw_tbl := List.mem_of_getElem? (i := 254) (by decide +kernel)
set_option maxRecDepth 100000 in
theorem wt9_36 : Cond.methodLinkNest RX2 98 yX4_toOf RX4 ∈ lw_tbl := List.mem_of_getElem? (i := 257) (by decide +kernel)
set_option maxRecDepth 100000 in
theorem wt9_37 : Cond.methodLinkNest RX2 112 yX4_becomesOf RX4 ∈ lw_tbl := List.mem_of_getElem? (i := 268) (by decide +kernel)
set_option maxRecDepth 100000 in
theorem wt9_38 : Cond.methodLinkNest RX2 127 yX4_typeOf RX4 ∈ lw_tbl := List.mem_of_getElem? (i := 275) (by decide +kernel)
set_option maxRecDepth 100000 in
theorem wt9_39 : Cond.methodLinkNest RX3 46 yX4_squareOf RX4 ∈ lw_tbl := List.mem_of_getElem? (i := 431) (by decide +kernel)
set_option maxRecDepth 100000 in
theorem wt9_40 : Cond.methodLinkNest RX3 77 yX4_typeOf RX4 ∈ lw_tbl := List.mem_of_getElem? (i := 441) (by decide +kernel)
set_option maxRecDepth 100000 in
theorem wt9_41 : Cond.methodLinkNest RX3 109 yX4_bit RX4 ∈ lw_tbl := List.mem_of_getElem? (i := 439) (by decide +kernel)
set_option maxRecDepth 100000 in
theorem wg9_0 : Cond.exactly (.string RX4 55) "java/lang/String" ∈ flatC (Cond.and given_1 narrow_1) := List.mem_of_getElem? (i := 71) (by decide +kernel)
set_option maxRecDepth 100000 in
theorem wg9_1 : Cond.exactly (.string RX4 65) "java/lang/String" ∈ flatC (Cond.and given_1 narrow_1) := List.mem_of_getElem? (i := 89) (by decide +kernel)
set_option maxRecDepth 100000 in
theorem wg9_2 : Cond.exactly (.string RX4 72) "java/lang/String" ∈ flatC (Cond.and given_1 narrow_1) := List.mem_of_getElem? (i := 107) (by decide +kernel)
set_option maxRecDepth 100000 in
theorem wg9_3 : Cond.exactly (.string RX4 74) "java/lang/String" ∈ flatC (Cond.and given_1 narrow_1) := List.mem_of_getElem? (i := 125) (by decide +kernel)
set_option maxRecDepth 100000 in
theorem wg9_4 : Cond.exactly (.string RX4 76) "java/lang/String" ∈ flatC (Cond.and given_1 narrow_1) := List.mem_of_getElem? (i := 146) (by decide +kernel)
set_option maxRecDepth 100000 in
theorem wg9_5 : Cond.exactly (.string RX4 98) "java/lang/String" ∈ flatC (Cond.and given_1 narrow_1) := List.mem_of_getElem? (i := 229) (by decide +kernel)
set_option maxRecDepth 100000 in
theorem wg9_6 : Cond.exactly (.string RX4 113) "java/lang/String" ∈ flatC (Cond.and given_1 narrow_1) := List.mem_of_getElem? (i := 263) (by decide +kernel)
set_option maxRecDepth 100000 in
theorem wg9_7 : Cond.exactly (.string RX4 132) "java/lang/String" ∈ flatC (Cond.and given_1 narrow_1) := List.mem_of_getElem? (i := 290) (by decide +kernel)
set_option maxRecDepth 100000 in
theorem wg9_8 : Cond.exactly (.string RX4 143) "java/lang/String" ∈ flatC (Cond.and given_1 narrow_1) := List.mem_of_getElem? (i := 315) (by decide +kernel)
set_option maxRecDepth 100000 in
theorem wg9_9 : Cond.exactly (.string RX4 159) "java/lang/String" ∈ flatC (Cond.and given_1 narrow_1) := List.mem_of_getElem? (i := 190) (by decide +kernel)
set_option maxRecDepth 100000 in
theorem wg9_10 : Cond.not (.castable nIAE nIOB) ∈ flatC (Cond.and given_1 narrow_1) := List.mem_of_getElem? (i := 44) (by decide +kernel)
set_option maxRecDepth 100000 in
theorem wg9_11 : Cond.not (.castable nIOB nISE) ∈ flatC (Cond.and given_1 narrow_1) := List.mem_of_getElem? (i := 60) (by decide +kernel)
set_option maxRecDepth 100000 in
theorem wg9_12 : Cond.not (.castable nIAE nISE) ∈ flatC (Cond.and given_1 narrow_1) := List.mem_of_getElem? (i := 61) (by decide +kernel)
set_option maxRecDepth 100000 in
theorem wg9_13 : Cond.not (.castable nUOE nISE) ∈ flatC (Cond.and given_1 narrow_1) := List.mem_of_getElem? (i := 62) (by decide +kernel)
set_option maxRecDepth 100000 in
theorem wg9_14 : Cond.not (.castable nUOE nIAE) ∈ flatC (Cond.and given_1 narrow_1) := List.mem_of_getElem? (i := 54) (by decide +kernel)
set_option maxRecDepth 100000 in
theorem wg9_15 : Cond.isRef (.static Bundle.tN "UNASSIGNED_STACK" Bundle.steD) ∈ flatC (Cond.and given_1 narrow_1) := List.mem_of_getElem? (i := 37) (by decide +kernel)
set_option maxRecDepth 100000 in
theorem wg9_16 : Cond.isRef (.static Bundle.tN "SUPPRESSED_SENTINEL" Bundle.listD) ∈ flatC (Cond.and given_1 narrow_1) := List.mem_of_getElem? (i := 38) (by decide +kernel)
set_option maxRecDepth 100000 in
theorem wg9_17 : Cond.arrayOf (.static RX0 "STEP" "[I") .int ∈ flatC (Cond.and given_1 narrow_1) := List.mem_of_getElem? (i := 16) (by decide +kernel)
set_option maxRecDepth 100000 in
theorem wg9_18 : Cond.eq (.length (.static RX0 "STEP" "[I")) (.int 8) ∈ flatC (Cond.and given_1 narrow_1) := List.mem_of_getElem? (i := 17) (by decide +kernel)
set_option maxRecDepth 100000 in
theorem wg9_19 : Cond.eq (.elem (.static RX0 "STEP" "[I") (.int 0)) (.int (8)) ∈ flatC (Cond.and given_1 narrow_1) := List.mem_of_getElem? (i := 18) (by decide +kernel)
set_option maxRecDepth 100000 in
theorem wg9_20 : Cond.eq (.elem (.static RX0 "STEP" "[I") (.int 1)) (.int (-8)) ∈ flatC (Cond.and given_1 narrow_1) := List.mem_of_getElem? (i := 19) (by decide +kernel)
set_option maxRecDepth 100000 in
theorem wg9_21 : Cond.eq (.elem (.static RX0 "STEP" "[I") (.int 2)) (.int (1)) ∈ flatC (Cond.and given_1 narrow_1) := List.mem_of_getElem? (i := 20) (by decide +kernel)
set_option maxRecDepth 100000 in
theorem wg9_22 : Cond.eq (.elem (.static RX0 "STEP" "[I") (.int 3)) (.int (-1)) ∈ flatC (Cond.and given_1 narrow_1) := List.mem_of_getElem? (i := 21) (by decide +kernel)
set_option maxRecDepth 100000 in
theorem wg9_23 : Cond.eq (.elem (.static RX0 "STEP" "[I") (.int 4)) (.int (9)) ∈ flatC (Cond.and given_1 narrow_1) := List.mem_of_getElem? (i := 22) (by decide +kernel)
set_option maxRecDepth 100000 in
theorem wg9_24 : Cond.eq (.elem (.static RX0 "STEP" "[I") (.int 5)) (.int (7)) ∈ flatC (Cond.and given_1 narrow_1) := List.mem_of_getElem? (i := 23) (by decide +kernel)
set_option maxRecDepth 100000 in
theorem wg9_25 : Cond.eq (.elem (.static RX0 "STEP" "[I") (.int 6)) (.int (-7)) ∈ flatC (Cond.and given_1 narrow_1) := List.mem_of_getElem? (i := 24) (by decide +kernel)
set_option maxRecDepth 100000 in
theorem wg9_26 : Cond.eq (.elem (.static RX0 "STEP" "[I") (.int 7)) (.int (-9)) ∈ flatC (Cond.and given_1 narrow_1) := List.mem_of_getElem? (i := 25) (by decide +kernel)
set_option maxRecDepth 100000 in
theorem wg9_27 : Cond.arrayOf (.static RX0 "INSIDE" "[J") .long ∈ flatC (Cond.and given_1 narrow_1) := List.mem_of_getElem? (i := 27) (by decide +kernel)
set_option maxRecDepth 100000 in
theorem wg9_28 : Cond.eq (.length (.static RX0 "INSIDE" "[J")) (.int 8) ∈ flatC (Cond.and given_1 narrow_1) := List.mem_of_getElem? (i := 28) (by decide +kernel)
set_option maxRecDepth 100000 in
theorem wg9_29 : Cond.eq (.elem (.static RX0 "INSIDE" "[J") (.int 0)) (.long (-1)) ∈ flatC (Cond.and given_1 narrow_1) := List.mem_of_getElem? (i := 29) (by decide +kernel)
set_option maxRecDepth 100000 in
theorem wg9_30 : Cond.eq (.elem (.static RX0 "INSIDE" "[J") (.int 1)) (.long (-1)) ∈ flatC (Cond.and given_1 narrow_1) := List.mem_of_getElem? (i := 30) (by decide +kernel)
set_option maxRecDepth 100000 in
theorem wg9_31 : Cond.eq (.elem (.static RX0 "INSIDE" "[J") (.int 2)) (.long (9187201950435737471)) ∈ flatC (Cond.and given_1 narrow_1) := List.mem_of_getElem? (i := 31) (by decide +kernel)
set_option maxRecDepth 100000 in
theorem wg9_32 : Cond.eq (.elem (.static RX0 "INSIDE" "[J") (.int 3)) (.long (-72340172838076674)) ∈ flatC (Cond.and given_1 narrow_1) := List.mem_of_getElem? (i := 32) (by decide +kernel)
set_option maxRecDepth 100000 in
theorem wg9_33 : Cond.eq (.elem (.static RX0 "INSIDE" "[J") (.int 4)) (.long (9187201950435737471)) ∈ flatC (Cond.and given_1 narrow_1) := List.mem_of_getElem? (i := 33) (by decide +kernel)
set_option maxRecDepth 100000 in
theorem wg9_34 : Cond.eq (.elem (.static RX0 "INSIDE" "[J") (.int 5)) (.long (-72340172838076674)) ∈ flatC (Cond.and given_1 narrow_1) := List.mem_of_getElem? (i := 34) (by decide +kernel)
set_option maxRecDepth 100000 in
theorem wg9_35 : Cond.eq (.elem (.static RX0 "INSIDE" "[J") (.int 6)) (.long (9187201950435737471)) ∈ flatC (Cond.and given_1 narrow_1) := List.mem_of_getElem? (i := 35) (by decide +kernel)
set_option maxRecDepth 100000 in
theorem wg9_36 : Cond.eq (.elem (.static RX0 "INSIDE" "[J") (.int 7)) (.long (-72340172838076674)) ∈ flatC (Cond.and given_1 narrow_1) := List.mem_of_getElem? (i := 36) (by decide +kernel)
set_option maxRecDepth 100000 in
theorem wg9_37 : Cond.arrayOf (.static RX2 "FIRST_RANK" "[I") .int ∈ flatC (Cond.and given_1 narrow_1) := List.mem_of_getElem? (i := 5) (by decide +kernel)
set_option maxRecDepth 100000 in
theorem wg9_38 : Cond.eq (.length (.static RX2 "FIRST_RANK" "[I")) (.int 8) ∈ flatC (Cond.and given_1 narrow_1) := List.mem_of_getElem? (i := 6) (by decide +kernel)
set_option maxRecDepth 100000 in
theorem wg9_39 : Cond.eq (.elem (.static RX2 "FIRST_RANK" "[I") (.int 0)) (.int (4)) ∈ flatC (Cond.and given_1 narrow_1) := List.mem_of_getElem? (i := 7) (by decide +kernel)
set_option maxRecDepth 100000 in
theorem wg9_40 : Cond.eq (.elem (.static RX2 "FIRST_RANK" "[I") (.int 1)) (.int (2)) ∈ flatC (Cond.and given_1 narrow_1) := List.mem_of_getElem? (i := 8) (by decide +kernel)
set_option maxRecDepth 100000 in
theorem wg9_41 : Cond.eq (.elem (.static RX2 "FIRST_RANK" "[I") (.int 2)) (.int (3)) ∈ flatC (Cond.and given_1 narrow_1) := List.mem_of_getElem? (i := 9) (by decide +kernel)
set_option maxRecDepth 100000 in
theorem wg9_42 : Cond.eq (.elem (.static RX2 "FIRST_RANK" "[I") (.int 3)) (.int (5)) ∈ flatC (Cond.and given_1 narrow_1) := List.mem_of_getElem? (i := 10) (by decide +kernel)
set_option maxRecDepth 100000 in
theorem wg9_43 : Cond.eq (.elem (.static RX2 "FIRST_RANK" "[I") (.int 4)) (.int (6)) ∈ flatC (Cond.and given_1 narrow_1) := List.mem_of_getElem? (i := 11) (by decide +kernel)
set_option maxRecDepth 100000 in
theorem wg9_44 : Cond.eq (.elem (.static RX2 "FIRST_RANK" "[I") (.int 5)) (.int (3)) ∈ flatC (Cond.and given_1 narrow_1) := List.mem_of_getElem? (i := 12) (by decide +kernel)
set_option maxRecDepth 100000 in
theorem wg9_45 : Cond.eq (.elem (.static RX2 "FIRST_RANK" "[I") (.int 6)) (.int (2)) ∈ flatC (Cond.and given_1 narrow_1) := List.mem_of_getElem? (i := 13) (by decide +kernel)
set_option maxRecDepth 100000 in
theorem wg9_46 : Cond.eq (.elem (.static RX2 "FIRST_RANK" "[I") (.int 7)) (.int (4)) ∈ flatC (Cond.and given_1 narrow_1) := List.mem_of_getElem? (i := 14) (by decide +kernel)
section
variable {b : Nat} {s : State} {A : Nat → Prop}
theorem strR {k : Nat} {tx : String} {args : Array Value} {s : State} (h1 : (Cond.stringRef RX4 k tx).before args s = true) (h2 : (Cond.exactly (.string RX4 k) "java/lang/String").before args s = true) : ∃ a, vk_R RX4 k tx a s := by
  obtain ⟨a, -, -, -, h, -⟩ := Cond.exactly_spec h2
  exact ⟨a, vk_R.of (A := args) h1 h⟩
theorem XV_start (hts : ∀ w ∈ lw_tbl, w.before #[Value.ref b] s = true) (hgv : (Cond.and given_1 narrow_1).before #[Value.ref b] s = true) : XV s := ⟨va_Nw.of rfl (hts _ wt9_0), va_Nw.of rfl (hts _ wt9_1), va_Nw.of rfl (hts _ wt9_2), va_Nw.of rfl (hts _ wt9_3), va_Nw.of rfl (hts _ wt9_4), va_Nw.of rfl (hts _ wt9_5), va_Nw.of rfl (hts _ wt9_6), strR (hts _ wt9_7) (flat_of_before _ hgv _ wg9_0), strR (hts _ wt9_8) (flat_of_before _ hgv _ wg9_1), strR (hts _ wt9_9) (flat_of_before _ hgv _ wg9_2), strR (hts _ wt9_10) (flat_of_before _ hgv _ wg9_3), strR (hts _ wt9_11) (flat_of_before _ hgv _ wg9_4), strR (hts _ wt9_12) (flat_of_before _ hgv _ wg9_5), strR (hts _ wt9_13) (flat_of_before _ hgv _ wg9_6), strR (hts _ wt9_14) (flat_of_before _ hgv _ wg9_7), strR (hts _ wt9_15) (flat_of_before _ hgv _ wg9_8), strR (hts _ wt9_16) (flat_of_before _ hgv _ wg9_9), va_Nc.of (flat_of_before _ hgv _ wg9_10), va_Nc.of (flat_of_before _ hgv _ wg9_11), va_Nc.of (flat_of_before _ hgv _ wg9_12), va_Nc.of (flat_of_before _ hgv _ wg9_13), va_Nc.of (flat_of_before _ hgv _ wg9_14)⟩
theorem EN_start (hts : ∀ w ∈ lw_tbl, w.before #[Value.ref b] s = true) : EN s := by
  unfold EN nestL
  refine List.forall_mem_cons.mpr ⟨va_Nw.of rfl (hts _ wt9_32), List.forall_mem_cons.mpr ⟨va_Nw.of rfl (hts _ wt9_33), List.forall_mem_cons.mpr ⟨va_Nw.of rfl (hts _ wt9_34), List.forall_mem_cons.mpr ⟨va_Nw.of rfl (hts _ wt9_35), List.forall_mem_cons.mpr ⟨va_Nw.of rfl (hts _ wt9_36), List.forall_mem_cons.mpr ⟨va_Nw.of rfl (hts _ wt9_37), List.forall_mem_cons.mpr ⟨va_Nw.of rfl (hts _ wt9_38), List.forall_mem_cons.mpr ⟨va_Nw.of rfl (hts _ wt9_39), List.forall_mem_cons.mpr ⟨va_Nw.of rfl (hts _ wt9_40), List.forall_mem_cons.mpr ⟨va_Nw.of rfl (hts _ wt9_41), fun _ h => nomatch h⟩⟩⟩⟩⟩⟩⟩⟩⟩⟩
theorem T_STEP (hts : ∀ w ∈ lw_tbl, w.before #[Value.ref b] s = true) (hgv : (Cond.and given_1 narrow_1).before #[Value.ref b] s = true) (hA : ∀ a : Nat, a < s.heap.size → ¬ A a) : ∃ t : Nat, va_Z RX0 "STEP" "[I" (.ref t) A s s.heap ∧ va_T .int t 8 stF A s s.heap := by
  have hel : ∀ j : Nat, j < 8 → (Term.elem (.static RX0 "STEP" "[I") (.int (Int32.ofNat j))).eval #[Value.ref b] s none [] s = some (stF j) := by
    intro j hj
    have hj : j = 0 ∨ j = 1 ∨ j = 2 ∨ j = 3 ∨ j = 4 ∨ j = 5 ∨ j = 6 ∨ j = 7 := by omega
    rcases hj with rfl | rfl | rfl | rfl | rfl | rfl | rfl | rfl
    · exact va_eqt (flat_of_before _ hgv _ wg9_19)
    · exact va_eqt (flat_of_before _ hgv _ wg9_20)
    · exact va_eqt (flat_of_before _ hgv _ wg9_21)
    · exact va_eqt (flat_of_before _ hgv _ wg9_22)
    · exact va_eqt (flat_of_before _ hgv _ wg9_23)
    · exact va_eqt (flat_of_before _ hgv _ wg9_24)
    · exact va_eqt (flat_of_before _ hgv _ wg9_25)
    · exact va_eqt (flat_of_before _ hgv _ wg9_26)
  obtain ⟨t, ht, hT⟩ := va_Tof (f := stF) (A := A) (N := 8) (by decide) (flat_of_before _ hgv _ wg9_17) (va_eqt (flat_of_before _ hgv _ wg9_18)) hel hA
  exact ⟨t, va_Zref (hts _ wt9_17) (hts _ wt9_22) ht hA, hT⟩
theorem T_INSIDE (hts : ∀ w ∈ lw_tbl, w.before #[Value.ref b] s = true) (hgv : (Cond.and given_1 narrow_1).before #[Value.ref b] s = true) (hA : ∀ a : Nat, a < s.heap.size → ¬ A a) : ∃ t : Nat, va_Z RX0 "INSIDE" "[J" (.ref t) A s s.heap ∧ va_T .long t 8 inF A s s.heap := by
  have hel : ∀ j : Nat, j < 8 → (Term.elem (.static RX0 "INSIDE" "[J") (.int (Int32.ofNat j))).eval #[Value.ref b] s none [] s = some (inF j) := by
    intro j hj
    have hj : j = 0 ∨ j = 1 ∨ j = 2 ∨ j = 3 ∨ j = 4 ∨ j = 5 ∨ j = 6 ∨ j = 7 := by omega
    rcases hj with rfl | rfl | rfl | rfl | rfl | rfl | rfl | rfl
    · exact va_eqtl (flat_of_before _ hgv _ wg9_29)
    · exact va_eqtl (flat_of_before _ hgv _ wg9_30)
    · exact va_eqtl (flat_of_before _ hgv _ wg9_31)
    · exact va_eqtl (flat_of_before _ hgv _ wg9_32)
    · exact va_eqtl (flat_of_before _ hgv _ wg9_33)
    · exact va_eqtl (flat_of_before _ hgv _ wg9_34)
    · exact va_eqtl (flat_of_before _ hgv _ wg9_35)
    · exact va_eqtl (flat_of_before _ hgv _ wg9_36)
  obtain ⟨t, ht, hT⟩ := va_Tof (f := inF) (A := A) (N := 8) (by decide) (flat_of_before _ hgv _ wg9_27) (va_eqt (flat_of_before _ hgv _ wg9_28)) hel hA
  exact ⟨t, va_Zref (hts _ wt9_18) (hts _ wt9_22) ht hA, hT⟩
theorem T_FIRST_RANK (hts : ∀ w ∈ lw_tbl, w.before #[Value.ref b] s = true) (hgv : (Cond.and given_1 narrow_1).before #[Value.ref b] s = true) (hA : ∀ a : Nat, a < s.heap.size → ¬ A a) : ∃ t : Nat, va_Z RX2 "FIRST_RANK" "[I" (.ref t) A s s.heap ∧ va_T .int t 8 frF A s s.heap := by
  have hel : ∀ j : Nat, j < 8 → (Term.elem (.static RX2 "FIRST_RANK" "[I") (.int (Int32.ofNat j))).eval #[Value.ref b] s none [] s = some (frF j) := by
    intro j hj
    have hj : j = 0 ∨ j = 1 ∨ j = 2 ∨ j = 3 ∨ j = 4 ∨ j = 5 ∨ j = 6 ∨ j = 7 := by omega
    rcases hj with rfl | rfl | rfl | rfl | rfl | rfl | rfl | rfl
    · exact va_eqt (flat_of_before _ hgv _ wg9_39)
    · exact va_eqt (flat_of_before _ hgv _ wg9_40)
    · exact va_eqt (flat_of_before _ hgv _ wg9_41)
    · exact va_eqt (flat_of_before _ hgv _ wg9_42)
    · exact va_eqt (flat_of_before _ hgv _ wg9_43)
    · exact va_eqt (flat_of_before _ hgv _ wg9_44)
    · exact va_eqt (flat_of_before _ hgv _ wg9_45)
    · exact va_eqt (flat_of_before _ hgv _ wg9_46)
  obtain ⟨t, ht, hT⟩ := va_Tof (f := frF) (A := A) (N := 8) (by decide) (flat_of_before _ hgv _ wg9_37) (va_eqt (flat_of_before _ hgv _ wg9_38)) hel hA
  exact ⟨t, va_Zref (hts _ wt9_19) (hts _ wt9_23) ht hA, hT⟩
theorem EV_start (hts : ∀ w ∈ lw_tbl, w.before #[Value.ref b] s = true) (hgv : (Cond.and given_1 narrow_1).before #[Value.ref b] s = true) (hA : ∀ a : Nat, a < s.heap.size → ¬ A a) : EV A s s.heap := ⟨EN_start hts, T_STEP hts hgv hA, T_INSIDE hts hgv hA, T_FIRST_RANK hts hgv hA, vx_Zqof (hts _ wt9_20) (hts _ wt9_24) (flat_of_before _ hgv _ wg9_15) hA, vx_Zqof (hts _ wt9_21) (hts _ wt9_24) (flat_of_before _ hgv _ wg9_16) hA⟩
end
theorem arr_start {args : Array Value} {s : State} {ty : FieldType} (hty : ∀ C, ty ≠ .object C) (h : (Cond.arrayClass ty).before args s = true) : ∃ cA : ClassId, ArrOfT s cA ty ∧ va_RA s cA ty := by
  obtain ⟨cA, kA, comp, h1, h2, h3⟩ := Cond.arrayClass_spec h
  refine ⟨cA, fun n z => ⟨fun k h => (by cases h), kA, h2, comp, h3⟩, ?_⟩
  cases ty with
  | object C => exact absurd rfl (hty C)
  | _ => exact h1
theorem K_start {b : Nat} {s : State} (hts : ∀ w ∈ lw_tbl, w.before #[Value.ref b] s = true) : ∃ (D : va_G) (cI cJ : ClassId), va_K D classes [(cI, .int), (cJ, .long)] s := by
  obtain ⟨cI, hI⟩ := arr_start (fun C h => by cases h) (hts _ wt9_25)
  obtain ⟨cJ, hJ⟩ := arr_start (fun C h => by cases h) (hts _ wt9_26)
  have hG : ∀ w ∈ wsL_law, w.before #[Value.ref b] s = true := fun w h => hts w (wsL_in w h)
  obtain ⟨c0, i0, k0⟩ := u_known (C := RX1) (T := TX1) (N := 2) (n := 2) hG wu_X1 (hts _ wt9_27)
  obtain ⟨c1, i1, k1⟩ := u_known (C := RX2) (T := TX2) (N := 8) (n := 8) hG wu_X2 (hts _ wt9_28)
  obtain ⟨c2, i2, k2⟩ := u_known (C := RX3) (T := TX3) (N := 7) (n := 7) hG wu_X3 (hts _ wt9_29)
  obtain ⟨c3, i3, k3⟩ := u_known (C := RX4) (T := TX4) (N := 6) (n := 6) hG wu_X4 (hts _ wt9_30)
  obtain ⟨c4, i4, k4⟩ := u_known (C := RX5) (T := TX5) (N := 7) (n := 7) hG wu_X5 (hts _ wt9_31)
  refine ⟨(fun k => if k = 0 then c0 else if k = 1 then c1 else if k = 2 then c2 else if k = 3 then c3 else c4, fun k => if k = 0 then i0 else if k = 1 then i1 else if k = 2 then i2 else if k = 3 then i3 else i4), cI, cJ, ?_, ?_⟩
  · intro k q hq
    match k, hq with
    | 0, hq => cases hq; exact k0
    | 1, hq => cases hq; exact k1
    | 2, hq => cases hq; exact k2
    | 3, hq => cases hq; exact k3
    | 4, hq => cases hq; exact k4
    | k + 5, hq => simp [classes] at hq
  · intro k q hq
    match k, hq with
    | 0, hq => cases hq; exact hI
    | 1, hq => cases hq; exact hJ
    | k + 2, hq => simp at hq
