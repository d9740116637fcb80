set_option maxRecDepth 20000 in
theorem wsL_law_in0_1 : ∀ w ∈ wsL_law0_r1, w ∈ lw_tbl := fun w h => (goodIn_r _ [36, 37, 20, 80, 38, 39, 40, 41, 42, 43, 44, 45, 21, 194, 81, 82, 22, 195, 110, 111, 24, 196, 126, 127] (by decide +kernel) (by decide +kernel) w h).1
set_option maxRecDepth 20000 in
theorem wsL_law_in0_2 : ∀ w ∈ wsL_law0_r2, w ∈ lw_tbl := fun w h => (goodIn_r _ [25, 197, 160, 161, 26, 198, 183, 184, 27, 199, 47, 48, 49, 50, 55, 83, 84, 85, 86, 90, 94, 87, 88, 23] (by decide +kernel) (by decide +kernel) w h).1
set_option maxRecDepth 20000 in
theorem wsL_law_in0_3 : ∀ w ∈ wsL_law0_r3, w ∈ lw_tbl := fun w h => (goodIn_r _ [89, 113, 114, 115, 116, 117, 129, 130, 131, 132, 134, 136, 138, 142, 133, 163, 164, 165, 166, 186, 187, 188, 193, 189] (by decide +kernel) (by decide +kernel) w h).1
set_option maxRecDepth 20000 in
theorem wsL_law_in0_4 : ∀ w ∈ wsL_law0_r4, w ∈ lw_tbl := fun w h => (goodIn_r _ [531, 532, 19, 533, 534, 535, 536, 537, 538, 443, 366, 480, 213, 214, 215, 216, 58, 217, 218, 219, 220, 64, 375, 376] (by decide +kernel) (by decide +kernel) w h).1
set_option maxRecDepth 20000 in
theorem wsL_law_in0_5 : ∀ w ∈ wsL_law0_r5, w ∈ lw_tbl := fun w h => (goodIn_r _ [377, 378, 293, 379, 380, 381, 382, 298, 32, 383, 385, 6, 386, 387, 389, 7, 390, 391, 31, 407, 409, 8, 410, 412] (by decide +kernel) (by decide +kernel) w h).1
set_option maxRecDepth 20000 in
theorem wsL_law_in0_6 : ∀ w ∈ wsL_law0_r6, w ∈ lw_tbl := fun w h => (goodIn_r _ [256, 257, 258, 249, 250, 414, 415, 416, 417, 67, 418, 419, 420, 421, 118, 422, 423, 425, 9, 426, 61, 427, 242, 243] (by decide +kernel) (by decide +kernel) w h).1
set_option maxRecDepth 20000 in
theorem wsL_law_in0_7 : ∀ w ∈ wsL_law0_r7, w ∈ lw_tbl := fun w h => (goodIn_r _ [244, 245, 246, 247, 429, 431, 10, 432, 433, 435, 11, 436, 66, 97, 437, 438, 440, 12, 441, 92, 101, 442, 280, 281] (by decide +kernel) (by decide +kernel) w h).1
set_option maxRecDepth 20000 in
theorem wsL_law_in0_8 : ∀ w ∈ wsL_law0_r8, w ∈ lw_tbl := fun w h => (goodIn_r _ [282, 444, 445, 446, 447, 448, 449, 450, 451, 93, 452, 454, 13, 455, 456, 33, 472, 473, 474, 475, 476, 477, 478, 479] (by decide +kernel) (by decide +kernel) w h).1
set_option maxRecDepth 20000 in
theorem wsL_law_in0_9 : ∀ w ∈ wsL_law0_r9, w ∈ lw_tbl := fun w h => (goodIn_r _ [99, 481, 482, 483, 484, 485, 486, 487, 488, 489, 490, 491, 492, 493, 494, 539, 540, 541, 542, 543, 544, 545, 98, 547] (by decide +kernel) (by decide +kernel) w h).1
set_option maxRecDepth 20000 in
theorem wsL_law_in0_10 : ∀ w ∈ wsL_law0_r10, w ∈ lw_tbl := fun w h => (goodIn_r _ [548, 549, 550, 551, 552, 553, 503, 504, 505, 506, 57, 168, 62, 171, 52, 169, 95, 56, 170, 91, 507, 508, 265, 266] (by decide +kernel) (by decide +kernel) w h).1
set_option maxRecDepth 20000 in
theorem wsL_law_in0_11 : ∀ w ∈ wsL_law0_r11, w ∈ lw_tbl := fun w h => (goodIn_r _ [267, 509, 510, 511, 513, 514, 515, 516, 518, 14, 519, 520, 521, 522, 523, 524, 525, 526, 554, 555, 556, 557, 558, 559] (by decide +kernel) (by decide +kernel) w h).1
set_option maxRecDepth 20000 in
theorem wsL_law_in0_12 : ∀ w ∈ wsL_law0_r12, w ∈ lw_tbl := fun w h => (goodIn_r _ [560, 561, 562, 563, 564, 565, 566, 567, 568, 569, 570, 571, 572, 574, 15, 575, 527, 528, 529, 530, 577, 578, 579, 580] (by decide +kernel) (by decide +kernel) w h).1
set_option maxRecDepth 20000 in
theorem wsL_law_in0_13 : ∀ w ∈ wsL_law0_r13, w ∈ lw_tbl := fun w h => (goodIn_r _ [581, 582, 583, 584, 585, 586, 587, 167, 588, 589, 590, 591, 592, 593, 594, 595, 596, 597, 598, 599, 496, 497, 498, 499] (by decide +kernel) (by decide +kernel) w h).1
set_option maxRecDepth 20000 in
theorem wsL_law_in0_14 : ∀ w ∈ wsL_law0_r14, w ∈ lw_tbl := fun w h => (goodIn_r _ [500, 501, 502, 600, 601, 602, 603, 604, 605, 606, 607, 608, 609, 610, 611, 612, 613, 614, 615, 616, 617, 141, 229, 230] (by decide +kernel) (by decide +kernel) w h).1
set_option maxRecDepth 20000 in
theorem wsL_law_in0_15 : ∀ w ∈ wsL_law0_r15, w ∈ lw_tbl := fun w h => (goodIn_r _ [231, 232, 140, 143, 233, 234, 235, 236, 237, 239, 0, 240, 60, 241, 251, 253, 1, 254, 65, 96, 255, 260, 262, 2] (by decide +kernel) (by decide +kernel) w h).1
set_option maxRecDepth 20000 in
theorem wsL_law_in0_16 : ∀ w ∈ wsL_law0_r16, w ∈ lw_tbl := fun w h => (goodIn_r _ [263, 53, 264, 268, 270, 3, 271, 144, 100, 272, 273, 274, 275, 277, 4, 278, 279, 618, 619, 620, 621, 622, 623, 624] (by decide +kernel) (by decide +kernel) w h).1
set_option maxRecDepth 20000 in
theorem wsL_law_in0_17 : ∀ w ∈ wsL_law0_r17, w ∈ lw_tbl := fun w h => (goodIn_r _ [137, 625, 627, 16, 628, 630, 631, 632, 633, 634, 635, 636, 139, 290, 291, 292, 294, 295, 296, 297, 367, 368, 369, 370] (by decide +kernel) (by decide +kernel) w h).1
set_option maxRecDepth 20000 in
theorem wsL_law_in0_18 : ∀ w ∈ wsL_law0_r18, w ∈ lw_tbl := fun w h => (goodIn_r _ [371, 372, 373, 637, 638, 639, 221, 222, 223, 224, 102, 225, 226, 227, 228, 135, 283, 284, 285, 286, 287, 289, 288, 34] (by decide +kernel) (by decide +kernel) w h).1
set_option maxRecDepth 20000 in
theorem wsL_law_in0_19 : ∀ w ∈ wsL_law0_r19, w ∈ lw_tbl := fun w h => (goodIn_r _ [640, 641, 642, 643, 644, 645, 646, 647, 648, 649, 68, 650, 651, 652, 653, 654, 655, 656, 657, 59, 51, 63, 658, 659] (by decide +kernel) (by decide +kernel) w h).1
set_option maxRecDepth 20000 in
theorem wsL_law_in0_20 : ∀ w ∈ wsL_law0_r20, w ∈ lw_tbl := fun w h => (goodIn_r _ [660, 661, 663, 17, 664, 665, 667, 18, 668, 670, 671, 35, 672, 673, 674, 675, 676, 677, 678, 679, 680, 681, 682, 54] (by decide +kernel) (by decide +kernel) w h).1
set_option maxRecDepth 20000 in
theorem wsL_law_in0_21 : ∀ w ∈ wsL_law0_r21, w ∈ lw_tbl := fun w h => (goodIn_r _ [683, 684, 685, 686, 687, 688, 689, 690, 691] (by decide +kernel) (by decide +kernel) w h).1
theorem wsL_law_ch : ∀ w ∈ (wsL_law0_r1 ++ (wsL_law0_r2 ++ (wsL_law0_r3 ++ (wsL_law0_r4 ++ (wsL_law0_r5 ++ (wsL_law0_r6 ++ (wsL_law0_r7 ++ (wsL_law0_r8 ++ (wsL_law0_r9 ++ (wsL_law0_r10 ++ (wsL_law0_r11 ++ (wsL_law0_r12 ++ (wsL_law0_r13 ++ (wsL_law0_r14 ++ (wsL_law0_r15 ++ (wsL_law0_r16 ++ (wsL_law0_r17 ++ (wsL_law0_r18 ++ (wsL_law0_r19 ++ (wsL_law0_r20 ++ wsL_law0_r21)))))))))))))))))))), w ∈ lw_tbl := (fun w h => (List.mem_append.mp h).elim (wsL_law_in0_1 w) ((fun w h => (List.mem_append.mp h).elim (wsL_law_in0_2 w) ((fun w h => (List.mem_append.mp h).elim (wsL_law_in0_3 w) ((fun w h => (List.mem_append.mp h).elim (wsL_law_in0_4 w) ((fun w h => (List.mem_append.mp h).elim (wsL_law_in0_5 w) ((fun w h => (List.mem_append.mp h).elim (wsL_law_in0_6 w) ((fun w h => (List.mem_append.mp h).elim (wsL_law_in0_7 w) ((fun w h => (List.mem_append.mp h).elim (wsL_law_in0_8 w) ((fun w h => (List.mem_append.mp h).elim (wsL_law_in0_9 w) ((fun w h => (List.mem_append.mp h).elim (wsL_law_in0_10 w) ((fun w h => (List.mem_append.mp h).elim (wsL_law_in0_11 w) ((fun w h => (List.mem_append.mp h).elim (wsL_law_in0_12 w) ((fun w h => (List.mem_append.mp h).elim (wsL_law_in0_13 w) ((fun w h => (List.mem_append.mp h).elim (wsL_law_in0_14 w) ((fun w h => (List.mem_append.mp h).elim (wsL_law_in0_15 w) ((fun w h => (List.mem_append.mp h).elim (wsL_law_in0_16 w) ((fun w h => (List.mem_append.mp h).elim (wsL_law_in0_17 w) ((fun w h => (List.mem_append.mp h).elim (wsL_law_in0_18 w) ((fun w h => (List.mem_append.mp h).elim (wsL_law_in0_19 w) ((fun w h => (List.mem_append.mp h).elim (wsL_law_in0_20 w) ((fun w h => wsL_law_in0_21 w h) w)) w)) w)) w)) w)) w)) w)) w)) w)) w)) w)) w)) w)) w)) w)) w)) w)) w)) w)) w))
theorem wsL_law_inwsX60 : ∀ w ∈ wsX60, w ∈ lw_tbl := by decide +kernel
theorem wsL_law_inwsX10 : ∀ w ∈ wsX10, w ∈ lw_tbl := by decide +kernel
theorem wsL_law_inwsX20 : ∀ w ∈ wsX20, w ∈ lw_tbl := by decide +kernel
theorem wsL_law_inwsX50 : ∀ w ∈ wsX50, w ∈ lw_tbl := by decide +kernel
theorem wsL_law_inwsX40 : ∀ w ∈ wsX40, w ∈ lw_tbl := by decide +kernel
theorem wsL_law_inwsX00 : ∀ w ∈ wsX00, w ∈ lw_tbl := by decide +kernel
theorem wsL_law_inwsX30 : ∀ w ∈ wsX30, w ∈ lw_tbl := by decide +kernel
theorem wsL_law_inN : ∀ w ∈ ([] : List Cond), w ∈ lw_tbl := fun _ h => absurd h List.not_mem_nil
theorem wsL_law_in0 : ∀ w ∈ wsL_law0, w ∈ lw_tbl := fun w h => ((List.mem_append.mp h).elim (fun h => ((List.mem_append.mp h).elim (fun h => ((List.mem_append.mp h).elim (fun h => ((List.mem_append.mp h).elim (fun h => ((List.mem_append.mp h).elim (fun h => ((List.mem_append.mp h).elim (fun h => ((List.mem_append.mp h).elim (fun h => ((List.mem_append.mp h).elim (fun h => (wsL_law_ch w h)) (fun h => wsL_law_inwsX60 w h))) (fun h => wsL_law_inwsX10 w h))) (fun h => wsL_law_inwsX20 w h))) (fun h => wsL_law_inwsX50 w h))) (fun h => wsL_law_inwsX40 w h))) (fun h => wsL_law_inwsX00 w h))) (fun h => wsL_law_inwsX30 w h))) (fun h => wsL_law_inN w h))
theorem wsL_law_x0 : ∀ w ∈ (vx_atS RX6 59 "java/lang/IllegalStateException" ["java/lang/RuntimeException", "java/lang/Exception"]).filter goodWord, w ∈ lw_tbl := by decide +kernel
theorem wsL_law_x1 : ∀ w ∈ (vx_atS RX6 183 "java/lang/IndexOutOfBoundsException" ["java/lang/RuntimeException", "java/lang/Exception"]).filter goodWord, w ∈ lw_tbl := by decide +kernel
theorem wsL_law_x2 : ∀ w ∈ (nseW).filter goodWord, w ∈ lw_tbl := by decide +kernel
theorem wsL_law_in : ∀ w ∈ wsL_law, w ∈ lw_tbl := fun w h => (List.mem_append.mp h).elim (fun h => (List.mem_append.mp h).elim (fun h => (List.mem_append.mp h).elim (fun h => wsL_law_in0 w h) (fun h => wsL_law_x0 w h)) (fun h => wsL_law_x1 w h)) (fun h => wsL_law_x2 w h)
theorem inlX0 : ∀ w ∈ wsX00, w ∈ wsL_law := fun _ h => List.mem_append_left _ (List.mem_append_left _ (List.mem_append_left _ (List.mem_append_left _ (List.mem_append_left _ (List.mem_append_right _ h)))))
theorem inX0 : ∀ w ∈ wsX00, w ∈ lw_tbl := fun w h => wsL_law_in w (inlX0 w h)
theorem inlX1 : ∀ w ∈ wsX10, w ∈ wsL_law := fun _ h => List.mem_append_left _ (List.mem_append_left _ (List.mem_append_left _ (List.mem_append_left _ (List.mem_append_left _ (List.mem_append_left _ (List.mem_append_left _ (List.mem_append_left _ (List.mem_append_left _ (List.mem_append_right _ h)))))))))
theorem inX1 : ∀ w ∈ wsX10, w ∈ lw_tbl := fun w h => wsL_law_in w (inlX1 w h)
theorem inlX2 : ∀ w ∈ wsX20, w ∈ wsL_law := fun _ h => List.mem_append_left _ (List.mem_append_left _ (List.mem_append_left _ (List.mem_append_left _ (List.mem_append_left _ (List.mem_append_left _ (List.mem_append_left _ (List.mem_append_left _ (List.mem_append_right _ h))))))))
theorem inX2 : ∀ w ∈ wsX20, w ∈ lw_tbl := fun w h => wsL_law_in w (inlX2 w h)
theorem inlX3 : ∀ w ∈ wsX30, w ∈ wsL_law := fun _ h => List.mem_append_left _ (List.mem_append_left _ (List.mem_append_left _ (List.mem_append_left _ (List.mem_append_right _ h))))
theorem inX3 : ∀ w ∈ wsX30, w ∈ lw_tbl := fun w h => wsL_law_in w (inlX3 w h)
theorem inlX4 : ∀ w ∈ wsX40, w ∈ wsL_law := fun _ h => List.mem_append_left _ (List.mem_append_left _ (List.mem_append_left _ (List.mem_append_left _ (List.mem_append_left _ (List.mem_append_left _ (List.mem_append_right _ h))))))
theorem inX4 : ∀ w ∈ wsX40, w ∈ lw_tbl := fun w h => wsL_law_in w (inlX4 w h)
theorem inlX5 : ∀ w ∈ wsX50, w ∈ wsL_law := fun _ h => List.mem_append_left _ (List.mem_append_left _ (List.mem_append_left _ (List.mem_append_left _ (List.mem_append_left _ (List.mem_append_left _ (List.mem_append_left _ (List.mem_append_right _ h)))))))
theorem inX5 : ∀ w ∈ wsX50, w ∈ lw_tbl := fun w h => wsL_law_in w (inlX5 w h)
theorem inlX6 : ∀ w ∈ wsX60, w ∈ wsL_law := fun _ h => List.mem_append_left _ (List.mem_append_left _ (List.mem_append_left _ (List.mem_append_left _ (List.mem_append_left _ (List.mem_append_left _ (List.mem_append_left _ (List.mem_append_left _ (List.mem_append_left _ (List.mem_append_left _ (List.mem_append_right _ h))))))))))
theorem inX6 : ∀ w ∈ wsX60, w ∈ lw_tbl := fun w h => wsL_law_in w (inlX6 w h)
theorem inX7 : ∀ w ∈ wsX70, w ∈ lw_tbl := by decide +kernel
theorem inJx145de : ∀ w ∈ wsJx145de0, w ∈ lw_tbl := by decide +kernel
theorem inJ6 : ∀ w ∈ wsJ60, w ∈ lw_tbl := by decide +kernel
theorem inJ0 : ∀ w ∈ wsJ00, w ∈ lw_tbl := by decide +kernel
theorem inJ10 : ∀ w ∈ wsJ100, w ∈ lw_tbl := by decide +kernel
theorem inJ7 : ∀ w ∈ wsJ70, w ∈ lw_tbl := by decide +kernel
