set_option maxRecDepth 20000 in
theorem ggL_law_X6_init : GoodIn wsL_law wsX6_init := goodIn_r _ [6, 7, 8, 9, 10, 11, 12, 13, 14, 15, 16, 17, 18, 19, 20, 21, 22, 23, 24, 25, 26, 27, 28, 29, 30, 31, 32, 33, 34, 35, 36, 3, 37, 38, 39, 40, 41, 42, 43, 44, 45, 46, 47, 48, 49, 50, 51, 52, 53, 54, 55, 56, 57, 58, 59, 60, 61, 62, 63, 64, 65, 66, 67, 68, 69, 70, 71, 495, 496, 497, 498, 499, 489, 490, 491, 492, 493, 494, 500, 501, 502, 503, 504, 505, 506, 507, 508, 509, 510, 511, 512, 513, 514, 515, 516, 517, 518] (by decide +kernel) (by decide +kernel)
set_option maxRecDepth 20000 in
theorem gL_law_X6_init : GoodIn wsL_law (wsX6_init) := ggL_law_X6_init
set_option maxRecDepth 20000 in
theorem ggL_law_L_drawn : GoodIn wsL_law wsL_drawn := goodIn_r _ [75, 76, 77] (by decide +kernel) (by decide +kernel)
set_option maxRecDepth 20000 in
theorem gL_law_L_drawn : GoodIn wsL_law (va_wsS RL 158 yL_drawn wsL_drawn) := goodIn_app (goodIn_of _ (by decide +kernel)) ggL_law_L_drawn
set_option maxRecDepth 20000 in
theorem gc_refuses_0 : GoodIn wsL_law [.code yL_refuses cL_refuses 10 (some .boolean)] := goodIn_r _ [80] (by decide +kernel) (by decide +kernel)
set_option maxRecDepth 20000 in
theorem gc_wsL_refuses_r1 : GoodIn wsL_law wsL_refuses_r1 := goodIn_r _ [81, 82, 83, 84, 85, 86, 2, 87, 13, 88, 89, 90, 91, 92, 93, 94, 95, 74, 96, 97, 98, 99, 100, 101] (by decide +kernel) (by decide +kernel)
set_option maxRecDepth 20000 in
theorem gc_wsL_refuses_r2 : GoodIn wsL_law wsL_refuses_r2 := goodIn_r _ [102, 103, 104, 21, 17, 105, 106, 107, 108, 109, 110, 111, 112, 113, 114, 115, 116, 117, 118, 119, 120, 121, 12, 122] (by decide +kernel) (by decide +kernel)
set_option maxRecDepth 20000 in
theorem gc_wsL_refuses_r3 : GoodIn wsL_law wsL_refuses_r3 := goodIn_r _ [37, 123, 124, 125, 126, 127, 128, 38, 129, 130, 131, 132, 20, 133, 53, 134, 52, 135, 46, 47, 48, 136, 137, 138] (by decide +kernel) (by decide +kernel)
set_option maxRecDepth 20000 in
theorem gc_wsL_refuses_r4 : GoodIn wsL_law wsL_refuses_r4 := goodIn_r _ [139, 140, 141, 142, 143, 16, 144, 43, 145, 146, 147, 148, 149, 150, 151, 152, 153, 154, 155, 156, 157, 158, 159, 160] (by decide +kernel) (by decide +kernel)
set_option maxRecDepth 20000 in
theorem gc_wsL_refuses_r5 : GoodIn wsL_law wsL_refuses_r5 := goodIn_r _ [161, 162, 163, 164, 165, 166, 167, 168, 44, 169, 170, 171, 172, 173, 174, 175, 176, 177, 178, 179, 180, 181, 182, 183] (by decide +kernel) (by decide +kernel)
set_option maxRecDepth 20000 in
theorem gc_wsL_refuses_r6 : GoodIn wsL_law wsL_refuses_r6 := goodIn_r _ [184, 185, 186, 187, 188, 189, 190, 191, 192, 193, 194, 195, 196, 197, 198, 199, 200, 201, 202, 203, 204, 205, 206, 207] (by decide +kernel) (by decide +kernel)
set_option maxRecDepth 20000 in
theorem gc_wsL_refuses_r7 : GoodIn wsL_law wsL_refuses_r7 := goodIn_r _ [208, 209, 210, 211, 212, 213, 214, 215, 216, 217, 218, 219, 220, 221, 29, 222, 223, 224, 28, 225, 226, 227, 228, 229] (by decide +kernel) (by decide +kernel)
set_option maxRecDepth 20000 in
theorem gc_wsL_refuses_r8 : GoodIn wsL_law wsL_refuses_r8 := goodIn_r _ [230, 231, 232, 233, 234, 235, 236, 237, 238, 239, 240, 241, 242, 243, 244, 245, 246, 247, 248, 249, 250, 66, 251, 252] (by decide +kernel) (by decide +kernel)
set_option maxRecDepth 20000 in
theorem gc_wsL_refuses_r9 : GoodIn wsL_law wsL_refuses_r9 := goodIn_r _ [253, 254, 255, 256, 257, 258, 259, 260, 261, 262, 263, 264, 265, 266, 267, 268, 269, 270, 271, 272, 273, 274, 275, 276] (by decide +kernel) (by decide +kernel)
set_option maxRecDepth 20000 in
theorem gc_wsL_refuses_r10 : GoodIn wsL_law wsL_refuses_r10 := goodIn_r _ [277, 278, 279, 280, 281, 282, 283, 284, 285, 286, 287, 288, 289, 290, 291, 292, 293, 294, 295, 296, 297, 298, 299, 300] (by decide +kernel) (by decide +kernel)
set_option maxRecDepth 20000 in
theorem gc_wsL_refuses_r11 : GoodIn wsL_law wsL_refuses_r11 := goodIn_r _ [301, 302, 303, 304, 305, 306, 307, 308, 309, 310, 311, 312, 313, 314, 315, 316, 317, 318, 319, 320, 321, 322, 323, 324] (by decide +kernel) (by decide +kernel)
set_option maxRecDepth 20000 in
theorem gc_wsL_refuses_r12 : GoodIn wsL_law wsL_refuses_r12 := goodIn_r _ [325, 326, 327, 328, 329, 330, 331, 332, 25, 333, 334, 335, 336, 24, 337, 58, 338, 339, 59, 60, 340, 341, 342, 343] (by decide +kernel) (by decide +kernel)
set_option maxRecDepth 20000 in
theorem gc_wsL_refuses_r13 : GoodIn wsL_law wsL_refuses_r13 := goodIn_r _ [45, 344, 345, 346, 347, 348, 61, 349, 350, 351, 352, 353, 354, 355, 356, 357, 358, 359, 360, 361, 362, 363, 364, 365] (by decide +kernel) (by decide +kernel)
set_option maxRecDepth 20000 in
theorem gc_wsL_refuses_r14 : GoodIn wsL_law wsL_refuses_r14 := goodIn_r _ [366, 367, 368, 369, 370, 371, 372, 373, 374, 375, 376, 377, 378, 379, 380, 381, 382, 383, 384, 385, 386, 387, 388, 389] (by decide +kernel) (by decide +kernel)
set_option maxRecDepth 20000 in
theorem gc_wsL_refuses_r15 : GoodIn wsL_law wsL_refuses_r15 := goodIn_r _ [390, 391, 392, 393, 394, 395, 396, 397, 398, 399, 400, 401, 402, 403, 404, 405, 406, 407, 408, 409, 410] (by decide +kernel) (by decide +kernel)
set_option maxRecDepth 20000 in
theorem gc_refuses_wsX6 : GoodIn wsL_law wsX60 := goodIn_r _ [489, 490, 491, 492, 493, 494] (by decide +kernel) (by decide +kernel)
set_option maxRecDepth 20000 in
theorem gc_refuses_wsX1 : GoodIn wsL_law wsX10 := goodIn_r _ [495, 496, 497, 498, 499] (by decide +kernel) (by decide +kernel)
set_option maxRecDepth 20000 in
theorem gc_refuses_wsX5 : GoodIn wsL_law wsX50 := goodIn_r _ [503, 504, 505] (by decide +kernel) (by decide +kernel)
set_option maxRecDepth 20000 in
theorem gc_refuses_wsX2 : GoodIn wsL_law wsX20 := goodIn_r _ [500, 501, 502] (by decide +kernel) (by decide +kernel)
set_option maxRecDepth 20000 in
theorem gc_refuses_wsX0 : GoodIn wsL_law wsX00 := goodIn_r _ [513, 514, 515, 516, 517] (by decide +kernel) (by decide +kernel)
set_option maxRecDepth 20000 in
theorem gc_refuses_wsX4 : GoodIn wsL_law wsX40 := goodIn_r _ [506, 507, 508, 509, 510, 511, 512] (by decide +kernel) (by decide +kernel)
theorem gc_refuses_c : GoodIn wsL_law (.code yL_refuses cL_refuses 10 (some .boolean) :: (wsL_refuses_r1 ++ (wsL_refuses_r2 ++ (wsL_refuses_r3 ++ (wsL_refuses_r4 ++ (wsL_refuses_r5 ++ (wsL_refuses_r6 ++ (wsL_refuses_r7 ++ (wsL_refuses_r8 ++ (wsL_refuses_r9 ++ (wsL_refuses_r10 ++ (wsL_refuses_r11 ++ (wsL_refuses_r12 ++ (wsL_refuses_r13 ++ (wsL_refuses_r14 ++ wsL_refuses_r15))))))))))))))) := fun w h => (List.mem_cons.mp h).elim (fun e => gc_refuses_0 w (List.mem_singleton.mpr e)) (fun h => (goodIn_app gc_wsL_refuses_r1 (goodIn_app gc_wsL_refuses_r2 (goodIn_app gc_wsL_refuses_r3 (goodIn_app gc_wsL_refuses_r4 (goodIn_app gc_wsL_refuses_r5 (goodIn_app gc_wsL_refuses_r6 (goodIn_app gc_wsL_refuses_r7 (goodIn_app gc_wsL_refuses_r8 (goodIn_app gc_wsL_refuses_r9 (goodIn_app gc_wsL_refuses_r10 (goodIn_app gc_wsL_refuses_r11 (goodIn_app gc_wsL_refuses_r12 (goodIn_app gc_wsL_refuses_r13 (goodIn_app gc_wsL_refuses_r14 (gc_wsL_refuses_r15))))))))))))))) w h)
theorem ggL_law_L_refuses : GoodIn wsL_law wsL_refuses := goodIn_ca (goodIn_ca (goodIn_ca (goodIn_ca (goodIn_ca (goodIn_ca (goodIn_ca (goodIn_ca (goodIn_ca (gc_refuses_c) gc_refuses_wsX6) gc_refuses_wsX1) gc_refuses_wsX5) gc_refuses_wsX2) gc_refuses_wsX0) gc_refuses_wsX4) (goodIn_sub (fun _ h => List.mem_append_left _ (List.mem_append_left _ (List.mem_append_right _ h))) (by decide +kernel))) (goodIn_sub (fun _ h => List.mem_append_left _ (List.mem_append_right _ h)) (by decide +kernel))) (goodIn_sub (fun _ h => List.mem_append_right _ h) (by decide +kernel))
set_option maxRecDepth 20000 in
theorem gL_law_L_refuses : GoodIn wsL_law (va_wsS RL 162 yL_refuses wsL_refuses) := goodIn_app (goodIn_of _ (by decide +kernel)) ggL_law_L_refuses
set_option maxRecDepth 20000 in
theorem ggL_law_L_changed : GoodIn wsL_law wsL_changed := goodIn_ca (goodIn_ca (goodIn_r _ [413, 84, 85, 86, 2, 87, 13, 88, 200, 201, 74, 202, 97, 172, 81, 83, 203, 204, 205, 206, 182, 183, 17, 177, 109, 110, 111, 112, 113, 114, 489, 490, 491, 492, 493, 494, 495, 496, 497, 498, 499, 500, 501, 502] (by decide +kernel) (by decide +kernel)) (goodIn_sub (fun _ h => List.mem_append_right _ h) (by decide +kernel))) (goodIn_sub (fun _ h => List.mem_append_left _ (List.mem_append_right _ h)) (by decide +kernel))
set_option maxRecDepth 20000 in
theorem gL_law_L_changed : GoodIn wsL_law (va_wsS RL 166 yL_changed wsL_changed) := goodIn_app (goodIn_of _ (by decide +kernel)) ggL_law_L_changed
set_option maxRecDepth 20000 in
theorem ggL_law_X6_size : GoodIn wsL_law wsX6_size := goodIn_r _ [417, 17, 418, 489, 490, 491, 492, 493, 494, 500, 501, 502] (by decide +kernel) (by decide +kernel)
set_option maxRecDepth 20000 in
theorem gL_law_X6_size : GoodIn wsL_law (wsV RL 141 RX6 yX6_size wsX6_size) := goodIn_app (goodIn_of _ (by decide +kernel)) ggL_law_X6_size
set_option maxRecDepth 20000 in
theorem ggL_law_X6_lefts : GoodIn wsL_law wsX6_lefts := goodIn_r _ [87, 13, 88, 489, 490, 491, 492, 493, 494, 495, 496, 497, 498, 499] (by decide +kernel) (by decide +kernel)
set_option maxRecDepth 20000 in
theorem gL_law_X6_lefts : GoodIn wsL_law (wsV RL 75 RX6 yX6_lefts wsX6_lefts) := goodIn_app (goodIn_of _ (by decide +kernel)) ggL_law_X6_lefts
set_option maxRecDepth 20000 in
theorem ggL_law_L_newLeft : GoodIn wsL_law wsL_newLeft := goodIn_ca (goodIn_r _ [399, 98, 82, 400, 401, 402, 2, 403, 103, 104, 13, 88, 489, 490, 491, 492, 493, 494, 495, 496, 497, 498, 499] (by decide +kernel) (by decide +kernel)) (goodIn_sub (fun _ h => List.mem_append_left _ (List.mem_append_left _ (List.mem_append_right _ h))) (by decide +kernel))
set_option maxRecDepth 20000 in
theorem gL_law_L_newLeft : GoodIn wsL_law (va_wsS RL 131 yL_newLeft wsL_newLeft) := goodIn_app (goodIn_of _ (by decide +kernel)) ggL_law_L_newLeft
set_option maxRecDepth 20000 in
theorem ggL_law_L_newRight : GoodIn wsL_law wsL_newRight := goodIn_ca (goodIn_r _ [406, 98, 82, 407, 408, 409, 2, 410, 103, 104, 13, 93, 489, 490, 491, 492, 493, 494, 495, 496, 497, 498, 499] (by decide +kernel) (by decide +kernel)) (goodIn_sub (fun _ h => List.mem_append_left _ (List.mem_append_left _ (List.mem_append_right _ h))) (by decide +kernel))
set_option maxRecDepth 20000 in
theorem gL_law_L_newRight : GoodIn wsL_law (va_wsS RL 135 yL_newRight wsL_newRight) := goodIn_app (goodIn_of _ (by decide +kernel)) ggL_law_L_newRight
set_option maxRecDepth 20000 in
theorem ggL_law_X6_rights : GoodIn wsL_law wsX6_rights := goodIn_r _ [92, 13, 93, 489, 490, 491, 492, 493, 494, 495, 496, 497, 498, 499] (by decide +kernel) (by decide +kernel)
set_option maxRecDepth 20000 in
theorem gL_law_X6_rights : GoodIn wsL_law (wsV RL 78 RX6 yX6_rights wsX6_rights) := goodIn_app (goodIn_of _ (by decide +kernel)) ggL_law_X6_rights
set_option maxRecDepth 20000 in
theorem ggL_law_X6_rebuild : GoodIn wsL_law wsX6_rebuild := goodIn_r _ [422, 25, 13, 88, 17, 177, 423, 334, 335, 336, 24, 337, 58, 338, 339, 59, 60, 340, 341, 342, 16, 343, 43, 44, 192, 45, 46, 47, 48, 344, 345, 346, 347, 348, 61, 349, 142, 143, 144, 145, 146, 147, 123, 2, 124, 350, 351, 352, 353, 354, 355, 356, 120, 121, 12, 122, 37, 357, 358, 359, 360, 361, 362, 238, 239, 240, 363, 364, 365, 366, 367, 368, 369, 370, 371, 372, 373, 374, 375, 376, 166, 167, 168, 424, 425, 426, 427, 428, 429, 430, 431, 489, 490, 491, 492, 493, 494, 495, 496, 497, 498, 499, 500, 501, 502, 506, 507, 508, 509, 510, 511, 512] (by decide +kernel) (by decide +kernel)
set_option maxRecDepth 20000 in
theorem gL_law_X6_rebuild : GoodIn wsL_law (wsV RL 170 RX6 yX6_rebuild wsX6_rebuild) := goodIn_app (goodIn_of _ (by decide +kernel)) ggL_law_X6_rebuild
set_option maxRecDepth 20000 in
theorem ggL_law_L_has : GoodIn wsL_law wsL_has := goodIn_ca (goodIn_r _ [195, 97, 81, 196, 197, 198, 2, 199, 13, 105, 106, 107, 108, 109, 110, 111, 112, 113, 114, 88, 115, 116, 117, 118, 93, 119, 120, 121, 12, 122, 37, 123, 124, 489, 490, 491, 492, 493, 494, 495, 496, 497, 498, 499] (by decide +kernel) (by decide +kernel)) (goodIn_sub (fun _ h => List.mem_append_left _ (List.mem_append_right _ h)) (by decide +kernel))
set_option maxRecDepth 20000 in
theorem gL_law_L_has : GoodIn wsL_law (va_wsS RL 90 yL_has wsL_has) := goodIn_app (goodIn_of _ (by decide +kernel)) ggL_law_L_has
set_option maxRecDepth 20000 in
theorem ggL_law_L_ofLeft : GoodIn wsL_law wsL_ofLeft := goodIn_ca (goodIn_ca (goodIn_r _ [202, 97, 172, 81, 83, 203, 204, 205, 2, 206, 182, 183, 17, 177, 109, 110, 111, 112, 113, 114, 13, 88, 489, 490, 491, 492, 493, 494, 500, 501, 502, 495, 496, 497, 498, 499] (by decide +kernel) (by decide +kernel)) (goodIn_sub (fun _ h => List.mem_append_right _ h) (by decide +kernel))) (goodIn_sub (fun _ h => List.mem_append_left _ (List.mem_append_right _ h)) (by decide +kernel))
set_option maxRecDepth 20000 in
theorem gL_law_L_ofLeft : GoodIn wsL_law (va_wsS RL 93 yL_ofLeft wsL_ofLeft) := goodIn_app (goodIn_of _ (by decide +kernel)) ggL_law_L_ofLeft
set_option maxRecDepth 20000 in
theorem ggL_law_L_inAll : GoodIn wsL_law wsL_inAll := goodIn_ca (goodIn_ca (goodIn_r _ [310, 97, 172, 81, 83, 311, 312, 313, 2, 314, 17, 177, 29, 13, 178, 179, 180, 181, 182, 183, 105, 106, 107, 108, 109, 110, 111, 112, 113, 114, 88, 115, 116, 117, 118, 93, 119, 120, 121, 12, 122, 37, 123, 124, 222, 223, 224, 28, 225, 226, 227, 228, 229, 230, 231, 232, 233, 234, 235, 236, 142, 143, 16, 144, 43, 145, 146, 147, 237, 238, 239, 240, 44, 241, 242, 243, 244, 245, 246, 247, 248, 249, 250, 66, 251, 252, 253, 254, 255, 256, 257, 280, 281, 282, 283, 489, 490, 491, 492, 493, 494, 500, 501, 502, 495, 496, 497, 498, 499, 513, 514, 515, 516, 517] (by decide +kernel) (by decide +kernel)) (goodIn_sub (fun _ h => List.mem_append_right _ h) (by decide +kernel))) (goodIn_sub (fun _ h => List.mem_append_left _ (List.mem_append_right _ h)) (by decide +kernel))
set_option maxRecDepth 20000 in
theorem gL_law_L_inAll : GoodIn wsL_law (va_wsS RL 113 yL_inAll wsL_inAll) := goodIn_app (goodIn_of _ (by decide +kernel)) ggL_law_L_inAll
set_option maxRecDepth 20000 in
theorem ggL_law_L_parted : GoodIn wsL_law wsL_parted := goodIn_ca (goodIn_ca (goodIn_r _ [171, 97, 172, 81, 83, 173, 174, 175, 2, 176, 13, 17, 177, 21, 178, 179, 180, 181, 182, 183, 105, 106, 107, 108, 109, 110, 111, 112, 113, 114, 88, 115, 116, 117, 118, 93, 119, 120, 121, 12, 122, 37, 123, 124, 184, 185, 186, 187, 38, 129, 188, 189, 190, 16, 191, 43, 44, 192, 130, 131, 132, 20, 133, 53, 134, 52, 135, 46, 47, 48, 136, 137, 138, 139, 140, 141, 142, 143, 144, 145, 146, 147, 148, 149, 150, 151, 152, 153, 154, 155, 156, 157, 158, 159, 160, 161, 162, 163, 164, 165, 166, 167, 168, 489, 490, 491, 492, 493, 494, 500, 501, 502, 495, 496, 497, 498, 499, 503, 504, 505] (by decide +kernel) (by decide +kernel)) (goodIn_sub (fun _ h => List.mem_append_right _ h) (by decide +kernel))) (goodIn_sub (fun _ h => List.mem_append_left _ (List.mem_append_right _ h)) (by decide +kernel))
set_option maxRecDepth 20000 in
theorem gL_law_L_parted : GoodIn wsL_law (va_wsS RL 87 yL_parted wsL_parted) := goodIn_app (goodIn_of _ (by decide +kernel)) ggL_law_L_parted
set_option maxRecDepth 20000 in
theorem ggL_law_L_joined : GoodIn wsL_law wsL_joined := goodIn_ca (goodIn_ca (goodIn_r _ [96, 97, 98, 81, 82, 99, 100, 101, 2, 102, 103, 104, 13, 21, 17, 105, 106, 107, 108, 109, 110, 111, 112, 113, 114, 88, 115, 116, 117, 118, 93, 119, 120, 121, 12, 122, 37, 123, 124, 125, 126, 127, 128, 38, 129, 130, 131, 132, 20, 133, 53, 134, 52, 135, 46, 47, 48, 136, 137, 138, 139, 140, 141, 142, 143, 16, 144, 43, 145, 146, 147, 148, 149, 150, 151, 152, 153, 154, 155, 156, 157, 158, 159, 160, 161, 162, 163, 164, 165, 166, 167, 168, 44, 489, 490, 491, 492, 493, 494, 495, 496, 497, 498, 499, 503, 504, 505, 500, 501, 502] (by decide +kernel) (by decide +kernel)) (goodIn_sub (fun _ h => List.mem_append_left _ (List.mem_append_left _ (List.mem_append_right _ h))) (by decide +kernel))) (goodIn_sub (fun _ h => List.mem_append_left _ (List.mem_append_right _ h)) (by decide +kernel))
set_option maxRecDepth 20000 in
theorem gL_law_L_joined : GoodIn wsL_law (va_wsS RL 81 yL_joined wsL_joined) := goodIn_app (goodIn_of _ (by decide +kernel)) ggL_law_L_joined
set_option maxRecDepth 20000 in
theorem ggL_law_L_freed : GoodIn wsL_law wsL_freed := goodIn_ca (goodIn_ca (goodIn_r _ [434, 83, 84, 85, 86, 2, 87, 13, 88, 200, 201, 74, 202, 97, 172, 81, 203, 204, 205, 206, 182, 183, 17, 177, 109, 110, 111, 112, 113, 114, 489, 490, 491, 492, 493, 494, 495, 496, 497, 498, 499, 500, 501, 502] (by decide +kernel) (by decide +kernel)) (goodIn_sub (fun _ h => List.mem_append_right _ h) (by decide +kernel))) (goodIn_sub (fun _ h => List.mem_append_left _ (List.mem_append_right _ h)) (by decide +kernel))
set_option maxRecDepth 20000 in
theorem gL_law_L_freed : GoodIn wsL_law (va_wsS RL 173 yL_freed wsL_freed) := goodIn_app (goodIn_of _ (by decide +kernel)) ggL_law_L_freed
set_option maxRecDepth 20000 in
theorem gc_alike_0 : GoodIn wsL_law [.code yL_alike cL_alike 9 (some .boolean)] := goodIn_r _ [437] (by decide +kernel) (by decide +kernel)
set_option maxRecDepth 20000 in
theorem gc_wsL_alike_r1 : GoodIn wsL_law wsL_alike_r1 := goodIn_r _ [84, 85, 86, 2, 87, 13, 88, 89, 90, 91, 92, 93, 438, 439, 440, 441, 442, 414, 415, 416, 417, 17, 418, 443] (by decide +kernel) (by decide +kernel)
set_option maxRecDepth 20000 in
theorem gc_wsL_alike_r2 : GoodIn wsL_law wsL_alike_r2 := goodIn_r _ [444, 445, 446, 33, 447, 448, 449, 32, 450, 71, 451, 452, 453, 454, 455, 47, 456, 457, 458, 459, 460, 461, 462, 463] (by decide +kernel) (by decide +kernel)
set_option maxRecDepth 20000 in
theorem gc_wsL_alike_r3 : GoodIn wsL_law wsL_alike_r3 := goodIn_r _ [464, 123, 124, 465, 466, 467, 468, 469, 470, 471, 472, 473, 474, 475, 476, 477, 478, 479, 480, 481, 482, 483, 484, 29] (by decide +kernel) (by decide +kernel)
set_option maxRecDepth 20000 in
theorem gc_wsL_alike_r4 : GoodIn wsL_law wsL_alike_r4 := goodIn_r _ [222, 223, 224, 28, 225, 226, 227, 228, 229, 230, 231, 232, 233, 234, 235, 236, 142, 143, 16, 144, 43, 145, 146, 147] (by decide +kernel) (by decide +kernel)
set_option maxRecDepth 20000 in
theorem gc_wsL_alike_r5 : GoodIn wsL_law wsL_alike_r5 := goodIn_r _ [237, 238, 239, 240, 44, 241, 242, 243, 244, 245, 246, 247, 248, 249, 250, 66, 251, 252, 253, 254, 255, 256, 257, 280] (by decide +kernel) (by decide +kernel)
set_option maxRecDepth 20000 in
theorem gc_wsL_alike_r6 : GoodIn wsL_law wsL_alike_r6 := goodIn_r _ [281, 282, 283, 284, 285, 286, 287, 485, 486, 487, 488, 315, 316, 74, 317, 97, 81, 318, 319, 320, 321, 109, 110, 111] (by decide +kernel) (by decide +kernel)
set_option maxRecDepth 20000 in
theorem gc_wsL_alike_r7 : GoodIn wsL_law wsL_alike_r7 := goodIn_r _ [112, 113, 114, 215, 216, 217, 218, 219, 220, 221, 258, 259, 260, 261, 262, 263, 264, 115, 116, 117, 118, 265, 266, 267] (by decide +kernel) (by decide +kernel)
set_option maxRecDepth 20000 in
theorem gc_wsL_alike_r8 : GoodIn wsL_law wsL_alike_r8 := goodIn_r _ [268, 200, 201, 202, 172, 83, 203, 204, 205, 206, 182, 183, 177, 322, 323, 324, 325, 326, 327, 328, 207, 208, 209, 210] (by decide +kernel) (by decide +kernel)
set_option maxRecDepth 20000 in
theorem gc_wsL_alike_r9 : GoodIn wsL_law wsL_alike_r9 := goodIn_r _ [211, 212, 213, 214, 193, 194, 195, 196, 197, 198, 199, 105, 106, 107, 108, 119, 120, 121, 12, 122, 37, 296, 297, 298] (by decide +kernel) (by decide +kernel)
set_option maxRecDepth 20000 in
theorem gc_wsL_alike_r10 : GoodIn wsL_law wsL_alike_r10 := goodIn_r _ [299, 300, 301, 302, 178, 179, 180, 181, 303, 304, 305, 306, 307, 308, 309, 310, 311, 312, 313, 314] (by decide +kernel) (by decide +kernel)
set_option maxRecDepth 20000 in
theorem gc_alike_wsX6 : GoodIn wsL_law wsX60 := goodIn_r _ [489, 490, 491, 492, 493, 494] (by decide +kernel) (by decide +kernel)
set_option maxRecDepth 20000 in
theorem gc_alike_wsX1 : GoodIn wsL_law wsX10 := goodIn_r _ [495, 496, 497, 498, 499] (by decide +kernel) (by decide +kernel)
set_option maxRecDepth 20000 in
theorem gc_alike_wsX2 : GoodIn wsL_law wsX20 := goodIn_r _ [500, 501, 502] (by decide +kernel) (by decide +kernel)
set_option maxRecDepth 20000 in
theorem gc_alike_wsX3 : GoodIn wsL_law wsX30 := goodIn_r _ [518] (by decide +kernel) (by decide +kernel)
set_option maxRecDepth 20000 in
theorem gc_alike_wsX0 : GoodIn wsL_law wsX00 := goodIn_r _ [513, 514, 515, 516, 517] (by decide +kernel) (by decide +kernel)
theorem gc_alike_c : GoodIn wsL_law (.code yL_alike cL_alike 9 (some .boolean) :: (wsL_alike_r1 ++ (wsL_alike_r2 ++ (wsL_alike_r3 ++ (wsL_alike_r4 ++ (wsL_alike_r5 ++ (wsL_alike_r6 ++ (wsL_alike_r7 ++ (wsL_alike_r8 ++ (wsL_alike_r9 ++ wsL_alike_r10)))))))))) := fun w h => (List.mem_cons.mp h).elim (fun e => gc_alike_0 w (List.mem_singleton.mpr e)) (fun h => (goodIn_app gc_wsL_alike_r1 (goodIn_app gc_wsL_alike_r2 (goodIn_app gc_wsL_alike_r3 (goodIn_app gc_wsL_alike_r4 (goodIn_app gc_wsL_alike_r5 (goodIn_app gc_wsL_alike_r6 (goodIn_app gc_wsL_alike_r7 (goodIn_app gc_wsL_alike_r8 (goodIn_app gc_wsL_alike_r9 (gc_wsL_alike_r10)))))))))) w h)
theorem ggL_law_L_alike : GoodIn wsL_law wsL_alike := goodIn_ca (goodIn_ca (goodIn_ca (goodIn_ca (goodIn_ca (goodIn_ca (goodIn_ca (gc_alike_c) gc_alike_wsX6) gc_alike_wsX1) gc_alike_wsX2) gc_alike_wsX3) gc_alike_wsX0) (goodIn_sub (fun _ h => List.mem_append_left _ (List.mem_append_right _ h)) (by decide +kernel))) (goodIn_sub (fun _ h => List.mem_append_right _ h) (by decide +kernel))
set_option maxRecDepth 20000 in
theorem gL_law_L_alike : GoodIn wsL_law (va_wsS RL 176 yL_alike wsL_alike) := goodIn_app (goodIn_of _ (by decide +kernel)) ggL_law_L_alike
theorem dL_law_0 : decode cL_law 0 = .ok (.new 8, 3) := by decide +kernel
theorem dL_law_3 : decode cL_law 3 = .ok (.dup, 1) := by decide +kernel
theorem dL_law_4 : decode cL_law 4 = .ok (.invokespecial 157, 3) := by decide +kernel
theorem dL_law_7 : decode cL_law 7 = .ok (.astore_n 1, 1) := by decide +kernel
theorem dL_law_8 : decode cL_law 8 = .ok (.new 8, 3) := by decide +kernel
theorem dL_law_11 : decode cL_law 11 = .ok (.dup, 1) := by decide +kernel
theorem dL_law_12 : decode cL_law 12 = .ok (.invokespecial 157, 3) := by decide +kernel
theorem dL_law_15 : decode cL_law 15 = .ok (.astore_n 2, 1) := by decide +kernel
theorem dL_law_16 : decode cL_law 16 = .ok (.bipush 12, 2) := by decide +kernel
theorem dL_law_18 : decode cL_law 18 = .ok (.newarray .int, 2) := by decide +kernel
theorem dL_law_20 : decode cL_law 20 = .ok (.astore_n 3, 1) := by decide +kernel
theorem dL_law_21 : decode cL_law 21 = .ok (.bipush 20, 2) := by decide +kernel
theorem dL_law_23 : decode cL_law 23 = .ok (.aload_n 0, 1) := by decide +kernel
theorem dL_law_24 : decode cL_law 24 = .ok (.iconst 0, 1) := by decide +kernel
theorem dL_law_25 : decode cL_law 25 = .ok (.invokestatic 158, 3) := by decide +kernel
theorem dL_law_28 : decode cL_law 28 = .ok (.bipush 41, 2) := by decide +kernel
theorem dL_law_30 : decode cL_law 30 = .ok (.irem, 1) := by decide +kernel
theorem dL_law_31 : decode cL_law 31 = .ok (.iadd, 1) := by decide +kernel
theorem dL_law_32 : decode cL_law 32 = .ok (.istore 4, 2) := by decide +kernel
theorem dL_law_34 : decode cL_law 34 = .ok (.iconst 3, 1) := by decide +kernel
theorem dL_law_35 : decode cL_law 35 = .ok (.aload_n 0, 1) := by decide +kernel
theorem dL_law_36 : decode cL_law 36 = .ok (.iconst 0, 1) := by decide +kernel
theorem dL_law_37 : decode cL_law 37 = .ok (.invokestatic 158, 3) := by decide +kernel
theorem dL_law_40 : decode cL_law 40 = .ok (.bipush 41, 2) := by decide +kernel
theorem dL_law_42 : decode cL_law 42 = .ok (.idiv, 1) := by decide +kernel
theorem dL_law_43 : decode cL_law 43 = .ok (.bipush 10, 2) := by decide +kernel
theorem dL_law_45 : decode cL_law 45 = .ok (.irem, 1) := by decide +kernel
theorem dL_law_46 : decode cL_law 46 = .ok (.iadd, 1) := by decide +kernel
theorem dL_law_47 : decode cL_law 47 = .ok (.istore 5, 2) := by decide +kernel
theorem dL_law_49 : decode cL_law 49 = .ok (.iconst 1, 1) := by decide +kernel
theorem dL_law_50 : decode cL_law 50 = .ok (.istore 6, 2) := by decide +kernel
theorem dL_law_52 : decode cL_law 52 = .ok (.iconst 0, 1) := by decide +kernel
theorem dL_law_53 : decode cL_law 53 = .ok (.istore 7, 2) := by decide +kernel
theorem dL_law_55 : decode cL_law 55 = .ok (.iload 7, 2) := by decide +kernel
theorem dL_law_57 : decode cL_law 57 = .ok (.iload 4, 2) := by decide +kernel
theorem dL_law_59 : decode cL_law 59 = .ok (.if_icmp .ge 566, 3) := by decide +kernel
theorem dL_law_62 : decode cL_law 62 = .ok (.iload 6, 2) := by decide +kernel
theorem dL_law_64 : decode cL_law 64 = .ok (.ifCond .eq 561, 3) := by decide +kernel
theorem dL_law_67 : decode cL_law 67 = .ok (.aload_n 0, 1) := by decide +kernel
theorem dL_law_68 : decode cL_law 68 = .ok (.iconst 1, 1) := by decide +kernel
theorem dL_law_69 : decode cL_law 69 = .ok (.iload 7, 2) := by decide +kernel
theorem dL_law_71 : decode cL_law 71 = .ok (.iadd, 1) := by decide +kernel
theorem dL_law_72 : decode cL_law 72 = .ok (.invokestatic 158, 3) := by decide +kernel
theorem dL_law_75 : decode cL_law 75 = .ok (.istore 8, 2) := by decide +kernel
theorem dL_law_77 : decode cL_law 77 = .ok (.iload 8, 2) := by decide +kernel
theorem dL_law_79 : decode cL_law 79 = .ok (.bipush 16, 2) := by decide +kernel
theorem dL_law_81 : decode cL_law 81 = .ok (.idiv, 1) := by decide +kernel
theorem dL_law_82 : decode cL_law 82 = .ok (.istore 9, 2) := by decide +kernel
theorem dL_law_84 : decode cL_law 84 = .ok (.iload 8, 2) := by decide +kernel
theorem dL_law_86 : decode cL_law 86 = .ok (.bipush 16, 2) := by decide +kernel
theorem dL_law_88 : decode cL_law 88 = .ok (.irem, 1) := by decide +kernel
theorem dL_law_89 : decode cL_law 89 = .ok (.istore 10, 2) := by decide +kernel
theorem dL_law_91 : decode cL_law 91 = .ok (.aload_n 1, 1) := by decide +kernel
theorem dL_law_92 : decode cL_law 92 = .ok (.iload 9, 2) := by decide +kernel
theorem dL_law_94 : decode cL_law 94 = .ok (.sipush 9973, 3) := by decide +kernel
theorem dL_law_97 : decode cL_law 97 = .ok (.irem, 1) := by decide +kernel
theorem dL_law_98 : decode cL_law 98 = .ok (.invokestatic 162, 3) := by decide +kernel
theorem dL_law_101 : decode cL_law 101 = .ok (.istore 6, 2) := by decide +kernel
theorem dL_law_103 : decode cL_law 103 = .ok (.aload_n 1, 1) := by decide +kernel
theorem dL_law_104 : decode cL_law 104 = .ok (.aload_n 3, 1) := by decide +kernel
theorem dL_law_105 : decode cL_law 105 = .ok (.invokestatic 166, 3) := by decide +kernel
theorem dL_law_108 : decode cL_law 108 = .ok (.pop, 1) := by decide +kernel
theorem dL_law_109 : decode cL_law 109 = .ok (.aload_n 1, 1) := by decide +kernel
theorem dL_law_110 : decode cL_law 110 = .ok (.invokevirtual 141, 3) := by decide +kernel
theorem dL_law_113 : decode cL_law 113 = .ok (.istore 11, 2) := by decide +kernel
theorem dL_law_115 : decode cL_law 115 = .ok (.iload 10, 2) := by decide +kernel
theorem dL_law_117 : decode cL_law 117 = .ok (.iconst 3, 1) := by decide +kernel
theorem dL_law_118 : decode cL_law 118 = .ok (.if_icmp .ge 12, 3) := by decide +kernel
theorem dL_law_121 : decode cL_law 121 = .ok (.aload_n 1, 1) := by decide +kernel
theorem dL_law_122 : decode cL_law 122 = .ok (.invokevirtual 75, 3) := by decide +kernel
theorem dL_law_125 : decode cL_law 125 = .ok (.iload 5, 2) := by decide +kernel
theorem dL_law_127 : decode cL_law 127 = .ok (.if_icmp .lt 10, 3) := by decide +kernel
theorem dL_law_130 : decode cL_law 130 = .ok (.aload_n 1, 1) := by decide +kernel
theorem dL_law_131 : decode cL_law 131 = .ok (.invokevirtual 75, 3) := by decide +kernel
theorem dL_law_134 : decode cL_law 134 = .ok (.ifCond .ne 47, 3) := by decide +kernel
theorem dL_law_137 : decode cL_law 137 = .ok (.iload 6, 2) := by decide +kernel
theorem dL_law_139 : decode cL_law 139 = .ok (.ifCond .eq 36, 3) := by decide +kernel
theorem dL_law_142 : decode cL_law 142 = .ok (.aload_n 1, 1) := by decide +kernel
theorem dL_law_143 : decode cL_law 143 = .ok (.invokestatic 131, 3) := by decide +kernel
theorem dL_law_146 : decode cL_law 146 = .ok (.aload_n 2, 1) := by decide +kernel
theorem dL_law_147 : decode cL_law 147 = .ok (.invokestatic 135, 3) := by decide +kernel
theorem dL_law_150 : decode cL_law 150 = .ok (.if_icmp .ne 25, 3) := by decide +kernel
theorem dL_law_153 : decode cL_law 153 = .ok (.aload_n 1, 1) := by decide +kernel
theorem dL_law_154 : decode cL_law 154 = .ok (.aload_n 3, 1) := by decide +kernel
theorem dL_law_155 : decode cL_law 155 = .ok (.invokestatic 166, 3) := by decide +kernel
theorem dL_law_158 : decode cL_law 158 = .ok (.iconst 1, 1) := by decide +kernel
theorem dL_law_159 : decode cL_law 159 = .ok (.if_icmp .ne 16, 3) := by decide +kernel
theorem dL_law_162 : decode cL_law 162 = .ok (.aload_n 1, 1) := by decide +kernel
theorem dL_law_163 : decode cL_law 163 = .ok (.invokevirtual 141, 3) := by decide +kernel
theorem dL_law_166 : decode cL_law 166 = .ok (.iload 11, 2) := by decide +kernel
theorem dL_law_168 : decode cL_law 168 = .ok (.if_icmp .ne 7, 3) := by decide +kernel
theorem dL_law_171 : decode cL_law 171 = .ok (.iconst 1, 1) := by decide +kernel
theorem dL_law_172 : decode cL_law 172 = .ok (.goto 4, 3) := by decide +kernel
theorem dL_law_175 : decode cL_law 175 = .ok (.iconst 0, 1) := by decide +kernel
theorem dL_law_176 : decode cL_law 176 = .ok (.istore 6, 2) := by decide +kernel
theorem dL_law_178 : decode cL_law 178 = .ok (.goto 390, 3) := by decide +kernel
theorem dL_law_181 : decode cL_law 181 = .ok (.iload 10, 2) := by decide +kernel
theorem dL_law_183 : decode cL_law 183 = .ok (.bipush 6, 2) := by decide +kernel
theorem dL_law_185 : decode cL_law 185 = .ok (.if_icmp .ge 12, 3) := by decide +kernel
theorem dL_law_188 : decode cL_law 188 = .ok (.aload_n 1, 1) := by decide +kernel
theorem dL_law_189 : decode cL_law 189 = .ok (.invokevirtual 78, 3) := by decide +kernel
theorem dL_law_192 : decode cL_law 192 = .ok (.iload 5, 2) := by decide +kernel
theorem dL_law_194 : decode cL_law 194 = .ok (.if_icmp .lt 10, 3) := by decide +kernel
theorem dL_law_197 : decode cL_law 197 = .ok (.aload_n 1, 1) := by decide +kernel
theorem dL_law_198 : decode cL_law 198 = .ok (.invokevirtual 78, 3) := by decide +kernel
theorem dL_law_201 : decode cL_law 201 = .ok (.ifCond .ne 46, 3) := by decide +kernel
theorem dL_law_204 : decode cL_law 204 = .ok (.iload 6, 2) := by decide +kernel
theorem dL_law_206 : decode cL_law 206 = .ok (.ifCond .eq 35, 3) := by decide +kernel
theorem dL_law_209 : decode cL_law 209 = .ok (.aload_n 1, 1) := by decide +kernel
theorem dL_law_210 : decode cL_law 210 = .ok (.invokestatic 135, 3) := by decide +kernel
theorem dL_law_213 : decode cL_law 213 = .ok (.aload_n 2, 1) := by decide +kernel
theorem dL_law_214 : decode cL_law 214 = .ok (.invokestatic 131, 3) := by decide +kernel
theorem dL_law_217 : decode cL_law 217 = .ok (.if_icmp .ne 24, 3) := by decide +kernel
theorem dL_law_220 : decode cL_law 220 = .ok (.aload_n 1, 1) := by decide +kernel
theorem dL_law_221 : decode cL_law 221 = .ok (.aload_n 3, 1) := by decide +kernel
theorem dL_law_222 : decode cL_law 222 = .ok (.invokestatic 166, 3) := by decide +kernel
theorem dL_law_225 : decode cL_law 225 = .ok (.ifCond .ne 16, 3) := by decide +kernel
theorem dL_law_228 : decode cL_law 228 = .ok (.aload_n 1, 1) := by decide +kernel
theorem dL_law_229 : decode cL_law 229 = .ok (.invokevirtual 141, 3) := by decide +kernel
theorem dL_law_232 : decode cL_law 232 = .ok (.iload 11, 2) := by decide +kernel
theorem dL_law_234 : decode cL_law 234 = .ok (.if_icmp .ne 7, 3) := by decide +kernel
theorem dL_law_237 : decode cL_law 237 = .ok (.iconst 1, 1) := by decide +kernel
theorem dL_law_238 : decode cL_law 238 = .ok (.goto 4, 3) := by decide +kernel
theorem dL_law_241 : decode cL_law 241 = .ok (.iconst 0, 1) := by decide +kernel
theorem dL_law_242 : decode cL_law 242 = .ok (.istore 6, 2) := by decide +kernel
theorem dL_law_244 : decode cL_law 244 = .ok (.goto 324, 3) := by decide +kernel
theorem dL_law_247 : decode cL_law 247 = .ok (.iload 10, 2) := by decide +kernel
theorem dL_law_249 : decode cL_law 249 = .ok (.bipush 6, 2) := by decide +kernel
theorem dL_law_251 : decode cL_law 251 = .ok (.if_icmp .ne 57, 3) := by decide +kernel
theorem dL_law_254 : decode cL_law 254 = .ok (.aload_n 1, 1) := by decide +kernel
theorem dL_law_255 : decode cL_law 255 = .ok (.invokevirtual 170, 3) := by decide +kernel
theorem dL_law_258 : decode cL_law 258 = .ok (.istore 12, 2) := by decide +kernel
theorem dL_law_260 : decode cL_law 260 = .ok (.iload 6, 2) := by decide +kernel
theorem dL_law_262 : decode cL_law 262 = .ok (.ifCond .eq 40, 3) := by decide +kernel
theorem dL_law_265 : decode cL_law 265 = .ok (.aload_n 2, 1) := by decide +kernel
theorem dL_law_266 : decode cL_law 266 = .ok (.invokevirtual 170, 3) := by decide +kernel
theorem dL_law_269 : decode cL_law 269 = .ok (.ifCond .lt 33, 3) := by decide +kernel
theorem dL_law_272 : decode cL_law 272 = .ok (.aload_n 1, 1) := by decide +kernel
theorem dL_law_273 : decode cL_law 273 = .ok (.invokevirtual 141, 3) := by decide +kernel
theorem dL_law_276 : decode cL_law 276 = .ok (.iload 11, 2) := by decide +kernel
theorem dL_law_278 : decode cL_law 278 = .ok (.if_icmp .ne 24, 3) := by decide +kernel
theorem dL_law_281 : decode cL_law 281 = .ok (.aload_n 1, 1) := by decide +kernel
theorem dL_law_282 : decode cL_law 282 = .ok (.aload_n 3, 1) := by decide +kernel
theorem dL_law_283 : decode cL_law 283 = .ok (.invokestatic 166, 3) := by decide +kernel
theorem dL_law_286 : decode cL_law 286 = .ok (.iload 12, 2) := by decide +kernel
theorem dL_law_288 : decode cL_law 288 = .ok (.if_icmp .ne 14, 3) := by decide +kernel
theorem dL_law_291 : decode cL_law 291 = .ok (.aload_n 1, 1) := by decide +kernel
theorem dL_law_292 : decode cL_law 292 = .ok (.invokevirtual 170, 3) := by decide +kernel
theorem dL_law_295 : decode cL_law 295 = .ok (.ifCond .ne 7, 3) := by decide +kernel
theorem dL_law_298 : decode cL_law 298 = .ok (.iconst 1, 1) := by decide +kernel
theorem dL_law_299 : decode cL_law 299 = .ok (.goto 4, 3) := by decide +kernel
theorem dL_law_302 : decode cL_law 302 = .ok (.iconst 0, 1) := by decide +kernel
theorem dL_law_303 : decode cL_law 303 = .ok (.istore 6, 2) := by decide +kernel
theorem dL_law_305 : decode cL_law 305 = .ok (.goto 263, 3) := by decide +kernel
theorem dL_law_308 : decode cL_law 308 = .ok (.iload 9, 2) := by decide +kernel
theorem dL_law_310 : decode cL_law 310 = .ok (.aload_n 1, 1) := by decide +kernel
theorem dL_law_311 : decode cL_law 311 = .ok (.invokevirtual 75, 3) := by decide +kernel
theorem dL_law_314 : decode cL_law 314 = .ok (.irem, 1) := by decide +kernel
theorem dL_law_315 : decode cL_law 315 = .ok (.istore 12, 2) := by decide +kernel
theorem dL_law_317 : decode cL_law 317 = .ok (.iload 9, 2) := by decide +kernel
theorem dL_law_319 : decode cL_law 319 = .ok (.bipush 12, 2) := by decide +kernel
theorem dL_law_321 : decode cL_law 321 = .ok (.idiv, 1) := by decide +kernel
theorem dL_law_322 : decode cL_law 322 = .ok (.aload_n 1, 1) := by decide +kernel
theorem dL_law_323 : decode cL_law 323 = .ok (.invokevirtual 78, 3) := by decide +kernel
theorem dL_law_326 : decode cL_law 326 = .ok (.irem, 1) := by decide +kernel
theorem dL_law_327 : decode cL_law 327 = .ok (.istore 13, 2) := by decide +kernel
theorem dL_law_329 : decode cL_law 329 = .ok (.aload_n 1, 1) := by decide +kernel
theorem dL_law_330 : decode cL_law 330 = .ok (.iload 12, 2) := by decide +kernel
theorem dL_law_332 : decode cL_law 332 = .ok (.iload 13, 2) := by decide +kernel
theorem dL_law_334 : decode cL_law 334 = .ok (.invokestatic 90, 3) := by decide +kernel
theorem dL_law_337 : decode cL_law 337 = .ok (.iconst 1, 1) := by decide +kernel
theorem dL_law_338 : decode cL_law 338 = .ok (.if_icmp .ne 7, 3) := by decide +kernel
theorem dL_law_341 : decode cL_law 341 = .ok (.iconst 1, 1) := by decide +kernel
theorem dL_law_342 : decode cL_law 342 = .ok (.goto 4, 3) := by decide +kernel
theorem dL_law_345 : decode cL_law 345 = .ok (.iconst 0, 1) := by decide +kernel
theorem dL_law_346 : decode cL_law 346 = .ok (.istore 14, 2) := by decide +kernel
theorem dL_law_348 : decode cL_law 348 = .ok (.aload_n 1, 1) := by decide +kernel
theorem dL_law_349 : decode cL_law 349 = .ok (.iload 12, 2) := by decide +kernel
theorem dL_law_351 : decode cL_law 351 = .ok (.invokestatic 93, 3) := by decide +kernel
theorem dL_law_354 : decode cL_law 354 = .ok (.iload 13, 2) := by decide +kernel
theorem dL_law_356 : decode cL_law 356 = .ok (.if_icmp .ne 7, 3) := by decide +kernel
theorem dL_law_359 : decode cL_law 359 = .ok (.iconst 1, 1) := by decide +kernel
theorem dL_law_360 : decode cL_law 360 = .ok (.goto 4, 3) := by decide +kernel
theorem dL_law_363 : decode cL_law 363 = .ok (.iconst 0, 1) := by decide +kernel
theorem dL_law_364 : decode cL_law 364 = .ok (.istore 15, 2) := by decide +kernel
theorem dL_law_366 : decode cL_law 366 = .ok (.iload 14, 2) := by decide +kernel
theorem dL_law_368 : decode cL_law 368 = .ok (.ifCond .eq 19, 3) := by decide +kernel
theorem dL_law_371 : decode cL_law 371 = .ok (.aload_n 1, 1) := by decide +kernel
theorem dL_law_372 : decode cL_law 372 = .ok (.iload 12, 2) := by decide +kernel
theorem dL_law_374 : decode cL_law 374 = .ok (.iload 13, 2) := by decide +kernel
theorem dL_law_376 : decode cL_law 376 = .ok (.invokestatic 113, 3) := by decide +kernel
theorem dL_law_379 : decode cL_law 379 = .ok (.iconst 1, 1) := by decide +kernel
theorem dL_law_380 : decode cL_law 380 = .ok (.if_icmp .ne 7, 3) := by decide +kernel
theorem dL_law_383 : decode cL_law 383 = .ok (.iconst 1, 1) := by decide +kernel
theorem dL_law_384 : decode cL_law 384 = .ok (.goto 4, 3) := by decide +kernel
theorem dL_law_387 : decode cL_law 387 = .ok (.iconst 0, 1) := by decide +kernel
theorem dL_law_388 : decode cL_law 388 = .ok (.istore 16, 2) := by decide +kernel
theorem dL_law_390 : decode cL_law 390 = .ok (.iload 14, 2) := by decide +kernel
theorem dL_law_392 : decode cL_law 392 = .ok (.ifCond .eq 102, 3) := by decide +kernel
theorem dL_law_395 : decode cL_law 395 = .ok (.iload 10, 2) := by decide +kernel
theorem dL_law_397 : decode cL_law 397 = .ok (.bipush 12, 2) := by decide +kernel
theorem dL_law_399 : decode cL_law 399 = .ok (.if_icmp .le 95, 3) := by decide +kernel
theorem dL_law_402 : decode cL_law 402 = .ok (.aload_n 1, 1) := by decide +kernel
theorem dL_law_403 : decode cL_law 403 = .ok (.iload 12, 2) := by decide +kernel
theorem dL_law_405 : decode cL_law 405 = .ok (.iload 13, 2) := by decide +kernel
theorem dL_law_407 : decode cL_law 407 = .ok (.invokestatic 87, 3) := by decide +kernel
theorem dL_law_410 : decode cL_law 410 = .ok (.istore 17, 2) := by decide +kernel
theorem dL_law_412 : decode cL_law 412 = .ok (.iload 6, 2) := by decide +kernel
theorem dL_law_414 : decode cL_law 414 = .ok (.ifCond .eq 74, 3) := by decide +kernel
theorem dL_law_417 : decode cL_law 417 = .ok (.iload 17, 2) := by decide +kernel
theorem dL_law_419 : decode cL_law 419 = .ok (.aload_n 2, 1) := by decide +kernel
theorem dL_law_420 : decode cL_law 420 = .ok (.iload 13, 2) := by decide +kernel
theorem dL_law_422 : decode cL_law 422 = .ok (.iload 12, 2) := by decide +kernel
theorem dL_law_424 : decode cL_law 424 = .ok (.invokestatic 87, 3) := by decide +kernel
theorem dL_law_427 : decode cL_law 427 = .ok (.if_icmp .ne 61, 3) := by decide +kernel
theorem dL_law_430 : decode cL_law 430 = .ok (.aload_n 1, 1) := by decide +kernel
theorem dL_law_431 : decode cL_law 431 = .ok (.invokevirtual 141, 3) := by decide +kernel
theorem dL_law_434 : decode cL_law 434 = .ok (.iload 11, 2) := by decide +kernel
theorem dL_law_436 : decode cL_law 436 = .ok (.iload 17, 2) := by decide +kernel
theorem dL_law_438 : decode cL_law 438 = .ok (.isub, 1) := by decide +kernel
theorem dL_law_439 : decode cL_law 439 = .ok (.if_icmp .ne 49, 3) := by decide +kernel
theorem dL_law_442 : decode cL_law 442 = .ok (.iload 17, 2) := by decide +kernel
theorem dL_law_444 : decode cL_law 444 = .ok (.iload 16, 2) := by decide +kernel
theorem dL_law_446 : decode cL_law 446 = .ok (.ifCond .eq 7, 3) := by decide +kernel
theorem dL_law_449 : decode cL_law 449 = .ok (.iconst 1, 1) := by decide +kernel
theorem dL_law_450 : decode cL_law 450 = .ok (.goto 4, 3) := by decide +kernel
theorem dL_law_453 : decode cL_law 453 = .ok (.iconst 0, 1) := by decide +kernel
theorem dL_law_454 : decode cL_law 454 = .ok (.if_icmp .ne 34, 3) := by decide +kernel
theorem dL_law_457 : decode cL_law 457 = .ok (.iload 15, 2) := by decide +kernel
theorem dL_law_459 : decode cL_law 459 = .ok (.ifCond .eq 17, 3) := by decide +kernel
theorem dL_law_462 : decode cL_law 462 = .ok (.aload_n 1, 1) := by decide +kernel
theorem dL_law_463 : decode cL_law 463 = .ok (.iload 12, 2) := by decide +kernel
theorem dL_law_465 : decode cL_law 465 = .ok (.invokestatic 93, 3) := by decide +kernel
theorem dL_law_468 : decode cL_law 468 = .ok (.iload 13, 2) := by decide +kernel
theorem dL_law_470 : decode cL_law 470 = .ok (.if_icmp .eq 18, 3) := by decide +kernel
theorem dL_law_473 : decode cL_law 473 = .ok (.goto 11, 3) := by decide +kernel
theorem dL_law_476 : decode cL_law 476 = .ok (.aload_n 1, 1) := by decide +kernel
theorem dL_law_477 : decode cL_law 477 = .ok (.aload_n 3, 1) := by decide +kernel
theorem dL_law_478 : decode cL_law 478 = .ok (.invokestatic 166, 3) := by decide +kernel
theorem dL_law_481 : decode cL_law 481 = .ok (.ifCond .ne 7, 3) := by decide +kernel
theorem dL_law_484 : decode cL_law 484 = .ok (.iconst 1, 1) := by decide +kernel
theorem dL_law_485 : decode cL_law 485 = .ok (.goto 4, 3) := by decide +kernel
theorem dL_law_488 : decode cL_law 488 = .ok (.iconst 0, 1) := by decide +kernel
theorem dL_law_489 : decode cL_law 489 = .ok (.istore 6, 2) := by decide +kernel
theorem dL_law_491 : decode cL_law 491 = .ok (.goto 77, 3) := by decide +kernel
theorem dL_law_494 : decode cL_law 494 = .ok (.iload 14, 2) := by decide +kernel
theorem dL_law_496 : decode cL_law 496 = .ok (.ifCond .ne 72, 3) := by decide +kernel
theorem dL_law_499 : decode cL_law 499 = .ok (.aload_n 1, 1) := by decide +kernel
theorem dL_law_500 : decode cL_law 500 = .ok (.iload 12, 2) := by decide +kernel
theorem dL_law_502 : decode cL_law 502 = .ok (.iload 13, 2) := by decide +kernel
theorem dL_law_504 : decode cL_law 504 = .ok (.invokestatic 81, 3) := by decide +kernel
theorem dL_law_507 : decode cL_law 507 = .ok (.istore 17, 2) := by decide +kernel
theorem dL_law_509 : decode cL_law 509 = .ok (.iload 6, 2) := by decide +kernel
theorem dL_law_511 : decode cL_law 511 = .ok (.ifCond .eq 54, 3) := by decide +kernel
theorem dL_law_514 : decode cL_law 514 = .ok (.iload 17, 2) := by decide +kernel
theorem dL_law_516 : decode cL_law 516 = .ok (.aload_n 2, 1) := by decide +kernel
theorem dL_law_517 : decode cL_law 517 = .ok (.iload 13, 2) := by decide +kernel
theorem dL_law_519 : decode cL_law 519 = .ok (.iload 12, 2) := by decide +kernel
theorem dL_law_521 : decode cL_law 521 = .ok (.invokestatic 81, 3) := by decide +kernel
theorem dL_law_524 : decode cL_law 524 = .ok (.if_icmp .ne 41, 3) := by decide +kernel
theorem dL_law_527 : decode cL_law 527 = .ok (.aload_n 1, 1) := by decide +kernel
theorem dL_law_528 : decode cL_law 528 = .ok (.invokevirtual 141, 3) := by decide +kernel
theorem dL_law_531 : decode cL_law 531 = .ok (.iload 11, 2) := by decide +kernel
theorem dL_law_533 : decode cL_law 533 = .ok (.iload 17, 2) := by decide +kernel
theorem dL_law_535 : decode cL_law 535 = .ok (.iadd, 1) := by decide +kernel
theorem dL_law_536 : decode cL_law 536 = .ok (.if_icmp .ne 29, 3) := by decide +kernel
theorem dL_law_539 : decode cL_law 539 = .ok (.aload_n 1, 1) := by decide +kernel
theorem dL_law_540 : decode cL_law 540 = .ok (.aload_n 3, 1) := by decide +kernel
theorem dL_law_541 : decode cL_law 541 = .ok (.invokestatic 173, 3) := by decide +kernel
theorem dL_law_544 : decode cL_law 544 = .ok (.ifCond .ne 21, 3) := by decide +kernel
theorem dL_law_547 : decode cL_law 547 = .ok (.iload 17, 2) := by decide +kernel
theorem dL_law_549 : decode cL_law 549 = .ok (.iconst 1, 1) := by decide +kernel
theorem dL_law_550 : decode cL_law 550 = .ok (.if_icmp .eq 11, 3) := by decide +kernel
theorem dL_law_553 : decode cL_law 553 = .ok (.aload_n 1, 1) := by decide +kernel
theorem dL_law_554 : decode cL_law 554 = .ok (.aload_n 3, 1) := by decide +kernel
theorem dL_law_555 : decode cL_law 555 = .ok (.invokestatic 166, 3) := by decide +kernel
theorem dL_law_558 : decode cL_law 558 = .ok (.ifCond .ne 7, 3) := by decide +kernel
theorem dL_law_561 : decode cL_law 561 = .ok (.iconst 1, 1) := by decide +kernel
theorem dL_law_562 : decode cL_law 562 = .ok (.goto 4, 3) := by decide +kernel
theorem dL_law_565 : decode cL_law 565 = .ok (.iconst 0, 1) := by decide +kernel
theorem dL_law_566 : decode cL_law 566 = .ok (.istore 6, 2) := by decide +kernel
theorem dL_law_568 : decode cL_law 568 = .ok (.iload 6, 2) := by decide +kernel
theorem dL_law_570 : decode cL_law 570 = .ok (.ifCond .eq 46, 3) := by decide +kernel
theorem dL_law_573 : decode cL_law 573 = .ok (.aload_n 1, 1) := by decide +kernel
theorem dL_law_574 : decode cL_law 574 = .ok (.iload 9, 2) := by decide +kernel
theorem dL_law_576 : decode cL_law 576 = .ok (.sipush 499, 3) := by decide +kernel
theorem dL_law_579 : decode cL_law 579 = .ok (.irem, 1) := by decide +kernel
theorem dL_law_580 : decode cL_law 580 = .ok (.invokestatic 162, 3) := by decide +kernel
theorem dL_law_583 : decode cL_law 583 = .ok (.ifCond .eq 33, 3) := by decide +kernel
theorem dL_law_586 : decode cL_law 586 = .ok (.aload_n 2, 1) := by decide +kernel
theorem dL_law_587 : decode cL_law 587 = .ok (.iload 9, 2) := by decide +kernel
theorem dL_law_589 : decode cL_law 589 = .ok (.sipush 997, 3) := by decide +kernel
theorem dL_law_592 : decode cL_law 592 = .ok (.irem, 1) := by decide +kernel
theorem dL_law_593 : decode cL_law 593 = .ok (.invokestatic 162, 3) := by decide +kernel
theorem dL_law_596 : decode cL_law 596 = .ok (.ifCond .eq 20, 3) := by decide +kernel
theorem dL_law_599 : decode cL_law 599 = .ok (.aload_n 1, 1) := by decide +kernel
theorem dL_law_600 : decode cL_law 600 = .ok (.aload_n 2, 1) := by decide +kernel
theorem dL_law_601 : decode cL_law 601 = .ok (.iload 8, 2) := by decide +kernel
theorem dL_law_603 : decode cL_law 603 = .ok (.bipush 9, 2) := by decide +kernel
theorem dL_law_605 : decode cL_law 605 = .ok (.idiv, 1) := by decide +kernel
theorem dL_law_606 : decode cL_law 606 = .ok (.invokestatic 176, 3) := by decide +kernel
theorem dL_law_609 : decode cL_law 609 = .ok (.ifCond .eq 7, 3) := by decide +kernel
theorem dL_law_612 : decode cL_law 612 = .ok (.iconst 1, 1) := by decide +kernel
theorem dL_law_613 : decode cL_law 613 = .ok (.goto 4, 3) := by decide +kernel
theorem dL_law_616 : decode cL_law 616 = .ok (.iconst 0, 1) := by decide +kernel
theorem dL_law_617 : decode cL_law 617 = .ok (.istore 6, 2) := by decide +kernel
theorem dL_law_619 : decode cL_law 619 = .ok (.iinc 7 1, 3) := by decide +kernel
theorem dL_law_622 : decode cL_law 622 = .ok (.goto (-567), 3) := by decide +kernel
theorem dL_law_625 : decode cL_law 625 = .ok (.iload 6, 2) := by decide +kernel
theorem dL_law_627 : decode cL_law 627 = .ok (.ireturn, 1) := by decide +kernel
