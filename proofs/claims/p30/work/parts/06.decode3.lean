set_option maxRecDepth 20000 in
theorem ggL_refuses_X6_lefts : GoodIn wsL_refuses wsX6_lefts := goodIn_r _ [8, 9, 10, 358, 359, 360, 361, 362, 363, 364, 365, 366, 367, 368] (by decide +kernel) (by decide +kernel)
set_option maxRecDepth 20000 in
theorem gL_refuses_X6_lefts : GoodIn wsL_refuses (wsV RL 75 RX6 yX6_lefts wsX6_lefts) := goodIn_app (goodIn_of _ (by decide +kernel)) ggL_refuses_X6_lefts
set_option maxRecDepth 20000 in
theorem ggL_refuses_X6_rights : GoodIn wsL_refuses wsX6_rights := goodIn_r _ [14, 9, 15, 358, 359, 360, 361, 362, 363, 364, 365, 366, 367, 368] (by decide +kernel) (by decide +kernel)
set_option maxRecDepth 20000 in
theorem gL_refuses_X6_rights : GoodIn wsL_refuses (wsV RL 78 RX6 yX6_rights wsX6_rights) := goodIn_app (goodIn_of _ (by decide +kernel)) ggL_refuses_X6_rights
set_option maxRecDepth 20000 in
theorem ggL_refuses_L_joined : GoodIn wsL_refuses wsL_joined := goodIn_ca (goodIn_ca (goodIn_r _ [19, 20, 21, 1, 2, 22, 23, 24, 7, 25, 26, 27, 9, 28, 29, 30, 31, 32, 33, 34, 35, 36, 37, 38, 39, 10, 40, 41, 42, 43, 15, 44, 45, 46, 47, 48, 49, 50, 51, 52, 53, 54, 55, 56, 57, 58, 59, 60, 61, 62, 63, 64, 65, 66, 67, 68, 69, 70, 71, 72, 73, 74, 75, 76, 77, 78, 79, 80, 81, 82, 83, 84, 85, 86, 87, 88, 89, 90, 91, 92, 93, 94, 95, 96, 97, 98, 99, 100, 101, 102, 103, 104, 105, 358, 359, 360, 361, 362, 363, 364, 365, 366, 367, 368, 369, 370, 371, 372, 373, 374] (by decide +kernel) (by decide +kernel)) (goodIn_sub (fun _ h => List.mem_cons_of_mem _ (List.mem_append_left _ (List.mem_append_left _ (List.mem_append_right _ h)))) (by decide +kernel))) (goodIn_sub (fun _ h => List.mem_cons_of_mem _ (List.mem_append_left _ (List.mem_append_right _ h))) (by decide +kernel))
set_option maxRecDepth 20000 in
theorem gL_refuses_L_joined : GoodIn wsL_refuses (va_wsS RL 81 yL_joined wsL_joined) := goodIn_app (goodIn_of _ (by decide +kernel)) ggL_refuses_L_joined
set_option maxRecDepth 20000 in
theorem ggL_refuses_L_parted : GoodIn wsL_refuses wsL_parted := goodIn_ca (goodIn_ca (goodIn_r _ [108, 20, 109, 1, 3, 110, 111, 112, 7, 113, 9, 29, 114, 28, 115, 116, 117, 118, 119, 120, 30, 31, 32, 33, 34, 35, 36, 37, 38, 39, 10, 40, 41, 42, 43, 15, 44, 45, 46, 47, 48, 49, 50, 51, 121, 122, 123, 124, 56, 57, 125, 126, 127, 78, 128, 80, 105, 129, 58, 59, 60, 61, 62, 63, 64, 65, 66, 67, 68, 69, 70, 71, 72, 73, 74, 75, 76, 77, 79, 81, 82, 83, 84, 85, 86, 87, 88, 89, 90, 91, 92, 93, 94, 95, 96, 97, 98, 99, 100, 101, 102, 103, 104, 358, 359, 360, 361, 362, 363, 372, 373, 374, 364, 365, 366, 367, 368, 369, 370, 371] (by decide +kernel) (by decide +kernel)) (goodIn_sub (fun _ h => List.mem_cons_of_mem _ (List.mem_append_right _ h)) (by decide +kernel))) (goodIn_sub (fun _ h => List.mem_cons_of_mem _ (List.mem_append_left _ (List.mem_append_right _ h))) (by decide +kernel))
set_option maxRecDepth 20000 in
theorem gL_refuses_L_parted : GoodIn wsL_refuses (va_wsS RL 87 yL_parted wsL_parted) := goodIn_app (goodIn_of _ (by decide +kernel)) ggL_refuses_L_parted
set_option maxRecDepth 20000 in
theorem ggL_refuses_L_has : GoodIn wsL_refuses wsL_has := goodIn_ca (goodIn_r _ [132, 20, 1, 133, 134, 135, 7, 136, 9, 30, 31, 32, 33, 34, 35, 36, 37, 38, 39, 10, 40, 41, 42, 43, 15, 44, 45, 46, 47, 48, 49, 50, 51, 358, 359, 360, 361, 362, 363, 364, 365, 366, 367, 368] (by decide +kernel) (by decide +kernel)) (goodIn_sub (fun _ h => List.mem_cons_of_mem _ (List.mem_append_left _ (List.mem_append_right _ h))) (by decide +kernel))
set_option maxRecDepth 20000 in
theorem gL_refuses_L_has : GoodIn wsL_refuses (va_wsS RL 90 yL_has wsL_has) := goodIn_app (goodIn_of _ (by decide +kernel)) ggL_refuses_L_has
set_option maxRecDepth 20000 in
theorem ggL_refuses_L_ofLeft : GoodIn wsL_refuses wsL_ofLeft := goodIn_ca (goodIn_ca (goodIn_r _ [139, 20, 109, 1, 3, 140, 141, 142, 7, 143, 119, 120, 29, 114, 34, 35, 36, 37, 38, 39, 9, 10, 358, 359, 360, 361, 362, 363, 372, 373, 374, 364, 365, 366, 367, 368] (by decide +kernel) (by decide +kernel)) (goodIn_sub (fun _ h => List.mem_cons_of_mem _ (List.mem_append_right _ h)) (by decide +kernel))) (goodIn_sub (fun _ h => List.mem_cons_of_mem _ (List.mem_append_left _ (List.mem_append_right _ h))) (by decide +kernel))
set_option maxRecDepth 20000 in
theorem gL_refuses_L_ofLeft : GoodIn wsL_refuses (va_wsS RL 93 yL_ofLeft wsL_ofLeft) := goodIn_app (goodIn_of _ (by decide +kernel)) ggL_refuses_L_ofLeft
set_option maxRecDepth 20000 in
theorem ggL_refuses_L_ofRight : GoodIn wsL_refuses wsL_ofRight := goodIn_ca (goodIn_ca (goodIn_r _ [146, 20, 109, 1, 3, 147, 148, 149, 7, 150, 119, 120, 29, 151, 40, 41, 42, 43, 38, 39, 9, 15, 358, 359, 360, 361, 362, 363, 372, 373, 374, 364, 365, 366, 367, 368] (by decide +kernel) (by decide +kernel)) (goodIn_sub (fun _ h => List.mem_cons_of_mem _ (List.mem_append_right _ h)) (by decide +kernel))) (goodIn_sub (fun _ h => List.mem_cons_of_mem _ (List.mem_append_left _ (List.mem_append_right _ h))) (by decide +kernel))
set_option maxRecDepth 20000 in
theorem gL_refuses_L_ofRight : GoodIn wsL_refuses (va_wsS RL 97 yL_ofRight wsL_ofRight) := goodIn_app (goodIn_of _ (by decide +kernel)) ggL_refuses_L_ofRight
set_option maxRecDepth 20000 in
theorem ggL_refuses_L_leftPart : GoodIn wsL_refuses wsL_leftPart := goodIn_ca (goodIn_r _ [154, 20, 1, 155, 156, 157, 7, 158, 159, 9, 29, 34, 35, 36, 37, 38, 39, 10, 160, 161, 162, 163, 164, 165, 166, 167, 168, 169, 170, 171, 172, 173, 174, 175, 76, 77, 78, 79, 80, 81, 82, 83, 176, 177, 178, 179, 105, 180, 181, 182, 50, 51, 183, 184, 185, 186, 187, 188, 189, 190, 191, 192, 193, 194, 195, 196, 197, 358, 359, 360, 361, 362, 363, 364, 365, 366, 367, 368, 375, 376, 377, 378, 379, 372, 373, 374] (by decide +kernel) (by decide +kernel)) (goodIn_sub (fun _ h => List.mem_cons_of_mem _ (List.mem_append_left _ (List.mem_append_right _ h))) (by decide +kernel))
set_option maxRecDepth 20000 in
theorem gL_refuses_L_leftPart : GoodIn wsL_refuses (va_wsS RL 100 yL_leftPart wsL_leftPart) := goodIn_app (goodIn_of _ (by decide +kernel)) ggL_refuses_L_leftPart
set_option maxRecDepth 20000 in
theorem ggL_refuses_L_rightPart : GoodIn wsL_refuses wsL_rightPart := goodIn_ca (goodIn_r _ [200, 20, 1, 201, 202, 203, 7, 204, 159, 9, 29, 40, 41, 42, 43, 38, 39, 15, 160, 161, 162, 163, 164, 165, 166, 167, 168, 169, 170, 171, 172, 173, 174, 175, 76, 77, 78, 79, 80, 81, 82, 83, 176, 177, 178, 179, 105, 180, 181, 182, 50, 51, 183, 184, 185, 186, 187, 188, 189, 190, 205, 206, 207, 208, 195, 196, 197, 358, 359, 360, 361, 362, 363, 364, 365, 366, 367, 368, 375, 376, 377, 378, 379, 372, 373, 374] (by decide +kernel) (by decide +kernel)) (goodIn_sub (fun _ h => List.mem_cons_of_mem _ (List.mem_append_left _ (List.mem_append_right _ h))) (by decide +kernel))
set_option maxRecDepth 20000 in
theorem gL_refuses_L_rightPart : GoodIn wsL_refuses (va_wsS RL 103 yL_rightPart wsL_rightPart) := goodIn_app (goodIn_of _ (by decide +kernel)) ggL_refuses_L_rightPart
set_option maxRecDepth 20000 in
theorem ggL_refuses_L_finePart : GoodIn wsL_refuses wsL_finePart := goodIn_ca (goodIn_ca (goodIn_r _ [211, 20, 109, 1, 3, 212, 213, 214, 7, 215, 159, 9, 29, 34, 35, 36, 37, 38, 39, 10, 160, 161, 162, 163, 164, 165, 166, 167, 168, 169, 170, 171, 172, 173, 174, 175, 76, 77, 78, 79, 80, 81, 82, 83, 176, 177, 178, 179, 105, 180, 181, 182, 50, 51, 183, 184, 185, 186, 187, 188, 189, 190, 216, 217, 218, 219, 119, 120, 191, 192, 193, 194, 195, 196, 197, 220, 221, 222, 223, 224, 225, 226, 227, 358, 359, 360, 361, 362, 363, 364, 365, 366, 367, 368, 375, 376, 377, 378, 379, 372, 373, 374] (by decide +kernel) (by decide +kernel)) (goodIn_sub (fun _ h => List.mem_cons_of_mem _ (List.mem_append_left _ (List.mem_append_right _ h))) (by decide +kernel))) (goodIn_sub (fun _ h => List.mem_cons_of_mem _ (List.mem_append_right _ h)) (by decide +kernel))
set_option maxRecDepth 20000 in
theorem gL_refuses_L_finePart : GoodIn wsL_refuses (va_wsS RL 106 yL_finePart wsL_finePart) := goodIn_app (goodIn_of _ (by decide +kernel)) ggL_refuses_L_finePart
set_option maxRecDepth 20000 in
theorem ggL_refuses_L_leads : GoodIn wsL_refuses wsL_leads := goodIn_ca (goodIn_ca (goodIn_r _ [230, 20, 109, 1, 3, 231, 232, 233, 7, 234, 159, 9, 29, 235, 34, 35, 36, 37, 38, 39, 10, 160, 161, 162, 163, 164, 165, 166, 167, 168, 169, 170, 171, 172, 173, 174, 175, 76, 77, 78, 79, 80, 81, 82, 83, 176, 177, 178, 179, 105, 180, 181, 182, 50, 51, 183, 184, 185, 186, 187, 188, 189, 190, 216, 217, 218, 219, 119, 120, 191, 192, 193, 194, 195, 196, 197, 227, 358, 359, 360, 361, 362, 363, 375, 376, 377, 378, 379, 364, 365, 366, 367, 368, 372, 373, 374] (by decide +kernel) (by decide +kernel)) (goodIn_sub (fun _ h => List.mem_cons_of_mem _ (List.mem_append_left _ (List.mem_append_right _ h))) (by decide +kernel))) (goodIn_sub (fun _ h => List.mem_cons_of_mem _ (List.mem_append_right _ h)) (by decide +kernel))
set_option maxRecDepth 20000 in
theorem gL_refuses_L_leads : GoodIn wsL_refuses (va_wsS RL 108 yL_leads wsL_leads) := goodIn_app (goodIn_of _ (by decide +kernel)) ggL_refuses_L_leads
set_option maxRecDepth 20000 in
theorem ggL_refuses_L_inSome : GoodIn wsL_refuses wsL_inSome := goodIn_ca (goodIn_ca (goodIn_r _ [238, 20, 109, 1, 3, 239, 240, 241, 7, 242, 159, 9, 29, 151, 115, 116, 117, 118, 119, 120, 30, 31, 32, 33, 34, 35, 36, 37, 38, 39, 10, 40, 41, 42, 43, 15, 44, 45, 46, 47, 48, 49, 50, 51, 160, 161, 162, 163, 164, 165, 166, 167, 168, 169, 170, 171, 172, 173, 174, 175, 76, 77, 78, 79, 80, 81, 82, 83, 176, 177, 178, 179, 105, 180, 181, 182, 183, 184, 185, 186, 187, 188, 189, 190, 191, 192, 193, 194, 195, 196, 197, 205, 206, 207, 208, 243, 244, 245, 246, 247, 221, 222, 223, 358, 359, 360, 361, 362, 363, 372, 373, 374, 364, 365, 366, 367, 368, 375, 376, 377, 378, 379] (by decide +kernel) (by decide +kernel)) (goodIn_sub (fun _ h => List.mem_cons_of_mem _ (List.mem_append_right _ h)) (by decide +kernel))) (goodIn_sub (fun _ h => List.mem_cons_of_mem _ (List.mem_append_left _ (List.mem_append_right _ h))) (by decide +kernel))
set_option maxRecDepth 20000 in
theorem gL_refuses_L_inSome : GoodIn wsL_refuses (va_wsS RL 110 yL_inSome wsL_inSome) := goodIn_app (goodIn_of _ (by decide +kernel)) ggL_refuses_L_inSome
set_option maxRecDepth 20000 in
theorem ggL_refuses_L_inAll : GoodIn wsL_refuses wsL_inAll := goodIn_ca (goodIn_ca (goodIn_r _ [250, 20, 109, 1, 3, 251, 252, 253, 7, 254, 29, 114, 159, 9, 115, 116, 117, 118, 119, 120, 30, 31, 32, 33, 34, 35, 36, 37, 38, 39, 10, 40, 41, 42, 43, 15, 44, 45, 46, 47, 48, 49, 50, 51, 160, 161, 162, 163, 164, 165, 166, 167, 168, 169, 170, 171, 172, 173, 174, 175, 76, 77, 78, 79, 80, 81, 82, 83, 176, 177, 178, 179, 105, 180, 181, 182, 183, 184, 185, 186, 187, 188, 189, 190, 191, 192, 193, 194, 195, 196, 197, 220, 221, 222, 223, 358, 359, 360, 361, 362, 363, 372, 373, 374, 364, 365, 366, 367, 368, 375, 376, 377, 378, 379] (by decide +kernel) (by decide +kernel)) (goodIn_sub (fun _ h => List.mem_cons_of_mem _ (List.mem_append_right _ h)) (by decide +kernel))) (goodIn_sub (fun _ h => List.mem_cons_of_mem _ (List.mem_append_left _ (List.mem_append_right _ h))) (by decide +kernel))
set_option maxRecDepth 20000 in
theorem gL_refuses_L_inAll : GoodIn wsL_refuses (va_wsS RL 113 yL_inAll wsL_inAll) := goodIn_app (goodIn_of _ (by decide +kernel)) ggL_refuses_L_inAll
set_option maxRecDepth 20000 in
theorem ggL_refuses_L_leftCover : GoodIn wsL_refuses wsL_leftCover := goodIn_ca (goodIn_r _ [257, 20, 1, 258, 259, 260, 7, 261, 159, 9, 29, 34, 35, 36, 37, 38, 39, 10, 160, 161, 162, 163, 164, 165, 166, 167, 168, 169, 170, 171, 172, 173, 174, 175, 76, 77, 78, 79, 80, 81, 82, 83, 176, 177, 178, 179, 105, 180, 181, 182, 50, 51, 183, 184, 185, 186, 187, 188, 189, 190, 191, 192, 193, 194, 195, 196, 197, 358, 359, 360, 361, 362, 363, 364, 365, 366, 367, 368, 375, 376, 377, 378, 379, 372, 373, 374] (by decide +kernel) (by decide +kernel)) (goodIn_sub (fun _ h => List.mem_cons_of_mem _ (List.mem_append_left _ (List.mem_append_right _ h))) (by decide +kernel))
set_option maxRecDepth 20000 in
theorem gL_refuses_L_leftCover : GoodIn wsL_refuses (va_wsS RL 116 yL_leftCover wsL_leftCover) := goodIn_app (goodIn_of _ (by decide +kernel)) ggL_refuses_L_leftCover
set_option maxRecDepth 20000 in
theorem ggL_refuses_L_rightCover : GoodIn wsL_refuses wsL_rightCover := goodIn_ca (goodIn_r _ [264, 20, 1, 265, 266, 267, 7, 268, 159, 9, 29, 40, 41, 42, 43, 38, 39, 15, 160, 161, 162, 163, 164, 165, 166, 167, 168, 169, 170, 171, 172, 173, 174, 175, 76, 77, 78, 79, 80, 81, 82, 83, 176, 177, 178, 179, 105, 180, 181, 182, 50, 51, 183, 184, 185, 186, 187, 188, 189, 190, 205, 206, 207, 208, 195, 196, 197, 358, 359, 360, 361, 362, 363, 364, 365, 366, 367, 368, 375, 376, 377, 378, 379, 372, 373, 374] (by decide +kernel) (by decide +kernel)) (goodIn_sub (fun _ h => List.mem_cons_of_mem _ (List.mem_append_left _ (List.mem_append_right _ h))) (by decide +kernel))
set_option maxRecDepth 20000 in
theorem gL_refuses_L_rightCover : GoodIn wsL_refuses (va_wsS RL 119 yL_rightCover wsL_rightCover) := goodIn_app (goodIn_of _ (by decide +kernel)) ggL_refuses_L_rightCover
set_option maxRecDepth 20000 in
theorem ggL_refuses_X6_phases : GoodIn wsL_refuses wsX6_phases := goodIn_r _ [272, 273, 9, 274, 275, 276, 277, 278, 279, 280, 281, 282, 283, 284, 285, 286, 287, 78, 288, 80, 105, 129, 289, 67, 68, 69, 290, 291, 292, 293, 294, 295, 296, 76, 77, 79, 81, 82, 83, 50, 7, 51, 297, 298, 299, 300, 301, 302, 303, 45, 46, 47, 48, 49, 304, 305, 306, 307, 308, 309, 177, 178, 179, 310, 311, 312, 313, 314, 315, 316, 317, 318, 319, 320, 321, 322, 323, 102, 103, 104, 358, 359, 360, 361, 362, 363, 380, 381, 382, 383, 384, 385, 386, 372, 373, 374, 364, 365, 366, 367, 368] (by decide +kernel) (by decide +kernel)
set_option maxRecDepth 20000 in
theorem gL_refuses_X6_phases : GoodIn wsL_refuses (wsV RL 122 RX6 yX6_phases wsX6_phases) := goodIn_app (goodIn_of _ (by decide +kernel)) ggL_refuses_X6_phases
set_option maxRecDepth 20000 in
theorem ggL_refuses_L_depth : GoodIn wsL_refuses wsL_depth := goodIn_ca (goodIn_r _ [326, 20, 1, 327, 328, 329, 7, 330, 273, 9, 331, 275, 276, 277, 278, 279, 280, 281, 282, 283, 284, 285, 286, 287, 78, 288, 80, 105, 129, 289, 67, 68, 69, 290, 291, 292, 293, 294, 295, 296, 76, 77, 79, 81, 82, 83, 50, 51, 297, 298, 299, 300, 301, 302, 303, 45, 46, 47, 48, 49, 304, 305, 306, 307, 308, 309, 177, 178, 179, 310, 311, 312, 313, 314, 315, 316, 317, 318, 319, 320, 321, 322, 323, 102, 103, 104, 332, 333, 334, 335, 38, 39, 274, 358, 359, 360, 361, 362, 363, 380, 381, 382, 383, 384, 385, 386, 372, 373, 374, 364, 365, 366, 367, 368] (by decide +kernel) (by decide +kernel)) (goodIn_sub (fun _ h => List.mem_cons_of_mem _ (List.mem_append_left _ (List.mem_append_right _ h))) (by decide +kernel))
set_option maxRecDepth 20000 in
theorem gL_refuses_L_depth : GoodIn wsL_refuses (va_wsS RL 125 yL_depth wsL_depth) := goodIn_app (goodIn_of _ (by decide +kernel)) ggL_refuses_L_depth
set_option maxRecDepth 20000 in
theorem ggL_refuses_L_paths : GoodIn wsL_refuses wsL_paths := goodIn_ca (goodIn_r _ [338, 20, 1, 339, 340, 341, 7, 342, 273, 9, 343, 275, 276, 277, 278, 279, 280, 281, 282, 283, 284, 285, 286, 287, 78, 288, 80, 105, 129, 289, 67, 68, 69, 290, 291, 292, 293, 294, 295, 296, 76, 77, 79, 81, 82, 83, 50, 51, 297, 298, 299, 300, 301, 302, 303, 45, 46, 47, 48, 49, 304, 305, 306, 307, 308, 309, 177, 178, 179, 310, 311, 312, 313, 314, 315, 316, 317, 318, 319, 320, 321, 322, 323, 102, 103, 104, 332, 333, 334, 335, 38, 39, 274, 358, 359, 360, 361, 362, 363, 380, 381, 382, 383, 384, 385, 386, 372, 373, 374, 364, 365, 366, 367, 368] (by decide +kernel) (by decide +kernel)) (goodIn_sub (fun _ h => List.mem_cons_of_mem _ (List.mem_append_left _ (List.mem_append_right _ h))) (by decide +kernel))
set_option maxRecDepth 20000 in
theorem gL_refuses_L_paths : GoodIn wsL_refuses (va_wsS RL 128 yL_paths wsL_paths) := goodIn_app (goodIn_of _ (by decide +kernel)) ggL_refuses_L_paths
set_option maxRecDepth 20000 in
theorem ggL_refuses_L_newLeft : GoodIn wsL_refuses wsL_newLeft := goodIn_ca (goodIn_r _ [346, 21, 2, 347, 348, 349, 7, 350, 26, 27, 9, 10, 358, 359, 360, 361, 362, 363, 364, 365, 366, 367, 368] (by decide +kernel) (by decide +kernel)) (goodIn_sub (fun _ h => List.mem_cons_of_mem _ (List.mem_append_left _ (List.mem_append_left _ (List.mem_append_right _ h)))) (by decide +kernel))
set_option maxRecDepth 20000 in
theorem gL_refuses_L_newLeft : GoodIn wsL_refuses (va_wsS RL 131 yL_newLeft wsL_newLeft) := goodIn_app (goodIn_of _ (by decide +kernel)) ggL_refuses_L_newLeft
set_option maxRecDepth 20000 in
theorem ggL_refuses_L_newRight : GoodIn wsL_refuses wsL_newRight := goodIn_ca (goodIn_r _ [353, 21, 2, 354, 355, 356, 7, 357, 26, 27, 9, 15, 358, 359, 360, 361, 362, 363, 364, 365, 366, 367, 368] (by decide +kernel) (by decide +kernel)) (goodIn_sub (fun _ h => List.mem_cons_of_mem _ (List.mem_append_left _ (List.mem_append_left _ (List.mem_append_right _ h)))) (by decide +kernel))
set_option maxRecDepth 20000 in
theorem gL_refuses_L_newRight : GoodIn wsL_refuses (va_wsS RL 135 yL_newRight wsL_newRight) := goodIn_app (goodIn_of _ (by decide +kernel)) ggL_refuses_L_newRight
theorem dL_refuses_0 : decode cL_refuses 0 = .ok (.aload_n 0, 1) := by decide +kernel
theorem dL_refuses_1 : decode cL_refuses 1 = .ok (.invokevirtual 75, 3) := by decide +kernel
theorem dL_refuses_4 : decode cL_refuses 4 = .ok (.istore_n 2, 1) := by decide +kernel
theorem dL_refuses_5 : decode cL_refuses 5 = .ok (.aload_n 0, 1) := by decide +kernel
theorem dL_refuses_6 : decode cL_refuses 6 = .ok (.invokevirtual 78, 3) := by decide +kernel
theorem dL_refuses_9 : decode cL_refuses 9 = .ok (.istore_n 3, 1) := by decide +kernel
theorem dL_refuses_10 : decode cL_refuses 10 = .ok (.iload_n 1, 1) := by decide +kernel
theorem dL_refuses_11 : decode cL_refuses 11 = .ok (.iconst 2, 1) := by decide +kernel
theorem dL_refuses_12 : decode cL_refuses 12 = .ok (.irem, 1) := by decide +kernel
theorem dL_refuses_13 : decode cL_refuses 13 = .ok (.ifCond .ne 12, 3) := by decide +kernel
theorem dL_refuses_16 : decode cL_refuses 16 = .ok (.iconst (-1), 1) := by decide +kernel
theorem dL_refuses_17 : decode cL_refuses 17 = .ok (.iload_n 1, 1) := by decide +kernel
theorem dL_refuses_18 : decode cL_refuses 18 = .ok (.bipush 50, 2) := by decide +kernel
theorem dL_refuses_20 : decode cL_refuses 20 = .ok (.irem, 1) := by decide +kernel
theorem dL_refuses_21 : decode cL_refuses 21 = .ok (.isub, 1) := by decide +kernel
theorem dL_refuses_22 : decode cL_refuses 22 = .ok (.goto 9, 3) := by decide +kernel
theorem dL_refuses_25 : decode cL_refuses 25 = .ok (.iload_n 2, 1) := by decide +kernel
theorem dL_refuses_26 : decode cL_refuses 26 = .ok (.iload_n 1, 1) := by decide +kernel
theorem dL_refuses_27 : decode cL_refuses 27 = .ok (.bipush 50, 2) := by decide +kernel
theorem dL_refuses_29 : decode cL_refuses 29 = .ok (.irem, 1) := by decide +kernel
theorem dL_refuses_30 : decode cL_refuses 30 = .ok (.iadd, 1) := by decide +kernel
theorem dL_refuses_31 : decode cL_refuses 31 = .ok (.istore 4, 2) := by decide +kernel
theorem dL_refuses_33 : decode cL_refuses 33 = .ok (.iload_n 1, 1) := by decide +kernel
theorem dL_refuses_34 : decode cL_refuses 34 = .ok (.iconst 2, 1) := by decide +kernel
theorem dL_refuses_35 : decode cL_refuses 35 = .ok (.irem, 1) := by decide +kernel
theorem dL_refuses_36 : decode cL_refuses 36 = .ok (.ifCond .ne 12, 3) := by decide +kernel
theorem dL_refuses_39 : decode cL_refuses 39 = .ok (.iload_n 3, 1) := by decide +kernel
theorem dL_refuses_40 : decode cL_refuses 40 = .ok (.iload_n 1, 1) := by decide +kernel
theorem dL_refuses_41 : decode cL_refuses 41 = .ok (.bipush 50, 2) := by decide +kernel
theorem dL_refuses_43 : decode cL_refuses 43 = .ok (.irem, 1) := by decide +kernel
theorem dL_refuses_44 : decode cL_refuses 44 = .ok (.iadd, 1) := by decide +kernel
theorem dL_refuses_45 : decode cL_refuses 45 = .ok (.goto 9, 3) := by decide +kernel
theorem dL_refuses_48 : decode cL_refuses 48 = .ok (.iconst (-1), 1) := by decide +kernel
theorem dL_refuses_49 : decode cL_refuses 49 = .ok (.iload_n 1, 1) := by decide +kernel
theorem dL_refuses_50 : decode cL_refuses 50 = .ok (.bipush 50, 2) := by decide +kernel
theorem dL_refuses_52 : decode cL_refuses 52 = .ok (.irem, 1) := by decide +kernel
theorem dL_refuses_53 : decode cL_refuses 53 = .ok (.isub, 1) := by decide +kernel
theorem dL_refuses_54 : decode cL_refuses 54 = .ok (.istore 5, 2) := by decide +kernel
theorem dL_refuses_56 : decode cL_refuses 56 = .ok (.aload_n 0, 1) := by decide +kernel
theorem dL_refuses_57 : decode cL_refuses 57 = .ok (.iload 4, 2) := by decide +kernel
theorem dL_refuses_59 : decode cL_refuses 59 = .ok (.iconst 0, 1) := by decide +kernel
theorem dL_refuses_60 : decode cL_refuses 60 = .ok (.invokestatic 81, 3) := by decide +kernel
theorem dL_refuses_63 : decode cL_refuses 63 = .ok (.ldc 25, 2) := by decide +kernel
theorem dL_refuses_65 : decode cL_refuses 65 = .ok (.if_icmp .ne 236, 3) := by decide +kernel
theorem dL_refuses_68 : decode cL_refuses 68 = .ok (.aload_n 0, 1) := by decide +kernel
theorem dL_refuses_69 : decode cL_refuses 69 = .ok (.iconst 0, 1) := by decide +kernel
theorem dL_refuses_70 : decode cL_refuses 70 = .ok (.iload 5, 2) := by decide +kernel
theorem dL_refuses_72 : decode cL_refuses 72 = .ok (.invokestatic 81, 3) := by decide +kernel
theorem dL_refuses_75 : decode cL_refuses 75 = .ok (.ldc 25, 2) := by decide +kernel
theorem dL_refuses_77 : decode cL_refuses 77 = .ok (.if_icmp .ne 224, 3) := by decide +kernel
theorem dL_refuses_80 : decode cL_refuses 80 = .ok (.aload_n 0, 1) := by decide +kernel
theorem dL_refuses_81 : decode cL_refuses 81 = .ok (.iload 4, 2) := by decide +kernel
theorem dL_refuses_83 : decode cL_refuses 83 = .ok (.iload 5, 2) := by decide +kernel
theorem dL_refuses_85 : decode cL_refuses 85 = .ok (.invokestatic 87, 3) := by decide +kernel
theorem dL_refuses_88 : decode cL_refuses 88 = .ok (.ldc 25, 2) := by decide +kernel
theorem dL_refuses_90 : decode cL_refuses 90 = .ok (.if_icmp .ne 211, 3) := by decide +kernel
theorem dL_refuses_93 : decode cL_refuses 93 = .ok (.aload_n 0, 1) := by decide +kernel
theorem dL_refuses_94 : decode cL_refuses 94 = .ok (.iconst 0, 1) := by decide +kernel
theorem dL_refuses_95 : decode cL_refuses 95 = .ok (.iload 5, 2) := by decide +kernel
theorem dL_refuses_97 : decode cL_refuses 97 = .ok (.invokestatic 87, 3) := by decide +kernel
theorem dL_refuses_100 : decode cL_refuses 100 = .ok (.ldc 25, 2) := by decide +kernel
theorem dL_refuses_102 : decode cL_refuses 102 = .ok (.if_icmp .ne 199, 3) := by decide +kernel
theorem dL_refuses_105 : decode cL_refuses 105 = .ok (.aload_n 0, 1) := by decide +kernel
theorem dL_refuses_106 : decode cL_refuses 106 = .ok (.iload 4, 2) := by decide +kernel
theorem dL_refuses_108 : decode cL_refuses 108 = .ok (.iconst 0, 1) := by decide +kernel
theorem dL_refuses_109 : decode cL_refuses 109 = .ok (.invokestatic 90, 3) := by decide +kernel
theorem dL_refuses_112 : decode cL_refuses 112 = .ok (.ldc 25, 2) := by decide +kernel
theorem dL_refuses_114 : decode cL_refuses 114 = .ok (.if_icmp .ne 187, 3) := by decide +kernel
theorem dL_refuses_117 : decode cL_refuses 117 = .ok (.aload_n 0, 1) := by decide +kernel
theorem dL_refuses_118 : decode cL_refuses 118 = .ok (.iload 4, 2) := by decide +kernel
theorem dL_refuses_120 : decode cL_refuses 120 = .ok (.invokestatic 93, 3) := by decide +kernel
theorem dL_refuses_123 : decode cL_refuses 123 = .ok (.ldc 25, 2) := by decide +kernel
theorem dL_refuses_125 : decode cL_refuses 125 = .ok (.if_icmp .ne 176, 3) := by decide +kernel
theorem dL_refuses_128 : decode cL_refuses 128 = .ok (.aload_n 0, 1) := by decide +kernel
theorem dL_refuses_129 : decode cL_refuses 129 = .ok (.iload 5, 2) := by decide +kernel
theorem dL_refuses_131 : decode cL_refuses 131 = .ok (.invokestatic 97, 3) := by decide +kernel
theorem dL_refuses_134 : decode cL_refuses 134 = .ok (.ldc 25, 2) := by decide +kernel
theorem dL_refuses_136 : decode cL_refuses 136 = .ok (.if_icmp .ne 165, 3) := by decide +kernel
theorem dL_refuses_139 : decode cL_refuses 139 = .ok (.aload_n 0, 1) := by decide +kernel
theorem dL_refuses_140 : decode cL_refuses 140 = .ok (.iload 4, 2) := by decide +kernel
theorem dL_refuses_142 : decode cL_refuses 142 = .ok (.invokestatic 100, 3) := by decide +kernel
theorem dL_refuses_145 : decode cL_refuses 145 = .ok (.ldc 25, 2) := by decide +kernel
theorem dL_refuses_147 : decode cL_refuses 147 = .ok (.if_icmp .ne 154, 3) := by decide +kernel
theorem dL_refuses_150 : decode cL_refuses 150 = .ok (.aload_n 0, 1) := by decide +kernel
theorem dL_refuses_151 : decode cL_refuses 151 = .ok (.iload 5, 2) := by decide +kernel
theorem dL_refuses_153 : decode cL_refuses 153 = .ok (.invokestatic 103, 3) := by decide +kernel
theorem dL_refuses_156 : decode cL_refuses 156 = .ok (.ldc 25, 2) := by decide +kernel
theorem dL_refuses_158 : decode cL_refuses 158 = .ok (.if_icmp .ne 143, 3) := by decide +kernel
theorem dL_refuses_161 : decode cL_refuses 161 = .ok (.aload_n 0, 1) := by decide +kernel
theorem dL_refuses_162 : decode cL_refuses 162 = .ok (.iload 4, 2) := by decide +kernel
theorem dL_refuses_164 : decode cL_refuses 164 = .ok (.invokestatic 106, 3) := by decide +kernel
theorem dL_refuses_167 : decode cL_refuses 167 = .ok (.ldc 25, 2) := by decide +kernel
theorem dL_refuses_169 : decode cL_refuses 169 = .ok (.if_icmp .ne 132, 3) := by decide +kernel
theorem dL_refuses_172 : decode cL_refuses 172 = .ok (.aload_n 0, 1) := by decide +kernel
theorem dL_refuses_173 : decode cL_refuses 173 = .ok (.iload 4, 2) := by decide +kernel
theorem dL_refuses_175 : decode cL_refuses 175 = .ok (.iconst 0, 1) := by decide +kernel
theorem dL_refuses_176 : decode cL_refuses 176 = .ok (.invokestatic 108, 3) := by decide +kernel
theorem dL_refuses_179 : decode cL_refuses 179 = .ok (.ldc 25, 2) := by decide +kernel
theorem dL_refuses_181 : decode cL_refuses 181 = .ok (.if_icmp .ne 120, 3) := by decide +kernel
theorem dL_refuses_184 : decode cL_refuses 184 = .ok (.aload_n 0, 1) := by decide +kernel
theorem dL_refuses_185 : decode cL_refuses 185 = .ok (.iconst 0, 1) := by decide +kernel
theorem dL_refuses_186 : decode cL_refuses 186 = .ok (.iload 4, 2) := by decide +kernel
theorem dL_refuses_188 : decode cL_refuses 188 = .ok (.invokestatic 108, 3) := by decide +kernel
theorem dL_refuses_191 : decode cL_refuses 191 = .ok (.ldc 25, 2) := by decide +kernel
theorem dL_refuses_193 : decode cL_refuses 193 = .ok (.if_icmp .ne 108, 3) := by decide +kernel
theorem dL_refuses_196 : decode cL_refuses 196 = .ok (.aload_n 0, 1) := by decide +kernel
theorem dL_refuses_197 : decode cL_refuses 197 = .ok (.iload 4, 2) := by decide +kernel
theorem dL_refuses_199 : decode cL_refuses 199 = .ok (.iconst 0, 1) := by decide +kernel
theorem dL_refuses_200 : decode cL_refuses 200 = .ok (.invokestatic 110, 3) := by decide +kernel
theorem dL_refuses_203 : decode cL_refuses 203 = .ok (.ldc 25, 2) := by decide +kernel
theorem dL_refuses_205 : decode cL_refuses 205 = .ok (.if_icmp .ne 96, 3) := by decide +kernel
theorem dL_refuses_208 : decode cL_refuses 208 = .ok (.aload_n 0, 1) := by decide +kernel
theorem dL_refuses_209 : decode cL_refuses 209 = .ok (.iconst 0, 1) := by decide +kernel
theorem dL_refuses_210 : decode cL_refuses 210 = .ok (.iload 5, 2) := by decide +kernel
theorem dL_refuses_212 : decode cL_refuses 212 = .ok (.invokestatic 113, 3) := by decide +kernel
theorem dL_refuses_215 : decode cL_refuses 215 = .ok (.ldc 25, 2) := by decide +kernel
theorem dL_refuses_217 : decode cL_refuses 217 = .ok (.if_icmp .ne 84, 3) := by decide +kernel
theorem dL_refuses_220 : decode cL_refuses 220 = .ok (.aload_n 0, 1) := by decide +kernel
theorem dL_refuses_221 : decode cL_refuses 221 = .ok (.iload 4, 2) := by decide +kernel
theorem dL_refuses_223 : decode cL_refuses 223 = .ok (.invokestatic 116, 3) := by decide +kernel
theorem dL_refuses_226 : decode cL_refuses 226 = .ok (.ldc 25, 2) := by decide +kernel
theorem dL_refuses_228 : decode cL_refuses 228 = .ok (.if_icmp .ne 73, 3) := by decide +kernel
theorem dL_refuses_231 : decode cL_refuses 231 = .ok (.aload_n 0, 1) := by decide +kernel
theorem dL_refuses_232 : decode cL_refuses 232 = .ok (.iload 5, 2) := by decide +kernel
theorem dL_refuses_234 : decode cL_refuses 234 = .ok (.invokestatic 119, 3) := by decide +kernel
theorem dL_refuses_237 : decode cL_refuses 237 = .ok (.ldc 25, 2) := by decide +kernel
theorem dL_refuses_239 : decode cL_refuses 239 = .ok (.if_icmp .ne 62, 3) := by decide +kernel
theorem dL_refuses_242 : decode cL_refuses 242 = .ok (.aload_n 0, 1) := by decide +kernel
theorem dL_refuses_243 : decode cL_refuses 243 = .ok (.aload_n 0, 1) := by decide +kernel
theorem dL_refuses_244 : decode cL_refuses 244 = .ok (.invokevirtual 122, 3) := by decide +kernel
theorem dL_refuses_247 : decode cL_refuses 247 = .ok (.invokestatic 125, 3) := by decide +kernel
theorem dL_refuses_250 : decode cL_refuses 250 = .ok (.ldc 25, 2) := by decide +kernel
theorem dL_refuses_252 : decode cL_refuses 252 = .ok (.if_icmp .ne 49, 3) := by decide +kernel
theorem dL_refuses_255 : decode cL_refuses 255 = .ok (.aload_n 0, 1) := by decide +kernel
theorem dL_refuses_256 : decode cL_refuses 256 = .ok (.iconst (-1), 1) := by decide +kernel
theorem dL_refuses_257 : decode cL_refuses 257 = .ok (.iload_n 1, 1) := by decide +kernel
theorem dL_refuses_258 : decode cL_refuses 258 = .ok (.isub, 1) := by decide +kernel
theorem dL_refuses_259 : decode cL_refuses 259 = .ok (.invokestatic 128, 3) := by decide +kernel
theorem dL_refuses_262 : decode cL_refuses 262 = .ok (.ldc 25, 2) := by decide +kernel
theorem dL_refuses_264 : decode cL_refuses 264 = .ok (.if_icmp .ne 37, 3) := by decide +kernel
theorem dL_refuses_267 : decode cL_refuses 267 = .ok (.iload_n 2, 1) := by decide +kernel
theorem dL_refuses_268 : decode cL_refuses 268 = .ok (.bipush 12, 2) := by decide +kernel
theorem dL_refuses_270 : decode cL_refuses 270 = .ok (.if_icmp .lt 12, 3) := by decide +kernel
theorem dL_refuses_273 : decode cL_refuses 273 = .ok (.aload_n 0, 1) := by decide +kernel
theorem dL_refuses_274 : decode cL_refuses 274 = .ok (.invokestatic 131, 3) := by decide +kernel
theorem dL_refuses_277 : decode cL_refuses 277 = .ok (.ldc 15, 2) := by decide +kernel
theorem dL_refuses_279 : decode cL_refuses 279 = .ok (.if_icmp .ne 22, 3) := by decide +kernel
theorem dL_refuses_282 : decode cL_refuses 282 = .ok (.iload_n 3, 1) := by decide +kernel
theorem dL_refuses_283 : decode cL_refuses 283 = .ok (.bipush 12, 2) := by decide +kernel
theorem dL_refuses_285 : decode cL_refuses 285 = .ok (.if_icmp .lt 12, 3) := by decide +kernel
theorem dL_refuses_288 : decode cL_refuses 288 = .ok (.aload_n 0, 1) := by decide +kernel
theorem dL_refuses_289 : decode cL_refuses 289 = .ok (.invokestatic 135, 3) := by decide +kernel
theorem dL_refuses_292 : decode cL_refuses 292 = .ok (.ldc 15, 2) := by decide +kernel
theorem dL_refuses_294 : decode cL_refuses 294 = .ok (.if_icmp .ne 7, 3) := by decide +kernel
theorem dL_refuses_297 : decode cL_refuses 297 = .ok (.iconst 1, 1) := by decide +kernel
theorem dL_refuses_298 : decode cL_refuses 298 = .ok (.goto 4, 3) := by decide +kernel
theorem dL_refuses_301 : decode cL_refuses 301 = .ok (.iconst 0, 1) := by decide +kernel
theorem dL_refuses_302 : decode cL_refuses 302 = .ok (.istore 6, 2) := by decide +kernel
theorem dL_refuses_304 : decode cL_refuses 304 = .ok (.iload 6, 2) := by decide +kernel
theorem dL_refuses_306 : decode cL_refuses 306 = .ok (.ifCond .eq 115, 3) := by decide +kernel
theorem dL_refuses_309 : decode cL_refuses 309 = .ok (.iload_n 2, 1) := by decide +kernel
theorem dL_refuses_310 : decode cL_refuses 310 = .ok (.ifCond .le 111, 3) := by decide +kernel
theorem dL_refuses_313 : decode cL_refuses 313 = .ok (.iload_n 3, 1) := by decide +kernel
theorem dL_refuses_314 : decode cL_refuses 314 = .ok (.ifCond .le 107, 3) := by decide +kernel
theorem dL_refuses_317 : decode cL_refuses 317 = .ok (.iload_n 1, 1) := by decide +kernel
theorem dL_refuses_318 : decode cL_refuses 318 = .ok (.iload_n 2, 1) := by decide +kernel
theorem dL_refuses_319 : decode cL_refuses 319 = .ok (.irem, 1) := by decide +kernel
theorem dL_refuses_320 : decode cL_refuses 320 = .ok (.istore 7, 2) := by decide +kernel
theorem dL_refuses_322 : decode cL_refuses 322 = .ok (.iload_n 1, 1) := by decide +kernel
theorem dL_refuses_323 : decode cL_refuses 323 = .ok (.bipush 12, 2) := by decide +kernel
theorem dL_refuses_325 : decode cL_refuses 325 = .ok (.idiv, 1) := by decide +kernel
theorem dL_refuses_326 : decode cL_refuses 326 = .ok (.iload_n 3, 1) := by decide +kernel
theorem dL_refuses_327 : decode cL_refuses 327 = .ok (.irem, 1) := by decide +kernel
theorem dL_refuses_328 : decode cL_refuses 328 = .ok (.istore 8, 2) := by decide +kernel
theorem dL_refuses_330 : decode cL_refuses 330 = .ok (.aload_n 0, 1) := by decide +kernel
theorem dL_refuses_331 : decode cL_refuses 331 = .ok (.iload 7, 2) := by decide +kernel
theorem dL_refuses_333 : decode cL_refuses 333 = .ok (.iload 8, 2) := by decide +kernel
theorem dL_refuses_335 : decode cL_refuses 335 = .ok (.invokestatic 90, 3) := by decide +kernel
theorem dL_refuses_338 : decode cL_refuses 338 = .ok (.iconst 1, 1) := by decide +kernel
theorem dL_refuses_339 : decode cL_refuses 339 = .ok (.if_icmp .ne 7, 3) := by decide +kernel
theorem dL_refuses_342 : decode cL_refuses 342 = .ok (.iconst 1, 1) := by decide +kernel
theorem dL_refuses_343 : decode cL_refuses 343 = .ok (.goto 4, 3) := by decide +kernel
theorem dL_refuses_346 : decode cL_refuses 346 = .ok (.iconst 0, 1) := by decide +kernel
theorem dL_refuses_347 : decode cL_refuses 347 = .ok (.istore 9, 2) := by decide +kernel
theorem dL_refuses_349 : decode cL_refuses 349 = .ok (.iload 9, 2) := by decide +kernel
theorem dL_refuses_351 : decode cL_refuses 351 = .ok (.ifCond .eq 24, 3) := by decide +kernel
theorem dL_refuses_354 : decode cL_refuses 354 = .ok (.aload_n 0, 1) := by decide +kernel
theorem dL_refuses_355 : decode cL_refuses 355 = .ok (.iload 7, 2) := by decide +kernel
theorem dL_refuses_357 : decode cL_refuses 357 = .ok (.iload 8, 2) := by decide +kernel
theorem dL_refuses_359 : decode cL_refuses 359 = .ok (.invokestatic 81, 3) := by decide +kernel
theorem dL_refuses_362 : decode cL_refuses 362 = .ok (.ldc 15, 2) := by decide +kernel
theorem dL_refuses_364 : decode cL_refuses 364 = .ok (.if_icmp .ne 7, 3) := by decide +kernel
theorem dL_refuses_367 : decode cL_refuses 367 = .ok (.iconst 1, 1) := by decide +kernel
theorem dL_refuses_368 : decode cL_refuses 368 = .ok (.goto 51, 3) := by decide +kernel
theorem dL_refuses_371 : decode cL_refuses 371 = .ok (.iconst 0, 1) := by decide +kernel
theorem dL_refuses_372 : decode cL_refuses 372 = .ok (.goto 47, 3) := by decide +kernel
theorem dL_refuses_375 : decode cL_refuses 375 = .ok (.aload_n 0, 1) := by decide +kernel
theorem dL_refuses_376 : decode cL_refuses 376 = .ok (.iload 7, 2) := by decide +kernel
theorem dL_refuses_378 : decode cL_refuses 378 = .ok (.iload 8, 2) := by decide +kernel
theorem dL_refuses_380 : decode cL_refuses 380 = .ok (.invokestatic 87, 3) := by decide +kernel
theorem dL_refuses_383 : decode cL_refuses 383 = .ok (.ldc 31, 2) := by decide +kernel
theorem dL_refuses_385 : decode cL_refuses 385 = .ok (.if_icmp .ne 33, 3) := by decide +kernel
theorem dL_refuses_388 : decode cL_refuses 388 = .ok (.aload_n 0, 1) := by decide +kernel
theorem dL_refuses_389 : decode cL_refuses 389 = .ok (.iload 7, 2) := by decide +kernel
theorem dL_refuses_391 : decode cL_refuses 391 = .ok (.iload 8, 2) := by decide +kernel
theorem dL_refuses_393 : decode cL_refuses 393 = .ok (.invokestatic 110, 3) := by decide +kernel
theorem dL_refuses_396 : decode cL_refuses 396 = .ok (.ldc 31, 2) := by decide +kernel
theorem dL_refuses_398 : decode cL_refuses 398 = .ok (.if_icmp .ne 20, 3) := by decide +kernel
theorem dL_refuses_401 : decode cL_refuses 401 = .ok (.aload_n 0, 1) := by decide +kernel
theorem dL_refuses_402 : decode cL_refuses 402 = .ok (.iload 7, 2) := by decide +kernel
theorem dL_refuses_404 : decode cL_refuses 404 = .ok (.iload 8, 2) := by decide +kernel
theorem dL_refuses_406 : decode cL_refuses 406 = .ok (.invokestatic 113, 3) := by decide +kernel
theorem dL_refuses_409 : decode cL_refuses 409 = .ok (.ldc 31, 2) := by decide +kernel
theorem dL_refuses_411 : decode cL_refuses 411 = .ok (.if_icmp .ne 7, 3) := by decide +kernel
theorem dL_refuses_414 : decode cL_refuses 414 = .ok (.iconst 1, 1) := by decide +kernel
theorem dL_refuses_415 : decode cL_refuses 415 = .ok (.goto 4, 3) := by decide +kernel
theorem dL_refuses_418 : decode cL_refuses 418 = .ok (.iconst 0, 1) := by decide +kernel
theorem dL_refuses_419 : decode cL_refuses 419 = .ok (.istore 6, 2) := by decide +kernel
theorem dL_refuses_421 : decode cL_refuses 421 = .ok (.iload 6, 2) := by decide +kernel
theorem dL_refuses_423 : decode cL_refuses 423 = .ok (.ireturn, 1) := by decide +kernel
set_option maxRecDepth 20000 in
theorem ggL_changed_X6_lefts : GoodIn wsL_changed wsX6_lefts := goodIn_r _ [5, 6, 7, 30, 31, 32, 33, 34, 35, 36, 37, 38, 39, 40] (by decide +kernel) (by decide +kernel)
set_option maxRecDepth 20000 in
theorem gL_changed_X6_lefts : GoodIn wsL_changed (wsV RL 75 RX6 yX6_lefts wsX6_lefts) := goodIn_app (goodIn_of _ (by decide +kernel)) ggL_changed_X6_lefts
set_option maxRecDepth 20000 in
theorem ggL_changed_L_ofLeft : GoodIn wsL_changed wsL_ofLeft := goodIn_ca (goodIn_ca (goodIn_r _ [11, 12, 13, 14, 15, 16, 17, 18, 4, 19, 20, 21, 22, 23, 24, 25, 26, 27, 28, 29, 6, 7, 30, 31, 32, 33, 34, 35, 41, 42, 43, 36, 37, 38, 39, 40] (by decide +kernel) (by decide +kernel)) (goodIn_sub (fun _ h => List.mem_cons_of_mem _ (List.mem_append_left _ (List.mem_append_right _ h))) (by decide +kernel))) (goodIn_sub (fun _ h => List.mem_cons_of_mem _ (List.mem_append_right _ h)) (by decide +kernel))
set_option maxRecDepth 20000 in
theorem gL_changed_L_ofLeft : GoodIn wsL_changed (va_wsS RL 93 yL_ofLeft wsL_ofLeft) := goodIn_app (goodIn_of _ (by decide +kernel)) ggL_changed_L_ofLeft
theorem dL_changed_0 : decode cL_changed 0 = .ok (.iconst 0, 1) := by decide +kernel
theorem dL_changed_1 : decode cL_changed 1 = .ok (.istore_n 2, 1) := by decide +kernel
theorem dL_changed_2 : decode cL_changed 2 = .ok (.iconst 0, 1) := by decide +kernel
theorem dL_changed_3 : decode cL_changed 3 = .ok (.istore_n 3, 1) := by decide +kernel
theorem dL_changed_4 : decode cL_changed 4 = .ok (.iload_n 3, 1) := by decide +kernel
theorem dL_changed_5 : decode cL_changed 5 = .ok (.aload_n 0, 1) := by decide +kernel
theorem dL_changed_6 : decode cL_changed 6 = .ok (.invokevirtual 75, 3) := by decide +kernel
theorem dL_changed_9 : decode cL_changed 9 = .ok (.if_icmp .ge 37, 3) := by decide +kernel
theorem dL_changed_12 : decode cL_changed 12 = .ok (.aload_n 0, 1) := by decide +kernel
theorem dL_changed_13 : decode cL_changed 13 = .ok (.iload_n 3, 1) := by decide +kernel
theorem dL_changed_14 : decode cL_changed 14 = .ok (.invokestatic 93, 3) := by decide +kernel
theorem dL_changed_17 : decode cL_changed 17 = .ok (.istore 4, 2) := by decide +kernel
theorem dL_changed_19 : decode cL_changed 19 = .ok (.iload_n 2, 1) := by decide +kernel
theorem dL_changed_20 : decode cL_changed 20 = .ok (.aload_n 1, 1) := by decide +kernel
theorem dL_changed_21 : decode cL_changed 21 = .ok (.iload_n 3, 1) := by decide +kernel
theorem dL_changed_22 : decode cL_changed 22 = .ok (.iaload, 1) := by decide +kernel
theorem dL_changed_23 : decode cL_changed 23 = .ok (.iload 4, 2) := by decide +kernel
theorem dL_changed_25 : decode cL_changed 25 = .ok (.if_icmp .ne 7, 3) := by decide +kernel
theorem dL_changed_28 : decode cL_changed 28 = .ok (.iconst 0, 1) := by decide +kernel
theorem dL_changed_29 : decode cL_changed 29 = .ok (.goto 4, 3) := by decide +kernel
theorem dL_changed_32 : decode cL_changed 32 = .ok (.iconst 1, 1) := by decide +kernel
theorem dL_changed_33 : decode cL_changed 33 = .ok (.iadd, 1) := by decide +kernel
theorem dL_changed_34 : decode cL_changed 34 = .ok (.istore_n 2, 1) := by decide +kernel
theorem dL_changed_35 : decode cL_changed 35 = .ok (.aload_n 1, 1) := by decide +kernel
theorem dL_changed_36 : decode cL_changed 36 = .ok (.iload_n 3, 1) := by decide +kernel
theorem dL_changed_37 : decode cL_changed 37 = .ok (.iload 4, 2) := by decide +kernel
theorem dL_changed_39 : decode cL_changed 39 = .ok (.iastore, 1) := by decide +kernel
theorem dL_changed_40 : decode cL_changed 40 = .ok (.iinc 3 1, 3) := by decide +kernel
theorem dL_changed_43 : decode cL_changed 43 = .ok (.goto (-39), 3) := by decide +kernel
theorem dL_changed_46 : decode cL_changed 46 = .ok (.iload_n 2, 1) := by decide +kernel
theorem dL_changed_47 : decode cL_changed 47 = .ok (.ireturn, 1) := by decide +kernel
set_option maxRecDepth 20000 in
theorem ggL_freed_X6_lefts : GoodIn wsL_freed wsX6_lefts := goodIn_r _ [6, 7, 8, 30, 31, 32, 33, 34, 35, 36, 37, 38, 39, 40] (by decide +kernel) (by decide +kernel)
set_option maxRecDepth 20000 in
theorem gL_freed_X6_lefts : GoodIn wsL_freed (wsV RL 75 RX6 yX6_lefts wsX6_lefts) := goodIn_app (goodIn_of _ (by decide +kernel)) ggL_freed_X6_lefts
set_option maxRecDepth 20000 in
theorem ggL_freed_L_ofLeft : GoodIn wsL_freed wsL_ofLeft := goodIn_ca (goodIn_ca (goodIn_r _ [12, 13, 14, 15, 1, 16, 17, 18, 5, 19, 20, 21, 22, 23, 24, 25, 26, 27, 28, 29, 7, 8, 30, 31, 32, 33, 34, 35, 41, 42, 43, 36, 37, 38, 39, 40] (by decide +kernel) (by decide +kernel)) (goodIn_sub (fun _ h => List.mem_cons_of_mem _ (List.mem_append_left _ (List.mem_append_right _ h))) (by decide +kernel))) (goodIn_sub (fun _ h => List.mem_cons_of_mem _ (List.mem_append_right _ h)) (by decide +kernel))
set_option maxRecDepth 20000 in
theorem gL_freed_L_ofLeft : GoodIn wsL_freed (va_wsS RL 93 yL_ofLeft wsL_ofLeft) := goodIn_app (goodIn_of _ (by decide +kernel)) ggL_freed_L_ofLeft
theorem dL_freed_0 : decode cL_freed 0 = .ok (.iconst 0, 1) := by decide +kernel
theorem dL_freed_1 : decode cL_freed 1 = .ok (.istore_n 2, 1) := by decide +kernel
theorem dL_freed_2 : decode cL_freed 2 = .ok (.iconst 0, 1) := by decide +kernel
theorem dL_freed_3 : decode cL_freed 3 = .ok (.istore_n 3, 1) := by decide +kernel
theorem dL_freed_4 : decode cL_freed 4 = .ok (.iload_n 3, 1) := by decide +kernel
theorem dL_freed_5 : decode cL_freed 5 = .ok (.aload_n 0, 1) := by decide +kernel
theorem dL_freed_6 : decode cL_freed 6 = .ok (.invokevirtual 75, 3) := by decide +kernel
theorem dL_freed_9 : decode cL_freed 9 = .ok (.if_icmp .ge 33, 3) := by decide +kernel
theorem dL_freed_12 : decode cL_freed 12 = .ok (.iload_n 2, 1) := by decide +kernel
theorem dL_freed_13 : decode cL_freed 13 = .ok (.aload_n 1, 1) := by decide +kernel
theorem dL_freed_14 : decode cL_freed 14 = .ok (.iload_n 3, 1) := by decide +kernel
theorem dL_freed_15 : decode cL_freed 15 = .ok (.iaload, 1) := by decide +kernel
theorem dL_freed_16 : decode cL_freed 16 = .ok (.ifCond .lt 17, 3) := by decide +kernel
theorem dL_freed_19 : decode cL_freed 19 = .ok (.aload_n 0, 1) := by decide +kernel
theorem dL_freed_20 : decode cL_freed 20 = .ok (.iload_n 3, 1) := by decide +kernel
theorem dL_freed_21 : decode cL_freed 21 = .ok (.invokestatic 93, 3) := by decide +kernel
theorem dL_freed_24 : decode cL_freed 24 = .ok (.ldc 31, 2) := by decide +kernel
theorem dL_freed_26 : decode cL_freed 26 = .ok (.if_icmp .ne 7, 3) := by decide +kernel
theorem dL_freed_29 : decode cL_freed 29 = .ok (.iconst 1, 1) := by decide +kernel
theorem dL_freed_30 : decode cL_freed 30 = .ok (.goto 4, 3) := by decide +kernel
theorem dL_freed_33 : decode cL_freed 33 = .ok (.iconst 0, 1) := by decide +kernel
theorem dL_freed_34 : decode cL_freed 34 = .ok (.iadd, 1) := by decide +kernel
theorem dL_freed_35 : decode cL_freed 35 = .ok (.istore_n 2, 1) := by decide +kernel
theorem dL_freed_36 : decode cL_freed 36 = .ok (.iinc 3 1, 3) := by decide +kernel
theorem dL_freed_39 : decode cL_freed 39 = .ok (.goto (-35), 3) := by decide +kernel
theorem dL_freed_42 : decode cL_freed 42 = .ok (.iload_n 2, 1) := by decide +kernel
theorem dL_freed_43 : decode cL_freed 43 = .ok (.ireturn, 1) := by decide +kernel
set_option maxRecDepth 20000 in
theorem ggL_alike_X6_lefts : GoodIn wsL_alike wsX6_lefts := goodIn_r _ [5, 6, 7, 237, 238, 239, 240, 241, 242, 243, 244, 245, 246, 247] (by decide +kernel) (by decide +kernel)
set_option maxRecDepth 20000 in
theorem gL_alike_X6_lefts : GoodIn wsL_alike (wsV RL 75 RX6 yX6_lefts wsX6_lefts) := goodIn_app (goodIn_of _ (by decide +kernel)) ggL_alike_X6_lefts
set_option maxRecDepth 20000 in
theorem ggL_alike_X6_rights : GoodIn wsL_alike wsX6_rights := goodIn_r _ [11, 6, 12, 237, 238, 239, 240, 241, 242, 243, 244, 245, 246, 247] (by decide +kernel) (by decide +kernel)
set_option maxRecDepth 20000 in
theorem gL_alike_X6_rights : GoodIn wsL_alike (wsV RL 78 RX6 yX6_rights wsX6_rights) := goodIn_app (goodIn_of _ (by decide +kernel)) ggL_alike_X6_rights
set_option maxRecDepth 20000 in
theorem ggL_alike_X6_edges : GoodIn wsL_alike wsX6_edges := goodIn_r _ [16, 6, 17, 237, 238, 239, 240, 241, 242, 243, 244, 245, 246, 247] (by decide +kernel) (by decide +kernel)
set_option maxRecDepth 20000 in
theorem gL_alike_X6_edges : GoodIn wsL_alike (wsV RL 138 RX6 yX6_edges wsX6_edges) := goodIn_app (goodIn_of _ (by decide +kernel)) ggL_alike_X6_edges
set_option maxRecDepth 20000 in
theorem ggL_alike_X6_size : GoodIn wsL_alike wsX6_size := goodIn_r _ [21, 22, 23, 237, 238, 239, 240, 241, 242, 248, 249, 250] (by decide +kernel) (by decide +kernel)
set_option maxRecDepth 20000 in
theorem gL_alike_X6_size : GoodIn wsL_alike (wsV RL 141 RX6 yX6_size wsX6_size) := goodIn_app (goodIn_of _ (by decide +kernel)) ggL_alike_X6_size
set_option maxRecDepth 20000 in
theorem ggL_alike_X6_largestMatchings : GoodIn wsL_alike wsX6_largestMatchings := goodIn_r _ [27, 28, 6, 22, 23, 29, 30, 31, 32, 33, 34, 35, 36, 37, 38, 39, 40, 41, 42, 43, 44, 45, 46, 47, 48, 49, 50, 4, 51, 52, 53, 54, 55, 56, 57, 58, 237, 238, 239, 240, 241, 242, 248, 249, 250, 251, 243, 244, 245, 246, 247] (by decide +kernel) (by decide +kernel)
set_option maxRecDepth 20000 in
theorem gL_alike_X6_largestMatchings : GoodIn wsL_alike (wsV RL 144 RX6 yX6_largestMatchings wsX6_largestMatchings) := goodIn_app (goodIn_of _ (by decide +kernel)) ggL_alike_X6_largestMatchings
set_option maxRecDepth 20000 in
theorem ggL_alike_X6_leastCovers : GoodIn wsL_alike wsX6_leastCovers := goodIn_r _ [62, 6, 22, 23, 63, 64, 4, 65, 7, 66, 67, 53, 54, 55, 56, 57, 58, 237, 238, 239, 240, 241, 242, 248, 249, 250, 243, 244, 245, 246, 247] (by decide +kernel) (by decide +kernel)
set_option maxRecDepth 20000 in
theorem gL_alike_X6_leastCovers : GoodIn wsL_alike (wsV RL 148 RX6 yX6_leastCovers wsX6_leastCovers) := goodIn_app (goodIn_of _ (by decide +kernel)) ggL_alike_X6_leastCovers
set_option maxRecDepth 20000 in
theorem ggL_alike_X6_fineParts : GoodIn wsL_alike wsX6_fineParts := goodIn_r _ [71, 72, 6, 22, 7, 73, 74, 75, 76, 77, 78, 79, 80, 81, 82, 83, 84, 85, 86, 87, 88, 89, 90, 91, 92, 93, 94, 95, 96, 97, 98, 99, 100, 101, 102, 103, 104, 50, 4, 51, 105, 106, 107, 108, 109, 110, 111, 112, 113, 114, 115, 116, 117, 118, 119, 120, 121, 122, 123, 124, 125, 126, 127, 237, 238, 239, 240, 241, 242, 243, 244, 245, 246, 247, 252, 253, 254, 255, 256, 248, 249, 250] (by decide +kernel) (by decide +kernel)
set_option maxRecDepth 20000 in
theorem gL_alike_X6_fineParts : GoodIn wsL_alike (wsV RL 151 RX6 yX6_fineParts wsX6_fineParts) := goodIn_app (goodIn_of _ (by decide +kernel)) ggL_alike_X6_fineParts
set_option maxRecDepth 20000 in
theorem ggL_alike_X6_greatestExcess : GoodIn wsL_alike wsX6_greatestExcess := goodIn_r _ [131, 6, 7, 22, 23, 237, 238, 239, 240, 241, 242, 243, 244, 245, 246, 247, 248, 249, 250] (by decide +kernel) (by decide +kernel)
set_option maxRecDepth 20000 in
theorem gL_alike_X6_greatestExcess : GoodIn wsL_alike (wsV RL 154 RX6 yX6_greatestExcess wsX6_greatestExcess) := goodIn_app (goodIn_of _ (by decide +kernel)) ggL_alike_X6_greatestExcess
set_option maxRecDepth 20000 in
theorem ggL_alike_L_leftCover : GoodIn wsL_alike wsL_leftCover := goodIn_ca (goodIn_r _ [135, 136, 137, 138, 139, 140, 4, 141, 72, 6, 22, 142, 143, 144, 145, 146, 147, 7, 73, 74, 75, 76, 77, 78, 79, 80, 81, 82, 83, 84, 85, 86, 87, 88, 89, 90, 91, 92, 93, 94, 95, 96, 97, 98, 99, 100, 101, 102, 103, 104, 50, 51, 105, 106, 107, 108, 109, 110, 111, 112, 113, 114, 115, 116, 117, 118, 119, 237, 238, 239, 240, 241, 242, 243, 244, 245, 246, 247, 252, 253, 254, 255, 256, 248, 249, 250] (by decide +kernel) (by decide +kernel)) (goodIn_sub (fun _ h => List.mem_cons_of_mem _ (List.mem_append_left _ (List.mem_append_right _ h))) (by decide +kernel))
set_option maxRecDepth 20000 in
theorem gL_alike_L_leftCover : GoodIn wsL_alike (va_wsS RL 116 yL_leftCover wsL_leftCover) := goodIn_app (goodIn_of _ (by decide +kernel)) ggL_alike_L_leftCover
set_option maxRecDepth 20000 in
theorem ggL_alike_L_leftPart : GoodIn wsL_alike wsL_leftPart := goodIn_ca (goodIn_r _ [150, 136, 137, 151, 152, 153, 4, 154, 72, 6, 22, 142, 143, 144, 145, 146, 147, 7, 73, 74, 75, 76, 77, 78, 79, 80, 81, 82, 83, 84, 85, 86, 87, 88, 89, 90, 91, 92, 93, 94, 95, 96, 97, 98, 99, 100, 101, 102, 103, 104, 50, 51, 105, 106, 107, 108, 109, 110, 111, 112, 113, 114, 115, 116, 117, 118, 119, 237, 238, 239, 240, 241, 242, 243, 244, 245, 246, 247, 252, 253, 254, 255, 256, 248, 249, 250] (by decide +kernel) (by decide +kernel)) (goodIn_sub (fun _ h => List.mem_cons_of_mem _ (List.mem_append_left _ (List.mem_append_right _ h))) (by decide +kernel))
set_option maxRecDepth 20000 in
theorem gL_alike_L_leftPart : GoodIn wsL_alike (va_wsS RL 100 yL_leftPart wsL_leftPart) := goodIn_app (goodIn_of _ (by decide +kernel)) ggL_alike_L_leftPart
set_option maxRecDepth 20000 in
theorem ggL_alike_L_rightPart : GoodIn wsL_alike wsL_rightPart := goodIn_ca (goodIn_r _ [157, 136, 137, 158, 159, 160, 4, 161, 72, 6, 22, 162, 163, 164, 165, 146, 147, 12, 73, 74, 75, 76, 77, 78, 79, 80, 81, 82, 83, 84, 85, 86, 87, 88, 89, 90, 91, 92, 93, 94, 95, 96, 97, 98, 99, 100, 101, 102, 103, 104, 50, 51, 105, 106, 107, 108, 109, 110, 111, 112, 166, 167, 168, 169, 117, 118, 119, 237, 238, 239, 240, 241, 242, 243, 244, 245, 246, 247, 252, 253, 254, 255, 256, 248, 249, 250] (by decide +kernel) (by decide +kernel)) (goodIn_sub (fun _ h => List.mem_cons_of_mem _ (List.mem_append_left _ (List.mem_append_right _ h))) (by decide +kernel))
set_option maxRecDepth 20000 in
theorem gL_alike_L_rightPart : GoodIn wsL_alike (va_wsS RL 103 yL_rightPart wsL_rightPart) := goodIn_app (goodIn_of _ (by decide +kernel)) ggL_alike_L_rightPart
set_option maxRecDepth 20000 in
theorem ggL_alike_L_ofLeft : GoodIn wsL_alike wsL_ofLeft := goodIn_ca (goodIn_ca (goodIn_r _ [172, 136, 173, 137, 174, 175, 176, 177, 4, 178, 179, 180, 22, 181, 142, 143, 144, 145, 146, 147, 6, 7, 237, 238, 239, 240, 241, 242, 248, 249, 250, 243, 244, 245, 246, 247] (by decide +kernel) (by decide +kernel)) (goodIn_sub (fun _ h => List.mem_cons_of_mem _ (List.mem_append_right _ h)) (by decide +kernel))) (goodIn_sub (fun _ h => List.mem_cons_of_mem _ (List.mem_append_left _ (List.mem_append_right _ h))) (by decide +kernel))
set_option maxRecDepth 20000 in
theorem gL_alike_L_ofLeft : GoodIn wsL_alike (va_wsS RL 93 yL_ofLeft wsL_ofLeft) := goodIn_app (goodIn_of _ (by decide +kernel)) ggL_alike_L_ofLeft
set_option maxRecDepth 20000 in
theorem ggL_alike_L_rightCover : GoodIn wsL_alike wsL_rightCover := goodIn_ca (goodIn_r _ [184, 136, 137, 185, 186, 187, 4, 188, 72, 6, 22, 162, 163, 164, 165, 146, 147, 12, 73, 74, 75, 76, 77, 78, 79, 80, 81, 82, 83, 84, 85, 86, 87, 88, 89, 90, 91, 92, 93, 94, 95, 96, 97, 98, 99, 100, 101, 102, 103, 104, 50, 51, 105, 106, 107, 108, 109, 110, 111, 112, 166, 167, 168, 169, 117, 118, 119, 237, 238, 239, 240, 241, 242, 243, 244, 245, 246, 247, 252, 253, 254, 255, 256, 248, 249, 250] (by decide +kernel) (by decide +kernel)) (goodIn_sub (fun _ h => List.mem_cons_of_mem _ (List.mem_append_left _ (List.mem_append_right _ h))) (by decide +kernel))
set_option maxRecDepth 20000 in
theorem gL_alike_L_rightCover : GoodIn wsL_alike (va_wsS RL 119 yL_rightCover wsL_rightCover) := goodIn_app (goodIn_of _ (by decide +kernel)) ggL_alike_L_rightCover
set_option maxRecDepth 20000 in
theorem ggL_alike_L_ofRight : GoodIn wsL_alike wsL_ofRight := goodIn_ca (goodIn_ca (goodIn_r _ [191, 136, 173, 137, 174, 192, 193, 194, 4, 195, 179, 180, 22, 196, 162, 163, 164, 165, 146, 147, 6, 12, 237, 238, 239, 240, 241, 242, 248, 249, 250, 243, 244, 245, 246, 247] (by decide +kernel) (by decide +kernel)) (goodIn_sub (fun _ h => List.mem_cons_of_mem _ (List.mem_append_right _ h)) (by decide +kernel))) (goodIn_sub (fun _ h => List.mem_cons_of_mem _ (List.mem_append_left _ (List.mem_append_right _ h))) (by decide +kernel))
set_option maxRecDepth 20000 in
theorem gL_alike_L_ofRight : GoodIn wsL_alike (va_wsS RL 97 yL_ofRight wsL_ofRight) := goodIn_app (goodIn_of _ (by decide +kernel)) ggL_alike_L_ofRight
set_option maxRecDepth 20000 in
theorem ggL_alike_L_has : GoodIn wsL_alike wsL_has := goodIn_ca (goodIn_r _ [199, 136, 137, 200, 201, 202, 4, 203, 6, 204, 205, 206, 207, 142, 143, 144, 145, 146, 147, 7, 162, 163, 164, 165, 12, 208, 209, 210, 211, 212, 213, 50, 51, 237, 238, 239, 240, 241, 242, 243, 244, 245, 246, 247] (by decide +kernel) (by decide +kernel)) (goodIn_sub (fun _ h => List.mem_cons_of_mem _ (List.mem_append_left _ (List.mem_append_right _ h))) (by decide +kernel))
set_option maxRecDepth 20000 in
theorem gL_alike_L_has : GoodIn wsL_alike (va_wsS RL 90 yL_has wsL_has) := goodIn_app (goodIn_of _ (by decide +kernel)) ggL_alike_L_has
set_option maxRecDepth 20000 in
theorem ggL_alike_L_inSome : GoodIn wsL_alike wsL_inSome := goodIn_ca (goodIn_ca (goodIn_r _ [216, 136, 173, 137, 174, 217, 218, 219, 4, 220, 72, 6, 22, 196, 221, 222, 223, 224, 179, 180, 204, 205, 206, 207, 142, 143, 144, 145, 146, 147, 7, 162, 163, 164, 165, 12, 208, 209, 210, 211, 212, 213, 50, 51, 73, 74, 75, 76, 77, 78, 79, 80, 81, 82, 83, 84, 85, 86, 87, 88, 89, 90, 91, 92, 93, 94, 95, 96, 97, 98, 99, 100, 101, 102, 103, 104, 105, 106, 107, 108, 109, 110, 111, 112, 113, 114, 115, 116, 117, 118, 119, 166, 167, 168, 169, 225, 226, 227, 228, 229, 121, 122, 123, 237, 238, 239, 240, 241, 242, 248, 249, 250, 243, 244, 245, 246, 247, 252, 253, 254, 255, 256] (by decide +kernel) (by decide +kernel)) (goodIn_sub (fun _ h => List.mem_cons_of_mem _ (List.mem_append_right _ h)) (by decide +kernel))) (goodIn_sub (fun _ h => List.mem_cons_of_mem _ (List.mem_append_left _ (List.mem_append_right _ h))) (by decide +kernel))
set_option maxRecDepth 20000 in
theorem gL_alike_L_inSome : GoodIn wsL_alike (va_wsS RL 110 yL_inSome wsL_inSome) := goodIn_app (goodIn_of _ (by decide +kernel)) ggL_alike_L_inSome
set_option maxRecDepth 20000 in
theorem ggL_alike_L_inAll : GoodIn wsL_alike wsL_inAll := goodIn_ca (goodIn_ca (goodIn_r _ [232, 136, 173, 137, 174, 233, 234, 235, 4, 236, 22, 181, 72, 6, 221, 222, 223, 224, 179, 180, 204, 205, 206, 207, 142, 143, 144, 145, 146, 147, 7, 162, 163, 164, 165, 12, 208, 209, 210, 211, 212, 213, 50, 51, 73, 74, 75, 76, 77, 78, 79, 80, 81, 82, 83, 84, 85, 86, 87, 88, 89, 90, 91, 92, 93, 94, 95, 96, 97, 98, 99, 100, 101, 102, 103, 104, 105, 106, 107, 108, 109, 110, 111, 112, 113, 114, 115, 116, 117, 118, 119, 120, 121, 122, 123, 237, 238, 239, 240, 241, 242, 248, 249, 250, 243, 244, 245, 246, 247, 252, 253, 254, 255, 256] (by decide +kernel) (by decide +kernel)) (goodIn_sub (fun _ h => List.mem_cons_of_mem _ (List.mem_append_right _ h)) (by decide +kernel))) (goodIn_sub (fun _ h => List.mem_cons_of_mem _ (List.mem_append_left _ (List.mem_append_right _ h))) (by decide +kernel))
set_option maxRecDepth 20000 in
theorem gL_alike_L_inAll : GoodIn wsL_alike (va_wsS RL 113 yL_inAll wsL_inAll) := goodIn_app (goodIn_of _ (by decide +kernel)) ggL_alike_L_inAll
theorem dL_alike_0 : decode cL_alike 0 = .ok (.aload_n 0, 1) := by decide +kernel
theorem dL_alike_1 : decode cL_alike 1 = .ok (.invokevirtual 75, 3) := by decide +kernel
theorem dL_alike_4 : decode cL_alike 4 = .ok (.aload_n 1, 1) := by decide +kernel
theorem dL_alike_5 : decode cL_alike 5 = .ok (.invokevirtual 78, 3) := by decide +kernel
theorem dL_alike_8 : decode cL_alike 8 = .ok (.if_icmp .ne 106, 3) := by decide +kernel
theorem dL_alike_11 : decode cL_alike 11 = .ok (.aload_n 0, 1) := by decide +kernel
theorem dL_alike_12 : decode cL_alike 12 = .ok (.invokevirtual 78, 3) := by decide +kernel
theorem dL_alike_15 : decode cL_alike 15 = .ok (.aload_n 1, 1) := by decide +kernel
theorem dL_alike_16 : decode cL_alike 16 = .ok (.invokevirtual 75, 3) := by decide +kernel
theorem dL_alike_19 : decode cL_alike 19 = .ok (.if_icmp .ne 95, 3) := by decide +kernel
theorem dL_alike_22 : decode cL_alike 22 = .ok (.aload_n 0, 1) := by decide +kernel
theorem dL_alike_23 : decode cL_alike 23 = .ok (.invokevirtual 138, 3) := by decide +kernel
theorem dL_alike_26 : decode cL_alike 26 = .ok (.aload_n 1, 1) := by decide +kernel
theorem dL_alike_27 : decode cL_alike 27 = .ok (.invokevirtual 138, 3) := by decide +kernel
theorem dL_alike_30 : decode cL_alike 30 = .ok (.if_icmp .ne 84, 3) := by decide +kernel
theorem dL_alike_33 : decode cL_alike 33 = .ok (.aload_n 0, 1) := by decide +kernel
theorem dL_alike_34 : decode cL_alike 34 = .ok (.invokevirtual 141, 3) := by decide +kernel
theorem dL_alike_37 : decode cL_alike 37 = .ok (.aload_n 1, 1) := by decide +kernel
theorem dL_alike_38 : decode cL_alike 38 = .ok (.invokevirtual 141, 3) := by decide +kernel
theorem dL_alike_41 : decode cL_alike 41 = .ok (.if_icmp .ne 73, 3) := by decide +kernel
theorem dL_alike_44 : decode cL_alike 44 = .ok (.aload_n 0, 1) := by decide +kernel
theorem dL_alike_45 : decode cL_alike 45 = .ok (.invokevirtual 144, 3) := by decide +kernel
theorem dL_alike_48 : decode cL_alike 48 = .ok (.aload_n 1, 1) := by decide +kernel
theorem dL_alike_49 : decode cL_alike 49 = .ok (.invokevirtual 144, 3) := by decide +kernel
theorem dL_alike_52 : decode cL_alike 52 = .ok (.lcmp, 1) := by decide +kernel
theorem dL_alike_53 : decode cL_alike 53 = .ok (.ifCond .ne 61, 3) := by decide +kernel
theorem dL_alike_56 : decode cL_alike 56 = .ok (.aload_n 0, 1) := by decide +kernel
theorem dL_alike_57 : decode cL_alike 57 = .ok (.invokevirtual 148, 3) := by decide +kernel
theorem dL_alike_60 : decode cL_alike 60 = .ok (.aload_n 1, 1) := by decide +kernel
theorem dL_alike_61 : decode cL_alike 61 = .ok (.invokevirtual 148, 3) := by decide +kernel
theorem dL_alike_64 : decode cL_alike 64 = .ok (.if_icmp .ne 50, 3) := by decide +kernel
theorem dL_alike_67 : decode cL_alike 67 = .ok (.aload_n 0, 1) := by decide +kernel
theorem dL_alike_68 : decode cL_alike 68 = .ok (.invokevirtual 151, 3) := by decide +kernel
theorem dL_alike_71 : decode cL_alike 71 = .ok (.aload_n 1, 1) := by decide +kernel
theorem dL_alike_72 : decode cL_alike 72 = .ok (.invokevirtual 151, 3) := by decide +kernel
theorem dL_alike_75 : decode cL_alike 75 = .ok (.if_icmp .ne 39, 3) := by decide +kernel
theorem dL_alike_78 : decode cL_alike 78 = .ok (.aload_n 0, 1) := by decide +kernel
theorem dL_alike_79 : decode cL_alike 79 = .ok (.invokevirtual 154, 3) := by decide +kernel
theorem dL_alike_82 : decode cL_alike 82 = .ok (.aload_n 0, 1) := by decide +kernel
theorem dL_alike_83 : decode cL_alike 83 = .ok (.invokevirtual 75, 3) := by decide +kernel
theorem dL_alike_86 : decode cL_alike 86 = .ok (.aload_n 0, 1) := by decide +kernel
theorem dL_alike_87 : decode cL_alike 87 = .ok (.invokevirtual 141, 3) := by decide +kernel
theorem dL_alike_90 : decode cL_alike 90 = .ok (.isub, 1) := by decide +kernel
theorem dL_alike_91 : decode cL_alike 91 = .ok (.if_icmp .ne 23, 3) := by decide +kernel
theorem dL_alike_94 : decode cL_alike 94 = .ok (.aload_n 1, 1) := by decide +kernel
theorem dL_alike_95 : decode cL_alike 95 = .ok (.invokevirtual 154, 3) := by decide +kernel
theorem dL_alike_98 : decode cL_alike 98 = .ok (.aload_n 0, 1) := by decide +kernel
theorem dL_alike_99 : decode cL_alike 99 = .ok (.invokevirtual 78, 3) := by decide +kernel
theorem dL_alike_102 : decode cL_alike 102 = .ok (.aload_n 0, 1) := by decide +kernel
theorem dL_alike_103 : decode cL_alike 103 = .ok (.invokevirtual 141, 3) := by decide +kernel
theorem dL_alike_106 : decode cL_alike 106 = .ok (.isub, 1) := by decide +kernel
theorem dL_alike_107 : decode cL_alike 107 = .ok (.if_icmp .ne 7, 3) := by decide +kernel
theorem dL_alike_110 : decode cL_alike 110 = .ok (.iconst 1, 1) := by decide +kernel
theorem dL_alike_111 : decode cL_alike 111 = .ok (.goto 4, 3) := by decide +kernel
theorem dL_alike_114 : decode cL_alike 114 = .ok (.iconst 0, 1) := by decide +kernel
theorem dL_alike_115 : decode cL_alike 115 = .ok (.istore_n 3, 1) := by decide +kernel
theorem dL_alike_116 : decode cL_alike 116 = .ok (.iconst 0, 1) := by decide +kernel
theorem dL_alike_117 : decode cL_alike 117 = .ok (.istore 4, 2) := by decide +kernel
theorem dL_alike_119 : decode cL_alike 119 = .ok (.iconst 0, 1) := by decide +kernel
theorem dL_alike_120 : decode cL_alike 120 = .ok (.istore 5, 2) := by decide +kernel
theorem dL_alike_122 : decode cL_alike 122 = .ok (.iload 5, 2) := by decide +kernel
theorem dL_alike_124 : decode cL_alike 124 = .ok (.aload_n 0, 1) := by decide +kernel
theorem dL_alike_125 : decode cL_alike 125 = .ok (.invokevirtual 75, 3) := by decide +kernel
theorem dL_alike_128 : decode cL_alike 128 = .ok (.if_icmp .ge 65, 3) := by decide +kernel
theorem dL_alike_131 : decode cL_alike 131 = .ok (.iload_n 3, 1) := by decide +kernel
theorem dL_alike_132 : decode cL_alike 132 = .ok (.ifCond .eq 61, 3) := by decide +kernel
theorem dL_alike_135 : decode cL_alike 135 = .ok (.iload 4, 2) := by decide +kernel
theorem dL_alike_137 : decode cL_alike 137 = .ok (.aload_n 0, 1) := by decide +kernel
theorem dL_alike_138 : decode cL_alike 138 = .ok (.iload 5, 2) := by decide +kernel
theorem dL_alike_140 : decode cL_alike 140 = .ok (.invokestatic 116, 3) := by decide +kernel
theorem dL_alike_143 : decode cL_alike 143 = .ok (.iadd, 1) := by decide +kernel
theorem dL_alike_144 : decode cL_alike 144 = .ok (.istore 4, 2) := by decide +kernel
theorem dL_alike_146 : decode cL_alike 146 = .ok (.aload_n 0, 1) := by decide +kernel
theorem dL_alike_147 : decode cL_alike 147 = .ok (.iload 5, 2) := by decide +kernel
theorem dL_alike_149 : decode cL_alike 149 = .ok (.invokestatic 100, 3) := by decide +kernel
theorem dL_alike_152 : decode cL_alike 152 = .ok (.iconst 2, 1) := by decide +kernel
theorem dL_alike_153 : decode cL_alike 153 = .ok (.aload_n 1, 1) := by decide +kernel
theorem dL_alike_154 : decode cL_alike 154 = .ok (.iload 5, 2) := by decide +kernel
theorem dL_alike_156 : decode cL_alike 156 = .ok (.invokestatic 103, 3) := by decide +kernel
theorem dL_alike_159 : decode cL_alike 159 = .ok (.isub, 1) := by decide +kernel
theorem dL_alike_160 : decode cL_alike 160 = .ok (.if_icmp .ne 25, 3) := by decide +kernel
theorem dL_alike_163 : decode cL_alike 163 = .ok (.aload_n 0, 1) := by decide +kernel
theorem dL_alike_164 : decode cL_alike 164 = .ok (.iload 5, 2) := by decide +kernel
theorem dL_alike_166 : decode cL_alike 166 = .ok (.invokestatic 93, 3) := by decide +kernel
theorem dL_alike_169 : decode cL_alike 169 = .ok (.ifCond .ge 12, 3) := by decide +kernel
theorem dL_alike_172 : decode cL_alike 172 = .ok (.aload_n 0, 1) := by decide +kernel
theorem dL_alike_173 : decode cL_alike 173 = .ok (.iload 5, 2) := by decide +kernel
theorem dL_alike_175 : decode cL_alike 175 = .ok (.invokestatic 100, 3) := by decide +kernel
theorem dL_alike_178 : decode cL_alike 178 = .ok (.ifCond .ne 7, 3) := by decide +kernel
theorem dL_alike_181 : decode cL_alike 181 = .ok (.iconst 1, 1) := by decide +kernel
theorem dL_alike_182 : decode cL_alike 182 = .ok (.goto 4, 3) := by decide +kernel
theorem dL_alike_185 : decode cL_alike 185 = .ok (.iconst 0, 1) := by decide +kernel
theorem dL_alike_186 : decode cL_alike 186 = .ok (.istore_n 3, 1) := by decide +kernel
theorem dL_alike_187 : decode cL_alike 187 = .ok (.iinc 5 1, 3) := by decide +kernel
theorem dL_alike_190 : decode cL_alike 190 = .ok (.goto (-68), 3) := by decide +kernel
theorem dL_alike_193 : decode cL_alike 193 = .ok (.iconst 0, 1) := by decide +kernel
theorem dL_alike_194 : decode cL_alike 194 = .ok (.istore 5, 2) := by decide +kernel
theorem dL_alike_196 : decode cL_alike 196 = .ok (.iload 5, 2) := by decide +kernel
theorem dL_alike_198 : decode cL_alike 198 = .ok (.aload_n 0, 1) := by decide +kernel
theorem dL_alike_199 : decode cL_alike 199 = .ok (.invokevirtual 78, 3) := by decide +kernel
theorem dL_alike_202 : decode cL_alike 202 = .ok (.if_icmp .ge 66, 3) := by decide +kernel
theorem dL_alike_205 : decode cL_alike 205 = .ok (.iload_n 3, 1) := by decide +kernel
theorem dL_alike_206 : decode cL_alike 206 = .ok (.ifCond .eq 62, 3) := by decide +kernel
theorem dL_alike_209 : decode cL_alike 209 = .ok (.iload 4, 2) := by decide +kernel
theorem dL_alike_211 : decode cL_alike 211 = .ok (.aload_n 0, 1) := by decide +kernel
theorem dL_alike_212 : decode cL_alike 212 = .ok (.iload 5, 2) := by decide +kernel
theorem dL_alike_214 : decode cL_alike 214 = .ok (.invokestatic 119, 3) := by decide +kernel
theorem dL_alike_217 : decode cL_alike 217 = .ok (.iadd, 1) := by decide +kernel
theorem dL_alike_218 : decode cL_alike 218 = .ok (.istore 4, 2) := by decide +kernel
theorem dL_alike_220 : decode cL_alike 220 = .ok (.aload_n 0, 1) := by decide +kernel
theorem dL_alike_221 : decode cL_alike 221 = .ok (.iload 5, 2) := by decide +kernel
theorem dL_alike_223 : decode cL_alike 223 = .ok (.invokestatic 103, 3) := by decide +kernel
theorem dL_alike_226 : decode cL_alike 226 = .ok (.iconst 2, 1) := by decide +kernel
theorem dL_alike_227 : decode cL_alike 227 = .ok (.aload_n 1, 1) := by decide +kernel
theorem dL_alike_228 : decode cL_alike 228 = .ok (.iload 5, 2) := by decide +kernel
theorem dL_alike_230 : decode cL_alike 230 = .ok (.invokestatic 100, 3) := by decide +kernel
theorem dL_alike_233 : decode cL_alike 233 = .ok (.isub, 1) := by decide +kernel
theorem dL_alike_234 : decode cL_alike 234 = .ok (.if_icmp .ne 26, 3) := by decide +kernel
theorem dL_alike_237 : decode cL_alike 237 = .ok (.aload_n 0, 1) := by decide +kernel
theorem dL_alike_238 : decode cL_alike 238 = .ok (.iload 5, 2) := by decide +kernel
theorem dL_alike_240 : decode cL_alike 240 = .ok (.invokestatic 97, 3) := by decide +kernel
theorem dL_alike_243 : decode cL_alike 243 = .ok (.ifCond .ge 13, 3) := by decide +kernel
theorem dL_alike_246 : decode cL_alike 246 = .ok (.aload_n 0, 1) := by decide +kernel
theorem dL_alike_247 : decode cL_alike 247 = .ok (.iload 5, 2) := by decide +kernel
theorem dL_alike_249 : decode cL_alike 249 = .ok (.invokestatic 103, 3) := by decide +kernel
theorem dL_alike_252 : decode cL_alike 252 = .ok (.iconst 2, 1) := by decide +kernel
theorem dL_alike_253 : decode cL_alike 253 = .ok (.if_icmp .ne 7, 3) := by decide +kernel
theorem dL_alike_256 : decode cL_alike 256 = .ok (.iconst 1, 1) := by decide +kernel
theorem dL_alike_257 : decode cL_alike 257 = .ok (.goto 4, 3) := by decide +kernel
theorem dL_alike_260 : decode cL_alike 260 = .ok (.iconst 0, 1) := by decide +kernel
theorem dL_alike_261 : decode cL_alike 261 = .ok (.istore_n 3, 1) := by decide +kernel
theorem dL_alike_262 : decode cL_alike 262 = .ok (.iinc 5 1, 3) := by decide +kernel
theorem dL_alike_265 : decode cL_alike 265 = .ok (.goto (-69), 3) := by decide +kernel
theorem dL_alike_268 : decode cL_alike 268 = .ok (.iload_n 3, 1) := by decide +kernel
theorem dL_alike_269 : decode cL_alike 269 = .ok (.ifCond .eq 220, 3) := by decide +kernel
theorem dL_alike_272 : decode cL_alike 272 = .ok (.aload_n 0, 1) := by decide +kernel
theorem dL_alike_273 : decode cL_alike 273 = .ok (.invokevirtual 75, 3) := by decide +kernel
theorem dL_alike_276 : decode cL_alike 276 = .ok (.ifCond .le 213, 3) := by decide +kernel
theorem dL_alike_279 : decode cL_alike 279 = .ok (.aload_n 0, 1) := by decide +kernel
theorem dL_alike_280 : decode cL_alike 280 = .ok (.invokevirtual 78, 3) := by decide +kernel
theorem dL_alike_283 : decode cL_alike 283 = .ok (.ifCond .le 206, 3) := by decide +kernel
theorem dL_alike_286 : decode cL_alike 286 = .ok (.iconst 0, 1) := by decide +kernel
theorem dL_alike_287 : decode cL_alike 287 = .ok (.istore 5, 2) := by decide +kernel
theorem dL_alike_289 : decode cL_alike 289 = .ok (.iload 5, 2) := by decide +kernel
theorem dL_alike_291 : decode cL_alike 291 = .ok (.bipush 6, 2) := by decide +kernel
theorem dL_alike_293 : decode cL_alike 293 = .ok (.if_icmp .ge 196, 3) := by decide +kernel
theorem dL_alike_296 : decode cL_alike 296 = .ok (.iload_n 3, 1) := by decide +kernel
theorem dL_alike_297 : decode cL_alike 297 = .ok (.ifCond .eq 192, 3) := by decide +kernel
theorem dL_alike_300 : decode cL_alike 300 = .ok (.iload_n 2, 1) := by decide +kernel
theorem dL_alike_301 : decode cL_alike 301 = .ok (.iload 5, 2) := by decide +kernel
theorem dL_alike_303 : decode cL_alike 303 = .ok (.iadd, 1) := by decide +kernel
theorem dL_alike_304 : decode cL_alike 304 = .ok (.aload_n 0, 1) := by decide +kernel
theorem dL_alike_305 : decode cL_alike 305 = .ok (.invokevirtual 75, 3) := by decide +kernel
theorem dL_alike_308 : decode cL_alike 308 = .ok (.irem, 1) := by decide +kernel
theorem dL_alike_309 : decode cL_alike 309 = .ok (.istore 6, 2) := by decide +kernel
theorem dL_alike_311 : decode cL_alike 311 = .ok (.iload_n 2, 1) := by decide +kernel
theorem dL_alike_312 : decode cL_alike 312 = .ok (.bipush 12, 2) := by decide +kernel
theorem dL_alike_314 : decode cL_alike 314 = .ok (.idiv, 1) := by decide +kernel
theorem dL_alike_315 : decode cL_alike 315 = .ok (.aload_n 0, 1) := by decide +kernel
theorem dL_alike_316 : decode cL_alike 316 = .ok (.invokevirtual 78, 3) := by decide +kernel
theorem dL_alike_319 : decode cL_alike 319 = .ok (.irem, 1) := by decide +kernel
theorem dL_alike_320 : decode cL_alike 320 = .ok (.istore 7, 2) := by decide +kernel
theorem dL_alike_322 : decode cL_alike 322 = .ok (.aload_n 0, 1) := by decide +kernel
theorem dL_alike_323 : decode cL_alike 323 = .ok (.iload 6, 2) := by decide +kernel
theorem dL_alike_325 : decode cL_alike 325 = .ok (.iload 7, 2) := by decide +kernel
theorem dL_alike_327 : decode cL_alike 327 = .ok (.invokestatic 90, 3) := by decide +kernel
theorem dL_alike_330 : decode cL_alike 330 = .ok (.iconst 1, 1) := by decide +kernel
theorem dL_alike_331 : decode cL_alike 331 = .ok (.if_icmp .ne 19, 3) := by decide +kernel
theorem dL_alike_334 : decode cL_alike 334 = .ok (.aload_n 0, 1) := by decide +kernel
theorem dL_alike_335 : decode cL_alike 335 = .ok (.iload 6, 2) := by decide +kernel
theorem dL_alike_337 : decode cL_alike 337 = .ok (.invokestatic 116, 3) := by decide +kernel
theorem dL_alike_340 : decode cL_alike 340 = .ok (.aload_n 0, 1) := by decide +kernel
theorem dL_alike_341 : decode cL_alike 341 = .ok (.iload 7, 2) := by decide +kernel
theorem dL_alike_343 : decode cL_alike 343 = .ok (.invokestatic 119, 3) := by decide +kernel
theorem dL_alike_346 : decode cL_alike 346 = .ok (.iadd, 1) := by decide +kernel
theorem dL_alike_347 : decode cL_alike 347 = .ok (.ifCond .le 7, 3) := by decide +kernel
theorem dL_alike_350 : decode cL_alike 350 = .ok (.iconst 1, 1) := by decide +kernel
theorem dL_alike_351 : decode cL_alike 351 = .ok (.goto 4, 3) := by decide +kernel
theorem dL_alike_354 : decode cL_alike 354 = .ok (.iconst 0, 1) := by decide +kernel
theorem dL_alike_355 : decode cL_alike 355 = .ok (.istore 8, 2) := by decide +kernel
theorem dL_alike_357 : decode cL_alike 357 = .ok (.iload 8, 2) := by decide +kernel
theorem dL_alike_359 : decode cL_alike 359 = .ok (.ifCond .eq 122, 3) := by decide +kernel
theorem dL_alike_362 : decode cL_alike 362 = .ok (.aload_n 1, 1) := by decide +kernel
theorem dL_alike_363 : decode cL_alike 363 = .ok (.iload 7, 2) := by decide +kernel
theorem dL_alike_365 : decode cL_alike 365 = .ok (.iload 6, 2) := by decide +kernel
theorem dL_alike_367 : decode cL_alike 367 = .ok (.invokestatic 90, 3) := by decide +kernel
theorem dL_alike_370 : decode cL_alike 370 = .ok (.aload_n 0, 1) := by decide +kernel
theorem dL_alike_371 : decode cL_alike 371 = .ok (.iload 6, 2) := by decide +kernel
theorem dL_alike_373 : decode cL_alike 373 = .ok (.iload 7, 2) := by decide +kernel
theorem dL_alike_375 : decode cL_alike 375 = .ok (.invokestatic 90, 3) := by decide +kernel
theorem dL_alike_378 : decode cL_alike 378 = .ok (.if_icmp .ne 103, 3) := by decide +kernel
theorem dL_alike_381 : decode cL_alike 381 = .ok (.aload_n 1, 1) := by decide +kernel
theorem dL_alike_382 : decode cL_alike 382 = .ok (.iload 7, 2) := by decide +kernel
theorem dL_alike_384 : decode cL_alike 384 = .ok (.iload 6, 2) := by decide +kernel
theorem dL_alike_386 : decode cL_alike 386 = .ok (.invokestatic 110, 3) := by decide +kernel
theorem dL_alike_389 : decode cL_alike 389 = .ok (.aload_n 0, 1) := by decide +kernel
theorem dL_alike_390 : decode cL_alike 390 = .ok (.iload 6, 2) := by decide +kernel
theorem dL_alike_392 : decode cL_alike 392 = .ok (.iload 7, 2) := by decide +kernel
theorem dL_alike_394 : decode cL_alike 394 = .ok (.invokestatic 110, 3) := by decide +kernel
theorem dL_alike_397 : decode cL_alike 397 = .ok (.if_icmp .ne 84, 3) := by decide +kernel
theorem dL_alike_400 : decode cL_alike 400 = .ok (.aload_n 1, 1) := by decide +kernel
theorem dL_alike_401 : decode cL_alike 401 = .ok (.iload 7, 2) := by decide +kernel
theorem dL_alike_403 : decode cL_alike 403 = .ok (.iload 6, 2) := by decide +kernel
theorem dL_alike_405 : decode cL_alike 405 = .ok (.invokestatic 113, 3) := by decide +kernel
theorem dL_alike_408 : decode cL_alike 408 = .ok (.aload_n 0, 1) := by decide +kernel
theorem dL_alike_409 : decode cL_alike 409 = .ok (.iload 6, 2) := by decide +kernel
theorem dL_alike_411 : decode cL_alike 411 = .ok (.iload 7, 2) := by decide +kernel
theorem dL_alike_413 : decode cL_alike 413 = .ok (.invokestatic 113, 3) := by decide +kernel
theorem dL_alike_416 : decode cL_alike 416 = .ok (.if_icmp .ne 65, 3) := by decide +kernel
theorem dL_alike_419 : decode cL_alike 419 = .ok (.aload_n 0, 1) := by decide +kernel
theorem dL_alike_420 : decode cL_alike 420 = .ok (.iload 6, 2) := by decide +kernel
theorem dL_alike_422 : decode cL_alike 422 = .ok (.iload 7, 2) := by decide +kernel
theorem dL_alike_424 : decode cL_alike 424 = .ok (.invokestatic 113, 3) := by decide +kernel
theorem dL_alike_427 : decode cL_alike 427 = .ok (.iconst 1, 1) := by decide +kernel
theorem dL_alike_428 : decode cL_alike 428 = .ok (.if_icmp .ne 26, 3) := by decide +kernel
theorem dL_alike_431 : decode cL_alike 431 = .ok (.aload_n 0, 1) := by decide +kernel
theorem dL_alike_432 : decode cL_alike 432 = .ok (.iload 6, 2) := by decide +kernel
theorem dL_alike_434 : decode cL_alike 434 = .ok (.iload 7, 2) := by decide +kernel
theorem dL_alike_436 : decode cL_alike 436 = .ok (.invokestatic 110, 3) := by decide +kernel
theorem dL_alike_439 : decode cL_alike 439 = .ok (.iconst 1, 1) := by decide +kernel
theorem dL_alike_440 : decode cL_alike 440 = .ok (.if_icmp .ne 41, 3) := by decide +kernel
theorem dL_alike_443 : decode cL_alike 443 = .ok (.aload_n 0, 1) := by decide +kernel
theorem dL_alike_444 : decode cL_alike 444 = .ok (.iload 6, 2) := by decide +kernel
theorem dL_alike_446 : decode cL_alike 446 = .ok (.invokestatic 93, 3) := by decide +kernel
theorem dL_alike_449 : decode cL_alike 449 = .ok (.iload 7, 2) := by decide +kernel
theorem dL_alike_451 : decode cL_alike 451 = .ok (.if_icmp .ne 30, 3) := by decide +kernel
theorem dL_alike_454 : decode cL_alike 454 = .ok (.aload_n 0, 1) := by decide +kernel
theorem dL_alike_455 : decode cL_alike 455 = .ok (.iload 6, 2) := by decide +kernel
theorem dL_alike_457 : decode cL_alike 457 = .ok (.invokestatic 93, 3) := by decide +kernel
theorem dL_alike_460 : decode cL_alike 460 = .ok (.iload 7, 2) := by decide +kernel
theorem dL_alike_462 : decode cL_alike 462 = .ok (.if_icmp .ne 15, 3) := by decide +kernel
theorem dL_alike_465 : decode cL_alike 465 = .ok (.aload_n 0, 1) := by decide +kernel
theorem dL_alike_466 : decode cL_alike 466 = .ok (.iload 6, 2) := by decide +kernel
theorem dL_alike_468 : decode cL_alike 468 = .ok (.iload 7, 2) := by decide +kernel
theorem dL_alike_470 : decode cL_alike 470 = .ok (.invokestatic 110, 3) := by decide +kernel
theorem dL_alike_473 : decode cL_alike 473 = .ok (.iconst 1, 1) := by decide +kernel
theorem dL_alike_474 : decode cL_alike 474 = .ok (.if_icmp .ne 7, 3) := by decide +kernel
theorem dL_alike_477 : decode cL_alike 477 = .ok (.iconst 1, 1) := by decide +kernel
theorem dL_alike_478 : decode cL_alike 478 = .ok (.goto 4, 3) := by decide +kernel
theorem dL_alike_481 : decode cL_alike 481 = .ok (.iconst 0, 1) := by decide +kernel
theorem dL_alike_482 : decode cL_alike 482 = .ok (.istore_n 3, 1) := by decide +kernel
theorem dL_alike_483 : decode cL_alike 483 = .ok (.iinc 5 1, 3) := by decide +kernel
theorem dL_alike_486 : decode cL_alike 486 = .ok (.goto (-197), 3) := by decide +kernel
theorem dL_alike_489 : decode cL_alike 489 = .ok (.iload_n 3, 1) := by decide +kernel
theorem dL_alike_490 : decode cL_alike 490 = .ok (.ifCond .eq 16, 3) := by decide +kernel
theorem dL_alike_493 : decode cL_alike 493 = .ok (.iload 4, 2) := by decide +kernel
theorem dL_alike_495 : decode cL_alike 495 = .ok (.aload_n 0, 1) := by decide +kernel
theorem dL_alike_496 : decode cL_alike 496 = .ok (.invokevirtual 141, 3) := by decide +kernel
theorem dL_alike_499 : decode cL_alike 499 = .ok (.if_icmp .ne 7, 3) := by decide +kernel
theorem dL_alike_502 : decode cL_alike 502 = .ok (.iconst 1, 1) := by decide +kernel
theorem dL_alike_503 : decode cL_alike 503 = .ok (.goto 4, 3) := by decide +kernel
theorem dL_alike_506 : decode cL_alike 506 = .ok (.iconst 0, 1) := by decide +kernel
theorem dL_alike_507 : decode cL_alike 507 = .ok (.ireturn, 1) := by decide +kernel
