set_option maxRecDepth 20000 in
theorem ggL_newLeft_X6_addLeft : GoodIn wsL_newLeft wsX6_addLeft := goodIn_ca (goodIn_r _ [7, 8, 9, 10, 11, 12, 13, 14, 15, 16, 17, 18, 19, 20, 21, 22] (by decide +kernel) (by decide +kernel)) (goodIn_sub (fun _ h => List.mem_cons_of_mem _ (List.mem_append_right _ h)) (by decide +kernel))
set_option maxRecDepth 20000 in
theorem gL_newLeft_X6_addLeft : GoodIn wsL_newLeft (wsV RL 7 RX6 yX6_addLeft wsX6_addLeft) := goodIn_app (goodIn_of _ (by decide +kernel)) ggL_newLeft_X6_addLeft
theorem dL_newLeft_0 : decode cL_newLeft 0 = .ok (.aload_n 0, 1) := by decide +kernel
theorem dL_newLeft_1 : decode cL_newLeft 1 = .ok (.invokevirtual 7, 3) := by decide +kernel
theorem dL_newLeft_4 : decode cL_newLeft 4 = .ok (.ireturn, 1) := by decide +kernel
theorem dL_newLeft_5 : decode cL_newLeft 5 = .ok (.astore_n 1, 1) := by decide +kernel
theorem dL_newLeft_6 : decode cL_newLeft 6 = .ok (.ldc 15, 2) := by decide +kernel
theorem dL_newLeft_8 : decode cL_newLeft 8 = .ok (.ireturn, 1) := by decide +kernel
set_option maxRecDepth 20000 in
theorem ggL_newRight_X6_addRight : GoodIn wsL_newRight wsX6_addRight := goodIn_ca (goodIn_r _ [7, 8, 9, 10, 11, 12, 13, 14, 15, 16, 17, 18, 19, 20, 21, 22] (by decide +kernel) (by decide +kernel)) (goodIn_sub (fun _ h => List.mem_cons_of_mem _ (List.mem_append_right _ h)) (by decide +kernel))
set_option maxRecDepth 20000 in
theorem gL_newRight_X6_addRight : GoodIn wsL_newRight (wsV RL 16 RX6 yX6_addRight wsX6_addRight) := goodIn_app (goodIn_of _ (by decide +kernel)) ggL_newRight_X6_addRight
theorem dL_newRight_0 : decode cL_newRight 0 = .ok (.aload_n 0, 1) := by decide +kernel
theorem dL_newRight_1 : decode cL_newRight 1 = .ok (.invokevirtual 16, 3) := by decide +kernel
theorem dL_newRight_4 : decode cL_newRight 4 = .ok (.ireturn, 1) := by decide +kernel
theorem dL_newRight_5 : decode cL_newRight 5 = .ok (.astore_n 1, 1) := by decide +kernel
theorem dL_newRight_6 : decode cL_newRight 6 = .ok (.ldc 15, 2) := by decide +kernel
theorem dL_newRight_8 : decode cL_newRight 8 = .ok (.ireturn, 1) := by decide +kernel
set_option maxRecDepth 20000 in
theorem ggL_joined_X6_connect : GoodIn wsL_joined wsX6_connect := goodIn_ca (goodIn_ca (goodIn_r _ [9, 10, 11, 12, 13, 14, 15, 16, 17, 8, 18, 19, 20, 21, 22, 23, 24, 25, 26, 27, 28, 29, 30, 31, 32, 33, 34, 35, 36, 37, 38, 39, 40, 41, 42, 43, 44, 45, 46, 47, 48, 49, 50, 51, 52, 53, 54, 55, 56, 57, 58, 59, 60, 61, 62, 63, 64, 65, 66, 67, 68, 69, 70, 71, 72, 73, 74, 75, 76, 77, 78, 79, 80, 81, 82, 83, 84, 85, 86, 87, 88, 89, 90, 91, 92, 93, 94, 95, 96, 97, 98, 99, 100, 101, 102, 103, 104, 105, 106, 107, 108, 109] (by decide +kernel) (by decide +kernel)) (goodIn_sub (fun _ h => List.mem_cons_of_mem _ (List.mem_append_left _ (List.mem_append_right _ h))) (by decide +kernel))) (goodIn_sub (fun _ h => List.mem_cons_of_mem _ (List.mem_append_right _ h)) (by decide +kernel))
set_option maxRecDepth 20000 in
theorem gL_joined_X6_connect : GoodIn wsL_joined (wsV RL 19 RX6 yX6_connect wsX6_connect) := goodIn_app (goodIn_of _ (by decide +kernel)) ggL_joined_X6_connect
theorem dL_joined_0 : decode cL_joined 0 = .ok (.aload_n 0, 1) := by decide +kernel
theorem dL_joined_1 : decode cL_joined 1 = .ok (.iload_n 1, 1) := by decide +kernel
theorem dL_joined_2 : decode cL_joined 2 = .ok (.iload_n 2, 1) := by decide +kernel
theorem dL_joined_3 : decode cL_joined 3 = .ok (.invokevirtual 19, 3) := by decide +kernel
theorem dL_joined_6 : decode cL_joined 6 = .ok (.ifCond .eq 7, 3) := by decide +kernel
theorem dL_joined_9 : decode cL_joined 9 = .ok (.iconst 1, 1) := by decide +kernel
theorem dL_joined_10 : decode cL_joined 10 = .ok (.goto 4, 3) := by decide +kernel
theorem dL_joined_13 : decode cL_joined 13 = .ok (.iconst 0, 1) := by decide +kernel
theorem dL_joined_14 : decode cL_joined 14 = .ok (.ireturn, 1) := by decide +kernel
theorem dL_joined_15 : decode cL_joined 15 = .ok (.astore_n 3, 1) := by decide +kernel
theorem dL_joined_16 : decode cL_joined 16 = .ok (.ldc 25, 2) := by decide +kernel
theorem dL_joined_18 : decode cL_joined 18 = .ok (.ireturn, 1) := by decide +kernel
theorem dL_joined_19 : decode cL_joined 19 = .ok (.astore_n 3, 1) := by decide +kernel
theorem dL_joined_20 : decode cL_joined 20 = .ok (.ldc 15, 2) := by decide +kernel
theorem dL_joined_22 : decode cL_joined 22 = .ok (.ireturn, 1) := by decide +kernel
set_option maxRecDepth 20000 in
theorem ggL_parted_X6_disconnect : GoodIn wsL_parted wsX6_disconnect := goodIn_ca (goodIn_ca (goodIn_r _ [9, 10, 11, 12, 13, 14, 15, 16, 8, 17, 18, 19, 20, 21, 22, 23, 24, 25, 26, 27, 28, 29, 30, 31, 32, 33, 34, 35, 36, 37, 38, 39, 40, 41, 42, 43, 44, 45, 46, 47, 48, 49, 50, 51, 52, 53, 54, 55, 56, 57, 58, 59, 60, 61, 62, 63, 64, 65, 66, 67, 68, 69, 70, 71, 72, 73, 74, 75, 76, 77, 78, 79, 80, 81, 82, 83, 84, 85, 86, 87, 88, 89, 90, 91, 92, 93, 94, 95, 96, 97, 98, 99, 100, 101, 102, 103, 104, 105, 106, 107, 108, 109, 110, 111, 112, 113, 114, 115, 116, 117, 118, 119] (by decide +kernel) (by decide +kernel)) (goodIn_sub (fun _ h => List.mem_cons_of_mem _ (List.mem_append_left _ (List.mem_append_right _ h))) (by decide +kernel))) (goodIn_sub (fun _ h => List.mem_cons_of_mem _ (List.mem_append_right _ h)) (by decide +kernel))
set_option maxRecDepth 20000 in
theorem gL_parted_X6_disconnect : GoodIn wsL_parted (wsV RL 26 RX6 yX6_disconnect wsX6_disconnect) := goodIn_app (goodIn_of _ (by decide +kernel)) ggL_parted_X6_disconnect
theorem dL_parted_0 : decode cL_parted 0 = .ok (.aload_n 0, 1) := by decide +kernel
theorem dL_parted_1 : decode cL_parted 1 = .ok (.iload_n 1, 1) := by decide +kernel
theorem dL_parted_2 : decode cL_parted 2 = .ok (.iload_n 2, 1) := by decide +kernel
theorem dL_parted_3 : decode cL_parted 3 = .ok (.invokevirtual 26, 3) := by decide +kernel
theorem dL_parted_6 : decode cL_parted 6 = .ok (.ifCond .eq 7, 3) := by decide +kernel
theorem dL_parted_9 : decode cL_parted 9 = .ok (.iconst 1, 1) := by decide +kernel
theorem dL_parted_10 : decode cL_parted 10 = .ok (.goto 4, 3) := by decide +kernel
theorem dL_parted_13 : decode cL_parted 13 = .ok (.iconst 0, 1) := by decide +kernel
theorem dL_parted_14 : decode cL_parted 14 = .ok (.ireturn, 1) := by decide +kernel
theorem dL_parted_15 : decode cL_parted 15 = .ok (.astore_n 3, 1) := by decide +kernel
theorem dL_parted_16 : decode cL_parted 16 = .ok (.ldc 25, 2) := by decide +kernel
theorem dL_parted_18 : decode cL_parted 18 = .ok (.ireturn, 1) := by decide +kernel
theorem dL_parted_19 : decode cL_parted 19 = .ok (.astore_n 3, 1) := by decide +kernel
theorem dL_parted_20 : decode cL_parted 20 = .ok (.ldc 31, 2) := by decide +kernel
theorem dL_parted_22 : decode cL_parted 22 = .ok (.ireturn, 1) := by decide +kernel
set_option maxRecDepth 20000 in
theorem ggL_has_X6_hasEdge : GoodIn wsL_has wsX6_hasEdge := goodIn_ca (goodIn_r _ [7, 8, 9, 10, 11, 6, 12, 13, 14, 15, 16, 17, 18, 19, 20, 21, 22, 23, 24, 25, 26, 27, 28, 29, 30, 31, 32, 33, 34, 35, 36, 37, 38, 39, 40, 41, 42, 43] (by decide +kernel) (by decide +kernel)) (goodIn_sub (fun _ h => List.mem_cons_of_mem _ (List.mem_append_right _ h)) (by decide +kernel))
set_option maxRecDepth 20000 in
theorem gL_has_X6_hasEdge : GoodIn wsL_has (wsV RL 32 RX6 yX6_hasEdge wsX6_hasEdge) := goodIn_app (goodIn_of _ (by decide +kernel)) ggL_has_X6_hasEdge
theorem dL_has_0 : decode cL_has 0 = .ok (.aload_n 0, 1) := by decide +kernel
theorem dL_has_1 : decode cL_has 1 = .ok (.iload_n 1, 1) := by decide +kernel
theorem dL_has_2 : decode cL_has 2 = .ok (.iload_n 2, 1) := by decide +kernel
theorem dL_has_3 : decode cL_has 3 = .ok (.invokevirtual 32, 3) := by decide +kernel
theorem dL_has_6 : decode cL_has 6 = .ok (.ifCond .eq 7, 3) := by decide +kernel
theorem dL_has_9 : decode cL_has 9 = .ok (.iconst 1, 1) := by decide +kernel
theorem dL_has_10 : decode cL_has 10 = .ok (.goto 4, 3) := by decide +kernel
theorem dL_has_13 : decode cL_has 13 = .ok (.iconst 0, 1) := by decide +kernel
theorem dL_has_14 : decode cL_has 14 = .ok (.ireturn, 1) := by decide +kernel
theorem dL_has_15 : decode cL_has 15 = .ok (.astore_n 3, 1) := by decide +kernel
theorem dL_has_16 : decode cL_has 16 = .ok (.ldc 25, 2) := by decide +kernel
theorem dL_has_18 : decode cL_has 18 = .ok (.ireturn, 1) := by decide +kernel
set_option maxRecDepth 20000 in
theorem ggL_ofLeft_X6_partnerOfLeft : GoodIn wsL_ofLeft wsX6_partnerOfLeft := goodIn_ca (goodIn_ca (goodIn_r _ [9, 10, 11, 12, 13, 14, 15, 16, 8, 17, 18, 19, 20, 21, 22, 23, 24, 25, 26, 27, 28, 29, 30, 31, 32, 33, 34, 35] (by decide +kernel) (by decide +kernel)) (goodIn_sub (fun _ h => List.mem_cons_of_mem _ (List.mem_append_left _ (List.mem_append_right _ h))) (by decide +kernel))) (goodIn_sub (fun _ h => List.mem_cons_of_mem _ (List.mem_append_right _ h)) (by decide +kernel))
set_option maxRecDepth 20000 in
theorem gL_ofLeft_X6_partnerOfLeft : GoodIn wsL_ofLeft (wsV RL 35 RX6 yX6_partnerOfLeft wsX6_partnerOfLeft) := goodIn_app (goodIn_of _ (by decide +kernel)) ggL_ofLeft_X6_partnerOfLeft
theorem dL_ofLeft_0 : decode cL_ofLeft 0 = .ok (.aload_n 0, 1) := by decide +kernel
theorem dL_ofLeft_1 : decode cL_ofLeft 1 = .ok (.iload_n 1, 1) := by decide +kernel
theorem dL_ofLeft_2 : decode cL_ofLeft 2 = .ok (.invokevirtual 35, 3) := by decide +kernel
theorem dL_ofLeft_5 : decode cL_ofLeft 5 = .ok (.ireturn, 1) := by decide +kernel
theorem dL_ofLeft_6 : decode cL_ofLeft 6 = .ok (.astore_n 2, 1) := by decide +kernel
theorem dL_ofLeft_7 : decode cL_ofLeft 7 = .ok (.ldc 25, 2) := by decide +kernel
theorem dL_ofLeft_9 : decode cL_ofLeft 9 = .ok (.ireturn, 1) := by decide +kernel
theorem dL_ofLeft_10 : decode cL_ofLeft 10 = .ok (.astore_n 2, 1) := by decide +kernel
theorem dL_ofLeft_11 : decode cL_ofLeft 11 = .ok (.ldc 31, 2) := by decide +kernel
theorem dL_ofLeft_13 : decode cL_ofLeft 13 = .ok (.ireturn, 1) := by decide +kernel
set_option maxRecDepth 20000 in
theorem ggL_ofRight_X6_partnerOfRight : GoodIn wsL_ofRight wsX6_partnerOfRight := goodIn_ca (goodIn_ca (goodIn_r _ [9, 10, 11, 12, 13, 14, 15, 16, 8, 17, 18, 19, 20, 21, 22, 23, 24, 25, 26, 27, 28, 29, 30, 31, 32, 33, 34, 35] (by decide +kernel) (by decide +kernel)) (goodIn_sub (fun _ h => List.mem_cons_of_mem _ (List.mem_append_left _ (List.mem_append_right _ h))) (by decide +kernel))) (goodIn_sub (fun _ h => List.mem_cons_of_mem _ (List.mem_append_right _ h)) (by decide +kernel))
set_option maxRecDepth 20000 in
theorem gL_ofRight_X6_partnerOfRight : GoodIn wsL_ofRight (wsV RL 39 RX6 yX6_partnerOfRight wsX6_partnerOfRight) := goodIn_app (goodIn_of _ (by decide +kernel)) ggL_ofRight_X6_partnerOfRight
theorem dL_ofRight_0 : decode cL_ofRight 0 = .ok (.aload_n 0, 1) := by decide +kernel
theorem dL_ofRight_1 : decode cL_ofRight 1 = .ok (.iload_n 1, 1) := by decide +kernel
theorem dL_ofRight_2 : decode cL_ofRight 2 = .ok (.invokevirtual 39, 3) := by decide +kernel
theorem dL_ofRight_5 : decode cL_ofRight 5 = .ok (.ireturn, 1) := by decide +kernel
theorem dL_ofRight_6 : decode cL_ofRight 6 = .ok (.astore_n 2, 1) := by decide +kernel
theorem dL_ofRight_7 : decode cL_ofRight 7 = .ok (.ldc 25, 2) := by decide +kernel
theorem dL_ofRight_9 : decode cL_ofRight 9 = .ok (.ireturn, 1) := by decide +kernel
theorem dL_ofRight_10 : decode cL_ofRight 10 = .ok (.astore_n 2, 1) := by decide +kernel
theorem dL_ofRight_11 : decode cL_ofRight 11 = .ok (.ldc 31, 2) := by decide +kernel
theorem dL_ofRight_13 : decode cL_ofRight 13 = .ok (.ireturn, 1) := by decide +kernel
set_option maxRecDepth 20000 in
theorem ggL_depth_X6_depthOf : GoodIn wsL_depth wsX6_depthOf := goodIn_ca (goodIn_r _ [7, 8, 9, 10, 11, 12, 13, 14, 15, 16, 17, 18, 19, 20, 21, 22, 23, 24, 25, 26, 27, 28, 29, 30, 31, 32, 33, 34, 35, 36, 37, 38, 39, 40, 41, 42, 43, 44, 45, 46, 6, 47, 48, 49, 50, 51, 52, 53, 54, 55, 56, 57, 58, 59, 60, 61, 62, 63, 64, 65, 66, 67, 68, 69, 70, 71, 72, 73, 74, 75, 76, 77, 78, 79, 80, 81, 82, 83, 84, 85, 86, 87, 88, 89, 90, 91, 92, 93, 94, 95, 96, 97, 98, 99, 100, 101, 102, 103, 104, 105, 106, 107, 108, 109, 110, 111, 112, 113] (by decide +kernel) (by decide +kernel)) (goodIn_sub (fun _ h => List.mem_cons_of_mem _ (List.mem_append_right _ h)) (by decide +kernel))
set_option maxRecDepth 20000 in
theorem gL_depth_X6_depthOf : GoodIn wsL_depth (wsV RL 42 RX6 yX6_depthOf wsX6_depthOf) := goodIn_app (goodIn_of _ (by decide +kernel)) ggL_depth_X6_depthOf
theorem dL_depth_0 : decode cL_depth 0 = .ok (.aload_n 0, 1) := by decide +kernel
theorem dL_depth_1 : decode cL_depth 1 = .ok (.iload_n 1, 1) := by decide +kernel
theorem dL_depth_2 : decode cL_depth 2 = .ok (.invokevirtual 42, 3) := by decide +kernel
theorem dL_depth_5 : decode cL_depth 5 = .ok (.ireturn, 1) := by decide +kernel
theorem dL_depth_6 : decode cL_depth 6 = .ok (.astore_n 2, 1) := by decide +kernel
theorem dL_depth_7 : decode cL_depth 7 = .ok (.ldc 25, 2) := by decide +kernel
theorem dL_depth_9 : decode cL_depth 9 = .ok (.ireturn, 1) := by decide +kernel
set_option maxRecDepth 20000 in
theorem ggL_paths_X6_pathsOf : GoodIn wsL_paths wsX6_pathsOf := goodIn_ca (goodIn_r _ [7, 8, 9, 10, 11, 12, 13, 14, 15, 16, 17, 18, 19, 20, 21, 22, 23, 24, 25, 26, 27, 28, 29, 30, 31, 32, 33, 34, 35, 36, 37, 38, 39, 40, 41, 42, 43, 44, 45, 46, 6, 47, 48, 49, 50, 51, 52, 53, 54, 55, 56, 57, 58, 59, 60, 61, 62, 63, 64, 65, 66, 67, 68, 69, 70, 71, 72, 73, 74, 75, 76, 77, 78, 79, 80, 81, 82, 83, 84, 85, 86, 87, 88, 89, 90, 91, 92, 93, 94, 95, 96, 97, 98, 99, 100, 101, 102, 103, 104, 105, 106, 107, 108, 109, 110, 111, 112, 113] (by decide +kernel) (by decide +kernel)) (goodIn_sub (fun _ h => List.mem_cons_of_mem _ (List.mem_append_right _ h)) (by decide +kernel))
set_option maxRecDepth 20000 in
theorem gL_paths_X6_pathsOf : GoodIn wsL_paths (wsV RL 45 RX6 yX6_pathsOf wsX6_pathsOf) := goodIn_app (goodIn_of _ (by decide +kernel)) ggL_paths_X6_pathsOf
theorem dL_paths_0 : decode cL_paths 0 = .ok (.aload_n 0, 1) := by decide +kernel
theorem dL_paths_1 : decode cL_paths 1 = .ok (.iload_n 1, 1) := by decide +kernel
theorem dL_paths_2 : decode cL_paths 2 = .ok (.invokevirtual 45, 3) := by decide +kernel
theorem dL_paths_5 : decode cL_paths 5 = .ok (.ireturn, 1) := by decide +kernel
theorem dL_paths_6 : decode cL_paths 6 = .ok (.astore_n 2, 1) := by decide +kernel
theorem dL_paths_7 : decode cL_paths 7 = .ok (.ldc 25, 2) := by decide +kernel
theorem dL_paths_9 : decode cL_paths 9 = .ok (.ireturn, 1) := by decide +kernel
set_option maxRecDepth 20000 in
theorem ggL_leftPart_X6_partOfLeft : GoodIn wsL_leftPart wsX6_partOfLeft := goodIn_ca (goodIn_r _ [7, 8, 9, 10, 11, 12, 13, 6, 14, 15, 16, 17, 18, 19, 20, 21, 22, 23, 24, 25, 26, 27, 28, 29, 30, 31, 32, 33, 34, 35, 36, 37, 38, 39, 40, 41, 42, 43, 44, 45, 46, 47, 48, 49, 50, 51, 52, 53, 54, 55, 56, 57, 58, 59, 60, 61, 62, 63, 64, 65, 66, 67, 68, 69, 70, 71, 72, 73, 74, 75, 76, 77, 78, 79, 80, 81, 82, 83, 84, 85] (by decide +kernel) (by decide +kernel)) (goodIn_sub (fun _ h => List.mem_cons_of_mem _ (List.mem_append_right _ h)) (by decide +kernel))
set_option maxRecDepth 20000 in
theorem gL_leftPart_X6_partOfLeft : GoodIn wsL_leftPart (wsV RL 48 RX6 yX6_partOfLeft wsX6_partOfLeft) := goodIn_app (goodIn_of _ (by decide +kernel)) ggL_leftPart_X6_partOfLeft
theorem dL_leftPart_0 : decode cL_leftPart 0 = .ok (.aload_n 0, 1) := by decide +kernel
theorem dL_leftPart_1 : decode cL_leftPart 1 = .ok (.iload_n 1, 1) := by decide +kernel
theorem dL_leftPart_2 : decode cL_leftPart 2 = .ok (.invokevirtual 48, 3) := by decide +kernel
theorem dL_leftPart_5 : decode cL_leftPart 5 = .ok (.ireturn, 1) := by decide +kernel
theorem dL_leftPart_6 : decode cL_leftPart 6 = .ok (.astore_n 2, 1) := by decide +kernel
theorem dL_leftPart_7 : decode cL_leftPart 7 = .ok (.ldc 25, 2) := by decide +kernel
theorem dL_leftPart_9 : decode cL_leftPart 9 = .ok (.ireturn, 1) := by decide +kernel
set_option maxRecDepth 20000 in
theorem ggL_rightPart_X6_partOfRight : GoodIn wsL_rightPart wsX6_partOfRight := goodIn_ca (goodIn_r _ [7, 8, 9, 10, 11, 12, 13, 6, 14, 15, 16, 17, 18, 19, 20, 21, 22, 23, 24, 25, 26, 27, 28, 29, 30, 31, 32, 33, 34, 35, 36, 37, 38, 39, 40, 41, 42, 43, 44, 45, 46, 47, 48, 49, 50, 51, 52, 53, 54, 55, 56, 57, 58, 59, 60, 61, 62, 63, 64, 65, 66, 67, 68, 69, 70, 71, 72, 73, 74, 75, 76, 77, 78, 79, 80, 81, 82, 83, 84, 85] (by decide +kernel) (by decide +kernel)) (goodIn_sub (fun _ h => List.mem_cons_of_mem _ (List.mem_append_right _ h)) (by decide +kernel))
set_option maxRecDepth 20000 in
theorem gL_rightPart_X6_partOfRight : GoodIn wsL_rightPart (wsV RL 51 RX6 yX6_partOfRight wsX6_partOfRight) := goodIn_app (goodIn_of _ (by decide +kernel)) ggL_rightPart_X6_partOfRight
theorem dL_rightPart_0 : decode cL_rightPart 0 = .ok (.aload_n 0, 1) := by decide +kernel
theorem dL_rightPart_1 : decode cL_rightPart 1 = .ok (.iload_n 1, 1) := by decide +kernel
theorem dL_rightPart_2 : decode cL_rightPart 2 = .ok (.invokevirtual 51, 3) := by decide +kernel
theorem dL_rightPart_5 : decode cL_rightPart 5 = .ok (.ireturn, 1) := by decide +kernel
theorem dL_rightPart_6 : decode cL_rightPart 6 = .ok (.astore_n 2, 1) := by decide +kernel
theorem dL_rightPart_7 : decode cL_rightPart 7 = .ok (.ldc 25, 2) := by decide +kernel
theorem dL_rightPart_9 : decode cL_rightPart 9 = .ok (.ireturn, 1) := by decide +kernel
set_option maxRecDepth 20000 in
theorem ggL_finePart_X6_finePart : GoodIn wsL_finePart wsX6_finePart := goodIn_ca (goodIn_ca (goodIn_r _ [9, 10, 11, 12, 13, 14, 15, 8, 16, 17, 18, 19, 20, 21, 22, 23, 24, 25, 26, 27, 28, 29, 30, 31, 32, 33, 34, 35, 36, 37, 38, 39, 40, 41, 42, 43, 44, 45, 46, 47, 48, 49, 50, 51, 52, 53, 54, 55, 56, 57, 58, 59, 60, 61, 62, 63, 64, 65, 66, 67, 68, 69, 70, 71, 72, 73, 74, 75, 76, 77, 78, 79, 80, 81, 82, 83, 84, 85, 86, 87, 88, 89, 90, 91, 92, 93, 94, 95, 96, 97, 98, 99, 100, 101] (by decide +kernel) (by decide +kernel)) (goodIn_sub (fun _ h => List.mem_cons_of_mem _ (List.mem_append_left _ (List.mem_append_right _ h))) (by decide +kernel))) (goodIn_sub (fun _ h => List.mem_cons_of_mem _ (List.mem_append_right _ h)) (by decide +kernel))
set_option maxRecDepth 20000 in
theorem gL_finePart_X6_finePart : GoodIn wsL_finePart (wsV RL 54 RX6 yX6_finePart wsX6_finePart) := goodIn_app (goodIn_of _ (by decide +kernel)) ggL_finePart_X6_finePart
theorem dL_finePart_0 : decode cL_finePart 0 = .ok (.aload_n 0, 1) := by decide +kernel
theorem dL_finePart_1 : decode cL_finePart 1 = .ok (.iload_n 1, 1) := by decide +kernel
theorem dL_finePart_2 : decode cL_finePart 2 = .ok (.invokevirtual 54, 3) := by decide +kernel
theorem dL_finePart_5 : decode cL_finePart 5 = .ok (.ireturn, 1) := by decide +kernel
theorem dL_finePart_6 : decode cL_finePart 6 = .ok (.astore_n 2, 1) := by decide +kernel
theorem dL_finePart_7 : decode cL_finePart 7 = .ok (.ldc 25, 2) := by decide +kernel
theorem dL_finePart_9 : decode cL_finePart 9 = .ok (.ireturn, 1) := by decide +kernel
theorem dL_finePart_10 : decode cL_finePart 10 = .ok (.astore_n 2, 1) := by decide +kernel
theorem dL_finePart_11 : decode cL_finePart 11 = .ok (.ldc 31, 2) := by decide +kernel
theorem dL_finePart_13 : decode cL_finePart 13 = .ok (.ireturn, 1) := by decide +kernel
set_option maxRecDepth 20000 in
theorem ggL_leads_X6_leads : GoodIn wsL_leads wsX6_leads := goodIn_ca (goodIn_ca (goodIn_r _ [9, 10, 11, 12, 13, 14, 15, 16, 8, 17, 18, 19, 20, 21, 22, 23, 24, 25, 26, 27, 28, 29, 30, 31, 32, 33, 34, 35, 36, 37, 38, 39, 40, 41, 42, 43, 44, 45, 46, 47, 48, 49, 50, 51, 52, 53, 54, 55, 56, 57, 58, 59, 60, 61, 62, 63, 64, 65, 66, 67, 68, 69, 70, 71, 72, 73, 74, 75, 76, 77, 78, 79, 80, 81, 82, 83, 84, 85, 86, 87, 88, 89, 90, 91, 92, 93, 94, 95] (by decide +kernel) (by decide +kernel)) (goodIn_sub (fun _ h => List.mem_cons_of_mem _ (List.mem_append_left _ (List.mem_append_right _ h))) (by decide +kernel))) (goodIn_sub (fun _ h => List.mem_cons_of_mem _ (List.mem_append_right _ h)) (by decide +kernel))
set_option maxRecDepth 20000 in
theorem gL_leads_X6_leads : GoodIn wsL_leads (wsV RL 57 RX6 yX6_leads wsX6_leads) := goodIn_app (goodIn_of _ (by decide +kernel)) ggL_leads_X6_leads
theorem dL_leads_0 : decode cL_leads 0 = .ok (.aload_n 0, 1) := by decide +kernel
theorem dL_leads_1 : decode cL_leads 1 = .ok (.iload_n 1, 1) := by decide +kernel
theorem dL_leads_2 : decode cL_leads 2 = .ok (.iload_n 2, 1) := by decide +kernel
theorem dL_leads_3 : decode cL_leads 3 = .ok (.invokevirtual 57, 3) := by decide +kernel
theorem dL_leads_6 : decode cL_leads 6 = .ok (.ifCond .eq 7, 3) := by decide +kernel
theorem dL_leads_9 : decode cL_leads 9 = .ok (.iconst 1, 1) := by decide +kernel
theorem dL_leads_10 : decode cL_leads 10 = .ok (.goto 4, 3) := by decide +kernel
theorem dL_leads_13 : decode cL_leads 13 = .ok (.iconst 0, 1) := by decide +kernel
theorem dL_leads_14 : decode cL_leads 14 = .ok (.ireturn, 1) := by decide +kernel
theorem dL_leads_15 : decode cL_leads 15 = .ok (.astore_n 3, 1) := by decide +kernel
theorem dL_leads_16 : decode cL_leads 16 = .ok (.ldc 25, 2) := by decide +kernel
theorem dL_leads_18 : decode cL_leads 18 = .ok (.ireturn, 1) := by decide +kernel
theorem dL_leads_19 : decode cL_leads 19 = .ok (.astore_n 3, 1) := by decide +kernel
theorem dL_leads_20 : decode cL_leads 20 = .ok (.ldc 31, 2) := by decide +kernel
theorem dL_leads_22 : decode cL_leads 22 = .ok (.ireturn, 1) := by decide +kernel
set_option maxRecDepth 20000 in
theorem ggL_inSome_X6_isInSome : GoodIn wsL_inSome wsX6_isInSome := goodIn_ca (goodIn_ca (goodIn_r _ [9, 10, 11, 12, 13, 14, 15, 16, 8, 17, 18, 19, 20, 21, 22, 23, 24, 25, 26, 27, 28, 29, 30, 31, 32, 33, 34, 35, 36, 37, 38, 39, 40, 41, 42, 43, 44, 45, 46, 47, 48, 49, 50, 51, 52, 53, 54, 55, 56, 57, 58, 59, 60, 61, 62, 63, 64, 65, 66, 67, 68, 69, 70, 71, 72, 73, 74, 75, 76, 77, 78, 79, 80, 81, 82, 83, 84, 85, 86, 87, 88, 89, 90, 91, 92, 93, 94, 95, 96, 97, 98, 99, 100, 101, 102, 103, 104, 105, 106, 107, 108, 109, 110, 111, 112, 113, 114, 115, 116, 117, 118, 119, 120, 121] (by decide +kernel) (by decide +kernel)) (goodIn_sub (fun _ h => List.mem_cons_of_mem _ (List.mem_append_left _ (List.mem_append_right _ h))) (by decide +kernel))) (goodIn_sub (fun _ h => List.mem_cons_of_mem _ (List.mem_append_right _ h)) (by decide +kernel))
set_option maxRecDepth 20000 in
theorem gL_inSome_X6_isInSome : GoodIn wsL_inSome (wsV RL 60 RX6 yX6_isInSome wsX6_isInSome) := goodIn_app (goodIn_of _ (by decide +kernel)) ggL_inSome_X6_isInSome
theorem dL_inSome_0 : decode cL_inSome 0 = .ok (.aload_n 0, 1) := by decide +kernel
theorem dL_inSome_1 : decode cL_inSome 1 = .ok (.iload_n 1, 1) := by decide +kernel
theorem dL_inSome_2 : decode cL_inSome 2 = .ok (.iload_n 2, 1) := by decide +kernel
theorem dL_inSome_3 : decode cL_inSome 3 = .ok (.invokevirtual 60, 3) := by decide +kernel
theorem dL_inSome_6 : decode cL_inSome 6 = .ok (.ifCond .eq 7, 3) := by decide +kernel
theorem dL_inSome_9 : decode cL_inSome 9 = .ok (.iconst 1, 1) := by decide +kernel
theorem dL_inSome_10 : decode cL_inSome 10 = .ok (.goto 4, 3) := by decide +kernel
theorem dL_inSome_13 : decode cL_inSome 13 = .ok (.iconst 0, 1) := by decide +kernel
theorem dL_inSome_14 : decode cL_inSome 14 = .ok (.ireturn, 1) := by decide +kernel
theorem dL_inSome_15 : decode cL_inSome 15 = .ok (.astore_n 3, 1) := by decide +kernel
theorem dL_inSome_16 : decode cL_inSome 16 = .ok (.ldc 25, 2) := by decide +kernel
theorem dL_inSome_18 : decode cL_inSome 18 = .ok (.ireturn, 1) := by decide +kernel
theorem dL_inSome_19 : decode cL_inSome 19 = .ok (.astore_n 3, 1) := by decide +kernel
theorem dL_inSome_20 : decode cL_inSome 20 = .ok (.ldc 31, 2) := by decide +kernel
theorem dL_inSome_22 : decode cL_inSome 22 = .ok (.ireturn, 1) := by decide +kernel
set_option maxRecDepth 20000 in
theorem ggL_inAll_X6_isInAll : GoodIn wsL_inAll wsX6_isInAll := goodIn_ca (goodIn_ca (goodIn_r _ [9, 10, 11, 12, 13, 14, 15, 16, 8, 17, 18, 19, 20, 21, 22, 23, 24, 25, 26, 27, 28, 29, 30, 31, 32, 33, 34, 35, 36, 37, 38, 39, 40, 41, 42, 43, 44, 45, 46, 47, 48, 49, 50, 51, 52, 53, 54, 55, 56, 57, 58, 59, 60, 61, 62, 63, 64, 65, 66, 67, 68, 69, 70, 71, 72, 73, 74, 75, 76, 77, 78, 79, 80, 81, 82, 83, 84, 85, 86, 87, 88, 89, 90, 91, 92, 93, 94, 95, 96, 97, 98, 99, 100, 101, 102, 103, 104, 105, 106, 107, 108, 109, 110, 111, 112, 113] (by decide +kernel) (by decide +kernel)) (goodIn_sub (fun _ h => List.mem_cons_of_mem _ (List.mem_append_left _ (List.mem_append_right _ h))) (by decide +kernel))) (goodIn_sub (fun _ h => List.mem_cons_of_mem _ (List.mem_append_right _ h)) (by decide +kernel))
set_option maxRecDepth 20000 in
theorem gL_inAll_X6_isInAll : GoodIn wsL_inAll (wsV RL 63 RX6 yX6_isInAll wsX6_isInAll) := goodIn_app (goodIn_of _ (by decide +kernel)) ggL_inAll_X6_isInAll
theorem dL_inAll_0 : decode cL_inAll 0 = .ok (.aload_n 0, 1) := by decide +kernel
theorem dL_inAll_1 : decode cL_inAll 1 = .ok (.iload_n 1, 1) := by decide +kernel
theorem dL_inAll_2 : decode cL_inAll 2 = .ok (.iload_n 2, 1) := by decide +kernel
theorem dL_inAll_3 : decode cL_inAll 3 = .ok (.invokevirtual 63, 3) := by decide +kernel
theorem dL_inAll_6 : decode cL_inAll 6 = .ok (.ifCond .eq 7, 3) := by decide +kernel
theorem dL_inAll_9 : decode cL_inAll 9 = .ok (.iconst 1, 1) := by decide +kernel
theorem dL_inAll_10 : decode cL_inAll 10 = .ok (.goto 4, 3) := by decide +kernel
theorem dL_inAll_13 : decode cL_inAll 13 = .ok (.iconst 0, 1) := by decide +kernel
theorem dL_inAll_14 : decode cL_inAll 14 = .ok (.ireturn, 1) := by decide +kernel
theorem dL_inAll_15 : decode cL_inAll 15 = .ok (.astore_n 3, 1) := by decide +kernel
theorem dL_inAll_16 : decode cL_inAll 16 = .ok (.ldc 25, 2) := by decide +kernel
theorem dL_inAll_18 : decode cL_inAll 18 = .ok (.ireturn, 1) := by decide +kernel
theorem dL_inAll_19 : decode cL_inAll 19 = .ok (.astore_n 3, 1) := by decide +kernel
theorem dL_inAll_20 : decode cL_inAll 20 = .ok (.ldc 31, 2) := by decide +kernel
theorem dL_inAll_22 : decode cL_inAll 22 = .ok (.ireturn, 1) := by decide +kernel
set_option maxRecDepth 20000 in
theorem ggL_leftCover_X6_coversLeft : GoodIn wsL_leftCover wsX6_coversLeft := goodIn_ca (goodIn_r _ [7, 8, 9, 10, 11, 12, 13, 6, 14, 15, 16, 17, 18, 19, 20, 21, 22, 23, 24, 25, 26, 27, 28, 29, 30, 31, 32, 33, 34, 35, 36, 37, 38, 39, 40, 41, 42, 43, 44, 45, 46, 47, 48, 49, 50, 51, 52, 53, 54, 55, 56, 57, 58, 59, 60, 61, 62, 63, 64, 65, 66, 67, 68, 69, 70, 71, 72, 73, 74, 75, 76, 77, 78, 79, 80, 81, 82, 83, 84, 85] (by decide +kernel) (by decide +kernel)) (goodIn_sub (fun _ h => List.mem_cons_of_mem _ (List.mem_append_right _ h)) (by decide +kernel))
set_option maxRecDepth 20000 in
theorem gL_leftCover_X6_coversLeft : GoodIn wsL_leftCover (wsV RL 66 RX6 yX6_coversLeft wsX6_coversLeft) := goodIn_app (goodIn_of _ (by decide +kernel)) ggL_leftCover_X6_coversLeft
theorem dL_leftCover_0 : decode cL_leftCover 0 = .ok (.aload_n 0, 1) := by decide +kernel
theorem dL_leftCover_1 : decode cL_leftCover 1 = .ok (.iload_n 1, 1) := by decide +kernel
theorem dL_leftCover_2 : decode cL_leftCover 2 = .ok (.invokevirtual 66, 3) := by decide +kernel
theorem dL_leftCover_5 : decode cL_leftCover 5 = .ok (.ifCond .eq 7, 3) := by decide +kernel
theorem dL_leftCover_8 : decode cL_leftCover 8 = .ok (.iconst 1, 1) := by decide +kernel
theorem dL_leftCover_9 : decode cL_leftCover 9 = .ok (.goto 4, 3) := by decide +kernel
theorem dL_leftCover_12 : decode cL_leftCover 12 = .ok (.iconst 0, 1) := by decide +kernel
theorem dL_leftCover_13 : decode cL_leftCover 13 = .ok (.ireturn, 1) := by decide +kernel
theorem dL_leftCover_14 : decode cL_leftCover 14 = .ok (.astore_n 2, 1) := by decide +kernel
theorem dL_leftCover_15 : decode cL_leftCover 15 = .ok (.ldc 25, 2) := by decide +kernel
theorem dL_leftCover_17 : decode cL_leftCover 17 = .ok (.ireturn, 1) := by decide +kernel
set_option maxRecDepth 20000 in
theorem ggL_rightCover_X6_coversRight : GoodIn wsL_rightCover wsX6_coversRight := goodIn_ca (goodIn_r _ [7, 8, 9, 10, 11, 12, 13, 6, 14, 15, 16, 17, 18, 19, 20, 21, 22, 23, 24, 25, 26, 27, 28, 29, 30, 31, 32, 33, 34, 35, 36, 37, 38, 39, 40, 41, 42, 43, 44, 45, 46, 47, 48, 49, 50, 51, 52, 53, 54, 55, 56, 57, 58, 59, 60, 61, 62, 63, 64, 65, 66, 67, 68, 69, 70, 71, 72, 73, 74, 75, 76, 77, 78, 79, 80, 81, 82, 83, 84, 85] (by decide +kernel) (by decide +kernel)) (goodIn_sub (fun _ h => List.mem_cons_of_mem _ (List.mem_append_right _ h)) (by decide +kernel))
set_option maxRecDepth 20000 in
theorem gL_rightCover_X6_coversRight : GoodIn wsL_rightCover (wsV RL 70 RX6 yX6_coversRight wsX6_coversRight) := goodIn_app (goodIn_of _ (by decide +kernel)) ggL_rightCover_X6_coversRight
theorem dL_rightCover_0 : decode cL_rightCover 0 = .ok (.aload_n 0, 1) := by decide +kernel
theorem dL_rightCover_1 : decode cL_rightCover 1 = .ok (.iload_n 1, 1) := by decide +kernel
theorem dL_rightCover_2 : decode cL_rightCover 2 = .ok (.invokevirtual 70, 3) := by decide +kernel
theorem dL_rightCover_5 : decode cL_rightCover 5 = .ok (.ifCond .eq 7, 3) := by decide +kernel
theorem dL_rightCover_8 : decode cL_rightCover 8 = .ok (.iconst 1, 1) := by decide +kernel
theorem dL_rightCover_9 : decode cL_rightCover 9 = .ok (.goto 4, 3) := by decide +kernel
theorem dL_rightCover_12 : decode cL_rightCover 12 = .ok (.iconst 0, 1) := by decide +kernel
theorem dL_rightCover_13 : decode cL_rightCover 13 = .ok (.ireturn, 1) := by decide +kernel
theorem dL_rightCover_14 : decode cL_rightCover 14 = .ok (.astore_n 2, 1) := by decide +kernel
theorem dL_rightCover_15 : decode cL_rightCover 15 = .ok (.ldc 25, 2) := by decide +kernel
theorem dL_rightCover_17 : decode cL_rightCover 17 = .ok (.ireturn, 1) := by decide +kernel
theorem dL_drawn_0 : decode cL_drawn 0 = .ok (.iload_n 1, 1) := by decide +kernel
theorem dL_drawn_1 : decode cL_drawn 1 = .ok (.aload_n 0, 1) := by decide +kernel
theorem dL_drawn_2 : decode cL_drawn 2 = .ok (.arraylength, 1) := by decide +kernel
theorem dL_drawn_3 : decode cL_drawn 3 = .ok (.if_icmp .ge 9, 3) := by decide +kernel
theorem dL_drawn_6 : decode cL_drawn 6 = .ok (.aload_n 0, 1) := by decide +kernel
theorem dL_drawn_7 : decode cL_drawn 7 = .ok (.iload_n 1, 1) := by decide +kernel
theorem dL_drawn_8 : decode cL_drawn 8 = .ok (.iaload, 1) := by decide +kernel
theorem dL_drawn_9 : decode cL_drawn 9 = .ok (.goto 13, 3) := by decide +kernel
theorem dL_drawn_12 : decode cL_drawn 12 = .ok (.ldc 73, 2) := by decide +kernel
theorem dL_drawn_14 : decode cL_drawn 14 = .ok (.iload_n 1, 1) := by decide +kernel
theorem dL_drawn_15 : decode cL_drawn 15 = .ok (.iconst 3, 1) := by decide +kernel
theorem dL_drawn_16 : decode cL_drawn 16 = .ok (.iadd, 1) := by decide +kernel
theorem dL_drawn_17 : decode cL_drawn 17 = .ok (.imul, 1) := by decide +kernel
theorem dL_drawn_18 : decode cL_drawn 18 = .ok (.sipush 13367, 3) := by decide +kernel
theorem dL_drawn_21 : decode cL_drawn 21 = .ok (.iadd, 1) := by decide +kernel
theorem dL_drawn_22 : decode cL_drawn 22 = .ok (.ldc 74, 2) := by decide +kernel
theorem dL_drawn_24 : decode cL_drawn 24 = .ok (.iand, 1) := by decide +kernel
theorem dL_drawn_25 : decode cL_drawn 25 = .ok (.ireturn, 1) := by decide +kernel
