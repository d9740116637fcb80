theorem dL_addLeft_0 : decode cL_addLeft 0 = .ok (.aload_n 1, 1) := by decide +kernel
theorem dL_addLeft_1 : decode cL_addLeft 1 = .ok (.iconst 0, 1) := by decide +kernel
theorem dL_addLeft_2 : decode cL_addLeft 2 = .ok (.aload_n 0, 1) := by decide +kernel
theorem dL_addLeft_3 : decode cL_addLeft 3 = .ok (.invokevirtual 7, 3) := by decide +kernel
theorem dL_addLeft_6 : decode cL_addLeft 6 = .ok (.i2l, 1) := by decide +kernel
theorem dL_addLeft_7 : decode cL_addLeft 7 = .ok (.lastore, 1) := by decide +kernel
theorem dL_addLeft_8 : decode cL_addLeft 8 = .ok (.goto 6, 3) := by decide +kernel
theorem dL_addLeft_11 : decode cL_addLeft 11 = .ok (.astore_n 2, 1) := by decide +kernel
theorem dL_addLeft_12 : decode cL_addLeft 12 = .ok (.iconst 1, 1) := by decide +kernel
theorem dL_addLeft_13 : decode cL_addLeft 13 = .ok (.ireturn, 1) := by decide +kernel
theorem dL_addLeft_14 : decode cL_addLeft 14 = .ok (.iconst 0, 1) := by decide +kernel
theorem dL_addLeft_15 : decode cL_addLeft 15 = .ok (.ireturn, 1) := by decide +kernel
set_option maxRecDepth 20000 in
theorem ggL_addRight_X6_addRight : GoodIn wsL_addRight wsX6_addRight := goodIn_ca (goodIn_r _ [6, 7, 8, 9, 10, 11, 12, 13, 14, 15, 16, 17, 18, 19, 20, 21] (by decide +kernel) (by decide +kernel)) (goodIn_sub (fun _ h => List.mem_cons_of_mem _ (List.mem_append_right _ h)) (by decide +kernel))
set_option maxRecDepth 20000 in
theorem gL_addRight_X6_addRight : GoodIn wsL_addRight (wsV RL 15 RX6 yX6_addRight wsX6_addRight) := goodIn_app (goodIn_of _ (by decide +kernel)) ggL_addRight_X6_addRight
theorem dL_addRight_0 : decode cL_addRight 0 = .ok (.aload_n 1, 1) := by decide +kernel
theorem dL_addRight_1 : decode cL_addRight 1 = .ok (.iconst 0, 1) := by decide +kernel
theorem dL_addRight_2 : decode cL_addRight 2 = .ok (.aload_n 0, 1) := by decide +kernel
theorem dL_addRight_3 : decode cL_addRight 3 = .ok (.invokevirtual 15, 3) := by decide +kernel
theorem dL_addRight_6 : decode cL_addRight 6 = .ok (.i2l, 1) := by decide +kernel
theorem dL_addRight_7 : decode cL_addRight 7 = .ok (.lastore, 1) := by decide +kernel
theorem dL_addRight_8 : decode cL_addRight 8 = .ok (.goto 6, 3) := by decide +kernel
theorem dL_addRight_11 : decode cL_addRight 11 = .ok (.astore_n 2, 1) := by decide +kernel
theorem dL_addRight_12 : decode cL_addRight 12 = .ok (.iconst 1, 1) := by decide +kernel
theorem dL_addRight_13 : decode cL_addRight 13 = .ok (.ireturn, 1) := by decide +kernel
theorem dL_addRight_14 : decode cL_addRight 14 = .ok (.iconst 0, 1) := by decide +kernel
theorem dL_addRight_15 : decode cL_addRight 15 = .ok (.ireturn, 1) := by decide +kernel
set_option maxRecDepth 20000 in
theorem ggL_connect_X6_connect : GoodIn wsL_connect wsX6_connect := goodIn_ca (goodIn_ca (goodIn_r _ [7, 8, 9, 10, 11, 12, 13, 14, 15, 6, 16, 17, 18, 19, 20, 21, 22, 23, 24, 25, 26, 27, 28, 29, 30, 31, 32, 33, 34, 35, 36, 37, 38, 39, 40, 41, 42, 43, 44, 45, 46, 47, 48, 49, 50, 51, 52, 53, 54, 55, 56, 57, 58, 59, 60, 61, 62, 63, 64, 65, 66, 67, 68, 69, 70, 71, 72, 73, 74, 75, 76, 77, 78, 79, 80, 81, 82, 83, 84, 85, 86, 87, 88, 89, 90, 91, 92, 93, 94, 95, 96, 97, 98, 99, 100, 101, 102, 103, 104, 105, 106, 107] (by decide +kernel) (by decide +kernel)) (goodIn_sub (fun _ h => List.mem_cons_of_mem _ (List.mem_append_left _ (List.mem_append_right _ h))) (by decide +kernel))) (goodIn_sub (fun _ h => List.mem_cons_of_mem _ (List.mem_append_right _ h)) (by decide +kernel))
set_option maxRecDepth 20000 in
theorem gL_connect_X6_connect : GoodIn wsL_connect (wsV RL 18 RX6 yX6_connect wsX6_connect) := goodIn_app (goodIn_of _ (by decide +kernel)) ggL_connect_X6_connect
theorem dL_connect_0 : decode cL_connect 0 = .ok (.aload_n 3, 1) := by decide +kernel
theorem dL_connect_1 : decode cL_connect 1 = .ok (.iconst 0, 1) := by decide +kernel
theorem dL_connect_2 : decode cL_connect 2 = .ok (.aload_n 0, 1) := by decide +kernel
theorem dL_connect_3 : decode cL_connect 3 = .ok (.iload_n 1, 1) := by decide +kernel
theorem dL_connect_4 : decode cL_connect 4 = .ok (.iload_n 2, 1) := by decide +kernel
theorem dL_connect_5 : decode cL_connect 5 = .ok (.invokevirtual 18, 3) := by decide +kernel
theorem dL_connect_8 : decode cL_connect 8 = .ok (.ifCond .eq 7, 3) := by decide +kernel
theorem dL_connect_11 : decode cL_connect 11 = .ok (.lconst 1, 1) := by decide +kernel
theorem dL_connect_12 : decode cL_connect 12 = .ok (.goto 4, 3) := by decide +kernel
theorem dL_connect_15 : decode cL_connect 15 = .ok (.lconst 0, 1) := by decide +kernel
theorem dL_connect_16 : decode cL_connect 16 = .ok (.lastore, 1) := by decide +kernel
theorem dL_connect_17 : decode cL_connect 17 = .ok (.goto 11, 3) := by decide +kernel
theorem dL_connect_20 : decode cL_connect 20 = .ok (.astore 4, 2) := by decide +kernel
theorem dL_connect_22 : decode cL_connect 22 = .ok (.iconst 1, 1) := by decide +kernel
theorem dL_connect_23 : decode cL_connect 23 = .ok (.ireturn, 1) := by decide +kernel
theorem dL_connect_24 : decode cL_connect 24 = .ok (.astore 4, 2) := by decide +kernel
theorem dL_connect_26 : decode cL_connect 26 = .ok (.iconst 2, 1) := by decide +kernel
theorem dL_connect_27 : decode cL_connect 27 = .ok (.ireturn, 1) := by decide +kernel
theorem dL_connect_28 : decode cL_connect 28 = .ok (.iconst 0, 1) := by decide +kernel
theorem dL_connect_29 : decode cL_connect 29 = .ok (.ireturn, 1) := by decide +kernel
set_option maxRecDepth 20000 in
theorem ggL_disconnect_X6_disconnect : GoodIn wsL_disconnect wsX6_disconnect := goodIn_ca (goodIn_ca (goodIn_r _ [7, 8, 9, 10, 11, 12, 13, 14, 6, 15, 16, 17, 18, 19, 20, 21, 22, 23, 24, 25, 26, 27, 28, 29, 30, 31, 32, 33, 34, 35, 36, 37, 38, 39, 40, 41, 42, 43, 44, 45, 46, 47, 48, 49, 50, 51, 52, 53, 54, 55, 56, 57, 58, 59, 60, 61, 62, 63, 64, 65, 66, 67, 68, 69, 70, 71, 72, 73, 74, 75, 76, 77, 78, 79, 80, 81, 82, 83, 84, 85, 86, 87, 88, 89, 90, 91, 92, 93, 94, 95, 96, 97, 98, 99, 100, 101, 102, 103, 104, 105, 106, 107, 108, 109, 110, 111, 112, 113, 114, 115, 116, 117] (by decide +kernel) (by decide +kernel)) (goodIn_sub (fun _ h => List.mem_cons_of_mem _ (List.mem_append_left _ (List.mem_append_right _ h))) (by decide +kernel))) (goodIn_sub (fun _ h => List.mem_cons_of_mem _ (List.mem_append_right _ h)) (by decide +kernel))
set_option maxRecDepth 20000 in
theorem gL_disconnect_X6_disconnect : GoodIn wsL_disconnect (wsV RL 24 RX6 yX6_disconnect wsX6_disconnect) := goodIn_app (goodIn_of _ (by decide +kernel)) ggL_disconnect_X6_disconnect
theorem dL_disconnect_0 : decode cL_disconnect 0 = .ok (.aload_n 3, 1) := by decide +kernel
theorem dL_disconnect_1 : decode cL_disconnect 1 = .ok (.iconst 0, 1) := by decide +kernel
theorem dL_disconnect_2 : decode cL_disconnect 2 = .ok (.aload_n 0, 1) := by decide +kernel
theorem dL_disconnect_3 : decode cL_disconnect 3 = .ok (.iload_n 1, 1) := by decide +kernel
theorem dL_disconnect_4 : decode cL_disconnect 4 = .ok (.iload_n 2, 1) := by decide +kernel
theorem dL_disconnect_5 : decode cL_disconnect 5 = .ok (.invokevirtual 24, 3) := by decide +kernel
theorem dL_disconnect_8 : decode cL_disconnect 8 = .ok (.ifCond .eq 7, 3) := by decide +kernel
theorem dL_disconnect_11 : decode cL_disconnect 11 = .ok (.lconst 1, 1) := by decide +kernel
theorem dL_disconnect_12 : decode cL_disconnect 12 = .ok (.goto 4, 3) := by decide +kernel
theorem dL_disconnect_15 : decode cL_disconnect 15 = .ok (.lconst 0, 1) := by decide +kernel
theorem dL_disconnect_16 : decode cL_disconnect 16 = .ok (.lastore, 1) := by decide +kernel
theorem dL_disconnect_17 : decode cL_disconnect 17 = .ok (.goto 11, 3) := by decide +kernel
theorem dL_disconnect_20 : decode cL_disconnect 20 = .ok (.astore 4, 2) := by decide +kernel
theorem dL_disconnect_22 : decode cL_disconnect 22 = .ok (.iconst 1, 1) := by decide +kernel
theorem dL_disconnect_23 : decode cL_disconnect 23 = .ok (.ireturn, 1) := by decide +kernel
theorem dL_disconnect_24 : decode cL_disconnect 24 = .ok (.astore 4, 2) := by decide +kernel
theorem dL_disconnect_26 : decode cL_disconnect 26 = .ok (.iconst 2, 1) := by decide +kernel
theorem dL_disconnect_27 : decode cL_disconnect 27 = .ok (.ireturn, 1) := by decide +kernel
theorem dL_disconnect_28 : decode cL_disconnect 28 = .ok (.iconst 0, 1) := by decide +kernel
theorem dL_disconnect_29 : decode cL_disconnect 29 = .ok (.ireturn, 1) := by decide +kernel
set_option maxRecDepth 20000 in
theorem ggL_hasEdge_X6_hasEdge : GoodIn wsL_hasEdge wsX6_hasEdge := goodIn_ca (goodIn_r _ [6, 7, 8, 9, 10, 5, 11, 12, 13, 14, 15, 16, 17, 18, 19, 20, 21, 22, 23, 24, 25, 26, 27, 28, 29, 30, 31, 32, 33, 34, 35, 36, 37, 38, 39, 40, 41, 42] (by decide +kernel) (by decide +kernel)) (goodIn_sub (fun _ h => List.mem_cons_of_mem _ (List.mem_append_right _ h)) (by decide +kernel))
set_option maxRecDepth 20000 in
theorem gL_hasEdge_X6_hasEdge : GoodIn wsL_hasEdge (wsV RL 29 RX6 yX6_hasEdge wsX6_hasEdge) := goodIn_app (goodIn_of _ (by decide +kernel)) ggL_hasEdge_X6_hasEdge
theorem dL_hasEdge_0 : decode cL_hasEdge 0 = .ok (.aload_n 3, 1) := by decide +kernel
theorem dL_hasEdge_1 : decode cL_hasEdge 1 = .ok (.iconst 0, 1) := by decide +kernel
theorem dL_hasEdge_2 : decode cL_hasEdge 2 = .ok (.aload_n 0, 1) := by decide +kernel
theorem dL_hasEdge_3 : decode cL_hasEdge 3 = .ok (.iload_n 1, 1) := by decide +kernel
theorem dL_hasEdge_4 : decode cL_hasEdge 4 = .ok (.iload_n 2, 1) := by decide +kernel
theorem dL_hasEdge_5 : decode cL_hasEdge 5 = .ok (.invokevirtual 29, 3) := by decide +kernel
theorem dL_hasEdge_8 : decode cL_hasEdge 8 = .ok (.ifCond .eq 7, 3) := by decide +kernel
theorem dL_hasEdge_11 : decode cL_hasEdge 11 = .ok (.lconst 1, 1) := by decide +kernel
theorem dL_hasEdge_12 : decode cL_hasEdge 12 = .ok (.goto 4, 3) := by decide +kernel
theorem dL_hasEdge_15 : decode cL_hasEdge 15 = .ok (.lconst 0, 1) := by decide +kernel
theorem dL_hasEdge_16 : decode cL_hasEdge 16 = .ok (.lastore, 1) := by decide +kernel
theorem dL_hasEdge_17 : decode cL_hasEdge 17 = .ok (.goto 7, 3) := by decide +kernel
theorem dL_hasEdge_20 : decode cL_hasEdge 20 = .ok (.astore 4, 2) := by decide +kernel
theorem dL_hasEdge_22 : decode cL_hasEdge 22 = .ok (.iconst 1, 1) := by decide +kernel
theorem dL_hasEdge_23 : decode cL_hasEdge 23 = .ok (.ireturn, 1) := by decide +kernel
theorem dL_hasEdge_24 : decode cL_hasEdge 24 = .ok (.iconst 0, 1) := by decide +kernel
theorem dL_hasEdge_25 : decode cL_hasEdge 25 = .ok (.ireturn, 1) := by decide +kernel
set_option maxRecDepth 20000 in
theorem ggL_partnerOfLeft_X6_partnerOfLeft : GoodIn wsL_partnerOfLeft wsX6_partnerOfLeft := goodIn_ca (goodIn_ca (goodIn_r _ [7, 8, 9, 10, 11, 12, 13, 14, 6, 15, 16, 17, 18, 19, 20, 21, 22, 23, 24, 25, 26, 27, 28, 29, 30, 31, 32, 33] (by decide +kernel) (by decide +kernel)) (goodIn_sub (fun _ h => List.mem_cons_of_mem _ (List.mem_append_left _ (List.mem_append_right _ h))) (by decide +kernel))) (goodIn_sub (fun _ h => List.mem_cons_of_mem _ (List.mem_append_right _ h)) (by decide +kernel))
set_option maxRecDepth 20000 in
theorem gL_partnerOfLeft_X6_partnerOfLeft : GoodIn wsL_partnerOfLeft (wsV RL 32 RX6 yX6_partnerOfLeft wsX6_partnerOfLeft) := goodIn_app (goodIn_of _ (by decide +kernel)) ggL_partnerOfLeft_X6_partnerOfLeft
theorem dL_partnerOfLeft_0 : decode cL_partnerOfLeft 0 = .ok (.aload_n 2, 1) := by decide +kernel
theorem dL_partnerOfLeft_1 : decode cL_partnerOfLeft 1 = .ok (.iconst 0, 1) := by decide +kernel
theorem dL_partnerOfLeft_2 : decode cL_partnerOfLeft 2 = .ok (.aload_n 0, 1) := by decide +kernel
theorem dL_partnerOfLeft_3 : decode cL_partnerOfLeft 3 = .ok (.iload_n 1, 1) := by decide +kernel
theorem dL_partnerOfLeft_4 : decode cL_partnerOfLeft 4 = .ok (.invokevirtual 32, 3) := by decide +kernel
theorem dL_partnerOfLeft_7 : decode cL_partnerOfLeft 7 = .ok (.i2l, 1) := by decide +kernel
theorem dL_partnerOfLeft_8 : decode cL_partnerOfLeft 8 = .ok (.lastore, 1) := by decide +kernel
theorem dL_partnerOfLeft_9 : decode cL_partnerOfLeft 9 = .ok (.goto 9, 3) := by decide +kernel
theorem dL_partnerOfLeft_12 : decode cL_partnerOfLeft 12 = .ok (.astore_n 3, 1) := by decide +kernel
theorem dL_partnerOfLeft_13 : decode cL_partnerOfLeft 13 = .ok (.iconst 1, 1) := by decide +kernel
theorem dL_partnerOfLeft_14 : decode cL_partnerOfLeft 14 = .ok (.ireturn, 1) := by decide +kernel
theorem dL_partnerOfLeft_15 : decode cL_partnerOfLeft 15 = .ok (.astore_n 3, 1) := by decide +kernel
theorem dL_partnerOfLeft_16 : decode cL_partnerOfLeft 16 = .ok (.iconst 2, 1) := by decide +kernel
theorem dL_partnerOfLeft_17 : decode cL_partnerOfLeft 17 = .ok (.ireturn, 1) := by decide +kernel
theorem dL_partnerOfLeft_18 : decode cL_partnerOfLeft 18 = .ok (.iconst 0, 1) := by decide +kernel
theorem dL_partnerOfLeft_19 : decode cL_partnerOfLeft 19 = .ok (.ireturn, 1) := by decide +kernel
set_option maxRecDepth 20000 in
theorem ggL_partnerOfRight_X6_partnerOfRight : GoodIn wsL_partnerOfRight wsX6_partnerOfRight := goodIn_ca (goodIn_ca (goodIn_r _ [7, 8, 9, 10, 11, 12, 13, 14, 6, 15, 16, 17, 18, 19, 20, 21, 22, 23, 24, 25, 26, 27, 28, 29, 30, 31, 32, 33] (by decide +kernel) (by decide +kernel)) (goodIn_sub (fun _ h => List.mem_cons_of_mem _ (List.mem_append_left _ (List.mem_append_right _ h))) (by decide +kernel))) (goodIn_sub (fun _ h => List.mem_cons_of_mem _ (List.mem_append_right _ h)) (by decide +kernel))
set_option maxRecDepth 20000 in
theorem gL_partnerOfRight_X6_partnerOfRight : GoodIn wsL_partnerOfRight (wsV RL 36 RX6 yX6_partnerOfRight wsX6_partnerOfRight) := goodIn_app (goodIn_of _ (by decide +kernel)) ggL_partnerOfRight_X6_partnerOfRight
theorem dL_partnerOfRight_0 : decode cL_partnerOfRight 0 = .ok (.aload_n 2, 1) := by decide +kernel
theorem dL_partnerOfRight_1 : decode cL_partnerOfRight 1 = .ok (.iconst 0, 1) := by decide +kernel
theorem dL_partnerOfRight_2 : decode cL_partnerOfRight 2 = .ok (.aload_n 0, 1) := by decide +kernel
theorem dL_partnerOfRight_3 : decode cL_partnerOfRight 3 = .ok (.iload_n 1, 1) := by decide +kernel
theorem dL_partnerOfRight_4 : decode cL_partnerOfRight 4 = .ok (.invokevirtual 36, 3) := by decide +kernel
theorem dL_partnerOfRight_7 : decode cL_partnerOfRight 7 = .ok (.i2l, 1) := by decide +kernel
theorem dL_partnerOfRight_8 : decode cL_partnerOfRight 8 = .ok (.lastore, 1) := by decide +kernel
theorem dL_partnerOfRight_9 : decode cL_partnerOfRight 9 = .ok (.goto 9, 3) := by decide +kernel
theorem dL_partnerOfRight_12 : decode cL_partnerOfRight 12 = .ok (.astore_n 3, 1) := by decide +kernel
theorem dL_partnerOfRight_13 : decode cL_partnerOfRight 13 = .ok (.iconst 1, 1) := by decide +kernel
theorem dL_partnerOfRight_14 : decode cL_partnerOfRight 14 = .ok (.ireturn, 1) := by decide +kernel
theorem dL_partnerOfRight_15 : decode cL_partnerOfRight 15 = .ok (.astore_n 3, 1) := by decide +kernel
theorem dL_partnerOfRight_16 : decode cL_partnerOfRight 16 = .ok (.iconst 2, 1) := by decide +kernel
theorem dL_partnerOfRight_17 : decode cL_partnerOfRight 17 = .ok (.ireturn, 1) := by decide +kernel
theorem dL_partnerOfRight_18 : decode cL_partnerOfRight 18 = .ok (.iconst 0, 1) := by decide +kernel
theorem dL_partnerOfRight_19 : decode cL_partnerOfRight 19 = .ok (.ireturn, 1) := by decide +kernel
set_option maxRecDepth 20000 in
theorem ggL_depthOf_X6_depthOf : GoodIn wsL_depthOf wsX6_depthOf := goodIn_ca (goodIn_r _ [6, 7, 8, 9, 10, 11, 12, 13, 14, 15, 16, 17, 18, 19, 20, 21, 22, 23, 24, 25, 26, 27, 28, 29, 30, 31, 32, 33, 34, 35, 36, 37, 38, 39, 40, 41, 42, 43, 44, 45, 5, 46, 47, 48, 49, 50, 51, 52, 53, 54, 55, 56, 57, 58, 59, 60, 61, 62, 63, 64, 65, 66, 67, 68, 69, 70, 71, 72, 73, 74, 75, 76, 77, 78, 79, 80, 81, 82, 83, 84, 85, 86, 87, 88, 89, 90, 91, 92, 93, 94, 95, 96, 97, 98, 99, 100, 101, 102, 103, 104, 105, 106, 107, 108, 109, 110, 111, 112] (by decide +kernel) (by decide +kernel)) (goodIn_sub (fun _ h => List.mem_cons_of_mem _ (List.mem_append_right _ h)) (by decide +kernel))
set_option maxRecDepth 20000 in
theorem gL_depthOf_X6_depthOf : GoodIn wsL_depthOf (wsV RL 39 RX6 yX6_depthOf wsX6_depthOf) := goodIn_app (goodIn_of _ (by decide +kernel)) ggL_depthOf_X6_depthOf
theorem dL_depthOf_0 : decode cL_depthOf 0 = .ok (.aload_n 2, 1) := by decide +kernel
theorem dL_depthOf_1 : decode cL_depthOf 1 = .ok (.iconst 0, 1) := by decide +kernel
theorem dL_depthOf_2 : decode cL_depthOf 2 = .ok (.aload_n 0, 1) := by decide +kernel
theorem dL_depthOf_3 : decode cL_depthOf 3 = .ok (.iload_n 1, 1) := by decide +kernel
theorem dL_depthOf_4 : decode cL_depthOf 4 = .ok (.invokevirtual 39, 3) := by decide +kernel
theorem dL_depthOf_7 : decode cL_depthOf 7 = .ok (.i2l, 1) := by decide +kernel
theorem dL_depthOf_8 : decode cL_depthOf 8 = .ok (.lastore, 1) := by decide +kernel
theorem dL_depthOf_9 : decode cL_depthOf 9 = .ok (.goto 6, 3) := by decide +kernel
theorem dL_depthOf_12 : decode cL_depthOf 12 = .ok (.astore_n 3, 1) := by decide +kernel
theorem dL_depthOf_13 : decode cL_depthOf 13 = .ok (.iconst 1, 1) := by decide +kernel
theorem dL_depthOf_14 : decode cL_depthOf 14 = .ok (.ireturn, 1) := by decide +kernel
theorem dL_depthOf_15 : decode cL_depthOf 15 = .ok (.iconst 0, 1) := by decide +kernel
theorem dL_depthOf_16 : decode cL_depthOf 16 = .ok (.ireturn, 1) := by decide +kernel
set_option maxRecDepth 20000 in
theorem ggL_pathsOf_X6_pathsOf : GoodIn wsL_pathsOf wsX6_pathsOf := goodIn_ca (goodIn_r _ [6, 7, 8, 9, 10, 11, 12, 13, 14, 15, 16, 17, 18, 19, 20, 21, 22, 23, 24, 25, 26, 27, 28, 29, 30, 31, 32, 33, 34, 35, 36, 37, 38, 39, 40, 41, 42, 43, 44, 45, 5, 46, 47, 48, 49, 50, 51, 52, 53, 54, 55, 56, 57, 58, 59, 60, 61, 62, 63, 64, 65, 66, 67, 68, 69, 70, 71, 72, 73, 74, 75, 76, 77, 78, 79, 80, 81, 82, 83, 84, 85, 86, 87, 88, 89, 90, 91, 92, 93, 94, 95, 96, 97, 98, 99, 100, 101, 102, 103, 104, 105, 106, 107, 108, 109, 110, 111, 112] (by decide +kernel) (by decide +kernel)) (goodIn_sub (fun _ h => List.mem_cons_of_mem _ (List.mem_append_right _ h)) (by decide +kernel))
set_option maxRecDepth 20000 in
theorem gL_pathsOf_X6_pathsOf : GoodIn wsL_pathsOf (wsV RL 42 RX6 yX6_pathsOf wsX6_pathsOf) := goodIn_app (goodIn_of _ (by decide +kernel)) ggL_pathsOf_X6_pathsOf
theorem dL_pathsOf_0 : decode cL_pathsOf 0 = .ok (.aload_n 2, 1) := by decide +kernel
theorem dL_pathsOf_1 : decode cL_pathsOf 1 = .ok (.iconst 0, 1) := by decide +kernel
theorem dL_pathsOf_2 : decode cL_pathsOf 2 = .ok (.aload_n 0, 1) := by decide +kernel
theorem dL_pathsOf_3 : decode cL_pathsOf 3 = .ok (.iload_n 1, 1) := by decide +kernel
theorem dL_pathsOf_4 : decode cL_pathsOf 4 = .ok (.invokevirtual 42, 3) := by decide +kernel
theorem dL_pathsOf_7 : decode cL_pathsOf 7 = .ok (.i2l, 1) := by decide +kernel
theorem dL_pathsOf_8 : decode cL_pathsOf 8 = .ok (.lastore, 1) := by decide +kernel
theorem dL_pathsOf_9 : decode cL_pathsOf 9 = .ok (.goto 6, 3) := by decide +kernel
theorem dL_pathsOf_12 : decode cL_pathsOf 12 = .ok (.astore_n 3, 1) := by decide +kernel
theorem dL_pathsOf_13 : decode cL_pathsOf 13 = .ok (.iconst 1, 1) := by decide +kernel
theorem dL_pathsOf_14 : decode cL_pathsOf 14 = .ok (.ireturn, 1) := by decide +kernel
theorem dL_pathsOf_15 : decode cL_pathsOf 15 = .ok (.iconst 0, 1) := by decide +kernel
theorem dL_pathsOf_16 : decode cL_pathsOf 16 = .ok (.ireturn, 1) := by decide +kernel
set_option maxRecDepth 20000 in
theorem ggL_partOfLeft_X6_partOfLeft : GoodIn wsL_partOfLeft wsX6_partOfLeft := goodIn_ca (goodIn_r _ [6, 7, 8, 9, 10, 11, 12, 5, 13, 14, 15, 16, 17, 18, 19, 20, 21, 22, 23, 24, 25, 26, 27, 28, 29, 30, 31, 32, 33, 34, 35, 36, 37, 38, 39, 40, 41, 42, 43, 44, 45, 46, 47, 48, 49, 50, 51, 52, 53, 54, 55, 56, 57, 58, 59, 60, 61, 62, 63, 64, 65, 66, 67, 68, 69, 70, 71, 72, 73, 74, 75, 76, 77, 78, 79, 80, 81, 82, 83, 84] (by decide +kernel) (by decide +kernel)) (goodIn_sub (fun _ h => List.mem_cons_of_mem _ (List.mem_append_right _ h)) (by decide +kernel))
set_option maxRecDepth 20000 in
theorem gL_partOfLeft_X6_partOfLeft : GoodIn wsL_partOfLeft (wsV RL 45 RX6 yX6_partOfLeft wsX6_partOfLeft) := goodIn_app (goodIn_of _ (by decide +kernel)) ggL_partOfLeft_X6_partOfLeft
theorem dL_partOfLeft_0 : decode cL_partOfLeft 0 = .ok (.aload_n 2, 1) := by decide +kernel
theorem dL_partOfLeft_1 : decode cL_partOfLeft 1 = .ok (.iconst 0, 1) := by decide +kernel
theorem dL_partOfLeft_2 : decode cL_partOfLeft 2 = .ok (.aload_n 0, 1) := by decide +kernel
theorem dL_partOfLeft_3 : decode cL_partOfLeft 3 = .ok (.iload_n 1, 1) := by decide +kernel
theorem dL_partOfLeft_4 : decode cL_partOfLeft 4 = .ok (.invokevirtual 45, 3) := by decide +kernel
theorem dL_partOfLeft_7 : decode cL_partOfLeft 7 = .ok (.i2l, 1) := by decide +kernel
theorem dL_partOfLeft_8 : decode cL_partOfLeft 8 = .ok (.lastore, 1) := by decide +kernel
theorem dL_partOfLeft_9 : decode cL_partOfLeft 9 = .ok (.goto 6, 3) := by decide +kernel
theorem dL_partOfLeft_12 : decode cL_partOfLeft 12 = .ok (.astore_n 3, 1) := by decide +kernel
theorem dL_partOfLeft_13 : decode cL_partOfLeft 13 = .ok (.iconst 1, 1) := by decide +kernel
theorem dL_partOfLeft_14 : decode cL_partOfLeft 14 = .ok (.ireturn, 1) := by decide +kernel
theorem dL_partOfLeft_15 : decode cL_partOfLeft 15 = .ok (.iconst 0, 1) := by decide +kernel
theorem dL_partOfLeft_16 : decode cL_partOfLeft 16 = .ok (.ireturn, 1) := by decide +kernel
set_option maxRecDepth 20000 in
theorem ggL_partOfRight_X6_partOfRight : GoodIn wsL_partOfRight wsX6_partOfRight := goodIn_ca (goodIn_r _ [6, 7, 8, 9, 10, 11, 12, 5, 13, 14, 15, 16, 17, 18, 19, 20, 21, 22, 23, 24, 25, 26, 27, 28, 29, 30, 31, 32, 33, 34, 35, 36, 37, 38, 39, 40, 41, 42, 43, 44, 45, 46, 47, 48, 49, 50, 51, 52, 53, 54, 55, 56, 57, 58, 59, 60, 61, 62, 63, 64, 65, 66, 67, 68, 69, 70, 71, 72, 73, 74, 75, 76, 77, 78, 79, 80, 81, 82, 83, 84] (by decide +kernel) (by decide +kernel)) (goodIn_sub (fun _ h => List.mem_cons_of_mem _ (List.mem_append_right _ h)) (by decide +kernel))
set_option maxRecDepth 20000 in
theorem gL_partOfRight_X6_partOfRight : GoodIn wsL_partOfRight (wsV RL 48 RX6 yX6_partOfRight wsX6_partOfRight) := goodIn_app (goodIn_of _ (by decide +kernel)) ggL_partOfRight_X6_partOfRight
theorem dL_partOfRight_0 : decode cL_partOfRight 0 = .ok (.aload_n 2, 1) := by decide +kernel
theorem dL_partOfRight_1 : decode cL_partOfRight 1 = .ok (.iconst 0, 1) := by decide +kernel
theorem dL_partOfRight_2 : decode cL_partOfRight 2 = .ok (.aload_n 0, 1) := by decide +kernel
theorem dL_partOfRight_3 : decode cL_partOfRight 3 = .ok (.iload_n 1, 1) := by decide +kernel
theorem dL_partOfRight_4 : decode cL_partOfRight 4 = .ok (.invokevirtual 48, 3) := by decide +kernel
theorem dL_partOfRight_7 : decode cL_partOfRight 7 = .ok (.i2l, 1) := by decide +kernel
theorem dL_partOfRight_8 : decode cL_partOfRight 8 = .ok (.lastore, 1) := by decide +kernel
theorem dL_partOfRight_9 : decode cL_partOfRight 9 = .ok (.goto 6, 3) := by decide +kernel
theorem dL_partOfRight_12 : decode cL_partOfRight 12 = .ok (.astore_n 3, 1) := by decide +kernel
theorem dL_partOfRight_13 : decode cL_partOfRight 13 = .ok (.iconst 1, 1) := by decide +kernel
theorem dL_partOfRight_14 : decode cL_partOfRight 14 = .ok (.ireturn, 1) := by decide +kernel
theorem dL_partOfRight_15 : decode cL_partOfRight 15 = .ok (.iconst 0, 1) := by decide +kernel
theorem dL_partOfRight_16 : decode cL_partOfRight 16 = .ok (.ireturn, 1) := by decide +kernel
set_option maxRecDepth 20000 in
theorem ggL_finePart_X6_finePart : GoodIn wsL_finePart wsX6_finePart := goodIn_ca (goodIn_ca (goodIn_r _ [7, 8, 9, 10, 11, 12, 13, 6, 14, 15, 16, 17, 18, 19, 20, 21, 22, 23, 24, 25, 26, 27, 28, 29, 30, 31, 32, 33, 34, 35, 36, 37, 38, 39, 40, 41, 42, 43, 44, 45, 46, 47, 48, 49, 50, 51, 52, 53, 54, 55, 56, 57, 58, 59, 60, 61, 62, 63, 64, 65, 66, 67, 68, 69, 70, 71, 72, 73, 74, 75, 76, 77, 78, 79, 80, 81, 82, 83, 84, 85, 86, 87, 88, 89, 90, 91, 92, 93, 94, 95, 96, 97, 98, 99] (by decide +kernel) (by decide +kernel)) (goodIn_sub (fun _ h => List.mem_cons_of_mem _ (List.mem_append_left _ (List.mem_append_right _ h))) (by decide +kernel))) (goodIn_sub (fun _ h => List.mem_cons_of_mem _ (List.mem_append_right _ h)) (by decide +kernel))
set_option maxRecDepth 20000 in
theorem gL_finePart_X6_finePart : GoodIn wsL_finePart (wsV RL 51 RX6 yX6_finePart wsX6_finePart) := goodIn_app (goodIn_of _ (by decide +kernel)) ggL_finePart_X6_finePart
theorem dL_finePart_0 : decode cL_finePart 0 = .ok (.aload_n 2, 1) := by decide +kernel
theorem dL_finePart_1 : decode cL_finePart 1 = .ok (.iconst 0, 1) := by decide +kernel
theorem dL_finePart_2 : decode cL_finePart 2 = .ok (.aload_n 0, 1) := by decide +kernel
theorem dL_finePart_3 : decode cL_finePart 3 = .ok (.iload_n 1, 1) := by decide +kernel
theorem dL_finePart_4 : decode cL_finePart 4 = .ok (.invokevirtual 51, 3) := by decide +kernel
theorem dL_finePart_7 : decode cL_finePart 7 = .ok (.i2l, 1) := by decide +kernel
theorem dL_finePart_8 : decode cL_finePart 8 = .ok (.lastore, 1) := by decide +kernel
theorem dL_finePart_9 : decode cL_finePart 9 = .ok (.goto 9, 3) := by decide +kernel
theorem dL_finePart_12 : decode cL_finePart 12 = .ok (.astore_n 3, 1) := by decide +kernel
theorem dL_finePart_13 : decode cL_finePart 13 = .ok (.iconst 1, 1) := by decide +kernel
theorem dL_finePart_14 : decode cL_finePart 14 = .ok (.ireturn, 1) := by decide +kernel
theorem dL_finePart_15 : decode cL_finePart 15 = .ok (.astore_n 3, 1) := by decide +kernel
theorem dL_finePart_16 : decode cL_finePart 16 = .ok (.iconst 2, 1) := by decide +kernel
theorem dL_finePart_17 : decode cL_finePart 17 = .ok (.ireturn, 1) := by decide +kernel
theorem dL_finePart_18 : decode cL_finePart 18 = .ok (.iconst 0, 1) := by decide +kernel
theorem dL_finePart_19 : decode cL_finePart 19 = .ok (.ireturn, 1) := by decide +kernel
set_option maxRecDepth 20000 in
theorem ggL_leads_X6_leads : GoodIn wsL_leads wsX6_leads := goodIn_ca (goodIn_ca (goodIn_r _ [7, 8, 9, 10, 11, 12, 13, 14, 6, 15, 16, 17, 18, 19, 20, 21, 22, 23, 24, 25, 26, 27, 28, 29, 30, 31, 32, 33, 34, 35, 36, 37, 38, 39, 40, 41, 42, 43, 44, 45, 46, 47, 48, 49, 50, 51, 52, 53, 54, 55, 56, 57, 58, 59, 60, 61, 62, 63, 64, 65, 66, 67, 68, 69, 70, 71, 72, 73, 74, 75, 76, 77, 78, 79, 80, 81, 82, 83, 84, 85, 86, 87, 88, 89, 90, 91, 92, 93] (by decide +kernel) (by decide +kernel)) (goodIn_sub (fun _ h => List.mem_cons_of_mem _ (List.mem_append_left _ (List.mem_append_right _ h))) (by decide +kernel))) (goodIn_sub (fun _ h => List.mem_cons_of_mem _ (List.mem_append_right _ h)) (by decide +kernel))
set_option maxRecDepth 20000 in
theorem gL_leads_X6_leads : GoodIn wsL_leads (wsV RL 54 RX6 yX6_leads wsX6_leads) := goodIn_app (goodIn_of _ (by decide +kernel)) ggL_leads_X6_leads
theorem dL_leads_0 : decode cL_leads 0 = .ok (.aload_n 3, 1) := by decide +kernel
theorem dL_leads_1 : decode cL_leads 1 = .ok (.iconst 0, 1) := by decide +kernel
theorem dL_leads_2 : decode cL_leads 2 = .ok (.aload_n 0, 1) := by decide +kernel
theorem dL_leads_3 : decode cL_leads 3 = .ok (.iload_n 1, 1) := by decide +kernel
theorem dL_leads_4 : decode cL_leads 4 = .ok (.iload_n 2, 1) := by decide +kernel
theorem dL_leads_5 : decode cL_leads 5 = .ok (.invokevirtual 54, 3) := by decide +kernel
theorem dL_leads_8 : decode cL_leads 8 = .ok (.ifCond .eq 7, 3) := by decide +kernel
theorem dL_leads_11 : decode cL_leads 11 = .ok (.lconst 1, 1) := by decide +kernel
theorem dL_leads_12 : decode cL_leads 12 = .ok (.goto 4, 3) := by decide +kernel
theorem dL_leads_15 : decode cL_leads 15 = .ok (.lconst 0, 1) := by decide +kernel
theorem dL_leads_16 : decode cL_leads 16 = .ok (.lastore, 1) := by decide +kernel
theorem dL_leads_17 : decode cL_leads 17 = .ok (.goto 11, 3) := by decide +kernel
theorem dL_leads_20 : decode cL_leads 20 = .ok (.astore 4, 2) := by decide +kernel
theorem dL_leads_22 : decode cL_leads 22 = .ok (.iconst 1, 1) := by decide +kernel
theorem dL_leads_23 : decode cL_leads 23 = .ok (.ireturn, 1) := by decide +kernel
theorem dL_leads_24 : decode cL_leads 24 = .ok (.astore 4, 2) := by decide +kernel
theorem dL_leads_26 : decode cL_leads 26 = .ok (.iconst 2, 1) := by decide +kernel
theorem dL_leads_27 : decode cL_leads 27 = .ok (.ireturn, 1) := by decide +kernel
theorem dL_leads_28 : decode cL_leads 28 = .ok (.iconst 0, 1) := by decide +kernel
theorem dL_leads_29 : decode cL_leads 29 = .ok (.ireturn, 1) := by decide +kernel
set_option maxRecDepth 20000 in
theorem ggL_isInSome_X6_isInSome : GoodIn wsL_isInSome wsX6_isInSome := goodIn_ca (goodIn_ca (goodIn_r _ [7, 8, 9, 10, 11, 12, 13, 14, 6, 15, 16, 17, 18, 19, 20, 21, 22, 23, 24, 25, 26, 27, 28, 29, 30, 31, 32, 33, 34, 35, 36, 37, 38, 39, 40, 41, 42, 43, 44, 45, 46, 47, 48, 49, 50, 51, 52, 53, 54, 55, 56, 57, 58, 59, 60, 61, 62, 63, 64, 65, 66, 67, 68, 69, 70, 71, 72, 73, 74, 75, 76, 77, 78, 79, 80, 81, 82, 83, 84, 85, 86, 87, 88, 89, 90, 91, 92, 93, 94, 95, 96, 97, 98, 99, 100, 101, 102, 103, 104, 105, 106, 107, 108, 109, 110, 111, 112, 113, 114, 115, 116, 117, 118, 119] (by decide +kernel) (by decide +kernel)) (goodIn_sub (fun _ h => List.mem_cons_of_mem _ (List.mem_append_left _ (List.mem_append_right _ h))) (by decide +kernel))) (goodIn_sub (fun _ h => List.mem_cons_of_mem _ (List.mem_append_right _ h)) (by decide +kernel))
set_option maxRecDepth 20000 in
theorem gL_isInSome_X6_isInSome : GoodIn wsL_isInSome (wsV RL 57 RX6 yX6_isInSome wsX6_isInSome) := goodIn_app (goodIn_of _ (by decide +kernel)) ggL_isInSome_X6_isInSome
theorem dL_isInSome_0 : decode cL_isInSome 0 = .ok (.aload_n 3, 1) := by decide +kernel
theorem dL_isInSome_1 : decode cL_isInSome 1 = .ok (.iconst 0, 1) := by decide +kernel
theorem dL_isInSome_2 : decode cL_isInSome 2 = .ok (.aload_n 0, 1) := by decide +kernel
theorem dL_isInSome_3 : decode cL_isInSome 3 = .ok (.iload_n 1, 1) := by decide +kernel
theorem dL_isInSome_4 : decode cL_isInSome 4 = .ok (.iload_n 2, 1) := by decide +kernel
theorem dL_isInSome_5 : decode cL_isInSome 5 = .ok (.invokevirtual 57, 3) := by decide +kernel
theorem dL_isInSome_8 : decode cL_isInSome 8 = .ok (.ifCond .eq 7, 3) := by decide +kernel
theorem dL_isInSome_11 : decode cL_isInSome 11 = .ok (.lconst 1, 1) := by decide +kernel
theorem dL_isInSome_12 : decode cL_isInSome 12 = .ok (.goto 4, 3) := by decide +kernel
theorem dL_isInSome_15 : decode cL_isInSome 15 = .ok (.lconst 0, 1) := by decide +kernel
theorem dL_isInSome_16 : decode cL_isInSome 16 = .ok (.lastore, 1) := by decide +kernel
theorem dL_isInSome_17 : decode cL_isInSome 17 = .ok (.goto 11, 3) := by decide +kernel
theorem dL_isInSome_20 : decode cL_isInSome 20 = .ok (.astore 4, 2) := by decide +kernel
theorem dL_isInSome_22 : decode cL_isInSome 22 = .ok (.iconst 1, 1) := by decide +kernel
theorem dL_isInSome_23 : decode cL_isInSome 23 = .ok (.ireturn, 1) := by decide +kernel
theorem dL_isInSome_24 : decode cL_isInSome 24 = .ok (.astore 4, 2) := by decide +kernel
theorem dL_isInSome_26 : decode cL_isInSome 26 = .ok (.iconst 2, 1) := by decide +kernel
theorem dL_isInSome_27 : decode cL_isInSome 27 = .ok (.ireturn, 1) := by decide +kernel
theorem dL_isInSome_28 : decode cL_isInSome 28 = .ok (.iconst 0, 1) := by decide +kernel
theorem dL_isInSome_29 : decode cL_isInSome 29 = .ok (.ireturn, 1) := by decide +kernel
set_option maxRecDepth 20000 in
theorem ggL_isInAll_X6_isInAll : GoodIn wsL_isInAll wsX6_isInAll := goodIn_ca (goodIn_ca (goodIn_r _ [7, 8, 9, 10, 11, 12, 13, 14, 6, 15, 16, 17, 18, 19, 20, 21, 22, 23, 24, 25, 26, 27, 28, 29, 30, 31, 32, 33, 34, 35, 36, 37, 38, 39, 40, 41, 42, 43, 44, 45, 46, 47, 48, 49, 50, 51, 52, 53, 54, 55, 56, 57, 58, 59, 60, 61, 62, 63, 64, 65, 66, 67, 68, 69, 70, 71, 72, 73, 74, 75, 76, 77, 78, 79, 80, 81, 82, 83, 84, 85, 86, 87, 88, 89, 90, 91, 92, 93, 94, 95, 96, 97, 98, 99, 100, 101, 102, 103, 104, 105, 106, 107, 108, 109, 110, 111] (by decide +kernel) (by decide +kernel)) (goodIn_sub (fun _ h => List.mem_cons_of_mem _ (List.mem_append_left _ (List.mem_append_right _ h))) (by decide +kernel))) (goodIn_sub (fun _ h => List.mem_cons_of_mem _ (List.mem_append_right _ h)) (by decide +kernel))
set_option maxRecDepth 20000 in
theorem gL_isInAll_X6_isInAll : GoodIn wsL_isInAll (wsV RL 60 RX6 yX6_isInAll wsX6_isInAll) := goodIn_app (goodIn_of _ (by decide +kernel)) ggL_isInAll_X6_isInAll
theorem dL_isInAll_0 : decode cL_isInAll 0 = .ok (.aload_n 3, 1) := by decide +kernel
theorem dL_isInAll_1 : decode cL_isInAll 1 = .ok (.iconst 0, 1) := by decide +kernel
theorem dL_isInAll_2 : decode cL_isInAll 2 = .ok (.aload_n 0, 1) := by decide +kernel
theorem dL_isInAll_3 : decode cL_isInAll 3 = .ok (.iload_n 1, 1) := by decide +kernel
theorem dL_isInAll_4 : decode cL_isInAll 4 = .ok (.iload_n 2, 1) := by decide +kernel
theorem dL_isInAll_5 : decode cL_isInAll 5 = .ok (.invokevirtual 60, 3) := by decide +kernel
theorem dL_isInAll_8 : decode cL_isInAll 8 = .ok (.ifCond .eq 7, 3) := by decide +kernel
theorem dL_isInAll_11 : decode cL_isInAll 11 = .ok (.lconst 1, 1) := by decide +kernel
theorem dL_isInAll_12 : decode cL_isInAll 12 = .ok (.goto 4, 3) := by decide +kernel
theorem dL_isInAll_15 : decode cL_isInAll 15 = .ok (.lconst 0, 1) := by decide +kernel
theorem dL_isInAll_16 : decode cL_isInAll 16 = .ok (.lastore, 1) := by decide +kernel
theorem dL_isInAll_17 : decode cL_isInAll 17 = .ok (.goto 11, 3) := by decide +kernel
theorem dL_isInAll_20 : decode cL_isInAll 20 = .ok (.astore 4, 2) := by decide +kernel
theorem dL_isInAll_22 : decode cL_isInAll 22 = .ok (.iconst 1, 1) := by decide +kernel
theorem dL_isInAll_23 : decode cL_isInAll 23 = .ok (.ireturn, 1) := by decide +kernel
theorem dL_isInAll_24 : decode cL_isInAll 24 = .ok (.astore 4, 2) := by decide +kernel
theorem dL_isInAll_26 : decode cL_isInAll 26 = .ok (.iconst 2, 1) := by decide +kernel
theorem dL_isInAll_27 : decode cL_isInAll 27 = .ok (.ireturn, 1) := by decide +kernel
theorem dL_isInAll_28 : decode cL_isInAll 28 = .ok (.iconst 0, 1) := by decide +kernel
theorem dL_isInAll_29 : decode cL_isInAll 29 = .ok (.ireturn, 1) := by decide +kernel
set_option maxRecDepth 20000 in
theorem ggL_coversLeft_X6_coversLeft : GoodIn wsL_coversLeft wsX6_coversLeft := goodIn_ca (goodIn_r _ [6, 7, 8, 9, 10, 11, 12, 5, 13, 14, 15, 16, 17, 18, 19, 20, 21, 22, 23, 24, 25, 26, 27, 28, 29, 30, 31, 32, 33, 34, 35, 36, 37, 38, 39, 40, 41, 42, 43, 44, 45, 46, 47, 48, 49, 50, 51, 52, 53, 54, 55, 56, 57, 58, 59, 60, 61, 62, 63, 64, 65, 66, 67, 68, 69, 70, 71, 72, 73, 74, 75, 76, 77, 78, 79, 80, 81, 82, 83, 84] (by decide +kernel) (by decide +kernel)) (goodIn_sub (fun _ h => List.mem_cons_of_mem _ (List.mem_append_right _ h)) (by decide +kernel))
set_option maxRecDepth 20000 in
theorem gL_coversLeft_X6_coversLeft : GoodIn wsL_coversLeft (wsV RL 63 RX6 yX6_coversLeft wsX6_coversLeft) := goodIn_app (goodIn_of _ (by decide +kernel)) ggL_coversLeft_X6_coversLeft
theorem dL_coversLeft_0 : decode cL_coversLeft 0 = .ok (.aload_n 2, 1) := by decide +kernel
theorem dL_coversLeft_1 : decode cL_coversLeft 1 = .ok (.iconst 0, 1) := by decide +kernel
theorem dL_coversLeft_2 : decode cL_coversLeft 2 = .ok (.aload_n 0, 1) := by decide +kernel
theorem dL_coversLeft_3 : decode cL_coversLeft 3 = .ok (.iload_n 1, 1) := by decide +kernel
theorem dL_coversLeft_4 : decode cL_coversLeft 4 = .ok (.invokevirtual 63, 3) := by decide +kernel
theorem dL_coversLeft_7 : decode cL_coversLeft 7 = .ok (.ifCond .eq 7, 3) := by decide +kernel
theorem dL_coversLeft_10 : decode cL_coversLeft 10 = .ok (.lconst 1, 1) := by decide +kernel
theorem dL_coversLeft_11 : decode cL_coversLeft 11 = .ok (.goto 4, 3) := by decide +kernel
theorem dL_coversLeft_14 : decode cL_coversLeft 14 = .ok (.lconst 0, 1) := by decide +kernel
theorem dL_coversLeft_15 : decode cL_coversLeft 15 = .ok (.lastore, 1) := by decide +kernel
theorem dL_coversLeft_16 : decode cL_coversLeft 16 = .ok (.goto 6, 3) := by decide +kernel
theorem dL_coversLeft_19 : decode cL_coversLeft 19 = .ok (.astore_n 3, 1) := by decide +kernel
theorem dL_coversLeft_20 : decode cL_coversLeft 20 = .ok (.iconst 1, 1) := by decide +kernel
theorem dL_coversLeft_21 : decode cL_coversLeft 21 = .ok (.ireturn, 1) := by decide +kernel
theorem dL_coversLeft_22 : decode cL_coversLeft 22 = .ok (.iconst 0, 1) := by decide +kernel
theorem dL_coversLeft_23 : decode cL_coversLeft 23 = .ok (.ireturn, 1) := by decide +kernel
set_option maxRecDepth 20000 in
theorem ggL_coversRight_X6_coversRight : GoodIn wsL_coversRight wsX6_coversRight := goodIn_ca (goodIn_r _ [6, 7, 8, 9, 10, 11, 12, 5, 13, 14, 15, 16, 17, 18, 19, 20, 21, 22, 23, 24, 25, 26, 27, 28, 29, 30, 31, 32, 33, 34, 35, 36, 37, 38, 39, 40, 41, 42, 43, 44, 45, 46, 47, 48, 49, 50, 51, 52, 53, 54, 55, 56, 57, 58, 59, 60, 61, 62, 63, 64, 65, 66, 67, 68, 69, 70, 71, 72, 73, 74, 75, 76, 77, 78, 79, 80, 81, 82, 83, 84] (by decide +kernel) (by decide +kernel)) (goodIn_sub (fun _ h => List.mem_cons_of_mem _ (List.mem_append_right _ h)) (by decide +kernel))
set_option maxRecDepth 20000 in
theorem gL_coversRight_X6_coversRight : GoodIn wsL_coversRight (wsV RL 67 RX6 yX6_coversRight wsX6_coversRight) := goodIn_app (goodIn_of _ (by decide +kernel)) ggL_coversRight_X6_coversRight
theorem dL_coversRight_0 : decode cL_coversRight 0 = .ok (.aload_n 2, 1) := by decide +kernel
theorem dL_coversRight_1 : decode cL_coversRight 1 = .ok (.iconst 0, 1) := by decide +kernel
theorem dL_coversRight_2 : decode cL_coversRight 2 = .ok (.aload_n 0, 1) := by decide +kernel
theorem dL_coversRight_3 : decode cL_coversRight 3 = .ok (.iload_n 1, 1) := by decide +kernel
theorem dL_coversRight_4 : decode cL_coversRight 4 = .ok (.invokevirtual 67, 3) := by decide +kernel
theorem dL_coversRight_7 : decode cL_coversRight 7 = .ok (.ifCond .eq 7, 3) := by decide +kernel
theorem dL_coversRight_10 : decode cL_coversRight 10 = .ok (.lconst 1, 1) := by decide +kernel
theorem dL_coversRight_11 : decode cL_coversRight 11 = .ok (.goto 4, 3) := by decide +kernel
theorem dL_coversRight_14 : decode cL_coversRight 14 = .ok (.lconst 0, 1) := by decide +kernel
theorem dL_coversRight_15 : decode cL_coversRight 15 = .ok (.lastore, 1) := by decide +kernel
theorem dL_coversRight_16 : decode cL_coversRight 16 = .ok (.goto 6, 3) := by decide +kernel
theorem dL_coversRight_19 : decode cL_coversRight 19 = .ok (.astore_n 3, 1) := by decide +kernel
theorem dL_coversRight_20 : decode cL_coversRight 20 = .ok (.iconst 1, 1) := by decide +kernel
theorem dL_coversRight_21 : decode cL_coversRight 21 = .ok (.ireturn, 1) := by decide +kernel
theorem dL_coversRight_22 : decode cL_coversRight 22 = .ok (.iconst 0, 1) := by decide +kernel
theorem dL_coversRight_23 : decode cL_coversRight 23 = .ok (.ireturn, 1) := by decide +kernel
set_option maxRecDepth 20000 in
theorem ggL_law_X6_init : GoodIn wsL_law wsX6_init := goodIn_r _ [9, 10, 11, 12, 13, 14, 15, 16, 17, 18, 19, 20, 21, 22, 23, 24, 25, 26, 27, 28, 29, 30, 31, 32, 33, 34, 35, 36, 37, 38, 39, 40, 41, 42, 43, 44, 45, 46, 47, 48, 49, 50, 51, 52, 53, 54, 55, 56, 57, 58, 59, 60, 61, 62, 63, 64, 65, 66, 67, 68, 69, 70, 71, 72, 73, 6, 74, 722, 723, 724, 725, 726, 696, 697, 698, 699, 700, 701, 727, 728, 729, 730, 731, 732, 733, 734, 735, 736, 737, 738, 739, 740, 741, 742, 743, 744, 745] (by decide +kernel) (by decide +kernel)
set_option maxRecDepth 20000 in
theorem gL_law_X6_init : GoodIn wsL_law (wsX6_init) := ggL_law_X6_init
set_option maxRecDepth 20000 in
theorem ggL_law_X7_init : GoodIn wsL_law wsX7_init := goodIn_r _ [77, 78, 11, 12, 79, 80, 40, 81, 82, 83, 84, 85, 86, 87, 88, 89, 90, 91, 92, 93, 94, 95, 6, 96, 702, 703, 704, 705, 706, 707, 708, 709, 710, 711, 712, 713, 714, 715, 716, 717, 718, 719, 720, 721] (by decide +kernel) (by decide +kernel)
set_option maxRecDepth 20000 in
theorem gL_law_X7_init : GoodIn wsL_law (wsX7_init) := ggL_law_X7_init
set_option maxRecDepth 20000 in
theorem ggL_law_L_addLeft : GoodIn wsL_law wsL_addLeft := goodIn_ca (goodIn_r _ [100, 101, 102, 103, 104, 2, 105, 106, 107, 16, 108, 696, 697, 698, 699, 700, 701, 722, 723, 724, 725, 726] (by decide +kernel) (by decide +kernel)) (goodIn_sub (fun _ h => List.mem_append_left _ (List.mem_append_left _ (List.mem_append_right _ h))) (by decide +kernel))
set_option maxRecDepth 20000 in
theorem gL_law_L_addLeft : GoodIn wsL_law (va_wsS RL 74 yL_addLeft wsL_addLeft) := goodIn_app (goodIn_of _ (by decide +kernel)) ggL_law_L_addLeft
set_option maxRecDepth 20000 in
theorem ggL_law_X7_addLeft : GoodIn wsL_law wsX7_addLeft := goodIn_r _ [112, 113, 114, 115, 116, 5, 117, 118, 702, 703, 704, 705, 706, 707, 708, 709, 710, 711, 712, 713, 714, 715, 716, 717, 718, 719, 720, 721] (by decide +kernel) (by decide +kernel)
set_option maxRecDepth 20000 in
theorem gL_law_X7_addLeft : GoodIn wsL_law (wsV RL 79 RX7 yX7_addLeft wsX7_addLeft) := goodIn_app (goodIn_of _ (by decide +kernel)) ggL_law_X7_addLeft
set_option maxRecDepth 20000 in
theorem ggL_law_X7_thrown : GoodIn wsL_law wsX7_thrown := goodIn_r _ [122, 118, 702, 703, 704, 705, 706, 707, 708, 709, 710, 711, 712, 713, 714, 715, 716, 717, 718, 719, 720, 721] (by decide +kernel) (by decide +kernel)
set_option maxRecDepth 20000 in
theorem gL_law_X7_thrown : GoodIn wsL_law (wsV RL 80 RX7 yX7_thrown wsX7_thrown) := goodIn_app (goodIn_of _ (by decide +kernel)) ggL_law_X7_thrown
set_option maxRecDepth 20000 in
theorem ggL_law_L_addRight : GoodIn wsL_law wsL_addRight := goodIn_ca (goodIn_r _ [125, 101, 126, 127, 128, 2, 129, 106, 107, 16, 130, 696, 697, 698, 699, 700, 701, 722, 723, 724, 725, 726] (by decide +kernel) (by decide +kernel)) (goodIn_sub (fun _ h => List.mem_append_left _ (List.mem_append_left _ (List.mem_append_right _ h))) (by decide +kernel))
set_option maxRecDepth 20000 in
theorem gL_law_L_addRight : GoodIn wsL_law (va_wsS RL 83 yL_addRight wsL_addRight) := goodIn_app (goodIn_of _ (by decide +kernel)) ggL_law_L_addRight
set_option maxRecDepth 20000 in
theorem ggL_law_X7_addRight : GoodIn wsL_law wsX7_addRight := goodIn_r _ [134, 135, 114, 115, 116, 5, 117, 118, 702, 703, 704, 705, 706, 707, 708, 709, 710, 711, 712, 713, 714, 715, 716, 717, 718, 719, 720, 721] (by decide +kernel) (by decide +kernel)
set_option maxRecDepth 20000 in
theorem gL_law_X7_addRight : GoodIn wsL_law (wsV RL 85 RX7 yX7_addRight wsX7_addRight) := goodIn_app (goodIn_of _ (by decide +kernel)) ggL_law_X7_addRight
set_option maxRecDepth 20000 in
theorem ggL_law_X6_lefts : GoodIn wsL_law wsX6_lefts := goodIn_r _ [139, 16, 108, 696, 697, 698, 699, 700, 701, 722, 723, 724, 725, 726] (by decide +kernel) (by decide +kernel)
set_option maxRecDepth 20000 in
theorem gL_law_X6_lefts : GoodIn wsL_law (wsV RL 86 RX6 yX6_lefts wsX6_lefts) := goodIn_app (goodIn_of _ (by decide +kernel)) ggL_law_X6_lefts
set_option maxRecDepth 20000 in
theorem ggL_law_X7_lefts : GoodIn wsL_law wsX7_lefts := goodIn_r _ [143, 113, 144, 145, 146, 5, 147, 118, 702, 703, 704, 705, 706, 707, 708, 709, 710, 711, 712, 713, 714, 715, 716, 717, 718, 719, 720, 721] (by decide +kernel) (by decide +kernel)
set_option maxRecDepth 20000 in
theorem gL_law_X7_lefts : GoodIn wsL_law (wsV RL 89 RX7 yX7_lefts wsX7_lefts) := goodIn_app (goodIn_of _ (by decide +kernel)) ggL_law_X7_lefts
set_option maxRecDepth 20000 in
theorem ggL_law_X6_rights : GoodIn wsL_law wsX6_rights := goodIn_r _ [151, 16, 130, 696, 697, 698, 699, 700, 701, 722, 723, 724, 725, 726] (by decide +kernel) (by decide +kernel)
set_option maxRecDepth 20000 in
theorem gL_law_X6_rights : GoodIn wsL_law (wsV RL 90 RX6 yX6_rights wsX6_rights) := goodIn_app (goodIn_of _ (by decide +kernel)) ggL_law_X6_rights
set_option maxRecDepth 20000 in
theorem ggL_law_X7_rights : GoodIn wsL_law wsX7_rights := goodIn_r _ [155, 135, 144, 145, 146, 5, 147, 118, 702, 703, 704, 705, 706, 707, 708, 709, 710, 711, 712, 713, 714, 715, 716, 717, 718, 719, 720, 721] (by decide +kernel) (by decide +kernel)
set_option maxRecDepth 20000 in
theorem gL_law_X7_rights : GoodIn wsL_law (wsV RL 93 RX7 yX7_rights wsX7_rights) := goodIn_app (goodIn_of _ (by decide +kernel)) ggL_law_X7_rights
set_option maxRecDepth 20000 in
theorem ggL_law_X6_edges : GoodIn wsL_law wsX6_edges := goodIn_r _ [159, 16, 160, 696, 697, 698, 699, 700, 701, 722, 723, 724, 725, 726] (by decide +kernel) (by decide +kernel)
set_option maxRecDepth 20000 in
theorem gL_law_X6_edges : GoodIn wsL_law (wsV RL 94 RX6 yX6_edges wsX6_edges) := goodIn_app (goodIn_of _ (by decide +kernel)) ggL_law_X6_edges
set_option maxRecDepth 20000 in
theorem ggL_law_X7_edges : GoodIn wsL_law wsX7_edges := goodIn_r _ [164, 80, 144, 145, 146, 5, 147, 118, 702, 703, 704, 705, 706, 707, 708, 709, 710, 711, 712, 713, 714, 715, 716, 717, 718, 719, 720, 721] (by decide +kernel) (by decide +kernel)
set_option maxRecDepth 20000 in
theorem gL_law_X7_edges : GoodIn wsL_law (wsV RL 97 RX7 yX7_edges wsX7_edges) := goodIn_app (goodIn_of _ (by decide +kernel)) ggL_law_X7_edges
set_option maxRecDepth 20000 in
theorem ggL_law_L_connect : GoodIn wsL_law wsL_connect := goodIn_ca (goodIn_ca (goodIn_r _ [167, 168, 101, 169, 170, 171, 2, 172, 106, 107, 16, 24, 20, 173, 174, 175, 176, 177, 178, 179, 180, 181, 182, 108, 183, 184, 185, 186, 130, 187, 188, 189, 15, 190, 41, 191, 192, 193, 194, 195, 196, 42, 197, 198, 199, 200, 23, 201, 57, 202, 56, 203, 50, 51, 52, 204, 205, 206, 207, 208, 209, 210, 211, 19, 212, 47, 213, 214, 215, 216, 217, 218, 219, 220, 221, 222, 223, 224, 225, 226, 227, 228, 229, 230, 231, 232, 233, 234, 235, 236, 48, 696, 697, 698, 699, 700, 701, 722, 723, 724, 725, 726, 730, 731, 732, 727, 728, 729] (by decide +kernel) (by decide +kernel)) (goodIn_sub (fun _ h => List.mem_append_left _ (List.mem_append_left _ (List.mem_append_right _ h))) (by decide +kernel))) (goodIn_sub (fun _ h => List.mem_append_left _ (List.mem_append_right _ h)) (by decide +kernel))
set_option maxRecDepth 20000 in
theorem gL_law_L_connect : GoodIn wsL_law (va_wsS RL 98 yL_connect wsL_connect) := goodIn_app (goodIn_of _ (by decide +kernel)) ggL_law_L_connect
set_option maxRecDepth 20000 in
theorem ggL_law_X7_connect : GoodIn wsL_law wsX7_connect := goodIn_r _ [240, 80, 241, 242, 243, 5, 244, 113, 245, 246, 247, 248, 135, 249, 250, 251, 252, 114, 115, 116, 117, 118, 253, 254, 255, 256, 81, 257, 258, 259, 260, 91, 92, 82, 261, 262, 263, 264, 702, 703, 704, 705, 706, 707, 708, 709, 710, 711, 712, 713, 714, 715, 716, 717, 718, 719, 720, 721] (by decide +kernel) (by decide +kernel)
set_option maxRecDepth 20000 in
theorem gL_law_X7_connect : GoodIn wsL_law (wsV RL 101 RX7 yX7_connect wsX7_connect) := goodIn_app (goodIn_of _ (by decide +kernel)) ggL_law_X7_connect
set_option maxRecDepth 20000 in
theorem ggL_law_L_disconnect : GoodIn wsL_law wsL_disconnect := goodIn_ca (goodIn_ca (goodIn_r _ [267, 168, 268, 269, 270, 271, 2, 272, 16, 20, 273, 24, 274, 275, 276, 277, 278, 279, 173, 174, 175, 176, 177, 178, 179, 180, 181, 182, 108, 183, 184, 185, 186, 130, 187, 188, 189, 15, 190, 41, 191, 192, 280, 281, 282, 283, 42, 197, 284, 285, 286, 19, 287, 47, 48, 288, 198, 199, 200, 23, 201, 57, 202, 56, 203, 50, 51, 52, 204, 205, 206, 207, 208, 209, 210, 211, 212, 213, 214, 215, 216, 217, 218, 219, 220, 221, 222, 223, 224, 225, 226, 227, 228, 229, 230, 231, 232, 233, 234, 235, 236, 696, 697, 698, 699, 700, 701, 727, 728, 729, 722, 723, 724, 725, 726, 730, 731, 732] (by decide +kernel) (by decide +kernel)) (goodIn_sub (fun _ h => List.mem_append_right _ h) (by decide +kernel))) (goodIn_sub (fun _ h => List.mem_append_left _ (List.mem_append_right _ h)) (by decide +kernel))
set_option maxRecDepth 20000 in
theorem gL_law_L_disconnect : GoodIn wsL_law (va_wsS RL 102 yL_disconnect wsL_disconnect) := goodIn_app (goodIn_of _ (by decide +kernel)) ggL_law_L_disconnect
set_option maxRecDepth 20000 in
theorem ggL_law_X7_disconnect : GoodIn wsL_law wsX7_disconnect := goodIn_r _ [292, 80, 81, 82, 293, 294, 295, 5, 296, 241, 242, 243, 244, 113, 245, 246, 247, 248, 135, 249, 250, 251, 252, 114, 115, 116, 117, 118, 253, 254, 255, 256, 257, 258, 259, 260, 91, 92, 261, 262, 263, 264, 702, 703, 704, 705, 706, 707, 708, 709, 710, 711, 712, 713, 714, 715, 716, 717, 718, 719, 720, 721] (by decide +kernel) (by decide +kernel)
set_option maxRecDepth 20000 in
theorem gL_law_X7_disconnect : GoodIn wsL_law (wsV RL 104 RX7 yX7_disconnect wsX7_disconnect) := goodIn_app (goodIn_of _ (by decide +kernel)) ggL_law_X7_disconnect
set_option maxRecDepth 20000 in
theorem ggL_law_L_hasEdge : GoodIn wsL_law wsL_hasEdge := goodIn_ca (goodIn_r _ [299, 168, 300, 301, 302, 2, 303, 16, 173, 174, 175, 176, 177, 178, 179, 180, 181, 182, 108, 183, 184, 185, 186, 130, 187, 188, 189, 15, 190, 41, 191, 192, 696, 697, 698, 699, 700, 701, 722, 723, 724, 725, 726] (by decide +kernel) (by decide +kernel)) (goodIn_sub (fun _ h => List.mem_append_left _ (List.mem_append_right _ h)) (by decide +kernel))
set_option maxRecDepth 20000 in
theorem gL_law_L_hasEdge : GoodIn wsL_law (va_wsS RL 105 yL_hasEdge wsL_hasEdge) := goodIn_app (goodIn_of _ (by decide +kernel)) ggL_law_L_hasEdge
set_option maxRecDepth 20000 in
theorem ggL_law_X7_hasEdge : GoodIn wsL_law wsX7_hasEdge := goodIn_r _ [307, 241, 242, 243, 5, 244, 113, 245, 246, 247, 248, 135, 114, 115, 116, 117, 118, 249, 250, 251, 252, 80, 702, 703, 704, 705, 706, 707, 708, 709, 710, 711, 712, 713, 714, 715, 716, 717, 718, 719, 720, 721] (by decide +kernel) (by decide +kernel)
set_option maxRecDepth 20000 in
theorem gL_law_X7_hasEdge : GoodIn wsL_law (wsV RL 107 RX7 yX7_hasEdge wsX7_hasEdge) := goodIn_app (goodIn_of _ (by decide +kernel)) ggL_law_X7_hasEdge
set_option maxRecDepth 20000 in
theorem ggL_law_X6_size : GoodIn wsL_law wsX6_size := goodIn_r _ [311, 20, 312, 696, 697, 698, 699, 700, 701, 727, 728, 729] (by decide +kernel) (by decide +kernel)
set_option maxRecDepth 20000 in
theorem gL_law_X6_size : GoodIn wsL_law (wsV RL 108 RX6 yX6_size wsX6_size) := goodIn_app (goodIn_of _ (by decide +kernel)) ggL_law_X6_size
set_option maxRecDepth 20000 in
theorem ggL_law_X7_size : GoodIn wsL_law wsX7_size := goodIn_r _ [316, 253, 254, 255, 5, 256, 113, 81, 144, 145, 146, 147, 118, 702, 703, 704, 705, 706, 707, 708, 709, 710, 711, 712, 713, 714, 715, 716, 717, 718, 719, 720, 721] (by decide +kernel) (by decide +kernel)
set_option maxRecDepth 20000 in
theorem gL_law_X7_size : GoodIn wsL_law (wsV RL 111 RX7 yX7_size wsX7_size) := goodIn_app (goodIn_of _ (by decide +kernel)) ggL_law_X7_size
set_option maxRecDepth 20000 in
theorem ggL_law_L_partnerOfLeft : GoodIn wsL_law wsL_partnerOfLeft := goodIn_ca (goodIn_ca (goodIn_r _ [319, 168, 268, 320, 321, 322, 2, 323, 278, 279, 20, 273, 177, 178, 179, 180, 181, 182, 16, 108, 696, 697, 698, 699, 700, 701, 727, 728, 729, 722, 723, 724, 725, 726] (by decide +kernel) (by decide +kernel)) (goodIn_sub (fun _ h => List.mem_append_right _ h) (by decide +kernel))) (goodIn_sub (fun _ h => List.mem_append_left _ (List.mem_append_right _ h)) (by decide +kernel))
set_option maxRecDepth 20000 in
theorem gL_law_L_partnerOfLeft : GoodIn wsL_law (va_wsS RL 112 yL_partnerOfLeft wsL_partnerOfLeft) := goodIn_app (goodIn_of _ (by decide +kernel)) ggL_law_L_partnerOfLeft
set_option maxRecDepth 20000 in
theorem ggL_law_X7_partnerOfLeft : GoodIn wsL_law wsX7_partnerOfLeft := goodIn_r _ [327, 81, 241, 242, 243, 5, 244, 113, 114, 115, 116, 117, 118, 702, 703, 704, 705, 706, 707, 708, 709, 710, 711, 712, 713, 714, 715, 716, 717, 718, 719, 720, 721] (by decide +kernel) (by decide +kernel)
set_option maxRecDepth 20000 in
theorem gL_law_X7_partnerOfLeft : GoodIn wsL_law (wsV RL 115 RX7 yX7_partnerOfLeft wsX7_partnerOfLeft) := goodIn_app (goodIn_of _ (by decide +kernel)) ggL_law_X7_partnerOfLeft
set_option maxRecDepth 20000 in
theorem ggL_law_L_partnerOfRight : GoodIn wsL_law wsL_partnerOfRight := goodIn_ca (goodIn_ca (goodIn_r _ [330, 168, 268, 331, 332, 333, 2, 334, 278, 279, 20, 335, 183, 184, 185, 186, 181, 182, 16, 130, 696, 697, 698, 699, 700, 701, 727, 728, 729, 722, 723, 724, 725, 726] (by decide +kernel) (by decide +kernel)) (goodIn_sub (fun _ h => List.mem_append_right _ h) (by decide +kernel))) (goodIn_sub (fun _ h => List.mem_append_left _ (List.mem_append_right _ h)) (by decide +kernel))
set_option maxRecDepth 20000 in
theorem gL_law_L_partnerOfRight : GoodIn wsL_law (va_wsS RL 116 yL_partnerOfRight wsL_partnerOfRight) := goodIn_app (goodIn_of _ (by decide +kernel)) ggL_law_L_partnerOfRight
set_option maxRecDepth 20000 in
theorem ggL_law_X7_partnerOfRight : GoodIn wsL_law wsX7_partnerOfRight := goodIn_r _ [339, 82, 245, 246, 247, 5, 248, 135, 114, 115, 116, 117, 118, 702, 703, 704, 705, 706, 707, 708, 709, 710, 711, 712, 713, 714, 715, 716, 717, 718, 719, 720, 721] (by decide +kernel) (by decide +kernel)
set_option maxRecDepth 20000 in
theorem gL_law_X7_partnerOfRight : GoodIn wsL_law (wsV RL 118 RX7 yX7_partnerOfRight wsX7_partnerOfRight) := goodIn_app (goodIn_of _ (by decide +kernel)) ggL_law_X7_partnerOfRight
set_option maxRecDepth 20000 in
theorem ggL_law_X6_phases : GoodIn wsL_law wsX6_phases := goodIn_r _ [343, 28, 16, 344, 345, 346, 347, 27, 348, 62, 349, 350, 63, 64, 351, 352, 353, 19, 354, 47, 48, 288, 49, 50, 51, 52, 355, 356, 357, 358, 359, 65, 360, 210, 211, 212, 213, 214, 215, 191, 2, 192, 361, 362, 363, 364, 365, 366, 367, 188, 189, 15, 190, 41, 368, 369, 370, 371, 372, 373, 374, 375, 376, 377, 378, 379, 380, 381, 382, 383, 384, 385, 386, 387, 388, 389, 390, 234, 235, 236, 696, 697, 698, 699, 700, 701, 733, 734, 735, 736, 737, 738, 739, 727, 728, 729, 722, 723, 724, 725, 726] (by decide +kernel) (by decide +kernel)
set_option maxRecDepth 20000 in
theorem gL_law_X6_phases : GoodIn wsL_law (wsV RL 119 RX6 yX6_phases wsX6_phases) := goodIn_app (goodIn_of _ (by decide +kernel)) ggL_law_X6_phases
set_option maxRecDepth 20000 in
theorem ggL_law_X7_phases : GoodIn wsL_law wsX7_phases := goodIn_r _ [394, 395, 396, 397, 5, 398, 83, 84, 89, 113, 88, 85, 86, 399, 400, 401, 402, 87, 135, 249, 250, 251, 252, 80, 403, 404, 405, 406, 407, 408, 409, 410, 91, 90, 144, 145, 146, 147, 118, 702, 703, 704, 705, 706, 707, 708, 709, 710, 711, 712, 713, 714, 715, 716, 717, 718, 719, 720, 721] (by decide +kernel) (by decide +kernel)
set_option maxRecDepth 20000 in
theorem gL_law_X7_phases : GoodIn wsL_law (wsV RL 122 RX7 yX7_phases wsX7_phases) := goodIn_app (goodIn_of _ (by decide +kernel)) ggL_law_X7_phases
set_option maxRecDepth 20000 in
theorem ggL_law_L_depthOf : GoodIn wsL_law wsL_depthOf := goodIn_ca (goodIn_r _ [413, 168, 414, 415, 416, 2, 417, 28, 16, 418, 345, 346, 347, 27, 348, 62, 349, 350, 63, 64, 351, 352, 353, 19, 354, 47, 48, 288, 49, 50, 51, 52, 355, 356, 357, 358, 359, 65, 360, 210, 211, 212, 213, 214, 215, 191, 192, 361, 362, 363, 364, 365, 366, 367, 188, 189, 15, 190, 41, 368, 369, 370, 371, 372, 373, 374, 375, 376, 377, 378, 379, 380, 381, 382, 383, 384, 385, 386, 387, 388, 389, 390, 234, 235, 236, 419, 420, 421, 422, 181, 182, 344, 696, 697, 698, 699, 700, 701, 733, 734, 735, 736, 737, 738, 739, 727, 728, 729, 722, 723, 724, 725, 726] (by decide +kernel) (by decide +kernel)) (goodIn_sub (fun _ h => List.mem_append_left _ (List.mem_append_right _ h)) (by decide +kernel))
set_option maxRecDepth 20000 in
theorem gL_law_L_depthOf : GoodIn wsL_law (va_wsS RL 123 yL_depthOf wsL_depthOf) := goodIn_app (goodIn_of _ (by decide +kernel)) ggL_law_L_depthOf
set_option maxRecDepth 20000 in
theorem ggL_law_X7_depthOf : GoodIn wsL_law wsX7_depthOf := goodIn_r _ [426, 85, 395, 396, 397, 5, 398, 83, 84, 89, 113, 88, 86, 399, 400, 401, 402, 87, 135, 249, 250, 251, 252, 80, 403, 404, 405, 406, 407, 408, 409, 410, 91, 90, 114, 115, 116, 117, 118, 702, 703, 704, 705, 706, 707, 708, 709, 710, 711, 712, 713, 714, 715, 716, 717, 718, 719, 720, 721] (by decide +kernel) (by decide +kernel)
set_option maxRecDepth 20000 in
theorem gL_law_X7_depthOf : GoodIn wsL_law (wsV RL 125 RX7 yX7_depthOf wsX7_depthOf) := goodIn_app (goodIn_of _ (by decide +kernel)) ggL_law_X7_depthOf
set_option maxRecDepth 20000 in
theorem ggL_law_L_pathsOf : GoodIn wsL_law wsL_pathsOf := goodIn_ca (goodIn_r _ [429, 168, 430, 431, 432, 2, 433, 28, 16, 434, 345, 346, 347, 27, 348, 62, 349, 350, 63, 64, 351, 352, 353, 19, 354, 47, 48, 288, 49, 50, 51, 52, 355, 356, 357, 358, 359, 65, 360, 210, 211, 212, 213, 214, 215, 191, 192, 361, 362, 363, 364, 365, 366, 367, 188, 189, 15, 190, 41, 368, 369, 370, 371, 372, 373, 374, 375, 376, 377, 378, 379, 380, 381, 382, 383, 384, 385, 386, 387, 388, 389, 390, 234, 235, 236, 419, 420, 421, 422, 181, 182, 344, 696, 697, 698, 699, 700, 701, 733, 734, 735, 736, 737, 738, 739, 727, 728, 729, 722, 723, 724, 725, 726] (by decide +kernel) (by decide +kernel)) (goodIn_sub (fun _ h => List.mem_append_left _ (List.mem_append_right _ h)) (by decide +kernel))
set_option maxRecDepth 20000 in
theorem gL_law_L_pathsOf : GoodIn wsL_law (va_wsS RL 126 yL_pathsOf wsL_pathsOf) := goodIn_app (goodIn_of _ (by decide +kernel)) ggL_law_L_pathsOf
set_option maxRecDepth 20000 in
theorem ggL_law_X7_pathsOf : GoodIn wsL_law wsX7_pathsOf := goodIn_r _ [438, 86, 395, 396, 397, 5, 398, 83, 84, 89, 113, 88, 85, 399, 400, 401, 402, 87, 135, 249, 250, 251, 252, 80, 403, 404, 405, 406, 407, 408, 409, 410, 91, 90, 114, 115, 116, 117, 118, 702, 703, 704, 705, 706, 707, 708, 709, 710, 711, 712, 713, 714, 715, 716, 717, 718, 719, 720, 721] (by decide +kernel) (by decide +kernel)
set_option maxRecDepth 20000 in
theorem gL_law_X7_pathsOf : GoodIn wsL_law (wsV RL 128 RX7 yX7_pathsOf wsX7_pathsOf) := goodIn_app (goodIn_of _ (by decide +kernel)) ggL_law_X7_pathsOf
set_option maxRecDepth 20000 in
theorem ggL_law_X6_rebuild : GoodIn wsL_law wsX6_rebuild := goodIn_r _ [442, 28, 16, 108, 20, 273, 443, 345, 346, 347, 27, 348, 62, 349, 350, 63, 64, 351, 352, 353, 19, 354, 47, 48, 288, 49, 50, 51, 52, 355, 356, 357, 358, 359, 65, 360, 210, 211, 212, 213, 214, 215, 191, 2, 192, 361, 362, 363, 364, 365, 366, 367, 188, 189, 15, 190, 41, 368, 369, 370, 371, 372, 373, 374, 375, 376, 377, 378, 379, 380, 381, 382, 383, 384, 385, 386, 387, 388, 389, 390, 234, 235, 236, 444, 445, 446, 447, 448, 449, 450, 451, 696, 697, 698, 699, 700, 701, 722, 723, 724, 725, 726, 727, 728, 729, 733, 734, 735, 736, 737, 738, 739] (by decide +kernel) (by decide +kernel)
set_option maxRecDepth 20000 in
theorem gL_law_X6_rebuild : GoodIn wsL_law (wsV RL 129 RX6 yX6_rebuild wsX6_rebuild) := goodIn_app (goodIn_of _ (by decide +kernel)) ggL_law_X6_rebuild
set_option maxRecDepth 20000 in
theorem ggL_law_X7_rebuild : GoodIn wsL_law wsX7_rebuild := goodIn_r _ [455, 81, 83, 82, 84, 395, 396, 397, 5, 398, 89, 113, 88, 85, 86, 399, 400, 401, 402, 87, 135, 249, 250, 251, 252, 80, 403, 404, 405, 406, 407, 408, 409, 410, 91, 90, 144, 145, 146, 147, 118, 702, 703, 704, 705, 706, 707, 708, 709, 710, 711, 712, 713, 714, 715, 716, 717, 718, 719, 720, 721] (by decide +kernel) (by decide +kernel)
set_option maxRecDepth 20000 in
theorem gL_law_X7_rebuild : GoodIn wsL_law (wsV RL 132 RX7 yX7_rebuild wsX7_rebuild) := goodIn_app (goodIn_of _ (by decide +kernel)) ggL_law_X7_rebuild
set_option maxRecDepth 20000 in
theorem ggL_law_L_partOfLeft : GoodIn wsL_law wsL_partOfLeft := goodIn_ca (goodIn_r _ [458, 168, 459, 460, 461, 2, 462, 32, 16, 20, 177, 178, 179, 180, 181, 182, 108, 463, 464, 465, 31, 466, 467, 468, 469, 470, 471, 472, 473, 474, 475, 476, 477, 210, 211, 19, 212, 47, 213, 214, 215, 478, 374, 375, 376, 48, 479, 480, 481, 191, 192, 482, 483, 484, 485, 486, 487, 488, 70, 489, 490, 491, 492, 493, 494, 495, 696, 697, 698, 699, 700, 701, 722, 723, 724, 725, 726, 740, 741, 742, 743, 744, 727, 728, 729] (by decide +kernel) (by decide +kernel)) (goodIn_sub (fun _ h => List.mem_append_left _ (List.mem_append_right _ h)) (by decide +kernel))
set_option maxRecDepth 20000 in
theorem gL_law_L_partOfLeft : GoodIn wsL_law (va_wsS RL 133 yL_partOfLeft wsL_partOfLeft) := goodIn_app (goodIn_of _ (by decide +kernel)) ggL_law_L_partOfLeft
set_option maxRecDepth 20000 in
theorem ggL_law_X7_partOfLeft : GoodIn wsL_law wsX7_partOfLeft := goodIn_r _ [499, 241, 242, 243, 5, 244, 113, 114, 115, 116, 117, 118, 500, 501, 502, 503, 93, 81, 94, 135, 82, 249, 250, 251, 252, 80, 504, 505, 506, 507, 702, 703, 704, 705, 706, 707, 708, 709, 710, 711, 712, 713, 714, 715, 716, 717, 718, 719, 720, 721] (by decide +kernel) (by decide +kernel)
set_option maxRecDepth 20000 in
theorem gL_law_X7_partOfLeft : GoodIn wsL_law (wsV RL 135 RX7 yX7_partOfLeft wsX7_partOfLeft) := goodIn_app (goodIn_of _ (by decide +kernel)) ggL_law_X7_partOfLeft
set_option maxRecDepth 20000 in
theorem ggL_law_L_partOfRight : GoodIn wsL_law wsL_partOfRight := goodIn_ca (goodIn_r _ [510, 168, 511, 512, 513, 2, 514, 32, 16, 20, 183, 184, 185, 186, 181, 182, 130, 463, 464, 465, 31, 466, 467, 468, 469, 470, 471, 472, 473, 474, 475, 476, 477, 210, 211, 19, 212, 47, 213, 214, 215, 478, 374, 375, 376, 48, 479, 480, 481, 191, 192, 482, 483, 484, 485, 486, 487, 488, 70, 515, 516, 517, 518, 493, 494, 495, 696, 697, 698, 699, 700, 701, 722, 723, 724, 725, 726, 740, 741, 742, 743, 744, 727, 728, 729] (by decide +kernel) (by decide +kernel)) (goodIn_sub (fun _ h => List.mem_append_left _ (List.mem_append_right _ h)) (by decide +kernel))
set_option maxRecDepth 20000 in
theorem gL_law_L_partOfRight : GoodIn wsL_law (va_wsS RL 136 yL_partOfRight wsL_partOfRight) := goodIn_app (goodIn_of _ (by decide +kernel)) ggL_law_L_partOfRight
set_option maxRecDepth 20000 in
theorem ggL_law_X7_partOfRight : GoodIn wsL_law wsX7_partOfRight := goodIn_r _ [522, 245, 246, 247, 5, 248, 135, 114, 115, 116, 117, 118, 500, 501, 502, 503, 93, 113, 81, 94, 82, 249, 250, 251, 252, 80, 504, 505, 506, 507, 702, 703, 704, 705, 706, 707, 708, 709, 710, 711, 712, 713, 714, 715, 716, 717, 718, 719, 720, 721] (by decide +kernel) (by decide +kernel)
set_option maxRecDepth 20000 in
theorem gL_law_X7_partOfRight : GoodIn wsL_law (wsV RL 138 RX7 yX7_partOfRight wsX7_partOfRight) := goodIn_app (goodIn_of _ (by decide +kernel)) ggL_law_X7_partOfRight
set_option maxRecDepth 20000 in
theorem ggL_law_X6_fineParts : GoodIn wsL_law wsX6_fineParts := goodIn_r _ [526, 32, 16, 20, 108, 463, 464, 465, 31, 466, 467, 468, 469, 470, 471, 472, 473, 474, 475, 476, 477, 210, 211, 19, 212, 47, 213, 214, 215, 478, 374, 375, 376, 48, 479, 480, 481, 191, 2, 192, 482, 483, 484, 485, 486, 487, 488, 70, 489, 490, 491, 492, 493, 494, 495, 527, 528, 529, 530, 531, 532, 533, 534, 696, 697, 698, 699, 700, 701, 722, 723, 724, 725, 726, 740, 741, 742, 743, 744, 727, 728, 729] (by decide +kernel) (by decide +kernel)
set_option maxRecDepth 20000 in
theorem gL_law_X6_fineParts : GoodIn wsL_law (wsV RL 139 RX6 yX6_fineParts wsX6_fineParts) := goodIn_app (goodIn_of _ (by decide +kernel)) ggL_law_X6_fineParts
set_option maxRecDepth 20000 in
theorem ggL_law_X7_fineParts : GoodIn wsL_law wsX7_fineParts := goodIn_r _ [538, 113, 539, 540, 541, 5, 542, 95, 81, 500, 501, 502, 503, 93, 94, 135, 82, 249, 250, 251, 252, 80, 543, 544, 545, 546, 504, 505, 506, 507, 547, 548, 549, 550, 144, 145, 146, 147, 118, 702, 703, 704, 705, 706, 707, 708, 709, 710, 711, 712, 713, 714, 715, 716, 717, 718, 719, 720, 721] (by decide +kernel) (by decide +kernel)
set_option maxRecDepth 20000 in
theorem gL_law_X7_fineParts : GoodIn wsL_law (wsV RL 142 RX7 yX7_fineParts wsX7_fineParts) := goodIn_app (goodIn_of _ (by decide +kernel)) ggL_law_X7_fineParts
set_option maxRecDepth 20000 in
theorem ggL_law_L_finePart : GoodIn wsL_law wsL_finePart := goodIn_ca (goodIn_ca (goodIn_r _ [553, 168, 268, 554, 555, 556, 2, 557, 32, 16, 20, 177, 178, 179, 180, 181, 182, 108, 463, 464, 465, 31, 466, 467, 468, 469, 470, 471, 472, 473, 474, 475, 476, 477, 210, 211, 19, 212, 47, 213, 214, 215, 478, 374, 375, 376, 48, 479, 480, 481, 191, 192, 482, 483, 484, 485, 486, 487, 488, 70, 558, 559, 560, 561, 278, 279, 489, 490, 491, 492, 493, 494, 495, 527, 528, 529, 530, 531, 532, 533, 534, 696, 697, 698, 699, 700, 701, 722, 723, 724, 725, 726, 740, 741, 742, 743, 744, 727, 728, 729] (by decide +kernel) (by decide +kernel)) (goodIn_sub (fun _ h => List.mem_append_left _ (List.mem_append_right _ h)) (by decide +kernel))) (goodIn_sub (fun _ h => List.mem_append_right _ h) (by decide +kernel))
set_option maxRecDepth 20000 in
theorem gL_law_L_finePart : GoodIn wsL_law (va_wsS RL 143 yL_finePart wsL_finePart) := goodIn_app (goodIn_of _ (by decide +kernel)) ggL_law_L_finePart
set_option maxRecDepth 20000 in
theorem ggL_law_X7_finePart : GoodIn wsL_law wsX7_finePart := goodIn_r _ [565, 241, 242, 243, 5, 244, 113, 114, 115, 116, 117, 118, 539, 540, 541, 542, 95, 81, 500, 501, 502, 503, 93, 94, 135, 82, 249, 250, 251, 252, 80, 543, 544, 545, 546, 504, 505, 506, 507, 547, 548, 549, 550, 702, 703, 704, 705, 706, 707, 708, 709, 710, 711, 712, 713, 714, 715, 716, 717, 718, 719, 720, 721] (by decide +kernel) (by decide +kernel)
set_option maxRecDepth 20000 in
theorem gL_law_X7_finePart : GoodIn wsL_law (wsV RL 145 RX7 yX7_finePart wsX7_finePart) := goodIn_app (goodIn_of _ (by decide +kernel)) ggL_law_X7_finePart
set_option maxRecDepth 20000 in
theorem ggL_law_L_leads : GoodIn wsL_law wsL_leads := goodIn_ca (goodIn_ca (goodIn_r _ [568, 168, 268, 569, 570, 571, 2, 572, 32, 16, 20, 573, 177, 178, 179, 180, 181, 182, 108, 463, 464, 465, 31, 466, 467, 468, 469, 470, 471, 472, 473, 474, 475, 476, 477, 210, 211, 19, 212, 47, 213, 214, 215, 478, 374, 375, 376, 48, 479, 480, 481, 191, 192, 482, 483, 484, 485, 486, 487, 488, 70, 558, 559, 560, 561, 278, 279, 489, 490, 491, 492, 493, 494, 495, 534, 696, 697, 698, 699, 700, 701, 740, 741, 742, 743, 744, 722, 723, 724, 725, 726, 727, 728, 729] (by decide +kernel) (by decide +kernel)) (goodIn_sub (fun _ h => List.mem_append_left _ (List.mem_append_right _ h)) (by decide +kernel))) (goodIn_sub (fun _ h => List.mem_append_right _ h) (by decide +kernel))
set_option maxRecDepth 20000 in
theorem gL_law_L_leads : GoodIn wsL_law (va_wsS RL 146 yL_leads wsL_leads) := goodIn_app (goodIn_of _ (by decide +kernel)) ggL_law_L_leads
set_option maxRecDepth 20000 in
theorem ggL_law_X7_leads : GoodIn wsL_law wsX7_leads := goodIn_r _ [577, 95, 241, 242, 243, 5, 244, 113, 114, 115, 116, 117, 118, 539, 540, 541, 542, 81, 500, 501, 502, 503, 93, 94, 135, 82, 249, 250, 251, 252, 80, 543, 544, 545, 546, 504, 505, 506, 507, 702, 703, 704, 705, 706, 707, 708, 709, 710, 711, 712, 713, 714, 715, 716, 717, 718, 719, 720, 721] (by decide +kernel) (by decide +kernel)
set_option maxRecDepth 20000 in
theorem gL_law_X7_leads : GoodIn wsL_law (wsV RL 148 RX7 yX7_leads wsX7_leads) := goodIn_app (goodIn_of _ (by decide +kernel)) ggL_law_X7_leads
set_option maxRecDepth 20000 in
theorem ggL_law_L_isInSome : GoodIn wsL_law wsL_isInSome := goodIn_ca (goodIn_ca (goodIn_r _ [580, 168, 268, 581, 582, 583, 2, 584, 32, 16, 20, 335, 274, 275, 276, 277, 278, 279, 173, 174, 175, 176, 177, 178, 179, 180, 181, 182, 108, 183, 184, 185, 186, 130, 187, 188, 189, 15, 190, 41, 191, 192, 463, 464, 465, 31, 466, 467, 468, 469, 470, 471, 472, 473, 474, 475, 476, 477, 210, 211, 19, 212, 47, 213, 214, 215, 478, 374, 375, 376, 48, 479, 480, 481, 482, 483, 484, 485, 486, 487, 488, 70, 489, 490, 491, 492, 493, 494, 495, 515, 516, 517, 518, 585, 586, 587, 588, 589, 528, 529, 530, 696, 697, 698, 699, 700, 701, 727, 728, 729, 722, 723, 724, 725, 726, 740, 741, 742, 743, 744] (by decide +kernel) (by decide +kernel)) (goodIn_sub (fun _ h => List.mem_append_right _ h) (by decide +kernel))) (goodIn_sub (fun _ h => List.mem_append_left _ (List.mem_append_right _ h)) (by decide +kernel))
set_option maxRecDepth 20000 in
theorem gL_law_L_isInSome : GoodIn wsL_law (va_wsS RL 149 yL_isInSome wsL_isInSome) := goodIn_app (goodIn_of _ (by decide +kernel)) ggL_law_L_isInSome
set_option maxRecDepth 20000 in
theorem ggL_law_X7_isInSome : GoodIn wsL_law wsX7_isInSome := goodIn_r _ [593, 293, 294, 295, 5, 296, 241, 242, 243, 244, 113, 245, 246, 247, 248, 135, 249, 250, 251, 252, 80, 114, 115, 116, 117, 118, 594, 595, 596, 597, 96, 598, 599, 600, 601, 602, 603, 604, 253, 254, 255, 256, 81, 702, 703, 704, 705, 706, 707, 708, 709, 710, 711, 712, 713, 714, 715, 716, 717, 718, 719, 720, 721] (by decide +kernel) (by decide +kernel)
set_option maxRecDepth 20000 in
theorem gL_law_X7_isInSome : GoodIn wsL_law (wsV RL 151 RX7 yX7_isInSome wsX7_isInSome) := goodIn_app (goodIn_of _ (by decide +kernel)) ggL_law_X7_isInSome
set_option maxRecDepth 20000 in
theorem ggL_law_L_isInAll : GoodIn wsL_law wsL_isInAll := goodIn_ca (goodIn_ca (goodIn_r _ [607, 168, 268, 608, 609, 610, 2, 611, 20, 273, 32, 16, 274, 275, 276, 277, 278, 279, 173, 174, 175, 176, 177, 178, 179, 180, 181, 182, 108, 183, 184, 185, 186, 130, 187, 188, 189, 15, 190, 41, 191, 192, 463, 464, 465, 31, 466, 467, 468, 469, 470, 471, 472, 473, 474, 475, 476, 477, 210, 211, 19, 212, 47, 213, 214, 215, 478, 374, 375, 376, 48, 479, 480, 481, 482, 483, 484, 485, 486, 487, 488, 70, 489, 490, 491, 492, 493, 494, 495, 527, 528, 529, 530, 696, 697, 698, 699, 700, 701, 727, 728, 729, 722, 723, 724, 725, 726, 740, 741, 742, 743, 744] (by decide +kernel) (by decide +kernel)) (goodIn_sub (fun _ h => List.mem_append_right _ h) (by decide +kernel))) (goodIn_sub (fun _ h => List.mem_append_left _ (List.mem_append_right _ h)) (by decide +kernel))
set_option maxRecDepth 20000 in
theorem gL_law_L_isInAll : GoodIn wsL_law (va_wsS RL 152 yL_isInAll wsL_isInAll) := goodIn_app (goodIn_of _ (by decide +kernel)) ggL_law_L_isInAll
set_option maxRecDepth 20000 in
theorem ggL_law_X7_isInAll : GoodIn wsL_law wsX7_isInAll := goodIn_r _ [615, 293, 294, 295, 5, 296, 241, 242, 243, 244, 113, 245, 246, 247, 248, 135, 249, 250, 251, 252, 80, 114, 115, 116, 117, 118, 594, 595, 596, 597, 96, 598, 599, 600, 601, 602, 603, 604, 253, 254, 255, 256, 81, 702, 703, 704, 705, 706, 707, 708, 709, 710, 711, 712, 713, 714, 715, 716, 717, 718, 719, 720, 721] (by decide +kernel) (by decide +kernel)
set_option maxRecDepth 20000 in
theorem gL_law_X7_isInAll : GoodIn wsL_law (wsV RL 154 RX7 yX7_isInAll wsX7_isInAll) := goodIn_app (goodIn_of _ (by decide +kernel)) ggL_law_X7_isInAll
set_option maxRecDepth 20000 in
theorem ggL_law_X6_largestMatchings : GoodIn wsL_law wsX6_largestMatchings := goodIn_r _ [619, 36, 16, 20, 312, 620, 621, 622, 35, 623, 74, 624, 625, 626, 627, 628, 51, 629, 630, 631, 632, 633, 634, 635, 636, 637, 191, 2, 192, 638, 639, 640, 641, 642, 643, 644, 696, 697, 698, 699, 700, 701, 727, 728, 729, 745, 722, 723, 724, 725, 726] (by decide +kernel) (by decide +kernel)
set_option maxRecDepth 20000 in
theorem gL_law_X6_largestMatchings : GoodIn wsL_law (wsV RL 155 RX6 yX6_largestMatchings wsX6_largestMatchings) := goodIn_app (goodIn_of _ (by decide +kernel)) ggL_law_X6_largestMatchings
set_option maxRecDepth 20000 in
theorem ggL_law_X7_largestMatchings : GoodIn wsL_law wsX7_largestMatchings := goodIn_r _ [648, 118, 135, 96, 594, 595, 596, 5, 597, 113, 249, 250, 251, 252, 80, 598, 599, 600, 601, 602, 603, 604, 702, 703, 704, 705, 706, 707, 708, 709, 710, 711, 712, 713, 714, 715, 716, 717, 718, 719, 720, 721] (by decide +kernel) (by decide +kernel)
set_option maxRecDepth 20000 in
theorem gL_law_X7_largestMatchings : GoodIn wsL_law (wsV RL 159 RX7 yX7_largestMatchings wsX7_largestMatchings) := goodIn_app (goodIn_of _ (by decide +kernel)) ggL_law_X7_largestMatchings
set_option maxRecDepth 20000 in
theorem ggL_law_L_coversLeft : GoodIn wsL_law wsL_coversLeft := goodIn_ca (goodIn_r _ [651, 168, 652, 653, 654, 2, 655, 32, 16, 20, 177, 178, 179, 180, 181, 182, 108, 463, 464, 465, 31, 466, 467, 468, 469, 470, 471, 472, 473, 474, 475, 476, 477, 210, 211, 19, 212, 47, 213, 214, 215, 478, 374, 375, 376, 48, 479, 480, 481, 191, 192, 482, 483, 484, 485, 486, 487, 488, 70, 489, 490, 491, 492, 493, 494, 495, 696, 697, 698, 699, 700, 701, 722, 723, 724, 725, 726, 740, 741, 742, 743, 744, 727, 728, 729] (by decide +kernel) (by decide +kernel)) (goodIn_sub (fun _ h => List.mem_append_left _ (List.mem_append_right _ h)) (by decide +kernel))
set_option maxRecDepth 20000 in
theorem gL_law_L_coversLeft : GoodIn wsL_law (va_wsS RL 160 yL_coversLeft wsL_coversLeft) := goodIn_app (goodIn_of _ (by decide +kernel)) ggL_law_L_coversLeft
set_option maxRecDepth 20000 in
theorem ggL_law_X7_coversLeft : GoodIn wsL_law wsX7_coversLeft := goodIn_r _ [659, 93, 241, 242, 243, 5, 244, 113, 114, 115, 116, 117, 118, 500, 501, 502, 503, 81, 94, 135, 82, 249, 250, 251, 252, 80, 702, 703, 704, 705, 706, 707, 708, 709, 710, 711, 712, 713, 714, 715, 716, 717, 718, 719, 720, 721] (by decide +kernel) (by decide +kernel)
set_option maxRecDepth 20000 in
theorem gL_law_X7_coversLeft : GoodIn wsL_law (wsV RL 162 RX7 yX7_coversLeft wsX7_coversLeft) := goodIn_app (goodIn_of _ (by decide +kernel)) ggL_law_X7_coversLeft
set_option maxRecDepth 20000 in
theorem ggL_law_L_coversRight : GoodIn wsL_law wsL_coversRight := goodIn_ca (goodIn_r _ [662, 168, 663, 664, 665, 2, 666, 32, 16, 20, 183, 184, 185, 186, 181, 182, 130, 463, 464, 465, 31, 466, 467, 468, 469, 470, 471, 472, 473, 474, 475, 476, 477, 210, 211, 19, 212, 47, 213, 214, 215, 478, 374, 375, 376, 48, 479, 480, 481, 191, 192, 482, 483, 484, 485, 486, 487, 488, 70, 515, 516, 517, 518, 493, 494, 495, 696, 697, 698, 699, 700, 701, 722, 723, 724, 725, 726, 740, 741, 742, 743, 744, 727, 728, 729] (by decide +kernel) (by decide +kernel)) (goodIn_sub (fun _ h => List.mem_append_left _ (List.mem_append_right _ h)) (by decide +kernel))
set_option maxRecDepth 20000 in
theorem gL_law_L_coversRight : GoodIn wsL_law (va_wsS RL 163 yL_coversRight wsL_coversRight) := goodIn_app (goodIn_of _ (by decide +kernel)) ggL_law_L_coversRight
set_option maxRecDepth 20000 in
theorem ggL_law_X7_coversRight : GoodIn wsL_law wsX7_coversRight := goodIn_r _ [670, 93, 245, 246, 247, 5, 248, 135, 114, 115, 116, 117, 118, 500, 501, 502, 503, 113, 81, 94, 82, 249, 250, 251, 252, 80, 702, 703, 704, 705, 706, 707, 708, 709, 710, 711, 712, 713, 714, 715, 716, 717, 718, 719, 720, 721] (by decide +kernel) (by decide +kernel)
set_option maxRecDepth 20000 in
theorem gL_law_X7_coversRight : GoodIn wsL_law (wsV RL 165 RX7 yX7_coversRight wsX7_coversRight) := goodIn_app (goodIn_of _ (by decide +kernel)) ggL_law_X7_coversRight
set_option maxRecDepth 20000 in
theorem ggL_law_X6_leastCovers : GoodIn wsL_law wsX6_leastCovers := goodIn_r _ [674, 16, 20, 312, 675, 676, 2, 677, 108, 678, 679, 639, 640, 641, 642, 643, 644, 696, 697, 698, 699, 700, 701, 727, 728, 729, 722, 723, 724, 725, 726] (by decide +kernel) (by decide +kernel)
set_option maxRecDepth 20000 in
theorem gL_law_X6_leastCovers : GoodIn wsL_law (wsV RL 166 RX6 yX6_leastCovers wsX6_leastCovers) := goodIn_app (goodIn_of _ (by decide +kernel)) ggL_law_X6_leastCovers
set_option maxRecDepth 20000 in
theorem ggL_law_X7_leastCovers : GoodIn wsL_law wsX7_leastCovers := goodIn_r _ [683, 113, 602, 603, 5, 604, 684, 685, 686, 687, 135, 249, 250, 251, 252, 80, 144, 145, 146, 147, 118, 702, 703, 704, 705, 706, 707, 708, 709, 710, 711, 712, 713, 714, 715, 716, 717, 718, 719, 720, 721] (by decide +kernel) (by decide +kernel)
set_option maxRecDepth 20000 in
theorem gL_law_X7_leastCovers : GoodIn wsL_law (wsV RL 169 RX7 yX7_leastCovers wsX7_leastCovers) := goodIn_app (goodIn_of _ (by decide +kernel)) ggL_law_X7_leastCovers
set_option maxRecDepth 20000 in
theorem ggL_law_X6_greatestExcess : GoodIn wsL_law wsX6_greatestExcess := goodIn_r _ [691, 16, 108, 20, 312, 696, 697, 698, 699, 700, 701, 722, 723, 724, 725, 726, 727, 728, 729] (by decide +kernel) (by decide +kernel)
set_option maxRecDepth 20000 in
theorem gL_law_X6_greatestExcess : GoodIn wsL_law (wsV RL 170 RX6 yX6_greatestExcess wsX6_greatestExcess) := goodIn_app (goodIn_of _ (by decide +kernel)) ggL_law_X6_greatestExcess
set_option maxRecDepth 20000 in
theorem ggL_law_X7_greatestExcess : GoodIn wsL_law wsX7_greatestExcess := goodIn_r _ [695, 113, 602, 603, 5, 604, 684, 685, 686, 687, 135, 249, 250, 251, 252, 80, 144, 145, 146, 147, 118, 702, 703, 704, 705, 706, 707, 708, 709, 710, 711, 712, 713, 714, 715, 716, 717, 718, 719, 720, 721] (by decide +kernel) (by decide +kernel)
set_option maxRecDepth 20000 in
theorem gL_law_X7_greatestExcess : GoodIn wsL_law (wsV RL 173 RX7 yX7_greatestExcess wsX7_greatestExcess) := goodIn_app (goodIn_of _ (by decide +kernel)) ggL_law_X7_greatestExcess
theorem dL_law_0 : decode cL_law 0 = .ok (.new 8, 3) := by decide +kernel
theorem dL_law_3 : decode cL_law 3 = .ok (.dup, 1) := by decide +kernel
theorem dL_law_4 : decode cL_law 4 = .ok (.invokespecial 70, 3) := by decide +kernel
theorem dL_law_7 : decode cL_law 7 = .ok (.astore_n 1, 1) := by decide +kernel
theorem dL_law_8 : decode cL_law 8 = .ok (.new 71, 3) := by decide +kernel
theorem dL_law_11 : decode cL_law 11 = .ok (.dup, 1) := by decide +kernel
theorem dL_law_12 : decode cL_law 12 = .ok (.invokespecial 73, 3) := by decide +kernel
theorem dL_law_15 : decode cL_law 15 = .ok (.astore_n 2, 1) := by decide +kernel
theorem dL_law_16 : decode cL_law 16 = .ok (.iconst 1, 1) := by decide +kernel
theorem dL_law_17 : decode cL_law 17 = .ok (.newarray .long, 2) := by decide +kernel
theorem dL_law_19 : decode cL_law 19 = .ok (.astore_n 3, 1) := by decide +kernel
theorem dL_law_20 : decode cL_law 20 = .ok (.iconst 0, 1) := by decide +kernel
theorem dL_law_21 : decode cL_law 21 = .ok (.istore 4, 2) := by decide +kernel
theorem dL_law_23 : decode cL_law 23 = .ok (.iload 4, 2) := by decide +kernel
theorem dL_law_25 : decode cL_law 25 = .ok (.aload_n 0, 1) := by decide +kernel
theorem dL_law_26 : decode cL_law 26 = .ok (.arraylength, 1) := by decide +kernel
theorem dL_law_27 : decode cL_law 27 = .ok (.iconst 3, 1) := by decide +kernel
theorem dL_law_28 : decode cL_law 28 = .ok (.isub, 1) := by decide +kernel
theorem dL_law_29 : decode cL_law 29 = .ok (.if_icmp .gt 1324, 3) := by decide +kernel
theorem dL_law_32 : decode cL_law 32 = .ok (.aload_n 0, 1) := by decide +kernel
theorem dL_law_33 : decode cL_law 33 = .ok (.iload 4, 2) := by decide +kernel
theorem dL_law_35 : decode cL_law 35 = .ok (.iaload, 1) := by decide +kernel
theorem dL_law_36 : decode cL_law 36 = .ok (.bipush 31, 2) := by decide +kernel
theorem dL_law_38 : decode cL_law 38 = .ok (.iand, 1) := by decide +kernel
theorem dL_law_39 : decode cL_law 39 = .ok (.tableswitch 1308 0 26 #[121, 165, 209, 222, 235, 248, 323, 398, 473, 486, 542, 598, 611, 667, 723, 736, 792, 848, 861, 917, 992, 1067, 1142, 1156, 1219, 1282, 1295], 121) := by decide +kernel
theorem dL_law_160 : decode cL_law 160 = .ok (.aload_n 1, 1) := by decide +kernel
theorem dL_law_161 : decode cL_law 161 = .ok (.aload_n 3, 1) := by decide +kernel
theorem dL_law_162 : decode cL_law 162 = .ok (.invokestatic 74, 3) := by decide +kernel
theorem dL_law_165 : decode cL_law 165 = .ok (.istore 5, 2) := by decide +kernel
theorem dL_law_167 : decode cL_law 167 = .ok (.aload_n 2, 1) := by decide +kernel
theorem dL_law_168 : decode cL_law 168 = .ok (.invokevirtual 79, 3) := by decide +kernel
theorem dL_law_171 : decode cL_law 171 = .ok (.istore 6, 2) := by decide +kernel
theorem dL_law_173 : decode cL_law 173 = .ok (.aload_n 2, 1) := by decide +kernel
theorem dL_law_174 : decode cL_law 174 = .ok (.invokevirtual 80, 3) := by decide +kernel
theorem dL_law_177 : decode cL_law 177 = .ok (.iload 5, 2) := by decide +kernel
theorem dL_law_179 : decode cL_law 179 = .ok (.if_icmp .eq 5, 3) := by decide +kernel
theorem dL_law_182 : decode cL_law 182 = .ok (.iconst 0, 1) := by decide +kernel
theorem dL_law_183 : decode cL_law 183 = .ok (.ireturn, 1) := by decide +kernel
theorem dL_law_184 : decode cL_law 184 = .ok (.iload 5, 2) := by decide +kernel
theorem dL_law_186 : decode cL_law 186 = .ok (.ifCond .ne 15, 3) := by decide +kernel
theorem dL_law_189 : decode cL_law 189 = .ok (.aload_n 3, 1) := by decide +kernel
theorem dL_law_190 : decode cL_law 190 = .ok (.iconst 0, 1) := by decide +kernel
theorem dL_law_191 : decode cL_law 191 = .ok (.laload, 1) := by decide +kernel
theorem dL_law_192 : decode cL_law 192 = .ok (.iload 6, 2) := by decide +kernel
theorem dL_law_194 : decode cL_law 194 = .ok (.i2l, 1) := by decide +kernel
theorem dL_law_195 : decode cL_law 195 = .ok (.lcmp, 1) := by decide +kernel
theorem dL_law_196 : decode cL_law 196 = .ok (.ifCond .eq 5, 3) := by decide +kernel
theorem dL_law_199 : decode cL_law 199 = .ok (.iconst 0, 1) := by decide +kernel
theorem dL_law_200 : decode cL_law 200 = .ok (.ireturn, 1) := by decide +kernel
theorem dL_law_201 : decode cL_law 201 = .ok (.goto 1146, 3) := by decide +kernel
theorem dL_law_204 : decode cL_law 204 = .ok (.aload_n 1, 1) := by decide +kernel
theorem dL_law_205 : decode cL_law 205 = .ok (.aload_n 3, 1) := by decide +kernel
theorem dL_law_206 : decode cL_law 206 = .ok (.invokestatic 83, 3) := by decide +kernel
theorem dL_law_209 : decode cL_law 209 = .ok (.istore 5, 2) := by decide +kernel
theorem dL_law_211 : decode cL_law 211 = .ok (.aload_n 2, 1) := by decide +kernel
theorem dL_law_212 : decode cL_law 212 = .ok (.invokevirtual 85, 3) := by decide +kernel
theorem dL_law_215 : decode cL_law 215 = .ok (.istore 6, 2) := by decide +kernel
theorem dL_law_217 : decode cL_law 217 = .ok (.aload_n 2, 1) := by decide +kernel
theorem dL_law_218 : decode cL_law 218 = .ok (.invokevirtual 80, 3) := by decide +kernel
theorem dL_law_221 : decode cL_law 221 = .ok (.iload 5, 2) := by decide +kernel
theorem dL_law_223 : decode cL_law 223 = .ok (.if_icmp .eq 5, 3) := by decide +kernel
theorem dL_law_226 : decode cL_law 226 = .ok (.iconst 0, 1) := by decide +kernel
theorem dL_law_227 : decode cL_law 227 = .ok (.ireturn, 1) := by decide +kernel
theorem dL_law_228 : decode cL_law 228 = .ok (.iload 5, 2) := by decide +kernel
theorem dL_law_230 : decode cL_law 230 = .ok (.ifCond .ne 15, 3) := by decide +kernel
theorem dL_law_233 : decode cL_law 233 = .ok (.aload_n 3, 1) := by decide +kernel
theorem dL_law_234 : decode cL_law 234 = .ok (.iconst 0, 1) := by decide +kernel
theorem dL_law_235 : decode cL_law 235 = .ok (.laload, 1) := by decide +kernel
theorem dL_law_236 : decode cL_law 236 = .ok (.iload 6, 2) := by decide +kernel
theorem dL_law_238 : decode cL_law 238 = .ok (.i2l, 1) := by decide +kernel
theorem dL_law_239 : decode cL_law 239 = .ok (.lcmp, 1) := by decide +kernel
theorem dL_law_240 : decode cL_law 240 = .ok (.ifCond .eq 5, 3) := by decide +kernel
theorem dL_law_243 : decode cL_law 243 = .ok (.iconst 0, 1) := by decide +kernel
theorem dL_law_244 : decode cL_law 244 = .ok (.ireturn, 1) := by decide +kernel
theorem dL_law_245 : decode cL_law 245 = .ok (.goto 1102, 3) := by decide +kernel
theorem dL_law_248 : decode cL_law 248 = .ok (.aload_n 1, 1) := by decide +kernel
theorem dL_law_249 : decode cL_law 249 = .ok (.invokevirtual 86, 3) := by decide +kernel
theorem dL_law_252 : decode cL_law 252 = .ok (.aload_n 2, 1) := by decide +kernel
theorem dL_law_253 : decode cL_law 253 = .ok (.invokevirtual 89, 3) := by decide +kernel
theorem dL_law_256 : decode cL_law 256 = .ok (.if_icmp .eq 1091, 3) := by decide +kernel
theorem dL_law_259 : decode cL_law 259 = .ok (.iconst 0, 1) := by decide +kernel
theorem dL_law_260 : decode cL_law 260 = .ok (.ireturn, 1) := by decide +kernel
theorem dL_law_261 : decode cL_law 261 = .ok (.aload_n 1, 1) := by decide +kernel
theorem dL_law_262 : decode cL_law 262 = .ok (.invokevirtual 90, 3) := by decide +kernel
theorem dL_law_265 : decode cL_law 265 = .ok (.aload_n 2, 1) := by decide +kernel
theorem dL_law_266 : decode cL_law 266 = .ok (.invokevirtual 93, 3) := by decide +kernel
theorem dL_law_269 : decode cL_law 269 = .ok (.if_icmp .eq 1078, 3) := by decide +kernel
theorem dL_law_272 : decode cL_law 272 = .ok (.iconst 0, 1) := by decide +kernel
theorem dL_law_273 : decode cL_law 273 = .ok (.ireturn, 1) := by decide +kernel
theorem dL_law_274 : decode cL_law 274 = .ok (.aload_n 1, 1) := by decide +kernel
theorem dL_law_275 : decode cL_law 275 = .ok (.invokevirtual 94, 3) := by decide +kernel
theorem dL_law_278 : decode cL_law 278 = .ok (.aload_n 2, 1) := by decide +kernel
theorem dL_law_279 : decode cL_law 279 = .ok (.invokevirtual 97, 3) := by decide +kernel
theorem dL_law_282 : decode cL_law 282 = .ok (.if_icmp .eq 1065, 3) := by decide +kernel
theorem dL_law_285 : decode cL_law 285 = .ok (.iconst 0, 1) := by decide +kernel
theorem dL_law_286 : decode cL_law 286 = .ok (.ireturn, 1) := by decide +kernel
theorem dL_law_287 : decode cL_law 287 = .ok (.aload_n 1, 1) := by decide +kernel
theorem dL_law_288 : decode cL_law 288 = .ok (.aload_n 0, 1) := by decide +kernel
theorem dL_law_289 : decode cL_law 289 = .ok (.iload 4, 2) := by decide +kernel
theorem dL_law_291 : decode cL_law 291 = .ok (.iconst 1, 1) := by decide +kernel
theorem dL_law_292 : decode cL_law 292 = .ok (.iadd, 1) := by decide +kernel
theorem dL_law_293 : decode cL_law 293 = .ok (.iaload, 1) := by decide +kernel
theorem dL_law_294 : decode cL_law 294 = .ok (.aload_n 0, 1) := by decide +kernel
theorem dL_law_295 : decode cL_law 295 = .ok (.iload 4, 2) := by decide +kernel
theorem dL_law_297 : decode cL_law 297 = .ok (.iconst 2, 1) := by decide +kernel
theorem dL_law_298 : decode cL_law 298 = .ok (.iadd, 1) := by decide +kernel
theorem dL_law_299 : decode cL_law 299 = .ok (.iaload, 1) := by decide +kernel
theorem dL_law_300 : decode cL_law 300 = .ok (.aload_n 3, 1) := by decide +kernel
theorem dL_law_301 : decode cL_law 301 = .ok (.invokestatic 98, 3) := by decide +kernel
theorem dL_law_304 : decode cL_law 304 = .ok (.istore 5, 2) := by decide +kernel
theorem dL_law_306 : decode cL_law 306 = .ok (.aload_n 2, 1) := by decide +kernel
theorem dL_law_307 : decode cL_law 307 = .ok (.aload_n 0, 1) := by decide +kernel
theorem dL_law_308 : decode cL_law 308 = .ok (.iload 4, 2) := by decide +kernel
theorem dL_law_310 : decode cL_law 310 = .ok (.iconst 1, 1) := by decide +kernel
theorem dL_law_311 : decode cL_law 311 = .ok (.iadd, 1) := by decide +kernel
theorem dL_law_312 : decode cL_law 312 = .ok (.iaload, 1) := by decide +kernel
theorem dL_law_313 : decode cL_law 313 = .ok (.aload_n 0, 1) := by decide +kernel
theorem dL_law_314 : decode cL_law 314 = .ok (.iload 4, 2) := by decide +kernel
theorem dL_law_316 : decode cL_law 316 = .ok (.iconst 2, 1) := by decide +kernel
theorem dL_law_317 : decode cL_law 317 = .ok (.iadd, 1) := by decide +kernel
theorem dL_law_318 : decode cL_law 318 = .ok (.iaload, 1) := by decide +kernel
theorem dL_law_319 : decode cL_law 319 = .ok (.invokevirtual 101, 3) := by decide +kernel
theorem dL_law_322 : decode cL_law 322 = .ok (.istore 6, 2) := by decide +kernel
theorem dL_law_324 : decode cL_law 324 = .ok (.aload_n 2, 1) := by decide +kernel
theorem dL_law_325 : decode cL_law 325 = .ok (.invokevirtual 80, 3) := by decide +kernel
theorem dL_law_328 : decode cL_law 328 = .ok (.iload 5, 2) := by decide +kernel
theorem dL_law_330 : decode cL_law 330 = .ok (.if_icmp .eq 5, 3) := by decide +kernel
theorem dL_law_333 : decode cL_law 333 = .ok (.iconst 0, 1) := by decide +kernel
theorem dL_law_334 : decode cL_law 334 = .ok (.ireturn, 1) := by decide +kernel
theorem dL_law_335 : decode cL_law 335 = .ok (.iload 5, 2) := by decide +kernel
theorem dL_law_337 : decode cL_law 337 = .ok (.ifCond .ne 22, 3) := by decide +kernel
theorem dL_law_340 : decode cL_law 340 = .ok (.aload_n 3, 1) := by decide +kernel
theorem dL_law_341 : decode cL_law 341 = .ok (.iconst 0, 1) := by decide +kernel
theorem dL_law_342 : decode cL_law 342 = .ok (.laload, 1) := by decide +kernel
theorem dL_law_343 : decode cL_law 343 = .ok (.iload 6, 2) := by decide +kernel
theorem dL_law_345 : decode cL_law 345 = .ok (.ifCond .eq 7, 3) := by decide +kernel
theorem dL_law_348 : decode cL_law 348 = .ok (.lconst 1, 1) := by decide +kernel
theorem dL_law_349 : decode cL_law 349 = .ok (.goto 4, 3) := by decide +kernel
theorem dL_law_352 : decode cL_law 352 = .ok (.lconst 0, 1) := by decide +kernel
theorem dL_law_353 : decode cL_law 353 = .ok (.lcmp, 1) := by decide +kernel
theorem dL_law_354 : decode cL_law 354 = .ok (.ifCond .eq 5, 3) := by decide +kernel
theorem dL_law_357 : decode cL_law 357 = .ok (.iconst 0, 1) := by decide +kernel
theorem dL_law_358 : decode cL_law 358 = .ok (.ireturn, 1) := by decide +kernel
theorem dL_law_359 : decode cL_law 359 = .ok (.goto 988, 3) := by decide +kernel
theorem dL_law_362 : decode cL_law 362 = .ok (.aload_n 1, 1) := by decide +kernel
theorem dL_law_363 : decode cL_law 363 = .ok (.aload_n 0, 1) := by decide +kernel
theorem dL_law_364 : decode cL_law 364 = .ok (.iload 4, 2) := by decide +kernel
theorem dL_law_366 : decode cL_law 366 = .ok (.iconst 1, 1) := by decide +kernel
theorem dL_law_367 : decode cL_law 367 = .ok (.iadd, 1) := by decide +kernel
theorem dL_law_368 : decode cL_law 368 = .ok (.iaload, 1) := by decide +kernel
theorem dL_law_369 : decode cL_law 369 = .ok (.aload_n 0, 1) := by decide +kernel
theorem dL_law_370 : decode cL_law 370 = .ok (.iload 4, 2) := by decide +kernel
theorem dL_law_372 : decode cL_law 372 = .ok (.iconst 2, 1) := by decide +kernel
theorem dL_law_373 : decode cL_law 373 = .ok (.iadd, 1) := by decide +kernel
theorem dL_law_374 : decode cL_law 374 = .ok (.iaload, 1) := by decide +kernel
theorem dL_law_375 : decode cL_law 375 = .ok (.aload_n 3, 1) := by decide +kernel
theorem dL_law_376 : decode cL_law 376 = .ok (.invokestatic 102, 3) := by decide +kernel
theorem dL_law_379 : decode cL_law 379 = .ok (.istore 5, 2) := by decide +kernel
theorem dL_law_381 : decode cL_law 381 = .ok (.aload_n 2, 1) := by decide +kernel
theorem dL_law_382 : decode cL_law 382 = .ok (.aload_n 0, 1) := by decide +kernel
theorem dL_law_383 : decode cL_law 383 = .ok (.iload 4, 2) := by decide +kernel
theorem dL_law_385 : decode cL_law 385 = .ok (.iconst 1, 1) := by decide +kernel
theorem dL_law_386 : decode cL_law 386 = .ok (.iadd, 1) := by decide +kernel
theorem dL_law_387 : decode cL_law 387 = .ok (.iaload, 1) := by decide +kernel
theorem dL_law_388 : decode cL_law 388 = .ok (.aload_n 0, 1) := by decide +kernel
theorem dL_law_389 : decode cL_law 389 = .ok (.iload 4, 2) := by decide +kernel
theorem dL_law_391 : decode cL_law 391 = .ok (.iconst 2, 1) := by decide +kernel
theorem dL_law_392 : decode cL_law 392 = .ok (.iadd, 1) := by decide +kernel
theorem dL_law_393 : decode cL_law 393 = .ok (.iaload, 1) := by decide +kernel
theorem dL_law_394 : decode cL_law 394 = .ok (.invokevirtual 104, 3) := by decide +kernel
theorem dL_law_397 : decode cL_law 397 = .ok (.istore 6, 2) := by decide +kernel
theorem dL_law_399 : decode cL_law 399 = .ok (.aload_n 2, 1) := by decide +kernel
theorem dL_law_400 : decode cL_law 400 = .ok (.invokevirtual 80, 3) := by decide +kernel
theorem dL_law_403 : decode cL_law 403 = .ok (.iload 5, 2) := by decide +kernel
theorem dL_law_405 : decode cL_law 405 = .ok (.if_icmp .eq 5, 3) := by decide +kernel
theorem dL_law_408 : decode cL_law 408 = .ok (.iconst 0, 1) := by decide +kernel
theorem dL_law_409 : decode cL_law 409 = .ok (.ireturn, 1) := by decide +kernel
theorem dL_law_410 : decode cL_law 410 = .ok (.iload 5, 2) := by decide +kernel
theorem dL_law_412 : decode cL_law 412 = .ok (.ifCond .ne 22, 3) := by decide +kernel
theorem dL_law_415 : decode cL_law 415 = .ok (.aload_n 3, 1) := by decide +kernel
theorem dL_law_416 : decode cL_law 416 = .ok (.iconst 0, 1) := by decide +kernel
theorem dL_law_417 : decode cL_law 417 = .ok (.laload, 1) := by decide +kernel
theorem dL_law_418 : decode cL_law 418 = .ok (.iload 6, 2) := by decide +kernel
theorem dL_law_420 : decode cL_law 420 = .ok (.ifCond .eq 7, 3) := by decide +kernel
theorem dL_law_423 : decode cL_law 423 = .ok (.lconst 1, 1) := by decide +kernel
theorem dL_law_424 : decode cL_law 424 = .ok (.goto 4, 3) := by decide +kernel
theorem dL_law_427 : decode cL_law 427 = .ok (.lconst 0, 1) := by decide +kernel
theorem dL_law_428 : decode cL_law 428 = .ok (.lcmp, 1) := by decide +kernel
theorem dL_law_429 : decode cL_law 429 = .ok (.ifCond .eq 5, 3) := by decide +kernel
theorem dL_law_432 : decode cL_law 432 = .ok (.iconst 0, 1) := by decide +kernel
theorem dL_law_433 : decode cL_law 433 = .ok (.ireturn, 1) := by decide +kernel
theorem dL_law_434 : decode cL_law 434 = .ok (.goto 913, 3) := by decide +kernel
theorem dL_law_437 : decode cL_law 437 = .ok (.aload_n 1, 1) := by decide +kernel
theorem dL_law_438 : decode cL_law 438 = .ok (.aload_n 0, 1) := by decide +kernel
theorem dL_law_439 : decode cL_law 439 = .ok (.iload 4, 2) := by decide +kernel
theorem dL_law_441 : decode cL_law 441 = .ok (.iconst 1, 1) := by decide +kernel
theorem dL_law_442 : decode cL_law 442 = .ok (.iadd, 1) := by decide +kernel
theorem dL_law_443 : decode cL_law 443 = .ok (.iaload, 1) := by decide +kernel
theorem dL_law_444 : decode cL_law 444 = .ok (.aload_n 0, 1) := by decide +kernel
theorem dL_law_445 : decode cL_law 445 = .ok (.iload 4, 2) := by decide +kernel
theorem dL_law_447 : decode cL_law 447 = .ok (.iconst 2, 1) := by decide +kernel
theorem dL_law_448 : decode cL_law 448 = .ok (.iadd, 1) := by decide +kernel
theorem dL_law_449 : decode cL_law 449 = .ok (.iaload, 1) := by decide +kernel
theorem dL_law_450 : decode cL_law 450 = .ok (.aload_n 3, 1) := by decide +kernel
theorem dL_law_451 : decode cL_law 451 = .ok (.invokestatic 105, 3) := by decide +kernel
theorem dL_law_454 : decode cL_law 454 = .ok (.istore 5, 2) := by decide +kernel
theorem dL_law_456 : decode cL_law 456 = .ok (.aload_n 2, 1) := by decide +kernel
theorem dL_law_457 : decode cL_law 457 = .ok (.aload_n 0, 1) := by decide +kernel
theorem dL_law_458 : decode cL_law 458 = .ok (.iload 4, 2) := by decide +kernel
theorem dL_law_460 : decode cL_law 460 = .ok (.iconst 1, 1) := by decide +kernel
theorem dL_law_461 : decode cL_law 461 = .ok (.iadd, 1) := by decide +kernel
theorem dL_law_462 : decode cL_law 462 = .ok (.iaload, 1) := by decide +kernel
theorem dL_law_463 : decode cL_law 463 = .ok (.aload_n 0, 1) := by decide +kernel
theorem dL_law_464 : decode cL_law 464 = .ok (.iload 4, 2) := by decide +kernel
theorem dL_law_466 : decode cL_law 466 = .ok (.iconst 2, 1) := by decide +kernel
theorem dL_law_467 : decode cL_law 467 = .ok (.iadd, 1) := by decide +kernel
theorem dL_law_468 : decode cL_law 468 = .ok (.iaload, 1) := by decide +kernel
theorem dL_law_469 : decode cL_law 469 = .ok (.invokevirtual 107, 3) := by decide +kernel
theorem dL_law_472 : decode cL_law 472 = .ok (.istore 6, 2) := by decide +kernel
theorem dL_law_474 : decode cL_law 474 = .ok (.aload_n 2, 1) := by decide +kernel
theorem dL_law_475 : decode cL_law 475 = .ok (.invokevirtual 80, 3) := by decide +kernel
theorem dL_law_478 : decode cL_law 478 = .ok (.iload 5, 2) := by decide +kernel
theorem dL_law_480 : decode cL_law 480 = .ok (.if_icmp .eq 5, 3) := by decide +kernel
theorem dL_law_483 : decode cL_law 483 = .ok (.iconst 0, 1) := by decide +kernel
theorem dL_law_484 : decode cL_law 484 = .ok (.ireturn, 1) := by decide +kernel
theorem dL_law_485 : decode cL_law 485 = .ok (.iload 5, 2) := by decide +kernel
theorem dL_law_487 : decode cL_law 487 = .ok (.ifCond .ne 22, 3) := by decide +kernel
theorem dL_law_490 : decode cL_law 490 = .ok (.aload_n 3, 1) := by decide +kernel
theorem dL_law_491 : decode cL_law 491 = .ok (.iconst 0, 1) := by decide +kernel
theorem dL_law_492 : decode cL_law 492 = .ok (.laload, 1) := by decide +kernel
theorem dL_law_493 : decode cL_law 493 = .ok (.iload 6, 2) := by decide +kernel
theorem dL_law_495 : decode cL_law 495 = .ok (.ifCond .eq 7, 3) := by decide +kernel
theorem dL_law_498 : decode cL_law 498 = .ok (.lconst 1, 1) := by decide +kernel
theorem dL_law_499 : decode cL_law 499 = .ok (.goto 4, 3) := by decide +kernel
theorem dL_law_502 : decode cL_law 502 = .ok (.lconst 0, 1) := by decide +kernel
theorem dL_law_503 : decode cL_law 503 = .ok (.lcmp, 1) := by decide +kernel
theorem dL_law_504 : decode cL_law 504 = .ok (.ifCond .eq 5, 3) := by decide +kernel
theorem dL_law_507 : decode cL_law 507 = .ok (.iconst 0, 1) := by decide +kernel
theorem dL_law_508 : decode cL_law 508 = .ok (.ireturn, 1) := by decide +kernel
theorem dL_law_509 : decode cL_law 509 = .ok (.goto 838, 3) := by decide +kernel
theorem dL_law_512 : decode cL_law 512 = .ok (.aload_n 1, 1) := by decide +kernel
theorem dL_law_513 : decode cL_law 513 = .ok (.invokevirtual 108, 3) := by decide +kernel
theorem dL_law_516 : decode cL_law 516 = .ok (.aload_n 2, 1) := by decide +kernel
theorem dL_law_517 : decode cL_law 517 = .ok (.invokevirtual 111, 3) := by decide +kernel
theorem dL_law_520 : decode cL_law 520 = .ok (.if_icmp .eq 827, 3) := by decide +kernel
theorem dL_law_523 : decode cL_law 523 = .ok (.iconst 0, 1) := by decide +kernel
theorem dL_law_524 : decode cL_law 524 = .ok (.ireturn, 1) := by decide +kernel
theorem dL_law_525 : decode cL_law 525 = .ok (.aload_n 1, 1) := by decide +kernel
theorem dL_law_526 : decode cL_law 526 = .ok (.aload_n 0, 1) := by decide +kernel
theorem dL_law_527 : decode cL_law 527 = .ok (.iload 4, 2) := by decide +kernel
theorem dL_law_529 : decode cL_law 529 = .ok (.iconst 1, 1) := by decide +kernel
theorem dL_law_530 : decode cL_law 530 = .ok (.iadd, 1) := by decide +kernel
theorem dL_law_531 : decode cL_law 531 = .ok (.iaload, 1) := by decide +kernel
theorem dL_law_532 : decode cL_law 532 = .ok (.aload_n 3, 1) := by decide +kernel
theorem dL_law_533 : decode cL_law 533 = .ok (.invokestatic 112, 3) := by decide +kernel
theorem dL_law_536 : decode cL_law 536 = .ok (.istore 5, 2) := by decide +kernel
theorem dL_law_538 : decode cL_law 538 = .ok (.aload_n 2, 1) := by decide +kernel
theorem dL_law_539 : decode cL_law 539 = .ok (.aload_n 0, 1) := by decide +kernel
theorem dL_law_540 : decode cL_law 540 = .ok (.iload 4, 2) := by decide +kernel
theorem dL_law_542 : decode cL_law 542 = .ok (.iconst 1, 1) := by decide +kernel
theorem dL_law_543 : decode cL_law 543 = .ok (.iadd, 1) := by decide +kernel
theorem dL_law_544 : decode cL_law 544 = .ok (.iaload, 1) := by decide +kernel
theorem dL_law_545 : decode cL_law 545 = .ok (.invokevirtual 115, 3) := by decide +kernel
theorem dL_law_548 : decode cL_law 548 = .ok (.istore 6, 2) := by decide +kernel
theorem dL_law_550 : decode cL_law 550 = .ok (.aload_n 2, 1) := by decide +kernel
theorem dL_law_551 : decode cL_law 551 = .ok (.invokevirtual 80, 3) := by decide +kernel
theorem dL_law_554 : decode cL_law 554 = .ok (.iload 5, 2) := by decide +kernel
theorem dL_law_556 : decode cL_law 556 = .ok (.if_icmp .eq 5, 3) := by decide +kernel
theorem dL_law_559 : decode cL_law 559 = .ok (.iconst 0, 1) := by decide +kernel
theorem dL_law_560 : decode cL_law 560 = .ok (.ireturn, 1) := by decide +kernel
theorem dL_law_561 : decode cL_law 561 = .ok (.iload 5, 2) := by decide +kernel
theorem dL_law_563 : decode cL_law 563 = .ok (.ifCond .ne 15, 3) := by decide +kernel
theorem dL_law_566 : decode cL_law 566 = .ok (.aload_n 3, 1) := by decide +kernel
theorem dL_law_567 : decode cL_law 567 = .ok (.iconst 0, 1) := by decide +kernel
theorem dL_law_568 : decode cL_law 568 = .ok (.laload, 1) := by decide +kernel
theorem dL_law_569 : decode cL_law 569 = .ok (.iload 6, 2) := by decide +kernel
theorem dL_law_571 : decode cL_law 571 = .ok (.i2l, 1) := by decide +kernel
theorem dL_law_572 : decode cL_law 572 = .ok (.lcmp, 1) := by decide +kernel
theorem dL_law_573 : decode cL_law 573 = .ok (.ifCond .eq 5, 3) := by decide +kernel
theorem dL_law_576 : decode cL_law 576 = .ok (.iconst 0, 1) := by decide +kernel
theorem dL_law_577 : decode cL_law 577 = .ok (.ireturn, 1) := by decide +kernel
theorem dL_law_578 : decode cL_law 578 = .ok (.goto 769, 3) := by decide +kernel
theorem dL_law_581 : decode cL_law 581 = .ok (.aload_n 1, 1) := by decide +kernel
theorem dL_law_582 : decode cL_law 582 = .ok (.aload_n 0, 1) := by decide +kernel
theorem dL_law_583 : decode cL_law 583 = .ok (.iload 4, 2) := by decide +kernel
theorem dL_law_585 : decode cL_law 585 = .ok (.iconst 1, 1) := by decide +kernel
theorem dL_law_586 : decode cL_law 586 = .ok (.iadd, 1) := by decide +kernel
theorem dL_law_587 : decode cL_law 587 = .ok (.iaload, 1) := by decide +kernel
theorem dL_law_588 : decode cL_law 588 = .ok (.aload_n 3, 1) := by decide +kernel
theorem dL_law_589 : decode cL_law 589 = .ok (.invokestatic 116, 3) := by decide +kernel
theorem dL_law_592 : decode cL_law 592 = .ok (.istore 5, 2) := by decide +kernel
theorem dL_law_594 : decode cL_law 594 = .ok (.aload_n 2, 1) := by decide +kernel
theorem dL_law_595 : decode cL_law 595 = .ok (.aload_n 0, 1) := by decide +kernel
theorem dL_law_596 : decode cL_law 596 = .ok (.iload 4, 2) := by decide +kernel
theorem dL_law_598 : decode cL_law 598 = .ok (.iconst 1, 1) := by decide +kernel
theorem dL_law_599 : decode cL_law 599 = .ok (.iadd, 1) := by decide +kernel
theorem dL_law_600 : decode cL_law 600 = .ok (.iaload, 1) := by decide +kernel
theorem dL_law_601 : decode cL_law 601 = .ok (.invokevirtual 118, 3) := by decide +kernel
theorem dL_law_604 : decode cL_law 604 = .ok (.istore 6, 2) := by decide +kernel
theorem dL_law_606 : decode cL_law 606 = .ok (.aload_n 2, 1) := by decide +kernel
theorem dL_law_607 : decode cL_law 607 = .ok (.invokevirtual 80, 3) := by decide +kernel
theorem dL_law_610 : decode cL_law 610 = .ok (.iload 5, 2) := by decide +kernel
theorem dL_law_612 : decode cL_law 612 = .ok (.if_icmp .eq 5, 3) := by decide +kernel
theorem dL_law_615 : decode cL_law 615 = .ok (.iconst 0, 1) := by decide +kernel
theorem dL_law_616 : decode cL_law 616 = .ok (.ireturn, 1) := by decide +kernel
theorem dL_law_617 : decode cL_law 617 = .ok (.iload 5, 2) := by decide +kernel
theorem dL_law_619 : decode cL_law 619 = .ok (.ifCond .ne 15, 3) := by decide +kernel
theorem dL_law_622 : decode cL_law 622 = .ok (.aload_n 3, 1) := by decide +kernel
theorem dL_law_623 : decode cL_law 623 = .ok (.iconst 0, 1) := by decide +kernel
theorem dL_law_624 : decode cL_law 624 = .ok (.laload, 1) := by decide +kernel
theorem dL_law_625 : decode cL_law 625 = .ok (.iload 6, 2) := by decide +kernel
theorem dL_law_627 : decode cL_law 627 = .ok (.i2l, 1) := by decide +kernel
theorem dL_law_628 : decode cL_law 628 = .ok (.lcmp, 1) := by decide +kernel
theorem dL_law_629 : decode cL_law 629 = .ok (.ifCond .eq 5, 3) := by decide +kernel
theorem dL_law_632 : decode cL_law 632 = .ok (.iconst 0, 1) := by decide +kernel
theorem dL_law_633 : decode cL_law 633 = .ok (.ireturn, 1) := by decide +kernel
theorem dL_law_634 : decode cL_law 634 = .ok (.goto 713, 3) := by decide +kernel
theorem dL_law_637 : decode cL_law 637 = .ok (.aload_n 1, 1) := by decide +kernel
theorem dL_law_638 : decode cL_law 638 = .ok (.invokevirtual 119, 3) := by decide +kernel
theorem dL_law_641 : decode cL_law 641 = .ok (.aload_n 2, 1) := by decide +kernel
theorem dL_law_642 : decode cL_law 642 = .ok (.invokevirtual 122, 3) := by decide +kernel
theorem dL_law_645 : decode cL_law 645 = .ok (.if_icmp .eq 702, 3) := by decide +kernel
theorem dL_law_648 : decode cL_law 648 = .ok (.iconst 0, 1) := by decide +kernel
theorem dL_law_649 : decode cL_law 649 = .ok (.ireturn, 1) := by decide +kernel
theorem dL_law_650 : decode cL_law 650 = .ok (.aload_n 1, 1) := by decide +kernel
theorem dL_law_651 : decode cL_law 651 = .ok (.aload_n 0, 1) := by decide +kernel
theorem dL_law_652 : decode cL_law 652 = .ok (.iload 4, 2) := by decide +kernel
theorem dL_law_654 : decode cL_law 654 = .ok (.iconst 1, 1) := by decide +kernel
theorem dL_law_655 : decode cL_law 655 = .ok (.iadd, 1) := by decide +kernel
theorem dL_law_656 : decode cL_law 656 = .ok (.iaload, 1) := by decide +kernel
theorem dL_law_657 : decode cL_law 657 = .ok (.aload_n 3, 1) := by decide +kernel
theorem dL_law_658 : decode cL_law 658 = .ok (.invokestatic 123, 3) := by decide +kernel
theorem dL_law_661 : decode cL_law 661 = .ok (.istore 5, 2) := by decide +kernel
theorem dL_law_663 : decode cL_law 663 = .ok (.aload_n 2, 1) := by decide +kernel
theorem dL_law_664 : decode cL_law 664 = .ok (.aload_n 0, 1) := by decide +kernel
theorem dL_law_665 : decode cL_law 665 = .ok (.iload 4, 2) := by decide +kernel
theorem dL_law_667 : decode cL_law 667 = .ok (.iconst 1, 1) := by decide +kernel
theorem dL_law_668 : decode cL_law 668 = .ok (.iadd, 1) := by decide +kernel
theorem dL_law_669 : decode cL_law 669 = .ok (.iaload, 1) := by decide +kernel
theorem dL_law_670 : decode cL_law 670 = .ok (.invokevirtual 125, 3) := by decide +kernel
theorem dL_law_673 : decode cL_law 673 = .ok (.istore 6, 2) := by decide +kernel
theorem dL_law_675 : decode cL_law 675 = .ok (.aload_n 2, 1) := by decide +kernel
theorem dL_law_676 : decode cL_law 676 = .ok (.invokevirtual 80, 3) := by decide +kernel
theorem dL_law_679 : decode cL_law 679 = .ok (.iload 5, 2) := by decide +kernel
theorem dL_law_681 : decode cL_law 681 = .ok (.if_icmp .eq 5, 3) := by decide +kernel
theorem dL_law_684 : decode cL_law 684 = .ok (.iconst 0, 1) := by decide +kernel
theorem dL_law_685 : decode cL_law 685 = .ok (.ireturn, 1) := by decide +kernel
theorem dL_law_686 : decode cL_law 686 = .ok (.iload 5, 2) := by decide +kernel
theorem dL_law_688 : decode cL_law 688 = .ok (.ifCond .ne 15, 3) := by decide +kernel
theorem dL_law_691 : decode cL_law 691 = .ok (.aload_n 3, 1) := by decide +kernel
theorem dL_law_692 : decode cL_law 692 = .ok (.iconst 0, 1) := by decide +kernel
theorem dL_law_693 : decode cL_law 693 = .ok (.laload, 1) := by decide +kernel
theorem dL_law_694 : decode cL_law 694 = .ok (.iload 6, 2) := by decide +kernel
theorem dL_law_696 : decode cL_law 696 = .ok (.i2l, 1) := by decide +kernel
theorem dL_law_697 : decode cL_law 697 = .ok (.lcmp, 1) := by decide +kernel
theorem dL_law_698 : decode cL_law 698 = .ok (.ifCond .eq 5, 3) := by decide +kernel
theorem dL_law_701 : decode cL_law 701 = .ok (.iconst 0, 1) := by decide +kernel
theorem dL_law_702 : decode cL_law 702 = .ok (.ireturn, 1) := by decide +kernel
theorem dL_law_703 : decode cL_law 703 = .ok (.goto 644, 3) := by decide +kernel
theorem dL_law_706 : decode cL_law 706 = .ok (.aload_n 1, 1) := by decide +kernel
theorem dL_law_707 : decode cL_law 707 = .ok (.aload_n 0, 1) := by decide +kernel
theorem dL_law_708 : decode cL_law 708 = .ok (.iload 4, 2) := by decide +kernel
theorem dL_law_710 : decode cL_law 710 = .ok (.iconst 1, 1) := by decide +kernel
theorem dL_law_711 : decode cL_law 711 = .ok (.iadd, 1) := by decide +kernel
theorem dL_law_712 : decode cL_law 712 = .ok (.iaload, 1) := by decide +kernel
theorem dL_law_713 : decode cL_law 713 = .ok (.aload_n 3, 1) := by decide +kernel
theorem dL_law_714 : decode cL_law 714 = .ok (.invokestatic 126, 3) := by decide +kernel
theorem dL_law_717 : decode cL_law 717 = .ok (.istore 5, 2) := by decide +kernel
theorem dL_law_719 : decode cL_law 719 = .ok (.aload_n 2, 1) := by decide +kernel
theorem dL_law_720 : decode cL_law 720 = .ok (.aload_n 0, 1) := by decide +kernel
theorem dL_law_721 : decode cL_law 721 = .ok (.iload 4, 2) := by decide +kernel
theorem dL_law_723 : decode cL_law 723 = .ok (.iconst 1, 1) := by decide +kernel
theorem dL_law_724 : decode cL_law 724 = .ok (.iadd, 1) := by decide +kernel
theorem dL_law_725 : decode cL_law 725 = .ok (.iaload, 1) := by decide +kernel
theorem dL_law_726 : decode cL_law 726 = .ok (.invokevirtual 128, 3) := by decide +kernel
theorem dL_law_729 : decode cL_law 729 = .ok (.istore 6, 2) := by decide +kernel
theorem dL_law_731 : decode cL_law 731 = .ok (.aload_n 2, 1) := by decide +kernel
theorem dL_law_732 : decode cL_law 732 = .ok (.invokevirtual 80, 3) := by decide +kernel
theorem dL_law_735 : decode cL_law 735 = .ok (.iload 5, 2) := by decide +kernel
theorem dL_law_737 : decode cL_law 737 = .ok (.if_icmp .eq 5, 3) := by decide +kernel
theorem dL_law_740 : decode cL_law 740 = .ok (.iconst 0, 1) := by decide +kernel
theorem dL_law_741 : decode cL_law 741 = .ok (.ireturn, 1) := by decide +kernel
theorem dL_law_742 : decode cL_law 742 = .ok (.iload 5, 2) := by decide +kernel
theorem dL_law_744 : decode cL_law 744 = .ok (.ifCond .ne 15, 3) := by decide +kernel
theorem dL_law_747 : decode cL_law 747 = .ok (.aload_n 3, 1) := by decide +kernel
theorem dL_law_748 : decode cL_law 748 = .ok (.iconst 0, 1) := by decide +kernel
theorem dL_law_749 : decode cL_law 749 = .ok (.laload, 1) := by decide +kernel
theorem dL_law_750 : decode cL_law 750 = .ok (.iload 6, 2) := by decide +kernel
theorem dL_law_752 : decode cL_law 752 = .ok (.i2l, 1) := by decide +kernel
theorem dL_law_753 : decode cL_law 753 = .ok (.lcmp, 1) := by decide +kernel
theorem dL_law_754 : decode cL_law 754 = .ok (.ifCond .eq 5, 3) := by decide +kernel
theorem dL_law_757 : decode cL_law 757 = .ok (.iconst 0, 1) := by decide +kernel
theorem dL_law_758 : decode cL_law 758 = .ok (.ireturn, 1) := by decide +kernel
theorem dL_law_759 : decode cL_law 759 = .ok (.goto 588, 3) := by decide +kernel
theorem dL_law_762 : decode cL_law 762 = .ok (.aload_n 1, 1) := by decide +kernel
theorem dL_law_763 : decode cL_law 763 = .ok (.invokevirtual 129, 3) := by decide +kernel
theorem dL_law_766 : decode cL_law 766 = .ok (.aload_n 2, 1) := by decide +kernel
theorem dL_law_767 : decode cL_law 767 = .ok (.invokevirtual 132, 3) := by decide +kernel
theorem dL_law_770 : decode cL_law 770 = .ok (.if_icmp .eq 577, 3) := by decide +kernel
theorem dL_law_773 : decode cL_law 773 = .ok (.iconst 0, 1) := by decide +kernel
theorem dL_law_774 : decode cL_law 774 = .ok (.ireturn, 1) := by decide +kernel
theorem dL_law_775 : decode cL_law 775 = .ok (.aload_n 1, 1) := by decide +kernel
theorem dL_law_776 : decode cL_law 776 = .ok (.aload_n 0, 1) := by decide +kernel
theorem dL_law_777 : decode cL_law 777 = .ok (.iload 4, 2) := by decide +kernel
theorem dL_law_779 : decode cL_law 779 = .ok (.iconst 1, 1) := by decide +kernel
theorem dL_law_780 : decode cL_law 780 = .ok (.iadd, 1) := by decide +kernel
theorem dL_law_781 : decode cL_law 781 = .ok (.iaload, 1) := by decide +kernel
theorem dL_law_782 : decode cL_law 782 = .ok (.aload_n 3, 1) := by decide +kernel
theorem dL_law_783 : decode cL_law 783 = .ok (.invokestatic 133, 3) := by decide +kernel
theorem dL_law_786 : decode cL_law 786 = .ok (.istore 5, 2) := by decide +kernel
theorem dL_law_788 : decode cL_law 788 = .ok (.aload_n 2, 1) := by decide +kernel
theorem dL_law_789 : decode cL_law 789 = .ok (.aload_n 0, 1) := by decide +kernel
theorem dL_law_790 : decode cL_law 790 = .ok (.iload 4, 2) := by decide +kernel
theorem dL_law_792 : decode cL_law 792 = .ok (.iconst 1, 1) := by decide +kernel
theorem dL_law_793 : decode cL_law 793 = .ok (.iadd, 1) := by decide +kernel
theorem dL_law_794 : decode cL_law 794 = .ok (.iaload, 1) := by decide +kernel
theorem dL_law_795 : decode cL_law 795 = .ok (.invokevirtual 135, 3) := by decide +kernel
theorem dL_law_798 : decode cL_law 798 = .ok (.istore 6, 2) := by decide +kernel
theorem dL_law_800 : decode cL_law 800 = .ok (.aload_n 2, 1) := by decide +kernel
theorem dL_law_801 : decode cL_law 801 = .ok (.invokevirtual 80, 3) := by decide +kernel
theorem dL_law_804 : decode cL_law 804 = .ok (.iload 5, 2) := by decide +kernel
theorem dL_law_806 : decode cL_law 806 = .ok (.if_icmp .eq 5, 3) := by decide +kernel
theorem dL_law_809 : decode cL_law 809 = .ok (.iconst 0, 1) := by decide +kernel
theorem dL_law_810 : decode cL_law 810 = .ok (.ireturn, 1) := by decide +kernel
theorem dL_law_811 : decode cL_law 811 = .ok (.iload 5, 2) := by decide +kernel
theorem dL_law_813 : decode cL_law 813 = .ok (.ifCond .ne 15, 3) := by decide +kernel
theorem dL_law_816 : decode cL_law 816 = .ok (.aload_n 3, 1) := by decide +kernel
theorem dL_law_817 : decode cL_law 817 = .ok (.iconst 0, 1) := by decide +kernel
theorem dL_law_818 : decode cL_law 818 = .ok (.laload, 1) := by decide +kernel
theorem dL_law_819 : decode cL_law 819 = .ok (.iload 6, 2) := by decide +kernel
theorem dL_law_821 : decode cL_law 821 = .ok (.i2l, 1) := by decide +kernel
theorem dL_law_822 : decode cL_law 822 = .ok (.lcmp, 1) := by decide +kernel
theorem dL_law_823 : decode cL_law 823 = .ok (.ifCond .eq 5, 3) := by decide +kernel
theorem dL_law_826 : decode cL_law 826 = .ok (.iconst 0, 1) := by decide +kernel
theorem dL_law_827 : decode cL_law 827 = .ok (.ireturn, 1) := by decide +kernel
theorem dL_law_828 : decode cL_law 828 = .ok (.goto 519, 3) := by decide +kernel
theorem dL_law_831 : decode cL_law 831 = .ok (.aload_n 1, 1) := by decide +kernel
theorem dL_law_832 : decode cL_law 832 = .ok (.aload_n 0, 1) := by decide +kernel
theorem dL_law_833 : decode cL_law 833 = .ok (.iload 4, 2) := by decide +kernel
theorem dL_law_835 : decode cL_law 835 = .ok (.iconst 1, 1) := by decide +kernel
theorem dL_law_836 : decode cL_law 836 = .ok (.iadd, 1) := by decide +kernel
theorem dL_law_837 : decode cL_law 837 = .ok (.iaload, 1) := by decide +kernel
theorem dL_law_838 : decode cL_law 838 = .ok (.aload_n 3, 1) := by decide +kernel
theorem dL_law_839 : decode cL_law 839 = .ok (.invokestatic 136, 3) := by decide +kernel
theorem dL_law_842 : decode cL_law 842 = .ok (.istore 5, 2) := by decide +kernel
theorem dL_law_844 : decode cL_law 844 = .ok (.aload_n 2, 1) := by decide +kernel
theorem dL_law_845 : decode cL_law 845 = .ok (.aload_n 0, 1) := by decide +kernel
theorem dL_law_846 : decode cL_law 846 = .ok (.iload 4, 2) := by decide +kernel
theorem dL_law_848 : decode cL_law 848 = .ok (.iconst 1, 1) := by decide +kernel
theorem dL_law_849 : decode cL_law 849 = .ok (.iadd, 1) := by decide +kernel
theorem dL_law_850 : decode cL_law 850 = .ok (.iaload, 1) := by decide +kernel
theorem dL_law_851 : decode cL_law 851 = .ok (.invokevirtual 138, 3) := by decide +kernel
theorem dL_law_854 : decode cL_law 854 = .ok (.istore 6, 2) := by decide +kernel
theorem dL_law_856 : decode cL_law 856 = .ok (.aload_n 2, 1) := by decide +kernel
theorem dL_law_857 : decode cL_law 857 = .ok (.invokevirtual 80, 3) := by decide +kernel
theorem dL_law_860 : decode cL_law 860 = .ok (.iload 5, 2) := by decide +kernel
theorem dL_law_862 : decode cL_law 862 = .ok (.if_icmp .eq 5, 3) := by decide +kernel
theorem dL_law_865 : decode cL_law 865 = .ok (.iconst 0, 1) := by decide +kernel
theorem dL_law_866 : decode cL_law 866 = .ok (.ireturn, 1) := by decide +kernel
theorem dL_law_867 : decode cL_law 867 = .ok (.iload 5, 2) := by decide +kernel
theorem dL_law_869 : decode cL_law 869 = .ok (.ifCond .ne 15, 3) := by decide +kernel
theorem dL_law_872 : decode cL_law 872 = .ok (.aload_n 3, 1) := by decide +kernel
theorem dL_law_873 : decode cL_law 873 = .ok (.iconst 0, 1) := by decide +kernel
theorem dL_law_874 : decode cL_law 874 = .ok (.laload, 1) := by decide +kernel
theorem dL_law_875 : decode cL_law 875 = .ok (.iload 6, 2) := by decide +kernel
theorem dL_law_877 : decode cL_law 877 = .ok (.i2l, 1) := by decide +kernel
theorem dL_law_878 : decode cL_law 878 = .ok (.lcmp, 1) := by decide +kernel
theorem dL_law_879 : decode cL_law 879 = .ok (.ifCond .eq 5, 3) := by decide +kernel
theorem dL_law_882 : decode cL_law 882 = .ok (.iconst 0, 1) := by decide +kernel
theorem dL_law_883 : decode cL_law 883 = .ok (.ireturn, 1) := by decide +kernel
theorem dL_law_884 : decode cL_law 884 = .ok (.goto 463, 3) := by decide +kernel
theorem dL_law_887 : decode cL_law 887 = .ok (.aload_n 1, 1) := by decide +kernel
theorem dL_law_888 : decode cL_law 888 = .ok (.invokevirtual 139, 3) := by decide +kernel
theorem dL_law_891 : decode cL_law 891 = .ok (.aload_n 2, 1) := by decide +kernel
theorem dL_law_892 : decode cL_law 892 = .ok (.invokevirtual 142, 3) := by decide +kernel
theorem dL_law_895 : decode cL_law 895 = .ok (.if_icmp .eq 452, 3) := by decide +kernel
theorem dL_law_898 : decode cL_law 898 = .ok (.iconst 0, 1) := by decide +kernel
theorem dL_law_899 : decode cL_law 899 = .ok (.ireturn, 1) := by decide +kernel
theorem dL_law_900 : decode cL_law 900 = .ok (.aload_n 1, 1) := by decide +kernel
theorem dL_law_901 : decode cL_law 901 = .ok (.aload_n 0, 1) := by decide +kernel
theorem dL_law_902 : decode cL_law 902 = .ok (.iload 4, 2) := by decide +kernel
theorem dL_law_904 : decode cL_law 904 = .ok (.iconst 1, 1) := by decide +kernel
theorem dL_law_905 : decode cL_law 905 = .ok (.iadd, 1) := by decide +kernel
theorem dL_law_906 : decode cL_law 906 = .ok (.iaload, 1) := by decide +kernel
theorem dL_law_907 : decode cL_law 907 = .ok (.aload_n 3, 1) := by decide +kernel
theorem dL_law_908 : decode cL_law 908 = .ok (.invokestatic 143, 3) := by decide +kernel
theorem dL_law_911 : decode cL_law 911 = .ok (.istore 5, 2) := by decide +kernel
theorem dL_law_913 : decode cL_law 913 = .ok (.aload_n 2, 1) := by decide +kernel
theorem dL_law_914 : decode cL_law 914 = .ok (.aload_n 0, 1) := by decide +kernel
theorem dL_law_915 : decode cL_law 915 = .ok (.iload 4, 2) := by decide +kernel
theorem dL_law_917 : decode cL_law 917 = .ok (.iconst 1, 1) := by decide +kernel
theorem dL_law_918 : decode cL_law 918 = .ok (.iadd, 1) := by decide +kernel
theorem dL_law_919 : decode cL_law 919 = .ok (.iaload, 1) := by decide +kernel
theorem dL_law_920 : decode cL_law 920 = .ok (.invokevirtual 145, 3) := by decide +kernel
theorem dL_law_923 : decode cL_law 923 = .ok (.istore 6, 2) := by decide +kernel
theorem dL_law_925 : decode cL_law 925 = .ok (.aload_n 2, 1) := by decide +kernel
theorem dL_law_926 : decode cL_law 926 = .ok (.invokevirtual 80, 3) := by decide +kernel
theorem dL_law_929 : decode cL_law 929 = .ok (.iload 5, 2) := by decide +kernel
theorem dL_law_931 : decode cL_law 931 = .ok (.if_icmp .eq 5, 3) := by decide +kernel
theorem dL_law_934 : decode cL_law 934 = .ok (.iconst 0, 1) := by decide +kernel
theorem dL_law_935 : decode cL_law 935 = .ok (.ireturn, 1) := by decide +kernel
theorem dL_law_936 : decode cL_law 936 = .ok (.iload 5, 2) := by decide +kernel
theorem dL_law_938 : decode cL_law 938 = .ok (.ifCond .ne 15, 3) := by decide +kernel
theorem dL_law_941 : decode cL_law 941 = .ok (.aload_n 3, 1) := by decide +kernel
theorem dL_law_942 : decode cL_law 942 = .ok (.iconst 0, 1) := by decide +kernel
theorem dL_law_943 : decode cL_law 943 = .ok (.laload, 1) := by decide +kernel
theorem dL_law_944 : decode cL_law 944 = .ok (.iload 6, 2) := by decide +kernel
theorem dL_law_946 : decode cL_law 946 = .ok (.i2l, 1) := by decide +kernel
theorem dL_law_947 : decode cL_law 947 = .ok (.lcmp, 1) := by decide +kernel
theorem dL_law_948 : decode cL_law 948 = .ok (.ifCond .eq 5, 3) := by decide +kernel
theorem dL_law_951 : decode cL_law 951 = .ok (.iconst 0, 1) := by decide +kernel
theorem dL_law_952 : decode cL_law 952 = .ok (.ireturn, 1) := by decide +kernel
theorem dL_law_953 : decode cL_law 953 = .ok (.goto 394, 3) := by decide +kernel
theorem dL_law_956 : decode cL_law 956 = .ok (.aload_n 1, 1) := by decide +kernel
theorem dL_law_957 : decode cL_law 957 = .ok (.aload_n 0, 1) := by decide +kernel
theorem dL_law_958 : decode cL_law 958 = .ok (.iload 4, 2) := by decide +kernel
theorem dL_law_960 : decode cL_law 960 = .ok (.iconst 1, 1) := by decide +kernel
theorem dL_law_961 : decode cL_law 961 = .ok (.iadd, 1) := by decide +kernel
theorem dL_law_962 : decode cL_law 962 = .ok (.iaload, 1) := by decide +kernel
theorem dL_law_963 : decode cL_law 963 = .ok (.aload_n 0, 1) := by decide +kernel
theorem dL_law_964 : decode cL_law 964 = .ok (.iload 4, 2) := by decide +kernel
theorem dL_law_966 : decode cL_law 966 = .ok (.iconst 2, 1) := by decide +kernel
theorem dL_law_967 : decode cL_law 967 = .ok (.iadd, 1) := by decide +kernel
theorem dL_law_968 : decode cL_law 968 = .ok (.iaload, 1) := by decide +kernel
theorem dL_law_969 : decode cL_law 969 = .ok (.aload_n 3, 1) := by decide +kernel
theorem dL_law_970 : decode cL_law 970 = .ok (.invokestatic 146, 3) := by decide +kernel
theorem dL_law_973 : decode cL_law 973 = .ok (.istore 5, 2) := by decide +kernel
theorem dL_law_975 : decode cL_law 975 = .ok (.aload_n 2, 1) := by decide +kernel
theorem dL_law_976 : decode cL_law 976 = .ok (.aload_n 0, 1) := by decide +kernel
theorem dL_law_977 : decode cL_law 977 = .ok (.iload 4, 2) := by decide +kernel
theorem dL_law_979 : decode cL_law 979 = .ok (.iconst 1, 1) := by decide +kernel
theorem dL_law_980 : decode cL_law 980 = .ok (.iadd, 1) := by decide +kernel
theorem dL_law_981 : decode cL_law 981 = .ok (.iaload, 1) := by decide +kernel
theorem dL_law_982 : decode cL_law 982 = .ok (.aload_n 0, 1) := by decide +kernel
theorem dL_law_983 : decode cL_law 983 = .ok (.iload 4, 2) := by decide +kernel
theorem dL_law_985 : decode cL_law 985 = .ok (.iconst 2, 1) := by decide +kernel
theorem dL_law_986 : decode cL_law 986 = .ok (.iadd, 1) := by decide +kernel
theorem dL_law_987 : decode cL_law 987 = .ok (.iaload, 1) := by decide +kernel
theorem dL_law_988 : decode cL_law 988 = .ok (.invokevirtual 148, 3) := by decide +kernel
theorem dL_law_991 : decode cL_law 991 = .ok (.istore 6, 2) := by decide +kernel
theorem dL_law_993 : decode cL_law 993 = .ok (.aload_n 2, 1) := by decide +kernel
theorem dL_law_994 : decode cL_law 994 = .ok (.invokevirtual 80, 3) := by decide +kernel
theorem dL_law_997 : decode cL_law 997 = .ok (.iload 5, 2) := by decide +kernel
theorem dL_law_999 : decode cL_law 999 = .ok (.if_icmp .eq 5, 3) := by decide +kernel
theorem dL_law_1002 : decode cL_law 1002 = .ok (.iconst 0, 1) := by decide +kernel
theorem dL_law_1003 : decode cL_law 1003 = .ok (.ireturn, 1) := by decide +kernel
theorem dL_law_1004 : decode cL_law 1004 = .ok (.iload 5, 2) := by decide +kernel
theorem dL_law_1006 : decode cL_law 1006 = .ok (.ifCond .ne 22, 3) := by decide +kernel
theorem dL_law_1009 : decode cL_law 1009 = .ok (.aload_n 3, 1) := by decide +kernel
theorem dL_law_1010 : decode cL_law 1010 = .ok (.iconst 0, 1) := by decide +kernel
theorem dL_law_1011 : decode cL_law 1011 = .ok (.laload, 1) := by decide +kernel
theorem dL_law_1012 : decode cL_law 1012 = .ok (.iload 6, 2) := by decide +kernel
theorem dL_law_1014 : decode cL_law 1014 = .ok (.ifCond .eq 7, 3) := by decide +kernel
theorem dL_law_1017 : decode cL_law 1017 = .ok (.lconst 1, 1) := by decide +kernel
theorem dL_law_1018 : decode cL_law 1018 = .ok (.goto 4, 3) := by decide +kernel
theorem dL_law_1021 : decode cL_law 1021 = .ok (.lconst 0, 1) := by decide +kernel
theorem dL_law_1022 : decode cL_law 1022 = .ok (.lcmp, 1) := by decide +kernel
theorem dL_law_1023 : decode cL_law 1023 = .ok (.ifCond .eq 5, 3) := by decide +kernel
theorem dL_law_1026 : decode cL_law 1026 = .ok (.iconst 0, 1) := by decide +kernel
theorem dL_law_1027 : decode cL_law 1027 = .ok (.ireturn, 1) := by decide +kernel
theorem dL_law_1028 : decode cL_law 1028 = .ok (.goto 319, 3) := by decide +kernel
theorem dL_law_1031 : decode cL_law 1031 = .ok (.aload_n 1, 1) := by decide +kernel
theorem dL_law_1032 : decode cL_law 1032 = .ok (.aload_n 0, 1) := by decide +kernel
theorem dL_law_1033 : decode cL_law 1033 = .ok (.iload 4, 2) := by decide +kernel
theorem dL_law_1035 : decode cL_law 1035 = .ok (.iconst 1, 1) := by decide +kernel
theorem dL_law_1036 : decode cL_law 1036 = .ok (.iadd, 1) := by decide +kernel
theorem dL_law_1037 : decode cL_law 1037 = .ok (.iaload, 1) := by decide +kernel
theorem dL_law_1038 : decode cL_law 1038 = .ok (.aload_n 0, 1) := by decide +kernel
theorem dL_law_1039 : decode cL_law 1039 = .ok (.iload 4, 2) := by decide +kernel
theorem dL_law_1041 : decode cL_law 1041 = .ok (.iconst 2, 1) := by decide +kernel
theorem dL_law_1042 : decode cL_law 1042 = .ok (.iadd, 1) := by decide +kernel
theorem dL_law_1043 : decode cL_law 1043 = .ok (.iaload, 1) := by decide +kernel
theorem dL_law_1044 : decode cL_law 1044 = .ok (.aload_n 3, 1) := by decide +kernel
theorem dL_law_1045 : decode cL_law 1045 = .ok (.invokestatic 149, 3) := by decide +kernel
theorem dL_law_1048 : decode cL_law 1048 = .ok (.istore 5, 2) := by decide +kernel
theorem dL_law_1050 : decode cL_law 1050 = .ok (.aload_n 2, 1) := by decide +kernel
theorem dL_law_1051 : decode cL_law 1051 = .ok (.aload_n 0, 1) := by decide +kernel
theorem dL_law_1052 : decode cL_law 1052 = .ok (.iload 4, 2) := by decide +kernel
theorem dL_law_1054 : decode cL_law 1054 = .ok (.iconst 1, 1) := by decide +kernel
theorem dL_law_1055 : decode cL_law 1055 = .ok (.iadd, 1) := by decide +kernel
theorem dL_law_1056 : decode cL_law 1056 = .ok (.iaload, 1) := by decide +kernel
theorem dL_law_1057 : decode cL_law 1057 = .ok (.aload_n 0, 1) := by decide +kernel
theorem dL_law_1058 : decode cL_law 1058 = .ok (.iload 4, 2) := by decide +kernel
theorem dL_law_1060 : decode cL_law 1060 = .ok (.iconst 2, 1) := by decide +kernel
theorem dL_law_1061 : decode cL_law 1061 = .ok (.iadd, 1) := by decide +kernel
theorem dL_law_1062 : decode cL_law 1062 = .ok (.iaload, 1) := by decide +kernel
theorem dL_law_1063 : decode cL_law 1063 = .ok (.invokevirtual 151, 3) := by decide +kernel
theorem dL_law_1066 : decode cL_law 1066 = .ok (.istore 6, 2) := by decide +kernel
theorem dL_law_1068 : decode cL_law 1068 = .ok (.aload_n 2, 1) := by decide +kernel
theorem dL_law_1069 : decode cL_law 1069 = .ok (.invokevirtual 80, 3) := by decide +kernel
theorem dL_law_1072 : decode cL_law 1072 = .ok (.iload 5, 2) := by decide +kernel
theorem dL_law_1074 : decode cL_law 1074 = .ok (.if_icmp .eq 5, 3) := by decide +kernel
theorem dL_law_1077 : decode cL_law 1077 = .ok (.iconst 0, 1) := by decide +kernel
theorem dL_law_1078 : decode cL_law 1078 = .ok (.ireturn, 1) := by decide +kernel
theorem dL_law_1079 : decode cL_law 1079 = .ok (.iload 5, 2) := by decide +kernel
theorem dL_law_1081 : decode cL_law 1081 = .ok (.ifCond .ne 22, 3) := by decide +kernel
theorem dL_law_1084 : decode cL_law 1084 = .ok (.aload_n 3, 1) := by decide +kernel
theorem dL_law_1085 : decode cL_law 1085 = .ok (.iconst 0, 1) := by decide +kernel
theorem dL_law_1086 : decode cL_law 1086 = .ok (.laload, 1) := by decide +kernel
theorem dL_law_1087 : decode cL_law 1087 = .ok (.iload 6, 2) := by decide +kernel
theorem dL_law_1089 : decode cL_law 1089 = .ok (.ifCond .eq 7, 3) := by decide +kernel
theorem dL_law_1092 : decode cL_law 1092 = .ok (.lconst 1, 1) := by decide +kernel
theorem dL_law_1093 : decode cL_law 1093 = .ok (.goto 4, 3) := by decide +kernel
theorem dL_law_1096 : decode cL_law 1096 = .ok (.lconst 0, 1) := by decide +kernel
theorem dL_law_1097 : decode cL_law 1097 = .ok (.lcmp, 1) := by decide +kernel
theorem dL_law_1098 : decode cL_law 1098 = .ok (.ifCond .eq 5, 3) := by decide +kernel
theorem dL_law_1101 : decode cL_law 1101 = .ok (.iconst 0, 1) := by decide +kernel
theorem dL_law_1102 : decode cL_law 1102 = .ok (.ireturn, 1) := by decide +kernel
theorem dL_law_1103 : decode cL_law 1103 = .ok (.goto 244, 3) := by decide +kernel
theorem dL_law_1106 : decode cL_law 1106 = .ok (.aload_n 1, 1) := by decide +kernel
theorem dL_law_1107 : decode cL_law 1107 = .ok (.aload_n 0, 1) := by decide +kernel
theorem dL_law_1108 : decode cL_law 1108 = .ok (.iload 4, 2) := by decide +kernel
theorem dL_law_1110 : decode cL_law 1110 = .ok (.iconst 1, 1) := by decide +kernel
theorem dL_law_1111 : decode cL_law 1111 = .ok (.iadd, 1) := by decide +kernel
theorem dL_law_1112 : decode cL_law 1112 = .ok (.iaload, 1) := by decide +kernel
theorem dL_law_1113 : decode cL_law 1113 = .ok (.aload_n 0, 1) := by decide +kernel
theorem dL_law_1114 : decode cL_law 1114 = .ok (.iload 4, 2) := by decide +kernel
theorem dL_law_1116 : decode cL_law 1116 = .ok (.iconst 2, 1) := by decide +kernel
theorem dL_law_1117 : decode cL_law 1117 = .ok (.iadd, 1) := by decide +kernel
theorem dL_law_1118 : decode cL_law 1118 = .ok (.iaload, 1) := by decide +kernel
theorem dL_law_1119 : decode cL_law 1119 = .ok (.aload_n 3, 1) := by decide +kernel
theorem dL_law_1120 : decode cL_law 1120 = .ok (.invokestatic 152, 3) := by decide +kernel
theorem dL_law_1123 : decode cL_law 1123 = .ok (.istore 5, 2) := by decide +kernel
theorem dL_law_1125 : decode cL_law 1125 = .ok (.aload_n 2, 1) := by decide +kernel
theorem dL_law_1126 : decode cL_law 1126 = .ok (.aload_n 0, 1) := by decide +kernel
theorem dL_law_1127 : decode cL_law 1127 = .ok (.iload 4, 2) := by decide +kernel
theorem dL_law_1129 : decode cL_law 1129 = .ok (.iconst 1, 1) := by decide +kernel
theorem dL_law_1130 : decode cL_law 1130 = .ok (.iadd, 1) := by decide +kernel
theorem dL_law_1131 : decode cL_law 1131 = .ok (.iaload, 1) := by decide +kernel
theorem dL_law_1132 : decode cL_law 1132 = .ok (.aload_n 0, 1) := by decide +kernel
theorem dL_law_1133 : decode cL_law 1133 = .ok (.iload 4, 2) := by decide +kernel
theorem dL_law_1135 : decode cL_law 1135 = .ok (.iconst 2, 1) := by decide +kernel
theorem dL_law_1136 : decode cL_law 1136 = .ok (.iadd, 1) := by decide +kernel
theorem dL_law_1137 : decode cL_law 1137 = .ok (.iaload, 1) := by decide +kernel
theorem dL_law_1138 : decode cL_law 1138 = .ok (.invokevirtual 154, 3) := by decide +kernel
theorem dL_law_1141 : decode cL_law 1141 = .ok (.istore 6, 2) := by decide +kernel
theorem dL_law_1143 : decode cL_law 1143 = .ok (.aload_n 2, 1) := by decide +kernel
theorem dL_law_1144 : decode cL_law 1144 = .ok (.invokevirtual 80, 3) := by decide +kernel
theorem dL_law_1147 : decode cL_law 1147 = .ok (.iload 5, 2) := by decide +kernel
theorem dL_law_1149 : decode cL_law 1149 = .ok (.if_icmp .eq 5, 3) := by decide +kernel
theorem dL_law_1152 : decode cL_law 1152 = .ok (.iconst 0, 1) := by decide +kernel
theorem dL_law_1153 : decode cL_law 1153 = .ok (.ireturn, 1) := by decide +kernel
theorem dL_law_1154 : decode cL_law 1154 = .ok (.iload 5, 2) := by decide +kernel
theorem dL_law_1156 : decode cL_law 1156 = .ok (.ifCond .ne 22, 3) := by decide +kernel
theorem dL_law_1159 : decode cL_law 1159 = .ok (.aload_n 3, 1) := by decide +kernel
theorem dL_law_1160 : decode cL_law 1160 = .ok (.iconst 0, 1) := by decide +kernel
theorem dL_law_1161 : decode cL_law 1161 = .ok (.laload, 1) := by decide +kernel
theorem dL_law_1162 : decode cL_law 1162 = .ok (.iload 6, 2) := by decide +kernel
theorem dL_law_1164 : decode cL_law 1164 = .ok (.ifCond .eq 7, 3) := by decide +kernel
theorem dL_law_1167 : decode cL_law 1167 = .ok (.lconst 1, 1) := by decide +kernel
theorem dL_law_1168 : decode cL_law 1168 = .ok (.goto 4, 3) := by decide +kernel
theorem dL_law_1171 : decode cL_law 1171 = .ok (.lconst 0, 1) := by decide +kernel
theorem dL_law_1172 : decode cL_law 1172 = .ok (.lcmp, 1) := by decide +kernel
theorem dL_law_1173 : decode cL_law 1173 = .ok (.ifCond .eq 5, 3) := by decide +kernel
theorem dL_law_1176 : decode cL_law 1176 = .ok (.iconst 0, 1) := by decide +kernel
theorem dL_law_1177 : decode cL_law 1177 = .ok (.ireturn, 1) := by decide +kernel
theorem dL_law_1178 : decode cL_law 1178 = .ok (.goto 169, 3) := by decide +kernel
theorem dL_law_1181 : decode cL_law 1181 = .ok (.aload_n 1, 1) := by decide +kernel
theorem dL_law_1182 : decode cL_law 1182 = .ok (.invokevirtual 155, 3) := by decide +kernel
theorem dL_law_1185 : decode cL_law 1185 = .ok (.aload_n 2, 1) := by decide +kernel
theorem dL_law_1186 : decode cL_law 1186 = .ok (.invokevirtual 159, 3) := by decide +kernel
theorem dL_law_1189 : decode cL_law 1189 = .ok (.lcmp, 1) := by decide +kernel
theorem dL_law_1190 : decode cL_law 1190 = .ok (.ifCond .eq 157, 3) := by decide +kernel
theorem dL_law_1193 : decode cL_law 1193 = .ok (.iconst 0, 1) := by decide +kernel
theorem dL_law_1194 : decode cL_law 1194 = .ok (.ireturn, 1) := by decide +kernel
theorem dL_law_1195 : decode cL_law 1195 = .ok (.aload_n 1, 1) := by decide +kernel
theorem dL_law_1196 : decode cL_law 1196 = .ok (.aload_n 0, 1) := by decide +kernel
theorem dL_law_1197 : decode cL_law 1197 = .ok (.iload 4, 2) := by decide +kernel
theorem dL_law_1199 : decode cL_law 1199 = .ok (.iconst 1, 1) := by decide +kernel
theorem dL_law_1200 : decode cL_law 1200 = .ok (.iadd, 1) := by decide +kernel
theorem dL_law_1201 : decode cL_law 1201 = .ok (.iaload, 1) := by decide +kernel
theorem dL_law_1202 : decode cL_law 1202 = .ok (.aload_n 3, 1) := by decide +kernel
theorem dL_law_1203 : decode cL_law 1203 = .ok (.invokestatic 160, 3) := by decide +kernel
theorem dL_law_1206 : decode cL_law 1206 = .ok (.istore 5, 2) := by decide +kernel
theorem dL_law_1208 : decode cL_law 1208 = .ok (.aload_n 2, 1) := by decide +kernel
theorem dL_law_1209 : decode cL_law 1209 = .ok (.aload_n 0, 1) := by decide +kernel
theorem dL_law_1210 : decode cL_law 1210 = .ok (.iload 4, 2) := by decide +kernel
theorem dL_law_1212 : decode cL_law 1212 = .ok (.iconst 1, 1) := by decide +kernel
theorem dL_law_1213 : decode cL_law 1213 = .ok (.iadd, 1) := by decide +kernel
theorem dL_law_1214 : decode cL_law 1214 = .ok (.iaload, 1) := by decide +kernel
theorem dL_law_1215 : decode cL_law 1215 = .ok (.invokevirtual 162, 3) := by decide +kernel
theorem dL_law_1218 : decode cL_law 1218 = .ok (.istore 6, 2) := by decide +kernel
theorem dL_law_1220 : decode cL_law 1220 = .ok (.aload_n 2, 1) := by decide +kernel
theorem dL_law_1221 : decode cL_law 1221 = .ok (.invokevirtual 80, 3) := by decide +kernel
theorem dL_law_1224 : decode cL_law 1224 = .ok (.iload 5, 2) := by decide +kernel
theorem dL_law_1226 : decode cL_law 1226 = .ok (.if_icmp .eq 5, 3) := by decide +kernel
theorem dL_law_1229 : decode cL_law 1229 = .ok (.iconst 0, 1) := by decide +kernel
theorem dL_law_1230 : decode cL_law 1230 = .ok (.ireturn, 1) := by decide +kernel
theorem dL_law_1231 : decode cL_law 1231 = .ok (.iload 5, 2) := by decide +kernel
theorem dL_law_1233 : decode cL_law 1233 = .ok (.ifCond .ne 22, 3) := by decide +kernel
theorem dL_law_1236 : decode cL_law 1236 = .ok (.aload_n 3, 1) := by decide +kernel
theorem dL_law_1237 : decode cL_law 1237 = .ok (.iconst 0, 1) := by decide +kernel
theorem dL_law_1238 : decode cL_law 1238 = .ok (.laload, 1) := by decide +kernel
theorem dL_law_1239 : decode cL_law 1239 = .ok (.iload 6, 2) := by decide +kernel
theorem dL_law_1241 : decode cL_law 1241 = .ok (.ifCond .eq 7, 3) := by decide +kernel
theorem dL_law_1244 : decode cL_law 1244 = .ok (.lconst 1, 1) := by decide +kernel
theorem dL_law_1245 : decode cL_law 1245 = .ok (.goto 4, 3) := by decide +kernel
theorem dL_law_1248 : decode cL_law 1248 = .ok (.lconst 0, 1) := by decide +kernel
theorem dL_law_1249 : decode cL_law 1249 = .ok (.lcmp, 1) := by decide +kernel
theorem dL_law_1250 : decode cL_law 1250 = .ok (.ifCond .eq 5, 3) := by decide +kernel
theorem dL_law_1253 : decode cL_law 1253 = .ok (.iconst 0, 1) := by decide +kernel
theorem dL_law_1254 : decode cL_law 1254 = .ok (.ireturn, 1) := by decide +kernel
theorem dL_law_1255 : decode cL_law 1255 = .ok (.goto 92, 3) := by decide +kernel
theorem dL_law_1258 : decode cL_law 1258 = .ok (.aload_n 1, 1) := by decide +kernel
theorem dL_law_1259 : decode cL_law 1259 = .ok (.aload_n 0, 1) := by decide +kernel
theorem dL_law_1260 : decode cL_law 1260 = .ok (.iload 4, 2) := by decide +kernel
theorem dL_law_1262 : decode cL_law 1262 = .ok (.iconst 1, 1) := by decide +kernel
theorem dL_law_1263 : decode cL_law 1263 = .ok (.iadd, 1) := by decide +kernel
theorem dL_law_1264 : decode cL_law 1264 = .ok (.iaload, 1) := by decide +kernel
theorem dL_law_1265 : decode cL_law 1265 = .ok (.aload_n 3, 1) := by decide +kernel
theorem dL_law_1266 : decode cL_law 1266 = .ok (.invokestatic 163, 3) := by decide +kernel
theorem dL_law_1269 : decode cL_law 1269 = .ok (.istore 5, 2) := by decide +kernel
theorem dL_law_1271 : decode cL_law 1271 = .ok (.aload_n 2, 1) := by decide +kernel
theorem dL_law_1272 : decode cL_law 1272 = .ok (.aload_n 0, 1) := by decide +kernel
theorem dL_law_1273 : decode cL_law 1273 = .ok (.iload 4, 2) := by decide +kernel
theorem dL_law_1275 : decode cL_law 1275 = .ok (.iconst 1, 1) := by decide +kernel
theorem dL_law_1276 : decode cL_law 1276 = .ok (.iadd, 1) := by decide +kernel
theorem dL_law_1277 : decode cL_law 1277 = .ok (.iaload, 1) := by decide +kernel
theorem dL_law_1278 : decode cL_law 1278 = .ok (.invokevirtual 165, 3) := by decide +kernel
theorem dL_law_1281 : decode cL_law 1281 = .ok (.istore 6, 2) := by decide +kernel
theorem dL_law_1283 : decode cL_law 1283 = .ok (.aload_n 2, 1) := by decide +kernel
theorem dL_law_1284 : decode cL_law 1284 = .ok (.invokevirtual 80, 3) := by decide +kernel
theorem dL_law_1287 : decode cL_law 1287 = .ok (.iload 5, 2) := by decide +kernel
theorem dL_law_1289 : decode cL_law 1289 = .ok (.if_icmp .eq 5, 3) := by decide +kernel
theorem dL_law_1292 : decode cL_law 1292 = .ok (.iconst 0, 1) := by decide +kernel
theorem dL_law_1293 : decode cL_law 1293 = .ok (.ireturn, 1) := by decide +kernel
theorem dL_law_1294 : decode cL_law 1294 = .ok (.iload 5, 2) := by decide +kernel
theorem dL_law_1296 : decode cL_law 1296 = .ok (.ifCond .ne 22, 3) := by decide +kernel
theorem dL_law_1299 : decode cL_law 1299 = .ok (.aload_n 3, 1) := by decide +kernel
theorem dL_law_1300 : decode cL_law 1300 = .ok (.iconst 0, 1) := by decide +kernel
theorem dL_law_1301 : decode cL_law 1301 = .ok (.laload, 1) := by decide +kernel
theorem dL_law_1302 : decode cL_law 1302 = .ok (.iload 6, 2) := by decide +kernel
theorem dL_law_1304 : decode cL_law 1304 = .ok (.ifCond .eq 7, 3) := by decide +kernel
theorem dL_law_1307 : decode cL_law 1307 = .ok (.lconst 1, 1) := by decide +kernel
theorem dL_law_1308 : decode cL_law 1308 = .ok (.goto 4, 3) := by decide +kernel
theorem dL_law_1311 : decode cL_law 1311 = .ok (.lconst 0, 1) := by decide +kernel
theorem dL_law_1312 : decode cL_law 1312 = .ok (.lcmp, 1) := by decide +kernel
theorem dL_law_1313 : decode cL_law 1313 = .ok (.ifCond .eq 5, 3) := by decide +kernel
theorem dL_law_1316 : decode cL_law 1316 = .ok (.iconst 0, 1) := by decide +kernel
theorem dL_law_1317 : decode cL_law 1317 = .ok (.ireturn, 1) := by decide +kernel
theorem dL_law_1318 : decode cL_law 1318 = .ok (.goto 29, 3) := by decide +kernel
theorem dL_law_1321 : decode cL_law 1321 = .ok (.aload_n 1, 1) := by decide +kernel
theorem dL_law_1322 : decode cL_law 1322 = .ok (.invokevirtual 166, 3) := by decide +kernel
theorem dL_law_1325 : decode cL_law 1325 = .ok (.aload_n 2, 1) := by decide +kernel
theorem dL_law_1326 : decode cL_law 1326 = .ok (.invokevirtual 169, 3) := by decide +kernel
theorem dL_law_1329 : decode cL_law 1329 = .ok (.if_icmp .eq 18, 3) := by decide +kernel
theorem dL_law_1332 : decode cL_law 1332 = .ok (.iconst 0, 1) := by decide +kernel
theorem dL_law_1333 : decode cL_law 1333 = .ok (.ireturn, 1) := by decide +kernel
theorem dL_law_1334 : decode cL_law 1334 = .ok (.aload_n 1, 1) := by decide +kernel
theorem dL_law_1335 : decode cL_law 1335 = .ok (.invokevirtual 170, 3) := by decide +kernel
theorem dL_law_1338 : decode cL_law 1338 = .ok (.aload_n 2, 1) := by decide +kernel
theorem dL_law_1339 : decode cL_law 1339 = .ok (.invokevirtual 173, 3) := by decide +kernel
theorem dL_law_1342 : decode cL_law 1342 = .ok (.if_icmp .eq 5, 3) := by decide +kernel
theorem dL_law_1345 : decode cL_law 1345 = .ok (.iconst 0, 1) := by decide +kernel
theorem dL_law_1346 : decode cL_law 1346 = .ok (.ireturn, 1) := by decide +kernel
theorem dL_law_1347 : decode cL_law 1347 = .ok (.iinc 4 3, 3) := by decide +kernel
theorem dL_law_1350 : decode cL_law 1350 = .ok (.goto (-1327), 3) := by decide +kernel
theorem dL_law_1353 : decode cL_law 1353 = .ok (.iconst 1, 1) := by decide +kernel
theorem dL_law_1354 : decode cL_law 1354 = .ok (.ireturn, 1) := by decide +kernel
