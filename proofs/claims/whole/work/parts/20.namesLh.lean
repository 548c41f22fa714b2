set_option maxRecDepth 20000 in
theorem ggL_append_X4_append : GoodIn wsL_append wsX4_append := goodIn_ca (goodIn_ca (goodIn_r _ [7, 8, 9, 10, 11, 12, 13, 14, 15, 16, 17, 18, 19, 20, 21, 22, 23, 24, 25, 26, 27, 28, 29, 30, 31, 32, 33, 34, 35, 36, 37, 38, 39] (by decide +kernel) (by decide +kernel)) (goodIn_sub (fun _ h => List.mem_cons_of_mem _ (List.mem_append_left _ (List.mem_append_right _ h))) (by decide +kernel))) (goodIn_sub (fun _ h => List.mem_cons_of_mem _ (List.mem_append_right _ h)) (by decide +kernel))
set_option maxRecDepth 20000 in
theorem gL_append_X4_append : GoodIn wsL_append (wsV RL 7 RX4 yX4_append wsX4_append) := goodIn_app (goodIn_of _ (by decide +kernel)) ggL_append_X4_append
theorem dL_append_0 : decode cL_append 0 = .ok (.aload_n 2, 1) := by decide +kernel
theorem dL_append_1 : decode cL_append 1 = .ok (.iconst 0, 1) := by decide +kernel
theorem dL_append_2 : decode cL_append 2 = .ok (.aload_n 0, 1) := by decide +kernel
theorem dL_append_3 : decode cL_append 3 = .ok (.iload_n 1, 1) := by decide +kernel
theorem dL_append_4 : decode cL_append 4 = .ok (.invokevirtual 7, 3) := by decide +kernel
theorem dL_append_7 : decode cL_append 7 = .ok (.i2l, 1) := by decide +kernel
theorem dL_append_8 : decode cL_append 8 = .ok (.lastore, 1) := by decide +kernel
theorem dL_append_9 : decode cL_append 9 = .ok (.goto 9, 3) := by decide +kernel
theorem dL_append_12 : decode cL_append 12 = .ok (.astore_n 3, 1) := by decide +kernel
theorem dL_append_13 : decode cL_append 13 = .ok (.iconst 1, 1) := by decide +kernel
theorem dL_append_14 : decode cL_append 14 = .ok (.ireturn, 1) := by decide +kernel
theorem dL_append_15 : decode cL_append 15 = .ok (.astore_n 3, 1) := by decide +kernel
theorem dL_append_16 : decode cL_append 16 = .ok (.iconst 2, 1) := by decide +kernel
theorem dL_append_17 : decode cL_append 17 = .ok (.ireturn, 1) := by decide +kernel
theorem dL_append_18 : decode cL_append 18 = .ok (.iconst 0, 1) := by decide +kernel
theorem dL_append_19 : decode cL_append 19 = .ok (.ireturn, 1) := by decide +kernel
set_option maxRecDepth 20000 in
theorem ggL_load_X4_load : GoodIn wsL_load wsX4_load := goodIn_ca (goodIn_r _ [6, 7, 8, 9, 10, 11, 12, 13, 14, 15, 16, 17, 18, 19, 20, 21, 22, 23, 24, 25, 26, 27, 28, 29, 30, 31, 32, 33, 34, 35, 36, 37, 38, 39, 40, 41, 42, 43, 44, 45, 46, 47, 48, 49, 50, 51, 52, 53, 54, 55, 56, 57, 58, 59, 60, 5, 61, 62, 63, 64, 65, 66, 67, 68, 69, 70, 71, 72, 73, 74, 75, 76, 77, 78, 79, 80, 81, 82, 83, 84, 85, 86, 87, 88, 89, 90, 91, 92, 93, 94, 95, 96, 97, 98, 99, 100, 101, 102, 103, 104, 105, 106, 107, 108, 109, 110, 111, 112, 113, 114, 115, 116, 117, 118, 119, 120, 121, 122, 123, 124, 125, 126, 127, 128, 129, 130, 131, 132, 133, 134, 135, 136, 137, 138, 139, 140, 141, 142, 143, 144, 145, 146, 147, 148, 149, 150, 151, 152, 153, 154, 155, 156, 157, 158, 159, 160, 161, 162, 163, 164, 165, 166, 167, 168, 169, 170, 171, 172, 173, 174, 175, 176, 177, 178, 179, 180, 181] (by decide +kernel) (by decide +kernel)) (goodIn_sub (fun _ h => List.mem_cons_of_mem _ (List.mem_append_right _ h)) (by decide +kernel))
set_option maxRecDepth 20000 in
theorem gL_load_X4_load : GoodIn wsL_load (wsV RL 17 RX4 yX4_load wsX4_load) := goodIn_app (goodIn_of _ (by decide +kernel)) ggL_load_X4_load
theorem dL_load_0 : decode cL_load 0 = .ok (.aload_n 1, 1) := by decide +kernel
theorem dL_load_1 : decode cL_load 1 = .ok (.iconst 0, 1) := by decide +kernel
theorem dL_load_2 : decode cL_load 2 = .ok (.aload_n 0, 1) := by decide +kernel
theorem dL_load_3 : decode cL_load 3 = .ok (.invokevirtual 17, 3) := by decide +kernel
theorem dL_load_6 : decode cL_load 6 = .ok (.i2l, 1) := by decide +kernel
theorem dL_load_7 : decode cL_load 7 = .ok (.lastore, 1) := by decide +kernel
theorem dL_load_8 : decode cL_load 8 = .ok (.goto 6, 3) := by decide +kernel
theorem dL_load_11 : decode cL_load 11 = .ok (.astore_n 2, 1) := by decide +kernel
theorem dL_load_12 : decode cL_load 12 = .ok (.iconst 1, 1) := by decide +kernel
theorem dL_load_13 : decode cL_load 13 = .ok (.ireturn, 1) := by decide +kernel
theorem dL_load_14 : decode cL_load 14 = .ok (.iconst 0, 1) := by decide +kernel
theorem dL_load_15 : decode cL_load 15 = .ok (.ireturn, 1) := by decide +kernel
set_option maxRecDepth 20000 in
theorem ggL_about_X4_about : GoodIn wsL_about wsX4_about := goodIn_ca (goodIn_r _ [6, 7, 8, 9, 10, 11, 12, 13, 14, 15, 16, 17, 18, 19, 20, 21, 22, 23, 24, 25, 26, 27, 28, 29, 30, 31, 32, 33, 34, 35, 36, 37, 38, 39, 40, 41, 42, 43, 44, 45, 46, 47, 48, 49, 50, 51, 52, 53, 54, 55, 56, 57, 58, 59, 60, 61, 62, 63, 64, 65, 66, 67, 68, 69, 70, 71, 72, 73, 74, 75, 76, 77, 78, 79, 80, 81, 82, 83, 84, 85, 86, 87, 88] (by decide +kernel) (by decide +kernel)) (goodIn_sub (fun _ h => List.mem_cons_of_mem _ (List.mem_append_right _ h)) (by decide +kernel))
set_option maxRecDepth 20000 in
theorem gL_about_X4_about : GoodIn wsL_about (wsV RL 21 RX4 yX4_about wsX4_about) := goodIn_app (goodIn_of _ (by decide +kernel)) ggL_about_X4_about
theorem dL_about_0 : decode cL_about 0 = .ok (.aload_n 2, 1) := by decide +kernel
theorem dL_about_1 : decode cL_about 1 = .ok (.iconst 0, 1) := by decide +kernel
theorem dL_about_2 : decode cL_about 2 = .ok (.aload_n 0, 1) := by decide +kernel
theorem dL_about_3 : decode cL_about 3 = .ok (.iload_n 1, 1) := by decide +kernel
theorem dL_about_4 : decode cL_about 4 = .ok (.invokevirtual 21, 3) := by decide +kernel
theorem dL_about_7 : decode cL_about 7 = .ok (.i2l, 1) := by decide +kernel
theorem dL_about_8 : decode cL_about 8 = .ok (.lastore, 1) := by decide +kernel
theorem dL_about_9 : decode cL_about 9 = .ok (.goto 6, 3) := by decide +kernel
theorem dL_about_12 : decode cL_about 12 = .ok (.astore_n 3, 1) := by decide +kernel
theorem dL_about_13 : decode cL_about 13 = .ok (.iconst 1, 1) := by decide +kernel
theorem dL_about_14 : decode cL_about 14 = .ok (.ireturn, 1) := by decide +kernel
theorem dL_about_15 : decode cL_about 15 = .ok (.iconst 0, 1) := by decide +kernel
theorem dL_about_16 : decode cL_about 16 = .ok (.ireturn, 1) := by decide +kernel
set_option maxRecDepth 20000 in
theorem ggL_take_X4_take : GoodIn wsL_take wsX4_take := goodIn_ca (goodIn_ca (goodIn_r _ [7, 8, 9, 10, 11, 12, 13, 14, 15, 16, 17, 18, 19, 20, 21, 22, 23, 24, 25, 26, 27, 28, 29, 30, 31, 32, 33, 34, 35, 36, 37, 38, 39, 40, 41, 42, 43, 44, 45, 46, 47, 48, 49, 50, 51, 52] (by decide +kernel) (by decide +kernel)) (goodIn_sub (fun _ h => List.mem_cons_of_mem _ (List.mem_append_left _ (List.mem_append_right _ h))) (by decide +kernel))) (goodIn_sub (fun _ h => List.mem_cons_of_mem _ (List.mem_append_right _ h)) (by decide +kernel))
set_option maxRecDepth 20000 in
theorem gL_take_X4_take : GoodIn wsL_take (wsV RL 24 RX4 yX4_take wsX4_take) := goodIn_app (goodIn_of _ (by decide +kernel)) ggL_take_X4_take
theorem dL_take_0 : decode cL_take 0 = .ok (.aload_n 3, 1) := by decide +kernel
theorem dL_take_1 : decode cL_take 1 = .ok (.iconst 0, 1) := by decide +kernel
theorem dL_take_2 : decode cL_take 2 = .ok (.aload_n 0, 1) := by decide +kernel
theorem dL_take_3 : decode cL_take 3 = .ok (.iload_n 1, 1) := by decide +kernel
theorem dL_take_4 : decode cL_take 4 = .ok (.iload_n 2, 1) := by decide +kernel
theorem dL_take_5 : decode cL_take 5 = .ok (.invokevirtual 24, 3) := by decide +kernel
theorem dL_take_8 : decode cL_take 8 = .ok (.i2l, 1) := by decide +kernel
theorem dL_take_9 : decode cL_take 9 = .ok (.lastore, 1) := by decide +kernel
theorem dL_take_10 : decode cL_take 10 = .ok (.goto 11, 3) := by decide +kernel
theorem dL_take_13 : decode cL_take 13 = .ok (.astore 4, 2) := by decide +kernel
theorem dL_take_15 : decode cL_take 15 = .ok (.iconst 1, 1) := by decide +kernel
theorem dL_take_16 : decode cL_take 16 = .ok (.ireturn, 1) := by decide +kernel
theorem dL_take_17 : decode cL_take 17 = .ok (.astore 4, 2) := by decide +kernel
theorem dL_take_19 : decode cL_take 19 = .ok (.iconst 2, 1) := by decide +kernel
theorem dL_take_20 : decode cL_take 20 = .ok (.ireturn, 1) := by decide +kernel
theorem dL_take_21 : decode cL_take 21 = .ok (.iconst 0, 1) := by decide +kernel
theorem dL_take_22 : decode cL_take 22 = .ok (.ireturn, 1) := by decide +kernel
set_option maxRecDepth 20000 in
theorem ggL_line_X4_line : GoodIn wsL_line wsX4_line := goodIn_ca (goodIn_ca (goodIn_r _ [7, 8, 9, 10, 11, 12, 13, 14, 15, 16, 17, 18, 19, 20, 21, 22, 23, 24, 25, 26, 27, 28, 29, 30, 31, 32, 33, 34, 35, 36, 37, 38, 39, 40, 41, 42, 43, 44, 45, 46, 47, 48, 49, 50, 51, 52, 53, 54, 55, 56, 57, 58, 59, 60, 61, 62, 63, 64, 65, 66, 67, 68, 69, 70, 71, 72, 73, 74, 75, 76, 77, 78, 79, 80, 81, 82, 83, 84] (by decide +kernel) (by decide +kernel)) (goodIn_sub (fun _ h => List.mem_cons_of_mem _ (List.mem_append_left _ (List.mem_append_right _ h))) (by decide +kernel))) (goodIn_sub (fun _ h => List.mem_cons_of_mem _ (List.mem_append_right _ h)) (by decide +kernel))
set_option maxRecDepth 20000 in
theorem gL_line_X4_line : GoodIn wsL_line (wsV RL 30 RX4 yX4_line wsX4_line) := goodIn_app (goodIn_of _ (by decide +kernel)) ggL_line_X4_line
theorem dL_line_0 : decode cL_line 0 = .ok (.aload_n 3, 1) := by decide +kernel
theorem dL_line_1 : decode cL_line 1 = .ok (.iconst 0, 1) := by decide +kernel
theorem dL_line_2 : decode cL_line 2 = .ok (.aload_n 0, 1) := by decide +kernel
theorem dL_line_3 : decode cL_line 3 = .ok (.iload_n 1, 1) := by decide +kernel
theorem dL_line_4 : decode cL_line 4 = .ok (.iload_n 2, 1) := by decide +kernel
theorem dL_line_5 : decode cL_line 5 = .ok (.invokevirtual 30, 3) := by decide +kernel
theorem dL_line_8 : decode cL_line 8 = .ok (.i2l, 1) := by decide +kernel
theorem dL_line_9 : decode cL_line 9 = .ok (.lastore, 1) := by decide +kernel
theorem dL_line_10 : decode cL_line 10 = .ok (.goto 11, 3) := by decide +kernel
theorem dL_line_13 : decode cL_line 13 = .ok (.astore 4, 2) := by decide +kernel
theorem dL_line_15 : decode cL_line 15 = .ok (.iconst 1, 1) := by decide +kernel
theorem dL_line_16 : decode cL_line 16 = .ok (.ireturn, 1) := by decide +kernel
theorem dL_line_17 : decode cL_line 17 = .ok (.astore 4, 2) := by decide +kernel
theorem dL_line_19 : decode cL_line 19 = .ok (.iconst 2, 1) := by decide +kernel
theorem dL_line_20 : decode cL_line 20 = .ok (.ireturn, 1) := by decide +kernel
theorem dL_line_21 : decode cL_line 21 = .ok (.iconst 0, 1) := by decide +kernel
theorem dL_line_22 : decode cL_line 22 = .ok (.ireturn, 1) := by decide +kernel
set_option maxRecDepth 20000 in
theorem ggL_setting_X4_setting : GoodIn wsL_setting wsX4_setting := goodIn_ca (goodIn_r _ [6, 7, 8, 9, 10, 11, 12, 13, 14, 15, 16, 17, 18, 19, 20, 21, 22, 23, 24, 25] (by decide +kernel) (by decide +kernel)) (goodIn_sub (fun _ h => List.mem_cons_of_mem _ (List.mem_append_right _ h)) (by decide +kernel))
set_option maxRecDepth 20000 in
theorem gL_setting_X4_setting : GoodIn wsL_setting (wsV RL 33 RX4 yX4_setting wsX4_setting) := goodIn_app (goodIn_of _ (by decide +kernel)) ggL_setting_X4_setting
theorem dL_setting_0 : decode cL_setting 0 = .ok (.aload_n 2, 1) := by decide +kernel
theorem dL_setting_1 : decode cL_setting 1 = .ok (.iconst 0, 1) := by decide +kernel
theorem dL_setting_2 : decode cL_setting 2 = .ok (.aload_n 0, 1) := by decide +kernel
theorem dL_setting_3 : decode cL_setting 3 = .ok (.iload_n 1, 1) := by decide +kernel
theorem dL_setting_4 : decode cL_setting 4 = .ok (.invokevirtual 33, 3) := by decide +kernel
theorem dL_setting_7 : decode cL_setting 7 = .ok (.i2l, 1) := by decide +kernel
theorem dL_setting_8 : decode cL_setting 8 = .ok (.lastore, 1) := by decide +kernel
theorem dL_setting_9 : decode cL_setting 9 = .ok (.goto 6, 3) := by decide +kernel
theorem dL_setting_12 : decode cL_setting 12 = .ok (.astore_n 3, 1) := by decide +kernel
theorem dL_setting_13 : decode cL_setting 13 = .ok (.iconst 1, 1) := by decide +kernel
theorem dL_setting_14 : decode cL_setting 14 = .ok (.ireturn, 1) := by decide +kernel
theorem dL_setting_15 : decode cL_setting 15 = .ok (.iconst 0, 1) := by decide +kernel
theorem dL_setting_16 : decode cL_setting 16 = .ok (.ireturn, 1) := by decide +kernel
set_option maxRecDepth 20000 in
theorem ggL_call_X4_call : GoodIn wsL_call wsX4_call := goodIn_ca (goodIn_r _ [6, 7, 8, 9, 10, 11, 5, 12, 13, 14, 15, 16, 17, 18, 19, 20, 21, 22, 23, 24, 25, 26, 27, 28, 29, 30, 31, 32, 33, 34, 35, 36, 37, 38, 39, 40, 41, 42, 43, 44, 45, 46, 47, 48, 49, 50, 51, 52, 53, 54, 55, 56, 57, 58, 59, 60, 61, 62, 63, 64] (by decide +kernel) (by decide +kernel)) (goodIn_sub (fun _ h => List.mem_cons_of_mem _ (List.mem_append_right _ h)) (by decide +kernel))
set_option maxRecDepth 20000 in
theorem gL_call_X4_call : GoodIn wsL_call (wsV RL 36 RX4 yX4_call wsX4_call) := goodIn_app (goodIn_of _ (by decide +kernel)) ggL_call_X4_call
theorem dL_call_0 : decode cL_call 0 = .ok (.aload_n 3, 1) := by decide +kernel
theorem dL_call_1 : decode cL_call 1 = .ok (.iconst 0, 1) := by decide +kernel
theorem dL_call_2 : decode cL_call 2 = .ok (.aload_n 0, 1) := by decide +kernel
theorem dL_call_3 : decode cL_call 3 = .ok (.iload_n 1, 1) := by decide +kernel
theorem dL_call_4 : decode cL_call 4 = .ok (.iload_n 2, 1) := by decide +kernel
theorem dL_call_5 : decode cL_call 5 = .ok (.invokevirtual 36, 3) := by decide +kernel
theorem dL_call_8 : decode cL_call 8 = .ok (.i2l, 1) := by decide +kernel
theorem dL_call_9 : decode cL_call 9 = .ok (.lastore, 1) := by decide +kernel
theorem dL_call_10 : decode cL_call 10 = .ok (.goto 7, 3) := by decide +kernel
theorem dL_call_13 : decode cL_call 13 = .ok (.astore 4, 2) := by decide +kernel
theorem dL_call_15 : decode cL_call 15 = .ok (.iconst 1, 1) := by decide +kernel
theorem dL_call_16 : decode cL_call 16 = .ok (.ireturn, 1) := by decide +kernel
theorem dL_call_17 : decode cL_call 17 = .ok (.iconst 0, 1) := by decide +kernel
theorem dL_call_18 : decode cL_call 18 = .ok (.ireturn, 1) := by decide +kernel
set_option maxRecDepth 20000 in
theorem ggL_board_X4_board : GoodIn wsL_board wsX4_board := goodIn_ca (goodIn_r _ [6, 7, 8, 9, 10, 11, 5, 12, 13, 14, 15, 16, 17, 18, 19, 20, 21, 22, 23, 24, 25, 26, 27, 28, 29, 30, 31, 32, 33, 34, 35, 36, 37, 38, 39, 40, 41, 42, 43, 44, 45, 46, 47, 48, 49, 50, 51, 52, 53, 54, 55, 56, 57, 58, 59, 60, 61, 62, 63, 64, 65, 66, 67, 68] (by decide +kernel) (by decide +kernel)) (goodIn_sub (fun _ h => List.mem_cons_of_mem _ (List.mem_append_right _ h)) (by decide +kernel))
set_option maxRecDepth 20000 in
theorem gL_board_X4_board : GoodIn wsL_board (wsV RL 39 RX4 yX4_board wsX4_board) := goodIn_app (goodIn_of _ (by decide +kernel)) ggL_board_X4_board
theorem dL_board_0 : decode cL_board 0 = .ok (.aload 4, 2) := by decide +kernel
theorem dL_board_2 : decode cL_board 2 = .ok (.iconst 0, 1) := by decide +kernel
theorem dL_board_3 : decode cL_board 3 = .ok (.aload_n 0, 1) := by decide +kernel
theorem dL_board_4 : decode cL_board 4 = .ok (.iload_n 1, 1) := by decide +kernel
theorem dL_board_5 : decode cL_board 5 = .ok (.iload_n 2, 1) := by decide +kernel
theorem dL_board_6 : decode cL_board 6 = .ok (.iload_n 3, 1) := by decide +kernel
theorem dL_board_7 : decode cL_board 7 = .ok (.invokevirtual 39, 3) := by decide +kernel
theorem dL_board_10 : decode cL_board 10 = .ok (.i2l, 1) := by decide +kernel
theorem dL_board_11 : decode cL_board 11 = .ok (.lastore, 1) := by decide +kernel
theorem dL_board_12 : decode cL_board 12 = .ok (.goto 7, 3) := by decide +kernel
theorem dL_board_15 : decode cL_board 15 = .ok (.astore 5, 2) := by decide +kernel
theorem dL_board_17 : decode cL_board 17 = .ok (.iconst 1, 1) := by decide +kernel
theorem dL_board_18 : decode cL_board 18 = .ok (.ireturn, 1) := by decide +kernel
theorem dL_board_19 : decode cL_board 19 = .ok (.iconst 0, 1) := by decide +kernel
theorem dL_board_20 : decode cL_board 20 = .ok (.ireturn, 1) := by decide +kernel
set_option maxRecDepth 20000 in
theorem ggL_shoot_X4_shoot : GoodIn wsL_shoot wsX4_shoot := goodIn_ca (goodIn_ca (goodIn_r _ [7, 8, 9, 10, 11, 12, 13, 14, 6, 15, 16, 17, 18, 19, 20, 21, 22, 23, 24, 25, 26, 27, 28, 29, 30, 31, 32, 33, 34, 35, 36, 37, 38, 39, 40, 41, 42, 43, 44, 45, 46, 47, 48, 49, 50, 51, 52, 53, 54, 55, 56, 57, 58, 59, 60, 61, 62, 63, 64, 65, 66, 67, 68, 69, 70, 71, 72, 73, 74, 75, 76, 77, 78, 79, 80, 81, 82, 83, 84, 85, 86, 87, 88, 89, 90] (by decide +kernel) (by decide +kernel)) (goodIn_sub (fun _ h => List.mem_cons_of_mem _ (List.mem_append_left _ (List.mem_append_right _ h))) (by decide +kernel))) (goodIn_sub (fun _ h => List.mem_cons_of_mem _ (List.mem_append_right _ h)) (by decide +kernel))
set_option maxRecDepth 20000 in
theorem gL_shoot_X4_shoot : GoodIn wsL_shoot (wsV RL 43 RX4 yX4_shoot wsX4_shoot) := goodIn_app (goodIn_of _ (by decide +kernel)) ggL_shoot_X4_shoot
theorem dL_shoot_0 : decode cL_shoot 0 = .ok (.aload_n 3, 1) := by decide +kernel
theorem dL_shoot_1 : decode cL_shoot 1 = .ok (.iconst 0, 1) := by decide +kernel
theorem dL_shoot_2 : decode cL_shoot 2 = .ok (.aload_n 0, 1) := by decide +kernel
theorem dL_shoot_3 : decode cL_shoot 3 = .ok (.iload_n 1, 1) := by decide +kernel
theorem dL_shoot_4 : decode cL_shoot 4 = .ok (.iload_n 2, 1) := by decide +kernel
theorem dL_shoot_5 : decode cL_shoot 5 = .ok (.invokevirtual 43, 3) := by decide +kernel
theorem dL_shoot_8 : decode cL_shoot 8 = .ok (.i2l, 1) := by decide +kernel
theorem dL_shoot_9 : decode cL_shoot 9 = .ok (.lastore, 1) := by decide +kernel
theorem dL_shoot_10 : decode cL_shoot 10 = .ok (.goto 11, 3) := by decide +kernel
theorem dL_shoot_13 : decode cL_shoot 13 = .ok (.astore 4, 2) := by decide +kernel
theorem dL_shoot_15 : decode cL_shoot 15 = .ok (.iconst 1, 1) := by decide +kernel
theorem dL_shoot_16 : decode cL_shoot 16 = .ok (.ireturn, 1) := by decide +kernel
theorem dL_shoot_17 : decode cL_shoot 17 = .ok (.astore 4, 2) := by decide +kernel
theorem dL_shoot_19 : decode cL_shoot 19 = .ok (.iconst 2, 1) := by decide +kernel
theorem dL_shoot_20 : decode cL_shoot 20 = .ok (.ireturn, 1) := by decide +kernel
theorem dL_shoot_21 : decode cL_shoot 21 = .ok (.iconst 0, 1) := by decide +kernel
theorem dL_shoot_22 : decode cL_shoot 22 = .ok (.ireturn, 1) := by decide +kernel
set_option maxRecDepth 20000 in
theorem ggL_circle_X4_circle : GoodIn wsL_circle wsX4_circle := goodIn_ca (goodIn_r _ [6, 7, 8, 9, 10, 11, 12, 13, 14, 15, 16, 17, 18, 5, 19, 20, 21, 22, 23, 24, 25, 26, 27, 28, 29, 30, 31, 32, 33, 34, 35, 36, 37, 38, 39, 40, 41, 42, 43, 44, 45, 46, 47, 48, 49, 50, 51, 52, 53, 54, 55, 56, 57, 58, 59, 60, 61, 62, 63, 64, 65, 66] (by decide +kernel) (by decide +kernel)) (goodIn_sub (fun _ h => List.mem_cons_of_mem _ (List.mem_append_right _ h)) (by decide +kernel))
set_option maxRecDepth 20000 in
theorem gL_circle_X4_circle : GoodIn wsL_circle (wsV RL 47 RX4 yX4_circle wsX4_circle) := goodIn_app (goodIn_of _ (by decide +kernel)) ggL_circle_X4_circle
theorem dL_circle_0 : decode cL_circle 0 = .ok (.aload_n 3, 1) := by decide +kernel
theorem dL_circle_1 : decode cL_circle 1 = .ok (.iconst 0, 1) := by decide +kernel
theorem dL_circle_2 : decode cL_circle 2 = .ok (.aload_n 0, 1) := by decide +kernel
theorem dL_circle_3 : decode cL_circle 3 = .ok (.iload_n 1, 1) := by decide +kernel
theorem dL_circle_4 : decode cL_circle 4 = .ok (.iload_n 2, 1) := by decide +kernel
theorem dL_circle_5 : decode cL_circle 5 = .ok (.invokevirtual 47, 3) := by decide +kernel
theorem dL_circle_8 : decode cL_circle 8 = .ok (.i2l, 1) := by decide +kernel
theorem dL_circle_9 : decode cL_circle 9 = .ok (.lastore, 1) := by decide +kernel
theorem dL_circle_10 : decode cL_circle 10 = .ok (.goto 7, 3) := by decide +kernel
theorem dL_circle_13 : decode cL_circle 13 = .ok (.astore 4, 2) := by decide +kernel
theorem dL_circle_15 : decode cL_circle 15 = .ok (.iconst 1, 1) := by decide +kernel
theorem dL_circle_16 : decode cL_circle 16 = .ok (.ireturn, 1) := by decide +kernel
theorem dL_circle_17 : decode cL_circle 17 = .ok (.iconst 0, 1) := by decide +kernel
theorem dL_circle_18 : decode cL_circle 18 = .ok (.ireturn, 1) := by decide +kernel
set_option maxRecDepth 20000 in
theorem ggL_falseStart_X4_falseStart : GoodIn wsL_falseStart wsX4_falseStart := goodIn_ca (goodIn_r _ [6, 7, 8, 9, 10, 11, 12, 13, 14, 15, 16, 17, 18, 5, 19, 20, 21, 22, 23, 24, 25, 26, 27, 28, 29, 30, 31, 32, 33, 34, 35, 36, 37, 38, 39, 40, 41, 42, 43, 44, 45, 46, 47, 48, 49, 50, 51, 52, 53, 54, 55, 56, 57, 58, 59, 60, 61, 62, 63, 64, 65, 66, 67, 68, 69, 70, 71, 72, 73, 74, 75, 76, 77, 78, 79, 80, 81, 82, 83, 84, 85, 86, 87, 88, 89, 90, 91, 92, 93] (by decide +kernel) (by decide +kernel)) (goodIn_sub (fun _ h => List.mem_cons_of_mem _ (List.mem_append_right _ h)) (by decide +kernel))
set_option maxRecDepth 20000 in
theorem gL_falseStart_X4_falseStart : GoodIn wsL_falseStart (wsV RL 50 RX4 yX4_falseStart wsX4_falseStart) := goodIn_app (goodIn_of _ (by decide +kernel)) ggL_falseStart_X4_falseStart
theorem dL_falseStart_0 : decode cL_falseStart 0 = .ok (.aload_n 3, 1) := by decide +kernel
theorem dL_falseStart_1 : decode cL_falseStart 1 = .ok (.iconst 0, 1) := by decide +kernel
theorem dL_falseStart_2 : decode cL_falseStart 2 = .ok (.aload_n 0, 1) := by decide +kernel
theorem dL_falseStart_3 : decode cL_falseStart 3 = .ok (.iload_n 1, 1) := by decide +kernel
theorem dL_falseStart_4 : decode cL_falseStart 4 = .ok (.iload_n 2, 1) := by decide +kernel
theorem dL_falseStart_5 : decode cL_falseStart 5 = .ok (.invokevirtual 50, 3) := by decide +kernel
theorem dL_falseStart_8 : decode cL_falseStart 8 = .ok (.i2l, 1) := by decide +kernel
theorem dL_falseStart_9 : decode cL_falseStart 9 = .ok (.lastore, 1) := by decide +kernel
theorem dL_falseStart_10 : decode cL_falseStart 10 = .ok (.goto 7, 3) := by decide +kernel
theorem dL_falseStart_13 : decode cL_falseStart 13 = .ok (.astore 4, 2) := by decide +kernel
theorem dL_falseStart_15 : decode cL_falseStart 15 = .ok (.iconst 1, 1) := by decide +kernel
theorem dL_falseStart_16 : decode cL_falseStart 16 = .ok (.ireturn, 1) := by decide +kernel
theorem dL_falseStart_17 : decode cL_falseStart 17 = .ok (.iconst 0, 1) := by decide +kernel
theorem dL_falseStart_18 : decode cL_falseStart 18 = .ok (.ireturn, 1) := by decide +kernel
set_option maxRecDepth 20000 in
theorem ggL_fix_X4_fix : GoodIn wsL_fix wsX4_fix := goodIn_ca (goodIn_r _ [6, 7, 8, 9, 10, 11, 12, 13, 14, 15, 16, 17, 18, 5, 19, 20, 21, 22, 23, 24, 25, 26, 27, 28, 29, 30, 31, 32, 33, 34, 35, 36, 37, 38, 39, 40, 41, 42, 43, 44, 45, 46, 47, 48, 49, 50, 51, 52, 53, 54, 55, 56, 57, 58, 59, 60, 61, 62, 63, 64, 65, 66, 67, 68, 69, 70, 71, 72, 73, 74] (by decide +kernel) (by decide +kernel)) (goodIn_sub (fun _ h => List.mem_cons_of_mem _ (List.mem_append_right _ h)) (by decide +kernel))
set_option maxRecDepth 20000 in
theorem gL_fix_X4_fix : GoodIn wsL_fix (wsV RL 53 RX4 yX4_fix wsX4_fix) := goodIn_app (goodIn_of _ (by decide +kernel)) ggL_fix_X4_fix
theorem dL_fix_0 : decode cL_fix 0 = .ok (.aload_n 2, 1) := by decide +kernel
theorem dL_fix_1 : decode cL_fix 1 = .ok (.iconst 0, 1) := by decide +kernel
theorem dL_fix_2 : decode cL_fix 2 = .ok (.aload_n 0, 1) := by decide +kernel
theorem dL_fix_3 : decode cL_fix 3 = .ok (.iload_n 1, 1) := by decide +kernel
theorem dL_fix_4 : decode cL_fix 4 = .ok (.invokevirtual 53, 3) := by decide +kernel
theorem dL_fix_7 : decode cL_fix 7 = .ok (.i2l, 1) := by decide +kernel
theorem dL_fix_8 : decode cL_fix 8 = .ok (.lastore, 1) := by decide +kernel
theorem dL_fix_9 : decode cL_fix 9 = .ok (.goto 6, 3) := by decide +kernel
theorem dL_fix_12 : decode cL_fix 12 = .ok (.astore_n 3, 1) := by decide +kernel
theorem dL_fix_13 : decode cL_fix 13 = .ok (.iconst 1, 1) := by decide +kernel
theorem dL_fix_14 : decode cL_fix 14 = .ok (.ireturn, 1) := by decide +kernel
theorem dL_fix_15 : decode cL_fix 15 = .ok (.iconst 0, 1) := by decide +kernel
theorem dL_fix_16 : decode cL_fix 16 = .ok (.ireturn, 1) := by decide +kernel
set_option maxRecDepth 20000 in
theorem ggL_off_X4_off : GoodIn wsL_off wsX4_off := goodIn_ca (goodIn_r _ [6, 7, 8, 9, 10, 11, 12, 5, 13, 14, 15, 16, 17, 18, 19, 20, 21, 22, 23, 24, 25, 26, 27, 28, 29, 30, 31, 32, 33, 34, 35, 36, 37, 38, 39, 40, 41, 42, 43, 44, 45] (by decide +kernel) (by decide +kernel)) (goodIn_sub (fun _ h => List.mem_cons_of_mem _ (List.mem_append_right _ h)) (by decide +kernel))
set_option maxRecDepth 20000 in
theorem gL_off_X4_off : GoodIn wsL_off (wsV RL 56 RX4 yX4_off wsX4_off) := goodIn_app (goodIn_of _ (by decide +kernel)) ggL_off_X4_off
theorem dL_off_0 : decode cL_off 0 = .ok (.aload_n 2, 1) := by decide +kernel
theorem dL_off_1 : decode cL_off 1 = .ok (.iconst 0, 1) := by decide +kernel
theorem dL_off_2 : decode cL_off 2 = .ok (.aload_n 0, 1) := by decide +kernel
theorem dL_off_3 : decode cL_off 3 = .ok (.iload_n 1, 1) := by decide +kernel
theorem dL_off_4 : decode cL_off 4 = .ok (.invokevirtual 56, 3) := by decide +kernel
theorem dL_off_7 : decode cL_off 7 = .ok (.i2l, 1) := by decide +kernel
theorem dL_off_8 : decode cL_off 8 = .ok (.lastore, 1) := by decide +kernel
theorem dL_off_9 : decode cL_off 9 = .ok (.goto 6, 3) := by decide +kernel
theorem dL_off_12 : decode cL_off 12 = .ok (.astore_n 3, 1) := by decide +kernel
theorem dL_off_13 : decode cL_off 13 = .ok (.iconst 1, 1) := by decide +kernel
theorem dL_off_14 : decode cL_off 14 = .ok (.ireturn, 1) := by decide +kernel
theorem dL_off_15 : decode cL_off 15 = .ok (.iconst 0, 1) := by decide +kernel
theorem dL_off_16 : decode cL_off 16 = .ok (.ireturn, 1) := by decide +kernel
set_option maxRecDepth 20000 in
theorem ggL_set_X4_set : GoodIn wsL_set wsX4_set := goodIn_ca (goodIn_r _ [6, 7, 8, 9, 10, 11, 5, 12, 13, 14, 15, 16, 17, 18, 19, 20, 21, 22, 23, 24, 25, 26, 27, 28, 29, 30, 31, 32, 33, 34, 35, 36, 37, 38, 39, 40, 41, 42, 43, 44, 45, 46, 47, 48, 49, 50, 51, 52, 53, 54] (by decide +kernel) (by decide +kernel)) (goodIn_sub (fun _ h => List.mem_cons_of_mem _ (List.mem_append_right _ h)) (by decide +kernel))
set_option maxRecDepth 20000 in
theorem gL_set_X4_set : GoodIn wsL_set (wsV RL 59 RX4 yX4_set wsX4_set) := goodIn_app (goodIn_of _ (by decide +kernel)) ggL_set_X4_set
theorem dL_set_0 : decode cL_set 0 = .ok (.aload_n 3, 1) := by decide +kernel
theorem dL_set_1 : decode cL_set 1 = .ok (.iconst 0, 1) := by decide +kernel
theorem dL_set_2 : decode cL_set 2 = .ok (.aload_n 0, 1) := by decide +kernel
theorem dL_set_3 : decode cL_set 3 = .ok (.iload_n 1, 1) := by decide +kernel
theorem dL_set_4 : decode cL_set 4 = .ok (.iload_n 2, 1) := by decide +kernel
theorem dL_set_5 : decode cL_set 5 = .ok (.invokevirtual 59, 3) := by decide +kernel
theorem dL_set_8 : decode cL_set 8 = .ok (.i2l, 1) := by decide +kernel
theorem dL_set_9 : decode cL_set 9 = .ok (.lastore, 1) := by decide +kernel
theorem dL_set_10 : decode cL_set 10 = .ok (.goto 7, 3) := by decide +kernel
theorem dL_set_13 : decode cL_set 13 = .ok (.astore 4, 2) := by decide +kernel
theorem dL_set_15 : decode cL_set 15 = .ok (.iconst 1, 1) := by decide +kernel
theorem dL_set_16 : decode cL_set 16 = .ok (.ireturn, 1) := by decide +kernel
theorem dL_set_17 : decode cL_set 17 = .ok (.iconst 0, 1) := by decide +kernel
theorem dL_set_18 : decode cL_set 18 = .ok (.ireturn, 1) := by decide +kernel
set_option maxRecDepth 20000 in
theorem ggL_undo_X4_undo : GoodIn wsL_undo wsX4_undo := goodIn_ca (goodIn_r _ [6, 7, 8, 9, 10, 11, 12, 13, 14, 15, 16, 17, 18, 19, 20, 21, 22, 23, 24, 25, 26, 27, 28, 29, 30, 31, 32, 33, 34, 35] (by decide +kernel) (by decide +kernel)) (goodIn_sub (fun _ h => List.mem_cons_of_mem _ (List.mem_append_right _ h)) (by decide +kernel))
set_option maxRecDepth 20000 in
theorem gL_undo_X4_undo : GoodIn wsL_undo (wsV RL 62 RX4 yX4_undo wsX4_undo) := goodIn_app (goodIn_of _ (by decide +kernel)) ggL_undo_X4_undo
theorem dL_undo_0 : decode cL_undo 0 = .ok (.aload_n 1, 1) := by decide +kernel
theorem dL_undo_1 : decode cL_undo 1 = .ok (.iconst 0, 1) := by decide +kernel
theorem dL_undo_2 : decode cL_undo 2 = .ok (.aload_n 0, 1) := by decide +kernel
theorem dL_undo_3 : decode cL_undo 3 = .ok (.invokevirtual 62, 3) := by decide +kernel
theorem dL_undo_6 : decode cL_undo 6 = .ok (.i2l, 1) := by decide +kernel
theorem dL_undo_7 : decode cL_undo 7 = .ok (.lastore, 1) := by decide +kernel
theorem dL_undo_8 : decode cL_undo 8 = .ok (.goto 6, 3) := by decide +kernel
theorem dL_undo_11 : decode cL_undo 11 = .ok (.astore_n 2, 1) := by decide +kernel
theorem dL_undo_12 : decode cL_undo 12 = .ok (.iconst 1, 1) := by decide +kernel
theorem dL_undo_13 : decode cL_undo 13 = .ok (.ireturn, 1) := by decide +kernel
theorem dL_undo_14 : decode cL_undo 14 = .ok (.iconst 0, 1) := by decide +kernel
theorem dL_undo_15 : decode cL_undo 15 = .ok (.ireturn, 1) := by decide +kernel
set_option maxRecDepth 20000 in
theorem ggL_synced_X4_synced : GoodIn wsL_synced wsX4_synced := goodIn_ca (goodIn_r _ [6, 7, 8, 9, 10, 11, 12, 13, 14, 15, 16, 17, 18, 19, 20, 21, 22, 23, 24, 25, 26, 27, 28, 29, 30, 31, 32, 33, 34, 35, 36, 37, 38, 39, 40, 41, 42, 43, 44, 45] (by decide +kernel) (by decide +kernel)) (goodIn_sub (fun _ h => List.mem_cons_of_mem _ (List.mem_append_right _ h)) (by decide +kernel))
set_option maxRecDepth 20000 in
theorem gL_synced_X4_synced : GoodIn wsL_synced (wsV RL 65 RX4 yX4_synced wsX4_synced) := goodIn_app (goodIn_of _ (by decide +kernel)) ggL_synced_X4_synced
theorem dL_synced_0 : decode cL_synced 0 = .ok (.aload_n 2, 1) := by decide +kernel
theorem dL_synced_1 : decode cL_synced 1 = .ok (.iconst 0, 1) := by decide +kernel
theorem dL_synced_2 : decode cL_synced 2 = .ok (.aload_n 0, 1) := by decide +kernel
theorem dL_synced_3 : decode cL_synced 3 = .ok (.iload_n 1, 1) := by decide +kernel
theorem dL_synced_4 : decode cL_synced 4 = .ok (.invokevirtual 65, 3) := by decide +kernel
theorem dL_synced_7 : decode cL_synced 7 = .ok (.i2l, 1) := by decide +kernel
theorem dL_synced_8 : decode cL_synced 8 = .ok (.lastore, 1) := by decide +kernel
theorem dL_synced_9 : decode cL_synced 9 = .ok (.goto 6, 3) := by decide +kernel
theorem dL_synced_12 : decode cL_synced 12 = .ok (.astore_n 3, 1) := by decide +kernel
theorem dL_synced_13 : decode cL_synced 13 = .ok (.iconst 1, 1) := by decide +kernel
theorem dL_synced_14 : decode cL_synced 14 = .ok (.ireturn, 1) := by decide +kernel
theorem dL_synced_15 : decode cL_synced 15 = .ok (.iconst 0, 1) := by decide +kernel
theorem dL_synced_16 : decode cL_synced 16 = .ok (.ireturn, 1) := by decide +kernel
set_option maxRecDepth 20000 in
theorem ggL_rolls_X4_rolls : GoodIn wsL_rolls wsX4_rolls := goodIn_ca (goodIn_r _ [6, 7, 8, 9, 10, 11, 12, 13, 14, 15, 5, 16, 17, 18, 19, 20, 21, 22, 23, 24, 25, 26, 27, 28, 29, 30, 31, 32, 33, 34, 35, 36, 37, 38, 39, 40] (by decide +kernel) (by decide +kernel)) (goodIn_sub (fun _ h => List.mem_cons_of_mem _ (List.mem_append_right _ h)) (by decide +kernel))
set_option maxRecDepth 20000 in
theorem gL_rolls_X4_rolls : GoodIn wsL_rolls (wsV RL 68 RX4 yX4_rolls wsX4_rolls) := goodIn_app (goodIn_of _ (by decide +kernel)) ggL_rolls_X4_rolls
theorem dL_rolls_0 : decode cL_rolls 0 = .ok (.aload_n 3, 1) := by decide +kernel
theorem dL_rolls_1 : decode cL_rolls 1 = .ok (.iconst 0, 1) := by decide +kernel
theorem dL_rolls_2 : decode cL_rolls 2 = .ok (.aload_n 0, 1) := by decide +kernel
theorem dL_rolls_3 : decode cL_rolls 3 = .ok (.iload_n 1, 1) := by decide +kernel
theorem dL_rolls_4 : decode cL_rolls 4 = .ok (.iload_n 2, 1) := by decide +kernel
theorem dL_rolls_5 : decode cL_rolls 5 = .ok (.invokevirtual 68, 3) := by decide +kernel
theorem dL_rolls_8 : decode cL_rolls 8 = .ok (.i2l, 1) := by decide +kernel
theorem dL_rolls_9 : decode cL_rolls 9 = .ok (.lastore, 1) := by decide +kernel
theorem dL_rolls_10 : decode cL_rolls 10 = .ok (.goto 7, 3) := by decide +kernel
theorem dL_rolls_13 : decode cL_rolls 13 = .ok (.astore 4, 2) := by decide +kernel
theorem dL_rolls_15 : decode cL_rolls 15 = .ok (.iconst 1, 1) := by decide +kernel
theorem dL_rolls_16 : decode cL_rolls 16 = .ok (.ireturn, 1) := by decide +kernel
theorem dL_rolls_17 : decode cL_rolls 17 = .ok (.iconst 0, 1) := by decide +kernel
theorem dL_rolls_18 : decode cL_rolls 18 = .ok (.ireturn, 1) := by decide +kernel
set_option maxRecDepth 20000 in
theorem ggL_ifFalse_X4_ifFalse : GoodIn wsL_ifFalse wsX4_ifFalse := goodIn_ca (goodIn_r _ [6, 7, 8, 9, 10, 11, 12, 13, 14, 15, 16, 17, 18, 19, 20, 21, 22, 23, 24, 25, 26, 27, 28, 29, 30, 31, 32, 33, 34, 35, 36, 37, 38, 39, 40, 41, 42, 43, 44, 45, 46, 47, 48, 49, 50, 51, 52, 53, 54, 55, 56, 57, 58, 59, 60, 61, 62, 63, 64, 65, 66, 67, 68, 69, 70, 71, 72] (by decide +kernel) (by decide +kernel)) (goodIn_sub (fun _ h => List.mem_cons_of_mem _ (List.mem_append_right _ h)) (by decide +kernel))
set_option maxRecDepth 20000 in
theorem gL_ifFalse_X4_ifFalse : GoodIn wsL_ifFalse (wsV RL 71 RX4 yX4_ifFalse wsX4_ifFalse) := goodIn_app (goodIn_of _ (by decide +kernel)) ggL_ifFalse_X4_ifFalse
theorem dL_ifFalse_0 : decode cL_ifFalse 0 = .ok (.aload_n 2, 1) := by decide +kernel
theorem dL_ifFalse_1 : decode cL_ifFalse 1 = .ok (.iconst 0, 1) := by decide +kernel
theorem dL_ifFalse_2 : decode cL_ifFalse 2 = .ok (.aload_n 0, 1) := by decide +kernel
theorem dL_ifFalse_3 : decode cL_ifFalse 3 = .ok (.iload_n 1, 1) := by decide +kernel
theorem dL_ifFalse_4 : decode cL_ifFalse 4 = .ok (.invokevirtual 71, 3) := by decide +kernel
theorem dL_ifFalse_7 : decode cL_ifFalse 7 = .ok (.i2l, 1) := by decide +kernel
theorem dL_ifFalse_8 : decode cL_ifFalse 8 = .ok (.lastore, 1) := by decide +kernel
theorem dL_ifFalse_9 : decode cL_ifFalse 9 = .ok (.goto 6, 3) := by decide +kernel
theorem dL_ifFalse_12 : decode cL_ifFalse 12 = .ok (.astore_n 3, 1) := by decide +kernel
theorem dL_ifFalse_13 : decode cL_ifFalse 13 = .ok (.iconst 1, 1) := by decide +kernel
theorem dL_ifFalse_14 : decode cL_ifFalse 14 = .ok (.ireturn, 1) := by decide +kernel
theorem dL_ifFalse_15 : decode cL_ifFalse 15 = .ok (.iconst 0, 1) := by decide +kernel
theorem dL_ifFalse_16 : decode cL_ifFalse 16 = .ok (.ireturn, 1) := by decide +kernel
set_option maxRecDepth 20000 in
theorem ggL_scene_X4_scene : GoodIn wsL_scene wsX4_scene := goodIn_ca (goodIn_r _ [6, 7, 8, 9, 10, 11, 12, 13, 14, 15, 16, 17, 18, 19, 20, 21, 22, 23, 24, 25, 26, 27, 28, 29, 30, 31, 32, 33, 34, 35, 36, 37, 38, 39, 40] (by decide +kernel) (by decide +kernel)) (goodIn_sub (fun _ h => List.mem_cons_of_mem _ (List.mem_append_right _ h)) (by decide +kernel))
set_option maxRecDepth 20000 in
theorem gL_scene_X4_scene : GoodIn wsL_scene (wsV RL 74 RX4 yX4_scene wsX4_scene) := goodIn_app (goodIn_of _ (by decide +kernel)) ggL_scene_X4_scene
theorem dL_scene_0 : decode cL_scene 0 = .ok (.aload_n 3, 1) := by decide +kernel
theorem dL_scene_1 : decode cL_scene 1 = .ok (.iconst 0, 1) := by decide +kernel
theorem dL_scene_2 : decode cL_scene 2 = .ok (.aload_n 0, 1) := by decide +kernel
theorem dL_scene_3 : decode cL_scene 3 = .ok (.iload_n 1, 1) := by decide +kernel
theorem dL_scene_4 : decode cL_scene 4 = .ok (.iload_n 2, 1) := by decide +kernel
theorem dL_scene_5 : decode cL_scene 5 = .ok (.invokevirtual 74, 3) := by decide +kernel
theorem dL_scene_8 : decode cL_scene 8 = .ok (.i2l, 1) := by decide +kernel
theorem dL_scene_9 : decode cL_scene 9 = .ok (.lastore, 1) := by decide +kernel
theorem dL_scene_10 : decode cL_scene 10 = .ok (.goto 7, 3) := by decide +kernel
theorem dL_scene_13 : decode cL_scene 13 = .ok (.astore 4, 2) := by decide +kernel
theorem dL_scene_15 : decode cL_scene 15 = .ok (.iconst 1, 1) := by decide +kernel
theorem dL_scene_16 : decode cL_scene 16 = .ok (.ireturn, 1) := by decide +kernel
theorem dL_scene_17 : decode cL_scene 17 = .ok (.iconst 0, 1) := by decide +kernel
theorem dL_scene_18 : decode cL_scene 18 = .ok (.ireturn, 1) := by decide +kernel
set_option maxRecDepth 20000 in
theorem ggL_runScript_X4_runScript : GoodIn wsL_runScript wsX4_runScript := goodIn_ca (goodIn_r _ [6, 7, 8, 9, 10, 11, 12, 13, 5, 14, 15, 16, 17, 18, 19, 20, 21, 22, 23, 24, 25, 26, 27, 28, 29, 30, 31, 32, 33, 34, 35, 36, 37, 38, 39, 40, 41, 42, 43, 44, 45, 46, 47, 48, 49, 50, 51, 52, 53, 54, 55, 56, 57, 58, 59, 60, 61, 62, 63, 64, 65, 66, 67, 68, 69, 70, 71, 72, 73, 74, 75, 76, 77, 78, 79, 80, 81, 82, 83, 84, 85, 86, 87, 88, 89, 90, 91, 92, 93, 94, 95, 96, 97, 98, 99, 100, 101, 102, 103, 104, 105, 106, 107, 108, 109, 110, 111, 112, 113, 114, 115, 116, 117, 118, 119, 120, 121, 122, 123, 124, 125, 126, 127, 128, 129, 130, 131, 132, 133, 134, 135, 136, 137, 138, 139, 140, 141, 142, 143, 144, 145, 146, 147, 148, 149, 150, 151, 152, 153, 154, 155, 156, 157, 158, 159, 160, 161, 162, 163, 164, 165, 166, 167, 168, 169, 170, 171, 172] (by decide +kernel) (by decide +kernel)) (goodIn_sub (fun _ h => List.mem_cons_of_mem _ (List.mem_append_right _ h)) (by decide +kernel))
set_option maxRecDepth 20000 in
theorem gL_runScript_X4_runScript : GoodIn wsL_runScript (wsV RL 77 RX4 yX4_runScript wsX4_runScript) := goodIn_app (goodIn_of _ (by decide +kernel)) ggL_runScript_X4_runScript
theorem dL_runScript_0 : decode cL_runScript 0 = .ok (.aload 4, 2) := by decide +kernel
theorem dL_runScript_2 : decode cL_runScript 2 = .ok (.iconst 0, 1) := by decide +kernel
theorem dL_runScript_3 : decode cL_runScript 3 = .ok (.aload_n 0, 1) := by decide +kernel
theorem dL_runScript_4 : decode cL_runScript 4 = .ok (.iload_n 1, 1) := by decide +kernel
theorem dL_runScript_5 : decode cL_runScript 5 = .ok (.lload_n 2, 1) := by decide +kernel
theorem dL_runScript_6 : decode cL_runScript 6 = .ok (.invokevirtual 77, 3) := by decide +kernel
theorem dL_runScript_9 : decode cL_runScript 9 = .ok (.i2l, 1) := by decide +kernel
theorem dL_runScript_10 : decode cL_runScript 10 = .ok (.lastore, 1) := by decide +kernel
theorem dL_runScript_11 : decode cL_runScript 11 = .ok (.goto 7, 3) := by decide +kernel
theorem dL_runScript_14 : decode cL_runScript 14 = .ok (.astore 5, 2) := by decide +kernel
theorem dL_runScript_16 : decode cL_runScript 16 = .ok (.iconst 1, 1) := by decide +kernel
theorem dL_runScript_17 : decode cL_runScript 17 = .ok (.ireturn, 1) := by decide +kernel
theorem dL_runScript_18 : decode cL_runScript 18 = .ok (.iconst 0, 1) := by decide +kernel
theorem dL_runScript_19 : decode cL_runScript 19 = .ok (.ireturn, 1) := by decide +kernel
set_option maxRecDepth 20000 in
theorem ggL_simulate_X4_simulate : GoodIn wsL_simulate wsX4_simulate := goodIn_ca (goodIn_r _ [6, 7, 8, 9, 10, 11, 12, 13, 14, 15, 16, 17, 18, 19, 20, 21, 22, 23, 24, 25, 5, 26, 27, 28, 29, 30, 31, 32, 33, 34, 35, 36, 37, 38, 39, 40, 41, 42, 43, 44, 45, 46, 47, 48, 49, 50, 51, 52, 53, 54, 55, 56, 57, 58, 59, 60, 61, 62, 63, 64, 65, 66, 67, 68, 69, 70, 71, 72, 73, 74, 75, 76, 77, 78, 79, 80, 81, 82, 83, 84, 85, 86, 87, 88, 89, 90, 91, 92, 93, 94, 95, 96, 97, 98, 99, 100, 101, 102, 103, 104, 105, 106, 107, 108, 109, 110, 111, 112, 113, 114, 115, 116, 117, 118, 119, 120, 121, 122, 123, 124, 125, 126, 127, 128, 129, 130, 131, 132, 133, 134, 135, 136, 137, 138, 139, 140, 141, 142, 143, 144, 145, 146, 147, 148, 149, 150, 151, 152, 153, 154, 155, 156, 157, 158, 159, 160, 161, 162, 163, 164, 165, 166, 167, 168, 169, 170, 171, 172, 173] (by decide +kernel) (by decide +kernel)) (goodIn_sub (fun _ h => List.mem_cons_of_mem _ (List.mem_append_right _ h)) (by decide +kernel))
set_option maxRecDepth 20000 in
theorem gL_simulate_X4_simulate : GoodIn wsL_simulate (wsV RL 81 RX4 yX4_simulate wsX4_simulate) := goodIn_app (goodIn_of _ (by decide +kernel)) ggL_simulate_X4_simulate
theorem dL_simulate_0 : decode cL_simulate 0 = .ok (.aload 4, 2) := by decide +kernel
theorem dL_simulate_2 : decode cL_simulate 2 = .ok (.iconst 0, 1) := by decide +kernel
theorem dL_simulate_3 : decode cL_simulate 3 = .ok (.aload_n 0, 1) := by decide +kernel
theorem dL_simulate_4 : decode cL_simulate 4 = .ok (.lload_n 1, 1) := by decide +kernel
theorem dL_simulate_5 : decode cL_simulate 5 = .ok (.iload_n 3, 1) := by decide +kernel
theorem dL_simulate_6 : decode cL_simulate 6 = .ok (.invokevirtual 81, 3) := by decide +kernel
theorem dL_simulate_9 : decode cL_simulate 9 = .ok (.i2l, 1) := by decide +kernel
theorem dL_simulate_10 : decode cL_simulate 10 = .ok (.lastore, 1) := by decide +kernel
theorem dL_simulate_11 : decode cL_simulate 11 = .ok (.goto 7, 3) := by decide +kernel
theorem dL_simulate_14 : decode cL_simulate 14 = .ok (.astore 5, 2) := by decide +kernel
theorem dL_simulate_16 : decode cL_simulate 16 = .ok (.iconst 1, 1) := by decide +kernel
theorem dL_simulate_17 : decode cL_simulate 17 = .ok (.ireturn, 1) := by decide +kernel
theorem dL_simulate_18 : decode cL_simulate 18 = .ok (.iconst 0, 1) := by decide +kernel
theorem dL_simulate_19 : decode cL_simulate 19 = .ok (.ireturn, 1) := by decide +kernel
set_option maxRecDepth 20000 in
theorem ggL_save_X4_save : GoodIn wsL_save wsX4_save := goodIn_ca (goodIn_r _ [6, 7, 8, 9, 10, 11, 12, 13, 14, 15, 16, 17, 18, 19, 20, 21, 22, 23, 24, 25, 26, 27, 28, 29, 30, 31, 32, 33, 34, 35, 36, 37, 38, 39, 40] (by decide +kernel) (by decide +kernel)) (goodIn_sub (fun _ h => List.mem_cons_of_mem _ (List.mem_append_right _ h)) (by decide +kernel))
set_option maxRecDepth 20000 in
theorem gL_save_X4_save : GoodIn wsL_save (wsV RL 85 RX4 yX4_save wsX4_save) := goodIn_app (goodIn_of _ (by decide +kernel)) ggL_save_X4_save
theorem dL_save_0 : decode cL_save 0 = .ok (.aload_n 2, 1) := by decide +kernel
theorem dL_save_1 : decode cL_save 1 = .ok (.iconst 0, 1) := by decide +kernel
theorem dL_save_2 : decode cL_save 2 = .ok (.aload_n 0, 1) := by decide +kernel
theorem dL_save_3 : decode cL_save 3 = .ok (.iload_n 1, 1) := by decide +kernel
theorem dL_save_4 : decode cL_save 4 = .ok (.invokevirtual 85, 3) := by decide +kernel
theorem dL_save_7 : decode cL_save 7 = .ok (.i2l, 1) := by decide +kernel
theorem dL_save_8 : decode cL_save 8 = .ok (.lastore, 1) := by decide +kernel
theorem dL_save_9 : decode cL_save 9 = .ok (.goto 6, 3) := by decide +kernel
theorem dL_save_12 : decode cL_save 12 = .ok (.astore_n 3, 1) := by decide +kernel
theorem dL_save_13 : decode cL_save 13 = .ok (.iconst 1, 1) := by decide +kernel
theorem dL_save_14 : decode cL_save 14 = .ok (.ireturn, 1) := by decide +kernel
theorem dL_save_15 : decode cL_save 15 = .ok (.iconst 0, 1) := by decide +kernel
theorem dL_save_16 : decode cL_save 16 = .ok (.ireturn, 1) := by decide +kernel
set_option maxRecDepth 20000 in
theorem ggL_restore_X4_restore : GoodIn wsL_restore wsX4_restore := goodIn_ca (goodIn_ca (goodIn_r _ [7, 8, 9, 10, 11, 12, 13, 14, 15, 16, 17, 18, 19, 20, 21, 22, 23, 24, 25, 26, 27, 28, 6, 29, 30, 31, 32, 33, 34, 35, 36, 37, 38, 39, 40, 41, 42, 43, 44, 45, 46, 47, 48, 49] (by decide +kernel) (by decide +kernel)) (goodIn_sub (fun _ h => List.mem_cons_of_mem _ (List.mem_append_left _ (List.mem_append_right _ h))) (by decide +kernel))) (goodIn_sub (fun _ h => List.mem_cons_of_mem _ (List.mem_append_right _ h)) (by decide +kernel))
set_option maxRecDepth 20000 in
theorem gL_restore_X4_restore : GoodIn wsL_restore (wsV RL 88 RX4 yX4_restore wsX4_restore) := goodIn_app (goodIn_of _ (by decide +kernel)) ggL_restore_X4_restore
theorem dL_restore_0 : decode cL_restore 0 = .ok (.aload_n 2, 1) := by decide +kernel
theorem dL_restore_1 : decode cL_restore 1 = .ok (.iconst 0, 1) := by decide +kernel
theorem dL_restore_2 : decode cL_restore 2 = .ok (.aload_n 0, 1) := by decide +kernel
theorem dL_restore_3 : decode cL_restore 3 = .ok (.iload_n 1, 1) := by decide +kernel
theorem dL_restore_4 : decode cL_restore 4 = .ok (.invokevirtual 88, 3) := by decide +kernel
theorem dL_restore_7 : decode cL_restore 7 = .ok (.i2l, 1) := by decide +kernel
theorem dL_restore_8 : decode cL_restore 8 = .ok (.lastore, 1) := by decide +kernel
theorem dL_restore_9 : decode cL_restore 9 = .ok (.goto 9, 3) := by decide +kernel
theorem dL_restore_12 : decode cL_restore 12 = .ok (.astore_n 3, 1) := by decide +kernel
theorem dL_restore_13 : decode cL_restore 13 = .ok (.iconst 1, 1) := by decide +kernel
theorem dL_restore_14 : decode cL_restore 14 = .ok (.ireturn, 1) := by decide +kernel
theorem dL_restore_15 : decode cL_restore 15 = .ok (.astore_n 3, 1) := by decide +kernel
theorem dL_restore_16 : decode cL_restore 16 = .ok (.iconst 2, 1) := by decide +kernel
theorem dL_restore_17 : decode cL_restore 17 = .ok (.ireturn, 1) := by decide +kernel
theorem dL_restore_18 : decode cL_restore 18 = .ok (.iconst 0, 1) := by decide +kernel
theorem dL_restore_19 : decode cL_restore 19 = .ok (.ireturn, 1) := by decide +kernel
